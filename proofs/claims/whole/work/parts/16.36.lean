set_option maxRecDepth 100000 in
set_option maxHeartbeats 4000000 in
theorem c_X12_odds {g : xG} {al : List (Nat × Nat × Nat)} {ro : Nat → Nat → Option Nat} (hst : g.1.stackTraces = false) (hs : SH al ro) {M : Nat → xU} {a : Int} {b : Int} {S : xU}  {t : (Int × xU)} (hG : G12_odds a b S = some t) :
    Cal g yX12_odds cX12_odds 11 (some .int) 1 [x_r (16 * 32 + 0), x_i a, x_i b] (al, ro, fl (ml M [32] [S])) 0 0 (.inl (some (x_i t.1))) (al, ro, fl (ml M [32] [t.2])) := by
  have hn : ([32] : List Nat).Nodup := by decide
  refine cal_of_ev (plainFor_of_name (by decide)) (x_c1 rfl) (Nat.le_of_ble_eq_true rfl) hst ?_
  show Ev g _ _ _ _ _ _ 0 [some (x_r (16 * 32 + 0)), some (x_i a), some (x_i b), none, none, none, none, none, none, none, none] [] (al, ro, fl (ml M [32] [S])) _ _ _ _
  rw [G12_odds] at hG
  refine e_aloadn (pc := 0) (i := 0) dX12_odds_0 rfl rfl ?_
  refine e_iloadn (pc := 1) (i := 1) dX12_odds_1 rfl rfl ?_
  refine e_iconst (pc := 2) dX12_odds_2 (x_R rfl) ?_
  refine e_bipush (pc := 3) dX12_odds_3 (by decide +kernel) (x_R rfl) ?_
  obtain ⟨v1, hq1, hG⟩ := x_bd1 hG
  refine e_invS (pc := 5) (K1 := 0) (S1 := 0) (K := 0) (S := 0) (dd2 := 0) (av := [x_i a, x_i 0, x_i 6]) (st := [x_r (16 * 32 + 0)]) dX12_odds_5 xmX12_61 rfl (f_cal (M := M) (us2 := []) [] hn rfl trivial rfl rfl rfl (c_X12_isIn hst hs   hq1)) (by decide) (Nat.le_of_ble_eq_true rfl) (Or.inl rfl) ?_
  show Ev g _ _ _ _ _ _ 8 [some (x_r (16 * 32 + 0)), some (x_i a), some (x_i b), none, none, none, none, none, none, none, none] [x_i v1, x_r (16 * 32 + 0)] (al, ro, fl (ml M [32] [S])) _ _ _ _
  obtain ⟨v3, hr3, hG⟩ := x_bd1 hG
  have hjhr3 : Ev g yX12_odds cX12_odds 11 (some .int) [] 1 26 [some (x_r (16 * 32 + 0)), some (x_i a), some (x_i b), none, none, none, none, none, none, none, none] [x_i v3, x_r (16 * 32 + 0)] (al, ro, fl (ml M [32] [S])) 0 0 (.inl (some (x_i t.1))) (al, ro, fl (ml M [32] [t.2])) := by
    refine f_puti (pc := 26) (k := 0) (u := 32) (q := 0) dX12_odds_26 xf12_58 xw10_0 (sa_32_0 hs) hn rfl rfl rfl (by decide) ?_
    show Ev g _ _ _ _ _ _ 29 [some (x_r (16 * 32 + 0)), some (x_i a), some (x_i b), none, none, none, none, none, none, none, none] [] (al, ro, fl (ml M [32] [(x_up S 0 0 v3)])) _ _ _ _
    refine e_aloadn (pc := 29) (i := 0) dX12_odds_29 rfl rfl ?_
    refine f_geti (pc := 30) (k := 0) (u := 32) (q := 0) dX12_odds_30 xf12_58 (sa_32_0 hs) rfl hn rfl rfl (by decide) ?_
    show Ev g _ _ _ _ _ _ 33 [some (x_r (16 * 32 + 0)), some (x_i a), some (x_i b), none, none, none, none, none, none, none, none] [x_i ((x_up S 0 0 v3) 0 0)] (al, ro, fl (ml M [32] [(x_up S 0 0 v3)])) _ _ _ _
    refine e_if_le (pc := 33) (tgt := 38) dX12_odds_33 (by decide) (fun hb => ?_) (fun hb => ?_)
    · rw [if_pos hb] at hG
      refine e_lconst (pc := 38) dX12_odds_38 ?_
      show Ev g _ _ _ _ _ _ 39 [some (x_r (16 * 32 + 0)), some (x_i a), some (x_i b), none, none, none, none, none, none, none, none] [x_l 0] (al, ro, fl (ml M [32] [(x_up S 0 0 v3)])) _ _ _ _
      refine e_lstoren (pc := 39) (i := 3) dX12_odds_39 rfl (by decide) rfl ?_
      show Ev g _ _ _ _ _ _ 40 [some (x_r (16 * 32 + 0)), some (x_i a), some (x_i b), some (x_l 0), none, none, none, none, none, none, none] [] (al, ro, fl (ml M [32] [(x_up S 0 0 v3)])) _ _ _ _
      refine e_lconst (pc := 40) dX12_odds_40 ?_
      show Ev g _ _ _ _ _ _ 41 [some (x_r (16 * 32 + 0)), some (x_i a), some (x_i b), some (x_l 0), none, none, none, none, none, none, none] [x_l 1] (al, ro, fl (ml M [32] [(x_up S 0 0 v3)])) _ _ _ _
      refine e_lstore (pc := 41) (i := 5) dX12_odds_41 (by decide) rfl ?_
      show Ev g _ _ _ _ _ _ 43 [some (x_r (16 * 32 + 0)), some (x_i a), some (x_i b), some (x_l 0), none, some (x_l 1), none, none, none, none, none] [] (al, ro, fl (ml M [32] [(x_up S 0 0 v3)])) _ _ _ _
      refine e_iconst (pc := 43) dX12_odds_43 (x_R rfl) ?_
      refine e_istore (pc := 44) (i := 7) dX12_odds_44 (by decide) rfl ?_
      show Ev g _ _ _ _ _ _ 46 [some (x_r (16 * 32 + 0)), some (x_i a), some (x_i b), some (x_l 0), none, some (x_l 1), none, some (x_i 0), none, none, none] [] (al, ro, fl (ml M [32] [(x_up S 0 0 v3)])) _ _ _ _
      obtain ⟨v9, hl10, hG⟩ := x_bd1 hG
      have hk10 : ∀ q : Int, q = v9 → Ev g yX12_odds cX12_odds 11 (some .int) [] 1 66 [some (x_r (16 * 32 + 0)), some (x_i a), some (x_i b), some (x_l 0), none, some (x_l q), none, none, none, none, none] [] (al, ro, fl (ml M [32] [(x_up S 0 0 v3)])) 0 0 (.inl (some (x_i t.1))) (al, ro, fl (ml M [32] [t.2])) := by
        intro q hq
        replace hq := hq.symm
        subst hq
        refine e_iconst (pc := 66) dX12_odds_66 (x_R rfl) ?_
        refine e_istore (pc := 67) (i := 7) dX12_odds_67 (by decide) rfl ?_
        show Ev g _ _ _ _ _ _ 69 [some (x_r (16 * 32 + 0)), some (x_i a), some (x_i b), some (x_l 0), none, some (x_l v9), none, some (x_i 0), none, none, none] [] (al, ro, fl (ml M [32] [(x_up S 0 0 v3)])) _ _ _ _
        obtain ⟨v14, hl15, hG⟩ := x_bd1 hG
        have hk15 : ∀ q : Int, q = v14 → Ev g yX12_odds cX12_odds 11 (some .int) [] 1 156 [some (x_r (16 * 32 + 0)), some (x_i a), some (x_i b), some (x_l q), none, some (x_l v9), none, none, none, none, none] [] (al, ro, fl (ml M [32] [(x_up S 0 0 v3)])) 0 0 (.inl (some (x_i t.1))) (al, ro, fl (ml M [32] [t.2])) := by
          intro q hq
          replace hq := hq.symm
          subst hq
          refine e_ldc2 (pc := 156) dX12_odds_156 xkX12_417 (x_R6 rfl) ?_
          refine e_lloadn (pc := 159) (i := 3) dX12_odds_159 rfl rfl ?_
          refine e_lmul (pc := 160) dX12_odds_160 ?_
          refine e_lload (pc := 161) dX12_odds_161 rfl ?_
          obtain ⟨hc0, hG⟩ := x_gd_some hG
          refine e_ldiv (pc := 163) dX12_odds_163 hc0 ?_
          refine e_l2i (pc := 164) dX12_odds_164 ?_
          cases hG
          exact (e_ireturn rfl dX12_odds_165 rfl)
        clear hG
        refine e_whl (G12_odds_L69 a b S v3) (fun z : (Int × Int) => Ev g yX12_odds cX12_odds 11 (some .int) [] 1 69 [some (x_r (16 * 32 + 0)), some (x_i a), some (x_i b), some (x_l z.1), none, some (x_l v9), none, some (x_i z.2), none, none, none] [] (al, ro, fl (ml M [32] [(x_up S 0 0 v3)])) 0 0 (.inl (some (x_i t.1))) (al, ro, fl (ml M [32] [t.2]))) (fun q => q = v14) ?_ xFU (0, 0) _ hl15 rfl
        intro z t15 hf15 hi15 hx15
        obtain ⟨v12, v13⟩ := z
        rw [G12_odds_L69] at hf15
        show Ev g _ _ _ _ _ _ 69 [some (x_r (16 * 32 + 0)), some (x_i a), some (x_i b), some (x_l v12), none, some (x_l v9), none, some (x_i v13), none, none, none] [] (al, ro, fl (ml M [32] [(x_up S 0 0 v3)])) _ _ _ _
        refine e_iload (pc := 69) dX12_odds_69 rfl ?_
        refine e_iconst (pc := 71) dX12_odds_71 (x_R rfl) ?_
        refine e_iloadn (pc := 72) (i := 1) dX12_odds_72 rfl rfl ?_
        refine e_ishl (pc := 73) dX12_odds_73 ?_
        refine e_icmp_ge (pc := 74) (tgt := 156) dX12_odds_74 (by decide) (fun hb => ?_) (fun hb => ?_)
        · rw [if_pos hb] at hf15
          cases hf15
          refine e_drop (i := 7) ?_
          have hh := hk15 _ (hx15 _ rfl)
          try dsimp only at hh
          exact hh
        · rw [if_neg hb] at hf15
          refine e_iload (pc := 77) dX12_odds_77 rfl ?_
          obtain ⟨v17, hq17, hf15⟩ := x_bd1 hf15
          refine e_invS (pc := 79) (K1 := 0) (S1 := 0) (K := 0) (S := 0) (dd2 := 0) (av := [x_i v13]) (st := []) dX12_odds_79 xmX12_352 rfl (f_cal (M := M) (us2 := []) [] hn rfl trivial rfl rfl rfl (c_X12_bits hst hs   hq17)) (by decide) (Nat.le_of_ble_eq_true rfl) (Or.inl rfl) ?_
          show Ev g _ _ _ _ _ _ 82 [some (x_r (16 * 32 + 0)), some (x_i a), some (x_i b), some (x_l v12), none, some (x_l v9), none, some (x_i v13), none, none, none] [x_i v17] (al, ro, fl (ml M [32] [(x_up S 0 0 v3)])) _ _ _ _
          refine e_iloadn (pc := 82) (i := 2) dX12_odds_82 rfl rfl ?_
          obtain ⟨v19, hr19, hf15⟩ := x_bd1 hf15
          have hjhr19 : Ev g yX12_odds cX12_odds 11 (some .int) [] 1 91 [some (x_r (16 * 32 + 0)), some (x_i a), some (x_i b), some (x_l v12), none, some (x_l v9), none, some (x_i v13), none, none, none] [x_l v19] (al, ro, fl (ml M [32] [(x_up S 0 0 v3)])) 0 0 (.inl (some (x_i t.1))) (al, ro, fl (ml M [32] [t.2])) := by
            refine e_lstore (pc := 91) (i := 8) dX12_odds_91 (by decide) rfl ?_
            show Ev g _ _ _ _ _ _ 93 [some (x_r (16 * 32 + 0)), some (x_i a), some (x_i b), some (x_l v12), none, some (x_l v9), none, some (x_i v13), some (x_l v19), none, none] [] (al, ro, fl (ml M [32] [(x_up S 0 0 v3)])) _ _ _ _
            refine e_iconst (pc := 93) dX12_odds_93 (x_R rfl) ?_
            refine e_istore (pc := 94) (i := 10) dX12_odds_94 (by decide) rfl ?_
            show Ev g _ _ _ _ _ _ 96 [some (x_r (16 * 32 + 0)), some (x_i a), some (x_i b), some (x_l v12), none, some (x_l v9), none, some (x_i v13), some (x_l v19), none, some (x_i 0)] [] (al, ro, fl (ml M [32] [(x_up S 0 0 v3)])) _ _ _ _
            obtain ⟨v23, hl24, hf15⟩ := x_bd1 hf15
            have hk24 : ∀ q : Int, q = v23 → Ev g yX12_odds cX12_odds 11 (some .int) [] 1 145 [some (x_r (16 * 32 + 0)), some (x_i a), some (x_i b), some (x_l v12), none, some (x_l v9), none, some (x_i v13), some (x_l q), none, none] [] (al, ro, fl (ml M [32] [(x_up S 0 0 v3)])) 0 0 (.inl (some (x_i t.1))) (al, ro, fl (ml M [32] [t.2])) := by
              intro q hq
              replace hq := hq.symm
              subst hq
              refine e_lloadn (pc := 145) (i := 3) dX12_odds_145 rfl rfl ?_
              refine e_lload (pc := 146) dX12_odds_146 rfl ?_
              refine e_ladd (pc := 148) dX12_odds_148 ?_
              refine e_lstoren (pc := 149) (i := 3) dX12_odds_149 rfl (by decide) rfl ?_
              show Ev g _ _ _ _ _ _ 150 [some (x_r (16 * 32 + 0)), some (x_i a), some (x_i b), some (x_l (x_ladd v12 v23)), none, some (x_l v9), none, some (x_i v13), some (x_l v23), none, none] [] (al, ro, fl (ml M [32] [(x_up S 0 0 v3)])) _ _ _ _
              refine e_iinc (pc := 150) dX12_odds_150 rfl (by decide) rfl ?_
              show Ev g _ _ _ _ _ _ 153 [some (x_r (16 * 32 + 0)), some (x_i a), some (x_i b), some (x_l (x_ladd v12 v23)), none, some (x_l v9), none, some (x_i (x_add v13 1)), some (x_l v23), none, none] [] (al, ro, fl (ml M [32] [(x_up S 0 0 v3)])) _ _ _ _
              refine e_goto (pc := 153) (tgt := 69) dX12_odds_153 (by decide) ?_
              cases hf15
              refine e_drop (i := 8) ?_
              have hh := hi15 _ rfl
              try dsimp only at hh
              exact hh
            clear hf15
            refine e_whl (G12_odds_L96 a S v3 v13) (fun z : (Int × Int) => Ev g yX12_odds cX12_odds 11 (some .int) [] 1 96 [some (x_r (16 * 32 + 0)), some (x_i a), some (x_i b), some (x_l v12), none, some (x_l v9), none, some (x_i v13), some (x_l z.1), none, some (x_i z.2)] [] (al, ro, fl (ml M [32] [(x_up S 0 0 v3)])) 0 0 (.inl (some (x_i t.1))) (al, ro, fl (ml M [32] [t.2]))) (fun q => q = v23) ?_ xFU (v19, 0) _ hl24 rfl
            intro z t24 hf24 hi24 hx24
            obtain ⟨v21, v22⟩ := z
            rw [G12_odds_L96] at hf24
            show Ev g _ _ _ _ _ _ 96 [some (x_r (16 * 32 + 0)), some (x_i a), some (x_i b), some (x_l v12), none, some (x_l v9), none, some (x_i v13), some (x_l v21), none, some (x_i v22)] [] (al, ro, fl (ml M [32] [(x_up S 0 0 v3)])) _ _ _ _
            refine e_iload (pc := 96) dX12_odds_96 rfl ?_
            refine e_iloadn (pc := 98) (i := 1) dX12_odds_98 rfl rfl ?_
            refine e_icmp_ge (pc := 99) (tgt := 145) dX12_odds_99 (by decide) (fun hb => ?_) (fun hb => ?_)
            · rw [if_pos hb] at hf24
              cases hf24
              refine e_drop (i := 10) ?_
              have hh := hk24 _ (hx24 _ rfl)
              try dsimp only at hh
              exact hh
            · rw [if_neg hb] at hf24
              refine e_lload (pc := 102) dX12_odds_102 rfl ?_
              refine e_iload (pc := 104) dX12_odds_104 rfl ?_
              refine e_iload (pc := 106) dX12_odds_106 rfl ?_
              obtain ⟨v26, hq26, hf24⟩ := x_bd1 hf24
              refine e_invS (pc := 108) (K1 := 0) (S1 := 0) (K := 0) (S := 0) (dd2 := 0) (av := [x_i v13, x_i v22]) (st := [x_l v21]) dX12_odds_108 xmX12_119 rfl (f_cal (M := M) (us2 := []) [] hn rfl trivial rfl rfl rfl (c_X12_isOf hst hs   hq26)) (by decide) (Nat.le_of_ble_eq_true rfl) (Or.inl rfl) ?_
              show Ev g _ _ _ _ _ _ 111 [some (x_r (16 * 32 + 0)), some (x_i a), some (x_i b), some (x_l v12), none, some (x_l v9), none, some (x_i v13), some (x_l v21), none, some (x_i v22)] [x_i v26, x_l v21] (al, ro, fl (ml M [32] [(x_up S 0 0 v3)])) _ _ _ _
              obtain ⟨v28, hr28, hf24⟩ := x_bd1 hf24
              have hjhr28 : Ev g yX12_odds cX12_odds 11 (some .int) [] 1 136 [some (x_r (16 * 32 + 0)), some (x_i a), some (x_i b), some (x_l v12), none, some (x_l v9), none, some (x_i v13), some (x_l v21), none, some (x_i v22)] [x_l v28, x_l v21] (al, ro, fl (ml M [32] [(x_up S 0 0 v3)])) 0 0 (.inl (some (x_i t.1))) (al, ro, fl (ml M [32] [t.2])) := by
                refine e_lmul (pc := 136) dX12_odds_136 ?_
                refine e_lstore (pc := 137) (i := 8) dX12_odds_137 (by decide) rfl ?_
                show Ev g _ _ _ _ _ _ 139 [some (x_r (16 * 32 + 0)), some (x_i a), some (x_i b), some (x_l v12), none, some (x_l v9), none, some (x_i v13), some (x_l (x_lmul v21 v28)), none, some (x_i v22)] [] (al, ro, fl (ml M [32] [(x_up S 0 0 v3)])) _ _ _ _
                refine e_iinc (pc := 139) dX12_odds_139 rfl (by decide) rfl ?_
                show Ev g _ _ _ _ _ _ 142 [some (x_r (16 * 32 + 0)), some (x_i a), some (x_i b), some (x_l v12), none, some (x_l v9), none, some (x_i v13), some (x_l (x_lmul v21 v28)), none, some (x_i (x_add v22 1))] [] (al, ro, fl (ml M [32] [(x_up S 0 0 v3)])) _ _ _ _
                refine e_goto (pc := 142) (tgt := 96) dX12_odds_142 (by decide) ?_
                cases hf24
                have hh := hi24 _ rfl
                try dsimp only at hh
                exact hh
              clear hf24
              refine e_if_eq (pc := 111) (tgt := 125) dX12_odds_111 (by decide) (fun hb => ?_) (fun hb => ?_)
              · rw [if_pos hb] at hr28
                refine e_bipush (pc := 125) dX12_odds_125 (by decide +kernel) (x_R rfl) ?_
                refine e_aloadn (pc := 127) (i := 0) dX12_odds_127 rfl rfl ?_
                refine f_getr (pc := 128) (u := 32) (q := 0) dX12_odds_128 xf12_7 (sa_32_0 hs) rfl (sr_32_0_1 hs) ?_
                refine e_bipush (pc := 131) dX12_odds_131 (by decide +kernel) (x_R rfl) ?_
                refine f_iald (pc := 133) (k := 0) (u := 32) (q := 1) (len := 772) dX12_odds_133 (sa_32_1 hs) (by decide) hn rfl rfl (by decide) ?_
                show Ev g _ _ _ _ _ _ 134 [some (x_r (16 * 32 + 0)), some (x_i a), some (x_i b), some (x_l v12), none, some (x_l v9), none, some (x_i v13), some (x_l v21), none, some (x_i v22)] [x_i ((x_up S 0 0 v3) 1 8), x_i 100, x_l v21] (al, ro, fl (ml M [32] [(x_up S 0 0 v3)])) _ _ _ _
                refine e_isub (pc := 134) dX12_odds_134 ?_
                refine e_i2l (pc := 135) dX12_odds_135 ?_
                cases hr28
                exact hjhr28
              · rw [if_neg hb] at hr28
                refine e_aloadn (pc := 114) (i := 0) dX12_odds_114 rfl rfl ?_
                refine f_getr (pc := 115) (u := 32) (q := 0) dX12_odds_115 xf12_7 (sa_32_0 hs) rfl (sr_32_0_1 hs) ?_
                refine e_bipush (pc := 118) dX12_odds_118 (by decide +kernel) (x_R rfl) ?_
                refine f_iald (pc := 120) (k := 0) (u := 32) (q := 1) (len := 772) dX12_odds_120 (sa_32_1 hs) (by decide) hn rfl rfl (by decide) ?_
                show Ev g _ _ _ _ _ _ 121 [some (x_r (16 * 32 + 0)), some (x_i a), some (x_i b), some (x_l v12), none, some (x_l v9), none, some (x_i v13), some (x_l v21), none, some (x_i v22)] [x_i ((x_up S 0 0 v3) 1 8), x_l v21] (al, ro, fl (ml M [32] [(x_up S 0 0 v3)])) _ _ _ _
                refine e_i2l (pc := 121) dX12_odds_121 ?_
                refine e_goto (pc := 122) (tgt := 136) dX12_odds_122 (by decide) ?_
                cases hr28
                exact hjhr28
          clear hf15
          refine e_icmp_ge (pc := 83) (tgt := 90) dX12_odds_83 (by decide) (fun hb => ?_) (fun hb => ?_)
          · rw [if_pos hb] at hr19
            refine e_lconst (pc := 90) dX12_odds_90 ?_
            show Ev g _ _ _ _ _ _ 91 [some (x_r (16 * 32 + 0)), some (x_i a), some (x_i b), some (x_l v12), none, some (x_l v9), none, some (x_i v13), none, none, none] [x_l 1] (al, ro, fl (ml M [32] [(x_up S 0 0 v3)])) _ _ _ _
            cases hr19
            exact hjhr19
          · rw [if_neg hb] at hr19
            refine e_lconst (pc := 86) dX12_odds_86 ?_
            show Ev g _ _ _ _ _ _ 87 [some (x_r (16 * 32 + 0)), some (x_i a), some (x_i b), some (x_l v12), none, some (x_l v9), none, some (x_i v13), none, none, none] [x_l 0] (al, ro, fl (ml M [32] [(x_up S 0 0 v3)])) _ _ _ _
            refine e_goto (pc := 87) (tgt := 91) dX12_odds_87 (by decide) ?_
            cases hr19
            exact hjhr19
      clear hG
      refine e_whl (G12_odds_L46 a) (fun z : (Int × Int) => Ev g yX12_odds cX12_odds 11 (some .int) [] 1 46 [some (x_r (16 * 32 + 0)), some (x_i a), some (x_i b), some (x_l 0), none, some (x_l z.1), none, some (x_i z.2), none, none, none] [] (al, ro, fl (ml M [32] [(x_up S 0 0 v3)])) 0 0 (.inl (some (x_i t.1))) (al, ro, fl (ml M [32] [t.2]))) (fun q => q = v9) ?_ xFU (1, 0) _ hl10 rfl
      intro z t10 hf10 hi10 hx10
      obtain ⟨v7, v8⟩ := z
      rw [G12_odds_L46] at hf10
      show Ev g _ _ _ _ _ _ 46 [some (x_r (16 * 32 + 0)), some (x_i a), some (x_i b), some (x_l 0), none, some (x_l v7), none, some (x_i v8), none, none, none] [] (al, ro, fl (ml M [32] [(x_up S 0 0 v3)])) _ _ _ _
      refine e_iload (pc := 46) dX12_odds_46 rfl ?_
      refine e_iloadn (pc := 48) (i := 1) dX12_odds_48 rfl rfl ?_
      refine e_icmp_ge (pc := 49) (tgt := 66) dX12_odds_49 (by decide) (fun hb => ?_) (fun hb => ?_)
      · rw [if_pos hb] at hf10
        cases hf10
        refine e_drop (i := 7) ?_
        have hh := hk10 _ (hx10 _ rfl)
        try dsimp only at hh
        exact hh
      · rw [if_neg hb] at hf10
        refine e_lload (pc := 52) dX12_odds_52 rfl ?_
        refine e_ldc2 (pc := 54) dX12_odds_54 xkX12_415 (x_R6 rfl) ?_
        refine e_lmul (pc := 57) dX12_odds_57 ?_
        refine e_lstore (pc := 58) (i := 5) dX12_odds_58 (by decide) rfl ?_
        show Ev g _ _ _ _ _ _ 60 [some (x_r (16 * 32 + 0)), some (x_i a), some (x_i b), some (x_l 0), none, some (x_l (x_lmul v7 100)), none, some (x_i v8), none, none, none] [] (al, ro, fl (ml M [32] [(x_up S 0 0 v3)])) _ _ _ _
        refine e_iinc (pc := 60) dX12_odds_60 rfl (by decide) rfl ?_
        show Ev g _ _ _ _ _ _ 63 [some (x_r (16 * 32 + 0)), some (x_i a), some (x_i b), some (x_l 0), none, some (x_l (x_lmul v7 100)), none, some (x_i (x_add v8 1)), none, none, none] [] (al, ro, fl (ml M [32] [(x_up S 0 0 v3)])) _ _ _ _
        refine e_goto (pc := 63) (tgt := 46) dX12_odds_63 (by decide) ?_
        cases hf10
        have hh := hi10 _ rfl
        try dsimp only at hh
        exact hh
    · rw [if_neg hb] at hG
      refine e_iconst (pc := 36) dX12_odds_36 (x_R rfl) ?_
      cases hG
      exact (e_ireturn rfl dX12_odds_37 rfl)
  clear hG
  refine e_if_eq (pc := 8) (tgt := 21) dX12_odds_8 (by decide) (fun hb => ?_) (fun hb => ?_)
  · rw [if_pos hb] at hr3
    refine e_iconst (pc := 21) dX12_odds_21 (x_R rfl) ?_
    refine e_goto (pc := 22) (tgt := 26) dX12_odds_22 (by decide) ?_
    cases hr3
    exact hjhr3
  · rw [if_neg hb] at hr3
    refine e_iloadn (pc := 11) (i := 2) dX12_odds_11 rfl rfl ?_
    refine e_iconst (pc := 12) dX12_odds_12 (x_R rfl) ?_
    refine e_bipush (pc := 13) dX12_odds_13 (by decide +kernel) (x_R rfl) ?_
    obtain ⟨v5, hq5, hr3⟩ := x_bd1 hr3
    refine e_invS (pc := 15) (K1 := 0) (S1 := 0) (K := 0) (S := 0) (dd2 := 0) (av := [x_i b, x_i 0, x_i 6]) (st := [x_r (16 * 32 + 0)]) dX12_odds_15 xmX12_61 rfl (f_cal (M := M) (us2 := []) [] hn rfl trivial rfl rfl rfl (c_X12_isIn hst hs   hq5)) (by decide) (Nat.le_of_ble_eq_true rfl) (Or.inl rfl) ?_
    show Ev g _ _ _ _ _ _ 18 [some (x_r (16 * 32 + 0)), some (x_i a), some (x_i b), none, none, none, none, none, none, none, none] [x_i v5, x_r (16 * 32 + 0)] (al, ro, fl (ml M [32] [S])) _ _ _ _
    refine e_if_ne (pc := 18) (tgt := 25) dX12_odds_18 (by decide) (fun hb => ?_) (fun hb => ?_)
    · rw [if_neg hb] at hr3
      refine e_iconst (pc := 25) dX12_odds_25 (x_R rfl) ?_
      cases hr3
      exact hjhr3
    · rw [if_pos hb] at hr3
      refine e_iconst (pc := 21) dX12_odds_21 (x_R rfl) ?_
      refine e_goto (pc := 22) (tgt := 26) dX12_odds_22 (by decide) ?_
      cases hr3
      exact hjhr3
set_option maxRecDepth 100000 in
set_option maxHeartbeats 4000000 in
theorem c_X12_empty {g : xG} {al : List (Nat × Nat × Nat)} {ro : Nat → Nat → Option Nat} (hst : g.1.stackTraces = false) (hs : SH al ro) {M : Nat → xU} {S : xU}  {t : (Int × xU)} (hG : G12_empty S = some t) :
    Cal g yX12_empty cX12_empty 3 (some .int) 3 [x_r (16 * 32 + 0)] (al, ro, fl (ml M [32] [S])) 0 0 (.inl (some (x_i t.1))) (al, ro, fl (ml M [32] [t.2])) := by
  have hn : ([32] : List Nat).Nodup := by decide
  refine cal_of_ev (plainFor_of_name (by decide)) (x_c1 rfl) (Nat.le_of_ble_eq_true rfl) hst ?_
  show Ev g _ _ _ _ _ _ 0 [some (x_r (16 * 32 + 0)), none, none] [] (al, ro, fl (ml M [32] [S])) _ _ _ _
  rw [G12_empty] at hG
  refine e_aloadn (pc := 0) (i := 0) dX12_empty_0 rfl rfl ?_
  refine e_iconst (pc := 1) dX12_empty_1 (x_R rfl) ?_
  refine f_puti (pc := 2) (k := 0) (u := 32) (q := 0) dX12_empty_2 xf12_58 xw10_0 (sa_32_0 hs) hn rfl rfl rfl (by decide) ?_
  show Ev g _ _ _ _ _ _ 5 [some (x_r (16 * 32 + 0)), none, none] [] (al, ro, fl (ml M [32] [(x_up S 0 0 0)])) _ _ _ _
  refine e_iconst (pc := 5) dX12_empty_5 (x_R rfl) ?_
  refine e_istoren (pc := 6) (i := 1) dX12_empty_6 rfl (by decide) rfl ?_
  show Ev g _ _ _ _ _ _ 7 [some (x_r (16 * 32 + 0)), some (x_i 0), none] [] (al, ro, fl (ml M [32] [(x_up S 0 0 0)])) _ _ _ _
  refine e_iconst (pc := 7) dX12_empty_7 (x_R rfl) ?_
  refine e_istoren (pc := 8) (i := 2) dX12_empty_8 rfl (by decide) rfl ?_
  show Ev g _ _ _ _ _ _ 9 [some (x_r (16 * 32 + 0)), some (x_i 0), some (x_i 0)] [] (al, ro, fl (ml M [32] [(x_up S 0 0 0)])) _ _ _ _
  obtain ⟨v3, hl4, hG⟩ := x_bd1 hG
  have hk4 : ∀ q : Int, q = v3 → Ev g yX12_empty cX12_empty 3 (some .int) [] 3 39 [some (x_r (16 * 32 + 0)), some (x_i q), none] [] (al, ro, fl (ml M [32] [(x_up S 0 0 0)])) 0 0 (.inl (some (x_i t.1))) (al, ro, fl (ml M [32] [t.2])) := by
    intro q hq
    replace hq := hq.symm
    subst hq
    refine e_iloadn (pc := 39) (i := 1) dX12_empty_39 rfl rfl ?_
    cases hG
    exact (e_ireturn rfl dX12_empty_40 rfl)
  clear hG
  refine e_whl (G12_empty_L9 S) (fun z : (Int × Int) => Ev g yX12_empty cX12_empty 3 (some .int) [] 3 9 [some (x_r (16 * 32 + 0)), some (x_i z.1), some (x_i z.2)] [] (al, ro, fl (ml M [32] [(x_up S 0 0 0)])) 0 0 (.inl (some (x_i t.1))) (al, ro, fl (ml M [32] [t.2]))) (fun q => q = v3) ?_ xFU (0, 0) _ hl4 rfl
  intro z t4 hf4 hi4 hx4
  obtain ⟨v1, v2⟩ := z
  rw [G12_empty_L9] at hf4
  show Ev g _ _ _ _ _ _ 9 [some (x_r (16 * 32 + 0)), some (x_i v1), some (x_i v2)] [] (al, ro, fl (ml M [32] [(x_up S 0 0 0)])) _ _ _ _
  refine e_iloadn (pc := 9) (i := 2) dX12_empty_9 rfl rfl ?_
  refine e_iconst (pc := 10) dX12_empty_10 (x_R rfl) ?_
  refine e_icmp_ge (pc := 11) (tgt := 39) dX12_empty_11 (by decide) (fun hb => ?_) (fun hb => ?_)
  · rw [if_pos hb] at hf4
    cases hf4
    refine e_drop (i := 2) ?_
    have hh := hk4 _ (hx4 _ rfl)
    try dsimp only at hh
    exact hh
  · rw [if_neg hb] at hf4
    refine e_iloadn (pc := 14) (i := 1) dX12_empty_14 rfl rfl ?_
    refine e_aloadn (pc := 15) (i := 0) dX12_empty_15 rfl rfl ?_
    refine e_iloadn (pc := 16) (i := 2) dX12_empty_16 rfl rfl ?_
    refine e_iconst (pc := 17) dX12_empty_17 (x_R rfl) ?_
    obtain ⟨v6, hq6, hf4⟩ := x_bd1 hf4
    refine e_invV (pc := 18) (K1 := 0) (S1 := 0) (K := 0) (S := 0) (dd2 := 2) (av := [x_i v2, x_i 1]) (st := [x_i v1]) (id := 16 * 32 + 0) dX12_empty_18 xmX12_382 rfl (Or.inl ⟨10, 27, TX12, (sa_32_0 hs), rfl, by decide⟩) (f_cal (M := M) (us2 := [32]) [0] hn rfl (And.intro rfl trivial) rfl rfl rfl (c_X12_inWalk hst hs   hq6)) (by decide) (Nat.le_of_ble_eq_true rfl) (Or.inl rfl) ?_
    show Ev g _ _ _ _ _ _ 21 [some (x_r (16 * 32 + 0)), some (x_i v1), some (x_i v2)] [x_i v6, x_i v1] (al, ro, fl (ml M [32] [(x_up S 0 0 0)])) _ _ _ _
    obtain ⟨v8, hr8, hf4⟩ := x_bd1 hf4
    have hjhr8 : Ev g yX12_empty cX12_empty 3 (some .int) [] 3 31 [some (x_r (16 * 32 + 0)), some (x_i v1), some (x_i v2)] [x_i v8, x_i v1] (al, ro, fl (ml M [32] [(x_up S 0 0 0)])) 0 0 (.inl (some (x_i t.1))) (al, ro, fl (ml M [32] [t.2])) := by
      refine e_ior (pc := 31) dX12_empty_31 ?_
      refine e_istoren (pc := 32) (i := 1) dX12_empty_32 rfl (by decide) rfl ?_
      show Ev g _ _ _ _ _ _ 33 [some (x_r (16 * 32 + 0)), some (x_i (x_or v1 v8)), some (x_i v2)] [] (al, ro, fl (ml M [32] [(x_up S 0 0 0)])) _ _ _ _
      refine e_iinc (pc := 33) dX12_empty_33 rfl (by decide) rfl ?_
      show Ev g _ _ _ _ _ _ 36 [some (x_r (16 * 32 + 0)), some (x_i (x_or v1 v8)), some (x_i (x_add v2 1))] [] (al, ro, fl (ml M [32] [(x_up S 0 0 0)])) _ _ _ _
      refine e_goto (pc := 36) (tgt := 9) dX12_empty_36 (by decide) ?_
      cases hf4
      have hh := hi4 _ rfl
      try dsimp only at hh
      exact hh
    clear hf4
    refine e_if_ne (pc := 21) (tgt := 30) dX12_empty_21 (by decide) (fun hb => ?_) (fun hb => ?_)
    · rw [if_neg hb] at hr8
      refine e_iconst (pc := 30) dX12_empty_30 (x_R rfl) ?_
      cases hr8
      exact hjhr8
    · rw [if_pos hb] at hr8
      refine e_iconst (pc := 24) dX12_empty_24 (x_R rfl) ?_
      refine e_iloadn (pc := 25) (i := 2) dX12_empty_25 rfl rfl ?_
      refine e_ishl (pc := 26) dX12_empty_26 ?_
      refine e_goto (pc := 27) (tgt := 31) dX12_empty_27 (by decide) ?_
      cases hr8
      exact hjhr8
set_option maxRecDepth 100000 in
set_option maxHeartbeats 4000000 in
theorem c_X12_throng {g : xG} {al : List (Nat × Nat × Nat)} {ro : Nat → Nat → Option Nat} (hst : g.1.stackTraces = false) (hs : SH al ro) {M : Nat → xU} {S : xU}  {t : (Int × xU)} (hG : G12_throng S = some t) :
    Cal g yX12_throng cX12_throng 3 (some .int) 3 [x_r (16 * 32 + 0)] (al, ro, fl (ml M [32] [S])) 0 0 (.inl (some (x_i t.1))) (al, ro, fl (ml M [32] [t.2])) := by
  have hn : ([32] : List Nat).Nodup := by decide
  refine cal_of_ev (plainFor_of_name (by decide)) (x_c1 rfl) (Nat.le_of_ble_eq_true rfl) hst ?_
  show Ev g _ _ _ _ _ _ 0 [some (x_r (16 * 32 + 0)), none, none] [] (al, ro, fl (ml M [32] [S])) _ _ _ _
  rw [G12_throng] at hG
  refine e_aloadn (pc := 0) (i := 0) dX12_throng_0 rfl rfl ?_
  refine e_iconst (pc := 1) dX12_throng_1 (x_R rfl) ?_
  refine f_puti (pc := 2) (k := 0) (u := 32) (q := 0) dX12_throng_2 xf12_58 xw10_0 (sa_32_0 hs) hn rfl rfl rfl (by decide) ?_
  show Ev g _ _ _ _ _ _ 5 [some (x_r (16 * 32 + 0)), none, none] [] (al, ro, fl (ml M [32] [(x_up S 0 0 0)])) _ _ _ _
  refine e_iconst (pc := 5) dX12_throng_5 (x_R rfl) ?_
  refine e_istoren (pc := 6) (i := 1) dX12_throng_6 rfl (by decide) rfl ?_
  show Ev g _ _ _ _ _ _ 7 [some (x_r (16 * 32 + 0)), some (x_i 0), none] [] (al, ro, fl (ml M [32] [(x_up S 0 0 0)])) _ _ _ _
  refine e_iconst (pc := 7) dX12_throng_7 (x_R rfl) ?_
  refine e_istoren (pc := 8) (i := 2) dX12_throng_8 rfl (by decide) rfl ?_
  show Ev g _ _ _ _ _ _ 9 [some (x_r (16 * 32 + 0)), some (x_i 0), some (x_i 1)] [] (al, ro, fl (ml M [32] [(x_up S 0 0 0)])) _ _ _ _
  obtain ⟨v3, hl4, hG⟩ := x_bd1 hG
  have hk4 : ∀ q : Int, q = v3 → Ev g yX12_throng cX12_throng 3 (some .int) [] 3 37 [some (x_r (16 * 32 + 0)), some (x_i q), none] [] (al, ro, fl (ml M [32] [(x_up S 0 0 0)])) 0 0 (.inl (some (x_i t.1))) (al, ro, fl (ml M [32] [t.2])) := by
    intro q hq
    replace hq := hq.symm
    subst hq
    refine e_iloadn (pc := 37) (i := 1) dX12_throng_37 rfl rfl ?_
    cases hG
    exact (e_ireturn rfl dX12_throng_38 rfl)
  clear hG
  refine e_whl (G12_throng_L9 S) (fun z : (Int × Int) => Ev g yX12_throng cX12_throng 3 (some .int) [] 3 9 [some (x_r (16 * 32 + 0)), some (x_i z.1), some (x_i z.2)] [] (al, ro, fl (ml M [32] [(x_up S 0 0 0)])) 0 0 (.inl (some (x_i t.1))) (al, ro, fl (ml M [32] [t.2]))) (fun q => q = v3) ?_ xFU (0, 1) _ hl4 rfl
  intro z t4 hf4 hi4 hx4
  obtain ⟨v1, v2⟩ := z
  rw [G12_throng_L9] at hf4
  show Ev g _ _ _ _ _ _ 9 [some (x_r (16 * 32 + 0)), some (x_i v1), some (x_i v2)] [] (al, ro, fl (ml M [32] [(x_up S 0 0 0)])) _ _ _ _
  refine e_iloadn (pc := 9) (i := 2) dX12_throng_9 rfl rfl ?_
  refine e_iconst (pc := 10) dX12_throng_10 (x_R rfl) ?_
  refine e_icmp_ge (pc := 11) (tgt := 37) dX12_throng_11 (by decide) (fun hb => ?_) (fun hb => ?_)
  · rw [if_pos hb] at hf4
    cases hf4
    refine e_drop (i := 2) ?_
    have hh := hk4 _ (hx4 _ rfl)
    try dsimp only at hh
    exact hh
  · rw [if_neg hb] at hf4
    refine e_aloadn (pc := 14) (i := 0) dX12_throng_14 rfl rfl ?_
    refine e_iloadn (pc := 15) (i := 2) dX12_throng_15 rfl rfl ?_
    refine e_iconst (pc := 16) dX12_throng_16 (x_R rfl) ?_
    obtain ⟨v6, hq6, hf4⟩ := x_bd1 hf4
    refine e_invV (pc := 17) (K1 := 0) (S1 := 0) (K := 0) (S := 0) (dd2 := 2) (av := [x_i v2, x_i 1]) (st := []) (id := 16 * 32 + 0) dX12_throng_17 xmX12_382 rfl (Or.inl ⟨10, 27, TX12, (sa_32_0 hs), rfl, by decide⟩) (f_cal (M := M) (us2 := [32]) [0] hn rfl (And.intro rfl trivial) rfl rfl rfl (c_X12_inWalk hst hs   hq6)) (by decide) (Nat.le_of_ble_eq_true rfl) (Or.inl rfl) ?_
    show Ev g _ _ _ _ _ _ 20 [some (x_r (16 * 32 + 0)), some (x_i v1), some (x_i v2)] [x_i v6] (al, ro, fl (ml M [32] [(x_up S 0 0 0)])) _ _ _ _
    refine e_aloadn (pc := 20) (i := 0) dX12_throng_20 rfl rfl ?_
    refine e_iloadn (pc := 21) (i := 1) dX12_throng_21 rfl rfl ?_
    refine e_iconst (pc := 22) dX12_throng_22 (x_R rfl) ?_
    obtain ⟨v8, hq8, hf4⟩ := x_bd1 hf4
    refine e_invV (pc := 23) (K1 := 0) (S1 := 0) (K := 0) (S := 0) (dd2 := 2) (av := [x_i v1, x_i 1]) (st := [x_i v6]) (id := 16 * 32 + 0) dX12_throng_23 xmX12_382 rfl (Or.inl ⟨10, 27, TX12, (sa_32_0 hs), rfl, by decide⟩) (f_cal (M := M) (us2 := [32]) [0] hn rfl (And.intro rfl trivial) rfl rfl rfl (c_X12_inWalk hst hs   hq8)) (by decide) (Nat.le_of_ble_eq_true rfl) (Or.inl rfl) ?_
    show Ev g _ _ _ _ _ _ 26 [some (x_r (16 * 32 + 0)), some (x_i v1), some (x_i v2)] [x_i v8, x_i v6] (al, ro, fl (ml M [32] [(x_up S 0 0 0)])) _ _ _ _
    obtain ⟨v10, hr10, hf4⟩ := x_bd1 hf4
    have hjhr10 : Ev g yX12_throng cX12_throng 3 (some .int) [] 3 31 [some (x_r (16 * 32 + 0)), some (x_i v10), some (x_i v2)] [] (al, ro, fl (ml M [32] [(x_up S 0 0 0)])) 0 0 (.inl (some (x_i t.1))) (al, ro, fl (ml M [32] [t.2])) := by
      refine e_iinc (pc := 31) dX12_throng_31 rfl (by decide) rfl ?_
      show Ev g _ _ _ _ _ _ 34 [some (x_r (16 * 32 + 0)), some (x_i v10), some (x_i (x_add v2 1))] [] (al, ro, fl (ml M [32] [(x_up S 0 0 0)])) _ _ _ _
      refine e_goto (pc := 34) (tgt := 9) dX12_throng_34 (by decide) ?_
      cases hf4
      have hh := hi4 _ rfl
      try dsimp only at hh
      exact hh
    clear hf4
    refine e_icmp_le (pc := 26) (tgt := 31) dX12_throng_26 (by decide) (fun hb => ?_) (fun hb => ?_)
    · rw [if_pos hb] at hr10
      cases hr10
      exact hjhr10
    · rw [if_neg hb] at hr10
      refine e_iloadn (pc := 29) (i := 2) dX12_throng_29 rfl rfl ?_
      refine e_istoren (pc := 30) (i := 1) dX12_throng_30 rfl (by decide) rfl ?_
      show Ev g _ _ _ _ _ _ 31 [some (x_r (16 * 32 + 0)), some (x_i v2), some (x_i v2)] [] (al, ro, fl (ml M [32] [(x_up S 0 0 0)])) _ _ _ _
      cases hr10
      exact hjhr10
set_option maxRecDepth 100000 in
set_option maxHeartbeats 4000000 in
theorem c_X12_gone {g : xG} {al : List (Nat × Nat × Nat)} {ro : Nat → Nat → Option Nat} (hst : g.1.stackTraces = false) (hs : SH al ro) {M : Nat → xU} {S : xU}  {t : (Int × xU)} (hG : G12_gone S = some t) :
    Cal g yX12_gone cX12_gone 1 (some .int) 3 [x_r (16 * 32 + 0)] (al, ro, fl (ml M [32] [S])) 0 0 (.inl (some (x_i t.1))) (al, ro, fl (ml M [32] [t.2])) := by
  have hn : ([32] : List Nat).Nodup := by decide
  refine cal_of_ev (plainFor_of_name (by decide)) (x_c1 rfl) (Nat.le_of_ble_eq_true rfl) hst ?_
  show Ev g _ _ _ _ _ _ 0 [some (x_r (16 * 32 + 0))] [] (al, ro, fl (ml M [32] [S])) _ _ _ _
  rw [G12_gone] at hG
  refine e_aloadn (pc := 0) (i := 0) dX12_gone_0 rfl rfl ?_
  refine e_iconst (pc := 1) dX12_gone_1 (x_R rfl) ?_
  refine f_puti (pc := 2) (k := 0) (u := 32) (q := 0) dX12_gone_2 xf12_58 xw10_0 (sa_32_0 hs) hn rfl rfl rfl (by decide) ?_
  show Ev g _ _ _ _ _ _ 5 [some (x_r (16 * 32 + 0))] [] (al, ro, fl (ml M [32] [(x_up S 0 0 0)])) _ _ _ _
  refine e_aloadn (pc := 5) (i := 0) dX12_gone_5 rfl rfl ?_
  obtain ⟨v1, hq1, hG⟩ := x_bd1 hG
  refine e_invV (pc := 6) (K1 := 0) (S1 := 0) (K := 0) (S := 0) (dd2 := 2) (av := []) (st := []) (id := 16 * 32 + 0) dX12_gone_6 xmX12_394 rfl (Or.inl ⟨10, 27, TX12, (sa_32_0 hs), rfl, by decide⟩) (f_cal (M := M) (us2 := [32]) [0] hn rfl (And.intro rfl trivial) rfl rfl rfl (c_X12_goneOnes hst hs   hq1)) (by decide) (Nat.le_of_ble_eq_true rfl) (Or.inl rfl) ?_
  show Ev g _ _ _ _ _ _ 9 [some (x_r (16 * 32 + 0))] [x_i v1] (al, ro, fl (ml M [32] [(x_up S 0 0 0)])) _ _ _ _
  cases hG
  exact (e_ireturn rfl dX12_gone_9 rfl)
set_option maxRecDepth 100000 in
set_option maxHeartbeats 4000000 in
theorem c_X12_round {g : xG} {al : List (Nat × Nat × Nat)} {ro : Nat → Nat → Option Nat} (hst : g.1.stackTraces = false) (hs : SH al ro) {M : Nat → xU} {a : Int} {S : xU}  {t : (Int × xU)} (hG : G12_round a S = some t) :
    Cal g yX12_round cX12_round 4 (some .int) 1 [x_r (16 * 32 + 0), x_i a] (al, ro, fl (ml M [32] [S])) 0 0 (.inl (some (x_i t.1))) (al, ro, fl (ml M [32] [t.2])) := by
  have hn : ([32] : List Nat).Nodup := by decide
  refine cal_of_ev (plainFor_of_name (by decide)) (x_c1 rfl) (Nat.le_of_ble_eq_true rfl) hst ?_
  show Ev g _ _ _ _ _ _ 0 [some (x_r (16 * 32 + 0)), some (x_i a), none, none] [] (al, ro, fl (ml M [32] [S])) _ _ _ _
  rw [G12_round] at hG
  refine e_aloadn (pc := 0) (i := 0) dX12_round_0 rfl rfl ?_
  refine e_iloadn (pc := 1) (i := 1) dX12_round_1 rfl rfl ?_
  refine e_iconst (pc := 2) dX12_round_2 (x_R rfl) ?_
  refine e_sipush (pc := 3) dX12_round_3 (by decide +kernel) (x_R rfl) ?_
  obtain ⟨v1, hq1, hG⟩ := x_bd1 hG
  refine e_invS (pc := 6) (K1 := 0) (S1 := 0) (K := 0) (S := 0) (dd2 := 0) (av := [x_i a, x_i 0, x_i 999]) (st := [x_r (16 * 32 + 0)]) dX12_round_6 xmX12_61 rfl (f_cal (M := M) (us2 := []) [] hn rfl trivial rfl rfl rfl (c_X12_isIn hst hs   hq1)) (by decide) (Nat.le_of_ble_eq_true rfl) (Or.inl rfl) ?_
  show Ev g _ _ _ _ _ _ 9 [some (x_r (16 * 32 + 0)), some (x_i a), none, none] [x_i v1, x_r (16 * 32 + 0)] (al, ro, fl (ml M [32] [S])) _ _ _ _
  obtain ⟨v3, hr3, hG⟩ := x_bd1 hG
  have hjhr3 : Ev g yX12_round cX12_round 4 (some .int) [] 1 17 [some (x_r (16 * 32 + 0)), some (x_i a), none, none] [x_i v3, x_r (16 * 32 + 0)] (al, ro, fl (ml M [32] [S])) 0 0 (.inl (some (x_i t.1))) (al, ro, fl (ml M [32] [t.2])) := by
    refine f_puti (pc := 17) (k := 0) (u := 32) (q := 0) dX12_round_17 xf12_58 xw10_0 (sa_32_0 hs) hn rfl rfl rfl (by decide) ?_
    show Ev g _ _ _ _ _ _ 20 [some (x_r (16 * 32 + 0)), some (x_i a), none, none] [] (al, ro, fl (ml M [32] [(x_up S 0 0 v3)])) _ _ _ _
    refine e_aloadn (pc := 20) (i := 0) dX12_round_20 rfl rfl ?_
    refine f_geti (pc := 21) (k := 0) (u := 32) (q := 0) dX12_round_21 xf12_58 (sa_32_0 hs) rfl hn rfl rfl (by decide) ?_
    show Ev g _ _ _ _ _ _ 24 [some (x_r (16 * 32 + 0)), some (x_i a), none, none] [x_i ((x_up S 0 0 v3) 0 0)] (al, ro, fl (ml M [32] [(x_up S 0 0 v3)])) _ _ _ _
    refine e_if_le (pc := 24) (tgt := 29) dX12_round_24 (by decide) (fun hb => ?_) (fun hb => ?_)
    · rw [if_pos hb] at hG
      refine e_iconst (pc := 29) dX12_round_29 (x_R rfl) ?_
      refine e_istoren (pc := 30) (i := 2) dX12_round_30 rfl (by decide) rfl ?_
      show Ev g _ _ _ _ _ _ 31 [some (x_r (16 * 32 + 0)), some (x_i a), some (x_i 0), none] [] (al, ro, fl (ml M [32] [(x_up S 0 0 v3)])) _ _ _ _
      refine e_iconst (pc := 31) dX12_round_31 (x_R rfl) ?_
      refine e_istoren (pc := 32) (i := 3) dX12_round_32 rfl (by decide) rfl ?_
      show Ev g _ _ _ _ _ _ 33 [some (x_r (16 * 32 + 0)), some (x_i a), some (x_i 0), some (x_i 0)] [] (al, ro, fl (ml M [32] [(x_up S 0 0 v3)])) _ _ _ _
      obtain ⟨v7, hl8, hG⟩ := x_bd1 hG
      have hk8 : ∀ q : Int, q = v7 → Ev g yX12_round cX12_round 4 (some .int) [] 1 70 [some (x_r (16 * 32 + 0)), some (x_i a), some (x_i q), none] [] (al, ro, fl (ml M [32] [(x_up S 0 0 v3)])) 0 0 (.inl (some (x_i t.1))) (al, ro, fl (ml M [32] [t.2])) := by
        intro q hq
        replace hq := hq.symm
        subst hq
        refine e_iloadn (pc := 70) (i := 2) dX12_round_70 rfl rfl ?_
        cases hG
        exact (e_ireturn rfl dX12_round_71 rfl)
      clear hG
      refine e_whl (G12_round_L33 a S v3) (fun z : (Int × Int) => Ev g yX12_round cX12_round 4 (some .int) [] 1 33 [some (x_r (16 * 32 + 0)), some (x_i a), some (x_i z.1), some (x_i z.2)] [] (al, ro, fl (ml M [32] [(x_up S 0 0 v3)])) 0 0 (.inl (some (x_i t.1))) (al, ro, fl (ml M [32] [t.2]))) (fun q => q = v7) ?_ xFU (0, 0) _ hl8 rfl
      intro z t8 hf8 hi8 hx8
      obtain ⟨v5, v6⟩ := z
      rw [G12_round_L33] at hf8
      show Ev g _ _ _ _ _ _ 33 [some (x_r (16 * 32 + 0)), some (x_i a), some (x_i v5), some (x_i v6)] [] (al, ro, fl (ml M [32] [(x_up S 0 0 v3)])) _ _ _ _
      refine e_iloadn (pc := 33) (i := 3) dX12_round_33 rfl rfl ?_
      refine e_aloadn (pc := 34) (i := 0) dX12_round_34 rfl rfl ?_
      refine f_getr (pc := 35) (u := 32) (q := 0) dX12_round_35 xf12_7 (sa_32_0 hs) rfl (sr_32_0_1 hs) ?_
      refine e_iconst (pc := 38) dX12_round_38 (x_R rfl) ?_
      refine f_iald (pc := 39) (k := 0) (u := 32) (q := 1) (len := 772) dX12_round_39 (sa_32_1 hs) (by decide) hn rfl rfl (by decide) ?_
      show Ev g _ _ _ _ _ _ 40 [some (x_r (16 * 32 + 0)), some (x_i a), some (x_i v5), some (x_i v6)] [x_i ((x_up S 0 0 v3) 1 3), x_i v6] (al, ro, fl (ml M [32] [(x_up S 0 0 v3)])) _ _ _ _
      refine e_icmp_ge (pc := 40) (tgt := 70) dX12_round_40 (by decide) (fun hb => ?_) (fun hb => ?_)
      · rw [if_pos hb] at hf8
        cases hf8
        refine e_drop (i := 3) ?_
        have hh := hk8 _ (hx8 _ rfl)
        try dsimp only at hh
        exact hh
      · rw [if_neg hb] at hf8
        refine e_iloadn (pc := 43) (i := 2) dX12_round_43 rfl rfl ?_
        refine e_aloadn (pc := 44) (i := 0) dX12_round_44 rfl rfl ?_
        refine e_iloadn (pc := 45) (i := 3) dX12_round_45 rfl rfl ?_
        refine e_bipush (pc := 46) dX12_round_46 (by decide +kernel) (x_R rfl) ?_
        obtain ⟨v10, hq10, hf8⟩ := x_bd1 hf8
        refine e_invV (pc := 48) (K1 := 0) (S1 := 0) (K := 0) (S := 0) (dd2 := 0) (av := [x_i v6, x_i 7]) (st := [x_i v5]) (id := 16 * 32 + 0) dX12_round_48 xmX12_65 rfl (Or.inl ⟨10, 27, TX12, (sa_32_0 hs), rfl, by decide⟩) (f_cal (M := M) (us2 := [32]) [0] hn rfl (And.intro rfl trivial) rfl rfl rfl (c_X12_of hst hs   hq10)) (by decide) (Nat.le_of_ble_eq_true rfl) (Or.inl rfl) ?_
        show Ev g _ _ _ _ _ _ 51 [some (x_r (16 * 32 + 0)), some (x_i a), some (x_i v5), some (x_i v6)] [x_i v10, x_i v5] (al, ro, fl (ml M [32] [(x_up S 0 0 v3)])) _ _ _ _
        refine e_iloadn (pc := 51) (i := 1) dX12_round_51 rfl rfl ?_
        obtain ⟨v12, hr12, hf8⟩ := x_bd1 hf8
        have hjhr12 : Ev g yX12_round cX12_round 4 (some .int) [] 1 62 [some (x_r (16 * 32 + 0)), some (x_i a), some (x_i v5), some (x_i v6)] [x_i v12, x_i v5] (al, ro, fl (ml M [32] [(x_up S 0 0 v3)])) 0 0 (.inl (some (x_i t.1))) (al, ro, fl (ml M [32] [t.2])) := by
          refine e_ior (pc := 62) dX12_round_62 ?_
          refine e_istoren (pc := 63) (i := 2) dX12_round_63 rfl (by decide) rfl ?_
          show Ev g _ _ _ _ _ _ 64 [some (x_r (16 * 32 + 0)), some (x_i a), some (x_i (x_or v5 v12)), some (x_i v6)] [] (al, ro, fl (ml M [32] [(x_up S 0 0 v3)])) _ _ _ _
          refine e_iinc (pc := 64) dX12_round_64 rfl (by decide) rfl ?_
          show Ev g _ _ _ _ _ _ 67 [some (x_r (16 * 32 + 0)), some (x_i a), some (x_i (x_or v5 v12)), some (x_i (x_add v6 1))] [] (al, ro, fl (ml M [32] [(x_up S 0 0 v3)])) _ _ _ _
          refine e_goto (pc := 67) (tgt := 33) dX12_round_67 (by decide) ?_
          cases hf8
          have hh := hi8 _ rfl
          try dsimp only at hh
          exact hh
        clear hf8
        refine e_icmp_lt (pc := 52) (tgt := 61) dX12_round_52 (by decide) (fun hb => ?_) (fun hb => ?_)
        · rw [if_pos hb] at hr12
          refine e_iconst (pc := 61) dX12_round_61 (x_R rfl) ?_
          cases hr12
          exact hjhr12
        · rw [if_neg hb] at hr12
          refine e_iconst (pc := 55) dX12_round_55 (x_R rfl) ?_
          refine e_iloadn (pc := 56) (i := 3) dX12_round_56 rfl rfl ?_
          refine e_ishl (pc := 57) dX12_round_57 ?_
          refine e_goto (pc := 58) (tgt := 62) dX12_round_58 (by decide) ?_
          cases hr12
          exact hjhr12
    · rw [if_neg hb] at hG
      refine e_iconst (pc := 27) dX12_round_27 (x_R rfl) ?_
      cases hG
      exact (e_ireturn rfl dX12_round_28 rfl)
  clear hG
  refine e_if_ne (pc := 9) (tgt := 16) dX12_round_9 (by decide) (fun hb => ?_) (fun hb => ?_)
  · rw [if_neg hb] at hr3
    refine e_iconst (pc := 16) dX12_round_16 (x_R rfl) ?_
    cases hr3
    exact hjhr3
  · rw [if_pos hb] at hr3
    refine e_iconst (pc := 12) dX12_round_12 (x_R rfl) ?_
    refine e_goto (pc := 13) (tgt := 17) dX12_round_13 (by decide) ?_
    cases hr3
    exact hjhr3
set_option maxRecDepth 100000 in
set_option maxHeartbeats 4000000 in
theorem c_X12_hungriest {g : xG} {al : List (Nat × Nat × Nat)} {ro : Nat → Nat → Option Nat} (hst : g.1.stackTraces = false) (hs : SH al ro) {M : Nat → xU} {S : xU}  {t : (Int × xU)} (hG : G12_hungriest S = some t) :
    Cal g yX12_hungriest cX12_hungriest 3 (some .int) 1 [x_r (16 * 32 + 0)] (al, ro, fl (ml M [32] [S])) 0 0 (.inl (some (x_i t.1))) (al, ro, fl (ml M [32] [t.2])) := by
  have hn : ([32] : List Nat).Nodup := by decide
  refine cal_of_ev (plainFor_of_name (by decide)) (x_c1 rfl) (Nat.le_of_ble_eq_true rfl) hst ?_
  show Ev g _ _ _ _ _ _ 0 [some (x_r (16 * 32 + 0)), none, none] [] (al, ro, fl (ml M [32] [S])) _ _ _ _
  rw [G12_hungriest] at hG
  refine e_aloadn (pc := 0) (i := 0) dX12_hungriest_0 rfl rfl ?_
  refine e_iconst (pc := 1) dX12_hungriest_1 (x_R rfl) ?_
  refine f_puti (pc := 2) (k := 0) (u := 32) (q := 0) dX12_hungriest_2 xf12_58 xw10_0 (sa_32_0 hs) hn rfl rfl rfl (by decide) ?_
  show Ev g _ _ _ _ _ _ 5 [some (x_r (16 * 32 + 0)), none, none] [] (al, ro, fl (ml M [32] [(x_up S 0 0 0)])) _ _ _ _
  refine e_iconst (pc := 5) dX12_hungriest_5 (x_R rfl) ?_
  refine e_istoren (pc := 6) (i := 1) dX12_hungriest_6 rfl (by decide) rfl ?_
  show Ev g _ _ _ _ _ _ 7 [some (x_r (16 * 32 + 0)), some (x_i (-1)), none] [] (al, ro, fl (ml M [32] [(x_up S 0 0 0)])) _ _ _ _
  refine e_iconst (pc := 7) dX12_hungriest_7 (x_R rfl) ?_
  refine e_istoren (pc := 8) (i := 2) dX12_hungriest_8 rfl (by decide) rfl ?_
  show Ev g _ _ _ _ _ _ 9 [some (x_r (16 * 32 + 0)), some (x_i (-1)), some (x_i 0)] [] (al, ro, fl (ml M [32] [(x_up S 0 0 0)])) _ _ _ _
  obtain ⟨v3, hl4, hG⟩ := x_bd1 hG
  have hk4 : ∀ q : Int, q = v3 → Ev g yX12_hungriest cX12_hungriest 3 (some .int) [] 1 53 [some (x_r (16 * 32 + 0)), some (x_i q), none] [] (al, ro, fl (ml M [32] [(x_up S 0 0 0)])) 0 0 (.inl (some (x_i t.1))) (al, ro, fl (ml M [32] [t.2])) := by
    intro q hq
    replace hq := hq.symm
    subst hq
    refine e_iloadn (pc := 53) (i := 1) dX12_hungriest_53 rfl rfl ?_
    cases hG
    exact (e_ireturn rfl dX12_hungriest_54 rfl)
  clear hG
  refine e_whl (G12_hungriest_L9 S) (fun z : (Int × Int) => Ev g yX12_hungriest cX12_hungriest 3 (some .int) [] 1 9 [some (x_r (16 * 32 + 0)), some (x_i z.1), some (x_i z.2)] [] (al, ro, fl (ml M [32] [(x_up S 0 0 0)])) 0 0 (.inl (some (x_i t.1))) (al, ro, fl (ml M [32] [t.2]))) (fun q => q = v3) ?_ xFU ((-1), 0) _ hl4 rfl
  intro z t4 hf4 hi4 hx4
  obtain ⟨v1, v2⟩ := z
  rw [G12_hungriest_L9] at hf4
  show Ev g _ _ _ _ _ _ 9 [some (x_r (16 * 32 + 0)), some (x_i v1), some (x_i v2)] [] (al, ro, fl (ml M [32] [(x_up S 0 0 0)])) _ _ _ _
  refine e_iloadn (pc := 9) (i := 2) dX12_hungriest_9 rfl rfl ?_
  refine e_aloadn (pc := 10) (i := 0) dX12_hungriest_10 rfl rfl ?_
  refine f_getr (pc := 11) (u := 32) (q := 0) dX12_hungriest_11 xf12_7 (sa_32_0 hs) rfl (sr_32_0_1 hs) ?_
  refine e_iconst (pc := 14) dX12_hungriest_14 (x_R rfl) ?_
  refine f_iald (pc := 15) (k := 0) (u := 32) (q := 1) (len := 772) dX12_hungriest_15 (sa_32_1 hs) (by decide) hn rfl rfl (by decide) ?_
  show Ev g _ _ _ _ _ _ 16 [some (x_r (16 * 32 + 0)), some (x_i v1), some (x_i v2)] [x_i ((x_up S 0 0 0) 1 3), x_i v2] (al, ro, fl (ml M [32] [(x_up S 0 0 0)])) _ _ _ _
  refine e_icmp_ge (pc := 16) (tgt := 53) dX12_hungriest_16 (by decide) (fun hb => ?_) (fun hb => ?_)
  · rw [if_pos hb] at hf4
    cases hf4
    refine e_drop (i := 2) ?_
    have hh := hk4 _ (hx4 _ rfl)
    try dsimp only at hh
    exact hh
  · rw [if_neg hb] at hf4
    refine e_aloadn (pc := 19) (i := 0) dX12_hungriest_19 rfl rfl ?_
    refine e_iloadn (pc := 20) (i := 2) dX12_hungriest_20 rfl rfl ?_
    refine e_bipush (pc := 21) dX12_hungriest_21 (by decide +kernel) (x_R rfl) ?_
    obtain ⟨v6, hq6, hf4⟩ := x_bd1 hf4
    refine e_invV (pc := 23) (K1 := 0) (S1 := 0) (K := 0) (S := 0) (dd2 := 0) (av := [x_i v2, x_i 6]) (st := []) (id := 16 * 32 + 0) dX12_hungriest_23 xmX12_65 rfl (Or.inl ⟨10, 27, TX12, (sa_32_0 hs), rfl, by decide⟩) (f_cal (M := M) (us2 := [32]) [0] hn rfl (And.intro rfl trivial) rfl rfl rfl (c_X12_of hst hs   hq6)) (by decide) (Nat.le_of_ble_eq_true rfl) (Or.inl rfl) ?_
    show Ev g _ _ _ _ _ _ 26 [some (x_r (16 * 32 + 0)), some (x_i v1), some (x_i v2)] [x_i v6] (al, ro, fl (ml M [32] [(x_up S 0 0 0)])) _ _ _ _
    refine e_iloadn (pc := 26) (i := 1) dX12_hungriest_26 rfl rfl ?_
    refine e_iconst (pc := 27) dX12_hungriest_27 (x_R rfl) ?_
    obtain ⟨v8, hr8, hf4⟩ := x_bd1 hf4
    have hjhr8 : Ev g yX12_hungriest cX12_hungriest 3 (some .int) [] 1 42 [some (x_r (16 * 32 + 0)), some (x_i v1), some (x_i v2)] [x_i v8, x_i v6] (al, ro, fl (ml M [32] [(x_up S 0 0 0)])) 0 0 (.inl (some (x_i t.1))) (al, ro, fl (ml M [32] [t.2])) := by
      obtain ⟨v12, hr12, hf4⟩ := x_bd1 hf4
      have hjhr12 : Ev g yX12_hungriest cX12_hungriest 3 (some .int) [] 1 47 [some (x_r (16 * 32 + 0)), some (x_i v12), some (x_i v2)] [] (al, ro, fl (ml M [32] [(x_up S 0 0 0)])) 0 0 (.inl (some (x_i t.1))) (al, ro, fl (ml M [32] [t.2])) := by
        refine e_iinc (pc := 47) dX12_hungriest_47 rfl (by decide) rfl ?_
        show Ev g _ _ _ _ _ _ 50 [some (x_r (16 * 32 + 0)), some (x_i v12), some (x_i (x_add v2 1))] [] (al, ro, fl (ml M [32] [(x_up S 0 0 0)])) _ _ _ _
        refine e_goto (pc := 50) (tgt := 9) dX12_hungriest_50 (by decide) ?_
        cases hf4
        have hh := hi4 _ rfl
        try dsimp only at hh
        exact hh
      clear hf4
      refine e_icmp_le (pc := 42) (tgt := 47) dX12_hungriest_42 (by decide) (fun hb => ?_) (fun hb => ?_)
      · rw [if_pos hb] at hr12
        cases hr12
        exact hjhr12
      · rw [if_neg hb] at hr12
        refine e_iloadn (pc := 45) (i := 2) dX12_hungriest_45 rfl rfl ?_
        refine e_istoren (pc := 46) (i := 1) dX12_hungriest_46 rfl (by decide) rfl ?_
        show Ev g _ _ _ _ _ _ 47 [some (x_r (16 * 32 + 0)), some (x_i v2), some (x_i v2)] [] (al, ro, fl (ml M [32] [(x_up S 0 0 0)])) _ _ _ _
        cases hr12
        exact hjhr12
    clear hf4
    refine e_icmp_ne (pc := 28) (tgt := 35) dX12_hungriest_28 (by decide) (fun hb => ?_) (fun hb => ?_)
    · rw [if_neg hb] at hr8
      refine e_aloadn (pc := 35) (i := 0) dX12_hungriest_35 rfl rfl ?_
      refine e_iloadn (pc := 36) (i := 1) dX12_hungriest_36 rfl rfl ?_
      refine e_bipush (pc := 37) dX12_hungriest_37 (by decide +kernel) (x_R rfl) ?_
      obtain ⟨v10, hq10, hr8⟩ := x_bd1 hr8
      refine e_invV (pc := 39) (K1 := 0) (S1 := 0) (K := 0) (S := 0) (dd2 := 0) (av := [x_i v1, x_i 6]) (st := [x_i v6]) (id := 16 * 32 + 0) dX12_hungriest_39 xmX12_65 rfl (Or.inl ⟨10, 27, TX12, (sa_32_0 hs), rfl, by decide⟩) (f_cal (M := M) (us2 := [32]) [0] hn rfl (And.intro rfl trivial) rfl rfl rfl (c_X12_of hst hs   hq10)) (by decide) (Nat.le_of_ble_eq_true rfl) (Or.inl rfl) ?_
      show Ev g _ _ _ _ _ _ 42 [some (x_r (16 * 32 + 0)), some (x_i v1), some (x_i v2)] [x_i v10, x_i v6] (al, ro, fl (ml M [32] [(x_up S 0 0 0)])) _ _ _ _
      cases hr8
      exact hjhr8
    · rw [if_pos hb] at hr8
      refine e_iconst (pc := 31) dX12_hungriest_31 (x_R rfl) ?_
      refine e_goto (pc := 32) (tgt := 42) dX12_hungriest_32 (by decide) ?_
      cases hr8
      exact hjhr8
set_option maxRecDepth 100000 in
set_option maxHeartbeats 4000000 in
theorem c_X12_alike {g : xG} {al : List (Nat × Nat × Nat)} {ro : Nat → Nat → Option Nat} (hst : g.1.stackTraces = false) (hs : SH al ro) {M : Nat → xU} {S : xU}  {t : (Int × xU)} (hG : G12_alike S = some t) :
    Cal g yX12_alike cX12_alike 4 (some .int) 1 [x_r (16 * 32 + 0)] (al, ro, fl (ml M [32] [S])) 0 0 (.inl (some (x_i t.1))) (al, ro, fl (ml M [32] [t.2])) := by
  have hn : ([32] : List Nat).Nodup := by decide
  refine cal_of_ev (plainFor_of_name (by decide)) (x_c1 rfl) (Nat.le_of_ble_eq_true rfl) hst ?_
  show Ev g _ _ _ _ _ _ 0 [some (x_r (16 * 32 + 0)), none, none, none] [] (al, ro, fl (ml M [32] [S])) _ _ _ _
  rw [G12_alike] at hG
  refine e_aloadn (pc := 0) (i := 0) dX12_alike_0 rfl rfl ?_
  refine e_iconst (pc := 1) dX12_alike_1 (x_R rfl) ?_
  refine f_puti (pc := 2) (k := 0) (u := 32) (q := 0) dX12_alike_2 xf12_58 xw10_0 (sa_32_0 hs) hn rfl rfl rfl (by decide) ?_
  show Ev g _ _ _ _ _ _ 5 [some (x_r (16 * 32 + 0)), none, none, none] [] (al, ro, fl (ml M [32] [(x_up S 0 0 0)])) _ _ _ _
  refine e_iconst (pc := 5) dX12_alike_5 (x_R rfl) ?_
  refine e_istoren (pc := 6) (i := 1) dX12_alike_6 rfl (by decide) rfl ?_
  show Ev g _ _ _ _ _ _ 7 [some (x_r (16 * 32 + 0)), some (x_i 0), none, none] [] (al, ro, fl (ml M [32] [(x_up S 0 0 0)])) _ _ _ _
  refine e_iconst (pc := 7) dX12_alike_7 (x_R rfl) ?_
  refine e_istoren (pc := 8) (i := 2) dX12_alike_8 rfl (by decide) rfl ?_
  show Ev g _ _ _ _ _ _ 9 [some (x_r (16 * 32 + 0)), some (x_i 0), some (x_i 0), none] [] (al, ro, fl (ml M [32] [(x_up S 0 0 0)])) _ _ _ _
  obtain ⟨v3, hl4, hG⟩ := x_bd1 hG
  have hk4 : ∀ q : Int, q = v3 → Ev g yX12_alike cX12_alike 4 (some .int) [] 1 83 [some (x_r (16 * 32 + 0)), some (x_i q), none, none] [] (al, ro, fl (ml M [32] [(x_up S 0 0 0)])) 0 0 (.inl (some (x_i t.1))) (al, ro, fl (ml M [32] [t.2])) := by
    intro q hq
    replace hq := hq.symm
    subst hq
    refine e_iloadn (pc := 83) (i := 1) dX12_alike_83 rfl rfl ?_
    cases hG
    exact (e_ireturn rfl dX12_alike_84 rfl)
  clear hG
  refine e_whl (G12_alike_L9 S) (fun z : (Int × Int) => Ev g yX12_alike cX12_alike 4 (some .int) [] 1 9 [some (x_r (16 * 32 + 0)), some (x_i z.1), some (x_i z.2), none] [] (al, ro, fl (ml M [32] [(x_up S 0 0 0)])) 0 0 (.inl (some (x_i t.1))) (al, ro, fl (ml M [32] [t.2]))) (fun q => q = v3) ?_ xFU (0, 0) _ hl4 rfl
  intro z t4 hf4 hi4 hx4
  obtain ⟨v1, v2⟩ := z
  rw [G12_alike_L9] at hf4
  show Ev g _ _ _ _ _ _ 9 [some (x_r (16 * 32 + 0)), some (x_i v1), some (x_i v2), none] [] (al, ro, fl (ml M [32] [(x_up S 0 0 0)])) _ _ _ _
  refine e_iloadn (pc := 9) (i := 2) dX12_alike_9 rfl rfl ?_
  refine e_aloadn (pc := 10) (i := 0) dX12_alike_10 rfl rfl ?_
  refine f_getr (pc := 11) (u := 32) (q := 0) dX12_alike_11 xf12_7 (sa_32_0 hs) rfl (sr_32_0_1 hs) ?_
  refine e_iconst (pc := 14) dX12_alike_14 (x_R rfl) ?_
  refine f_iald (pc := 15) (k := 0) (u := 32) (q := 1) (len := 772) dX12_alike_15 (sa_32_1 hs) (by decide) hn rfl rfl (by decide) ?_
  show Ev g _ _ _ _ _ _ 16 [some (x_r (16 * 32 + 0)), some (x_i v1), some (x_i v2), none] [x_i ((x_up S 0 0 0) 1 3), x_i v2] (al, ro, fl (ml M [32] [(x_up S 0 0 0)])) _ _ _ _
  refine e_icmp_ge (pc := 16) (tgt := 83) dX12_alike_16 (by decide) (fun hb => ?_) (fun hb => ?_)
  · rw [if_pos hb] at hf4
    cases hf4
    refine e_drop (i := 2) ?_
    have hh := hk4 _ (hx4 _ rfl)
    try dsimp only at hh
    exact hh
  · rw [if_neg hb] at hf4
    refine e_iloadn (pc := 19) (i := 2) dX12_alike_19 rfl rfl ?_
    refine e_iconst (pc := 20) dX12_alike_20 (x_R rfl) ?_
    refine e_iadd (pc := 21) dX12_alike_21 ?_
    refine e_istoren (pc := 22) (i := 3) dX12_alike_22 rfl (by decide) rfl ?_
    show Ev g _ _ _ _ _ _ 23 [some (x_r (16 * 32 + 0)), some (x_i v1), some (x_i v2), some (x_i (x_add v2 1))] [] (al, ro, fl (ml M [32] [(x_up S 0 0 0)])) _ _ _ _
    obtain ⟨v8, hl9, hf4⟩ := x_bd1 hf4
    have hk9 : ∀ q : Int, q = v8 → Ev g yX12_alike cX12_alike 4 (some .int) [] 1 77 [some (x_r (16 * 32 + 0)), some (x_i q), some (x_i v2), none] [] (al, ro, fl (ml M [32] [(x_up S 0 0 0)])) 0 0 (.inl (some (x_i t.1))) (al, ro, fl (ml M [32] [t.2])) := by
      intro q hq
      replace hq := hq.symm
      subst hq
      refine e_iinc (pc := 77) dX12_alike_77 rfl (by decide) rfl ?_
      show Ev g _ _ _ _ _ _ 80 [some (x_r (16 * 32 + 0)), some (x_i v8), some (x_i (x_add v2 1)), none] [] (al, ro, fl (ml M [32] [(x_up S 0 0 0)])) _ _ _ _
      refine e_goto (pc := 80) (tgt := 9) dX12_alike_80 (by decide) ?_
      cases hf4
      have hh := hi4 _ rfl
      try dsimp only at hh
      exact hh
    clear hf4
    refine e_whl (G12_alike_L23 S v2) (fun z : (Int × Int) => Ev g yX12_alike cX12_alike 4 (some .int) [] 1 23 [some (x_r (16 * 32 + 0)), some (x_i z.1), some (x_i v2), some (x_i z.2)] [] (al, ro, fl (ml M [32] [(x_up S 0 0 0)])) 0 0 (.inl (some (x_i t.1))) (al, ro, fl (ml M [32] [t.2]))) (fun q => q = v8) ?_ xFU (v1, (x_add v2 1)) _ hl9 rfl
    intro z t9 hf9 hi9 hx9
    obtain ⟨v6, v7⟩ := z
    rw [G12_alike_L23] at hf9
    show Ev g _ _ _ _ _ _ 23 [some (x_r (16 * 32 + 0)), some (x_i v6), some (x_i v2), some (x_i v7)] [] (al, ro, fl (ml M [32] [(x_up S 0 0 0)])) _ _ _ _
    refine e_iloadn (pc := 23) (i := 3) dX12_alike_23 rfl rfl ?_
    refine e_aloadn (pc := 24) (i := 0) dX12_alike_24 rfl rfl ?_
    refine f_getr (pc := 25) (u := 32) (q := 0) dX12_alike_25 xf12_7 (sa_32_0 hs) rfl (sr_32_0_1 hs) ?_
    refine e_iconst (pc := 28) dX12_alike_28 (x_R rfl) ?_
    refine f_iald (pc := 29) (k := 0) (u := 32) (q := 1) (len := 772) dX12_alike_29 (sa_32_1 hs) (by decide) hn rfl rfl (by decide) ?_
    show Ev g _ _ _ _ _ _ 30 [some (x_r (16 * 32 + 0)), some (x_i v6), some (x_i v2), some (x_i v7)] [x_i ((x_up S 0 0 0) 1 3), x_i v7] (al, ro, fl (ml M [32] [(x_up S 0 0 0)])) _ _ _ _
    refine e_icmp_ge (pc := 30) (tgt := 77) dX12_alike_30 (by decide) (fun hb => ?_) (fun hb => ?_)
    · rw [if_pos hb] at hf9
      cases hf9
      refine e_drop (i := 3) ?_
      have hh := hk9 _ (hx9 _ rfl)
      try dsimp only at hh
      exact hh
    · rw [if_neg hb] at hf9
      refine e_iloadn (pc := 33) (i := 1) dX12_alike_33 rfl rfl ?_
      refine e_aloadn (pc := 34) (i := 0) dX12_alike_34 rfl rfl ?_
      refine e_iloadn (pc := 35) (i := 2) dX12_alike_35 rfl rfl ?_
      refine e_iconst (pc := 36) dX12_alike_36 (x_R rfl) ?_
      obtain ⟨v11, hq11, hf9⟩ := x_bd1 hf9
      refine e_invV (pc := 37) (K1 := 0) (S1 := 0) (K := 0) (S := 0) (dd2 := 0) (av := [x_i v2, x_i 1]) (st := [x_i v6]) (id := 16 * 32 + 0) dX12_alike_37 xmX12_65 rfl (Or.inl ⟨10, 27, TX12, (sa_32_0 hs), rfl, by decide⟩) (f_cal (M := M) (us2 := [32]) [0] hn rfl (And.intro rfl trivial) rfl rfl rfl (c_X12_of hst hs   hq11)) (by decide) (Nat.le_of_ble_eq_true rfl) (Or.inl rfl) ?_
      show Ev g _ _ _ _ _ _ 40 [some (x_r (16 * 32 + 0)), some (x_i v6), some (x_i v2), some (x_i v7)] [x_i v11, x_i v6] (al, ro, fl (ml M [32] [(x_up S 0 0 0)])) _ _ _ _
      refine e_aloadn (pc := 40) (i := 0) dX12_alike_40 rfl rfl ?_
      refine e_iloadn (pc := 41) (i := 3) dX12_alike_41 rfl rfl ?_
      refine e_iconst (pc := 42) dX12_alike_42 (x_R rfl) ?_
      obtain ⟨v13, hq13, hf9⟩ := x_bd1 hf9
      refine e_invV (pc := 43) (K1 := 0) (S1 := 0) (K := 0) (S := 0) (dd2 := 0) (av := [x_i v7, x_i 1]) (st := [x_i v11, x_i v6]) (id := 16 * 32 + 0) dX12_alike_43 xmX12_65 rfl (Or.inl ⟨10, 27, TX12, (sa_32_0 hs), rfl, by decide⟩) (f_cal (M := M) (us2 := [32]) [0] hn rfl (And.intro rfl trivial) rfl rfl rfl (c_X12_of hst hs   hq13)) (by decide) (Nat.le_of_ble_eq_true rfl) (Or.inl rfl) ?_
      show Ev g _ _ _ _ _ _ 46 [some (x_r (16 * 32 + 0)), some (x_i v6), some (x_i v2), some (x_i v7)] [x_i v13, x_i v11, x_i v6] (al, ro, fl (ml M [32] [(x_up S 0 0 0)])) _ _ _ _
      obtain ⟨v15, hr15, hf9⟩ := x_bd1 hf9
      have hjhr15 : Ev g yX12_alike cX12_alike 4 (some .int) [] 1 69 [some (x_r (16 * 32 + 0)), some (x_i v6), some (x_i v2), some (x_i v7)] [x_i v15, x_i v6] (al, ro, fl (ml M [32] [(x_up S 0 0 0)])) 0 0 (.inl (some (x_i t.1))) (al, ro, fl (ml M [32] [t.2])) := by
        refine e_iadd (pc := 69) dX12_alike_69 ?_
        refine e_istoren (pc := 70) (i := 1) dX12_alike_70 rfl (by decide) rfl ?_
        show Ev g _ _ _ _ _ _ 71 [some (x_r (16 * 32 + 0)), some (x_i (x_add v6 v15)), some (x_i v2), some (x_i v7)] [] (al, ro, fl (ml M [32] [(x_up S 0 0 0)])) _ _ _ _
        refine e_iinc (pc := 71) dX12_alike_71 rfl (by decide) rfl ?_
        show Ev g _ _ _ _ _ _ 74 [some (x_r (16 * 32 + 0)), some (x_i (x_add v6 v15)), some (x_i v2), some (x_i (x_add v7 1))] [] (al, ro, fl (ml M [32] [(x_up S 0 0 0)])) _ _ _ _
        refine e_goto (pc := 74) (tgt := 23) dX12_alike_74 (by decide) ?_
        cases hf9
        have hh := hi9 _ rfl
        try dsimp only at hh
        exact hh
      clear hf9
      refine e_icmp_ne (pc := 46) (tgt := 68) dX12_alike_46 (by decide) (fun hb => ?_) (fun hb => ?_)
      · rw [if_neg hb] at hr15
        refine e_iconst (pc := 68) dX12_alike_68 (x_R rfl) ?_
        cases hr15
        exact hjhr15
      · rw [if_pos hb] at hr15
        refine e_aloadn (pc := 49) (i := 0) dX12_alike_49 rfl rfl ?_
        refine e_iloadn (pc := 50) (i := 2) dX12_alike_50 rfl rfl ?_
        refine e_iconst (pc := 51) dX12_alike_51 (x_R rfl) ?_
        obtain ⟨v17, hq17, hr15⟩ := x_bd1 hr15
        refine e_invV (pc := 52) (K1 := 0) (S1 := 0) (K := 0) (S := 0) (dd2 := 0) (av := [x_i v2, x_i 0]) (st := [x_i v6]) (id := 16 * 32 + 0) dX12_alike_52 xmX12_65 rfl (Or.inl ⟨10, 27, TX12, (sa_32_0 hs), rfl, by decide⟩) (f_cal (M := M) (us2 := [32]) [0] hn rfl (And.intro rfl trivial) rfl rfl rfl (c_X12_of hst hs   hq17)) (by decide) (Nat.le_of_ble_eq_true rfl) (Or.inl rfl) ?_
        show Ev g _ _ _ _ _ _ 55 [some (x_r (16 * 32 + 0)), some (x_i v6), some (x_i v2), some (x_i v7)] [x_i v17, x_i v6] (al, ro, fl (ml M [32] [(x_up S 0 0 0)])) _ _ _ _
        refine e_aloadn (pc := 55) (i := 0) dX12_alike_55 rfl rfl ?_
        refine e_iloadn (pc := 56) (i := 3) dX12_alike_56 rfl rfl ?_
        refine e_iconst (pc := 57) dX12_alike_57 (x_R rfl) ?_
        obtain ⟨v19, hq19, hr15⟩ := x_bd1 hr15
        refine e_invV (pc := 58) (K1 := 0) (S1 := 0) (K := 0) (S := 0) (dd2 := 0) (av := [x_i v7, x_i 0]) (st := [x_i v17, x_i v6]) (id := 16 * 32 + 0) dX12_alike_58 xmX12_65 rfl (Or.inl ⟨10, 27, TX12, (sa_32_0 hs), rfl, by decide⟩) (f_cal (M := M) (us2 := [32]) [0] hn rfl (And.intro rfl trivial) rfl rfl rfl (c_X12_of hst hs   hq19)) (by decide) (Nat.le_of_ble_eq_true rfl) (Or.inl rfl) ?_
        show Ev g _ _ _ _ _ _ 61 [some (x_r (16 * 32 + 0)), some (x_i v6), some (x_i v2), some (x_i v7)] [x_i v19, x_i v17, x_i v6] (al, ro, fl (ml M [32] [(x_up S 0 0 0)])) _ _ _ _
        refine e_icmp_ne (pc := 61) (tgt := 68) dX12_alike_61 (by decide) (fun hb => ?_) (fun hb => ?_)
        · rw [if_neg hb] at hr15
          refine e_iconst (pc := 68) dX12_alike_68 (x_R rfl) ?_
          cases hr15
          exact hjhr15
        · rw [if_pos hb] at hr15
          refine e_iconst (pc := 64) dX12_alike_64 (x_R rfl) ?_
          refine e_goto (pc := 65) (tgt := 69) dX12_alike_65 (by decide) ?_
          cases hr15
          exact hjhr15
set_option maxRecDepth 100000 in
set_option maxHeartbeats 4000000 in
theorem c_X12_ahead {g : xG} {al : List (Nat × Nat × Nat)} {ro : Nat → Nat → Option Nat} (hst : g.1.stackTraces = false) (hs : SH al ro) {M : Nat → xU} {a : Int} {b : Int} {c : Int} {S : xU}  {t : (Int × xU)} (hG : G12_ahead a b c S = some t) :
    Cal g yX12_ahead cX12_ahead 6 (some .int) 47 [x_r (16 * 32 + 0), x_i a, x_i b, x_i c] (al, ro, fl (ml M [32] [S])) 0 0 (.inl (some (x_i t.1))) (al, ro, fl (ml M [32] [t.2])) := by
  have hn : ([32] : List Nat).Nodup := by decide
  refine cal_of_ev (plainFor_of_name (by decide)) (x_c1 rfl) (Nat.le_of_ble_eq_true rfl) hst ?_
  show Ev g _ _ _ _ _ _ 0 [some (x_r (16 * 32 + 0)), some (x_i a), some (x_i b), some (x_i c), none, none] [] (al, ro, fl (ml M [32] [S])) _ _ _ _
  rw [G12_ahead] at hG
  refine e_aloadn (pc := 0) (i := 0) dX12_ahead_0 rfl rfl ?_
  refine e_aloadn (pc := 1) (i := 0) dX12_ahead_1 rfl rfl ?_
  refine e_iloadn (pc := 2) (i := 1) dX12_ahead_2 rfl rfl ?_
  obtain ⟨v1, hq1, hG⟩ := x_bd1 hG
  refine e_invV (pc := 3) (K1 := 0) (S1 := 0) (K := 0) (S := 0) (dd2 := 1) (av := [x_i a]) (st := [x_r (16 * 32 + 0)]) (id := 16 * 32 + 0) dX12_ahead_3 xmX12_295 rfl (Or.inl ⟨10, 27, TX12, (sa_32_0 hs), rfl, by decide⟩) (f_cal (M := M) (us2 := [32]) [0] hn rfl (And.intro rfl trivial) rfl rfl rfl (c_X12_isMonk hst hs   hq1)) (by decide) (Nat.le_of_ble_eq_true rfl) (Or.inl rfl) ?_
  show Ev g _ _ _ _ _ _ 6 [some (x_r (16 * 32 + 0)), some (x_i a), some (x_i b), some (x_i c), none, none] [x_i v1, x_r (16 * 32 + 0)] (al, ro, fl (ml M [32] [S])) _ _ _ _
  obtain ⟨v3, hr3, hG⟩ := x_bd1 hG
  have hjhr3 : Ev g yX12_ahead cX12_ahead 6 (some .int) [] 47 41 [some (x_r (16 * 32 + 0)), some (x_i a), some (x_i b), some (x_i c), none, none] [x_i v3, x_r (16 * 32 + 0)] (al, ro, fl (ml M [32] [S])) 0 0 (.inl (some (x_i t.1))) (al, ro, fl (ml M [32] [t.2])) := by
    refine f_puti (pc := 41) (k := 0) (u := 32) (q := 0) dX12_ahead_41 xf12_58 xw10_0 (sa_32_0 hs) hn rfl rfl rfl (by decide) ?_
    show Ev g _ _ _ _ _ _ 44 [some (x_r (16 * 32 + 0)), some (x_i a), some (x_i b), some (x_i c), none, none] [] (al, ro, fl (ml M [32] [(x_up S 0 0 v3)])) _ _ _ _
    refine e_aloadn (pc := 44) (i := 0) dX12_ahead_44 rfl rfl ?_
    refine f_geti (pc := 45) (k := 0) (u := 32) (q := 0) dX12_ahead_45 xf12_58 (sa_32_0 hs) rfl hn rfl rfl (by decide) ?_
    show Ev g _ _ _ _ _ _ 48 [some (x_r (16 * 32 + 0)), some (x_i a), some (x_i b), some (x_i c), none, none] [x_i ((x_up S 0 0 v3) 0 0)] (al, ro, fl (ml M [32] [(x_up S 0 0 v3)])) _ _ _ _
    refine e_if_le (pc := 48) (tgt := 53) dX12_ahead_48 (by decide) (fun hb => ?_) (fun hb => ?_)
    · rw [if_pos hb] at hG
      refine e_aloadn (pc := 53) (i := 0) dX12_ahead_53 rfl rfl ?_
      obtain ⟨S9, hq9, hG⟩ := x_bd1 hG
      refine e_invV (pc := 54) (K1 := 0) (S1 := 0) (K := 0) (S := 0) (dd2 := 0) (av := []) (st := []) (id := 16 * 32 + 0) dX12_ahead_54 xmX12_192 rfl (Or.inl ⟨10, 27, TX12, (sa_32_0 hs), rfl, by decide⟩) (f_cal (M := M) (us2 := [32]) [0] hn rfl (And.intro rfl trivial) rfl rfl rfl (c_X12_putsAside hst hs   hq9)) (by decide) (Nat.le_of_ble_eq_true rfl) (Or.inl rfl) ?_
      show Ev g _ _ _ _ _ _ 57 [some (x_r (16 * 32 + 0)), some (x_i a), some (x_i b), some (x_i c), none, none] [] (al, ro, fl (ml M [32] [S9])) _ _ _ _
      refine e_aloadn (pc := 57) (i := 0) dX12_ahead_57 rfl rfl ?_
      refine e_iloadn (pc := 58) (i := 2) dX12_ahead_58 rfl rfl ?_
      refine e_iconst (pc := 59) dX12_ahead_59 (x_R rfl) ?_
      obtain ⟨v11, S12, hq12, hG⟩ := x_bd2 hG
      refine e_invV (pc := 60) (K1 := 0) (S1 := 0) (K := 0) (S := 0) (dd2 := 46) (av := [x_i b, x_i 0]) (st := []) (id := 16 * 32 + 0) dX12_ahead_60 xmX12_310 rfl (Or.inl ⟨10, 27, TX12, (sa_32_0 hs), rfl, by decide⟩) (f_cal (M := M) (us2 := [32]) [0] hn rfl (And.intro rfl trivial) rfl rfl rfl (c_X12_goes hst hs   hq12)) (by decide) (Nat.le_of_ble_eq_true rfl) (Or.inl rfl) ?_
      show Ev g _ _ _ _ _ _ 63 [some (x_r (16 * 32 + 0)), some (x_i a), some (x_i b), some (x_i c), none, none] [x_i v11] (al, ro, fl (ml M [32] [S12])) _ _ _ _
      refine e_istore (pc := 63) (i := 4) dX12_ahead_63 (by decide) rfl ?_
      show Ev g _ _ _ _ _ _ 65 [some (x_r (16 * 32 + 0)), some (x_i a), some (x_i b), some (x_i c), some (x_i v11), none] [] (al, ro, fl (ml M [32] [S12])) _ _ _ _
      refine e_aloadn (pc := 65) (i := 0) dX12_ahead_65 rfl rfl ?_
      refine e_iloadn (pc := 66) (i := 1) dX12_ahead_66 rfl rfl ?_
      refine e_iloadn (pc := 67) (i := 3) dX12_ahead_67 rfl rfl ?_
      obtain ⟨v14, hr14, hG⟩ := x_bd1 hG
      have hjhr14 : Ev g yX12_ahead cX12_ahead 6 (some .int) [] 47 86 [some (x_r (16 * 32 + 0)), some (x_i a), some (x_i b), some (x_i c), some (x_i v11), none] [x_i v14, x_i a, x_r (16 * 32 + 0)] (al, ro, fl (ml M [32] [S12])) 0 0 (.inl (some (x_i t.1))) (al, ro, fl (ml M [32] [t.2])) := by
        obtain ⟨v16, hq16, hG⟩ := x_bd1 hG
        refine e_invV (pc := 86) (K1 := 0) (S1 := 0) (K := 0) (S := 0) (dd2 := 0) (av := [x_i a, x_i v14]) (st := []) (id := 16 * 32 + 0) dX12_ahead_86 xmX12_65 rfl (Or.inl ⟨10, 27, TX12, (sa_32_0 hs), rfl, by decide⟩) (f_cal (M := M) (us2 := [32]) [0] hn rfl (And.intro rfl trivial) rfl rfl rfl (c_X12_of hst hs   hq16)) (by decide) (Nat.le_of_ble_eq_true rfl) (Or.inl rfl) ?_
        show Ev g _ _ _ _ _ _ 89 [some (x_r (16 * 32 + 0)), some (x_i a), some (x_i b), some (x_i c), some (x_i v11), none] [x_i v16] (al, ro, fl (ml M [32] [S12])) _ _ _ _
        refine e_istore (pc := 89) (i := 5) dX12_ahead_89 (by decide) rfl ?_
        show Ev g _ _ _ _ _ _ 91 [some (x_r (16 * 32 + 0)), some (x_i a), some (x_i b), some (x_i c), some (x_i v11), some (x_i v16)] [] (al, ro, fl (ml M [32] [S12])) _ _ _ _
        refine e_aloadn (pc := 91) (i := 0) dX12_ahead_91 rfl rfl ?_
        obtain ⟨S18, hq18, hG⟩ := x_bd1 hG
        refine e_invV (pc := 92) (K1 := 0) (S1 := 0) (K := 0) (S := 0) (dd2 := 0) (av := []) (st := []) (id := 16 * 32 + 0) dX12_ahead_92 xmX12_201 rfl (Or.inl ⟨10, 27, TX12, (sa_32_0 hs), rfl, by decide⟩) (f_cal (M := M) (us2 := [32]) [0] hn rfl (And.intro rfl trivial) rfl rfl rfl (c_X12_comesBack hst hs   hq18)) (by decide) (Nat.le_of_ble_eq_true rfl) (Or.inl rfl) ?_
        show Ev g _ _ _ _ _ _ 95 [some (x_r (16 * 32 + 0)), some (x_i a), some (x_i b), some (x_i c), some (x_i v11), some (x_i v16)] [] (al, ro, fl (ml M [32] [S18])) _ _ _ _
        refine e_iload (pc := 95) dX12_ahead_95 rfl ?_
        cases hG
        exact (e_ireturn rfl dX12_ahead_97 rfl)
      clear hG
      refine e_if_ne (pc := 68) (tgt := 75) dX12_ahead_68 (by decide) (fun hb => ?_) (fun hb => ?_)
      · rw [if_neg hb] at hr14
        refine e_iloadn (pc := 75) (i := 3) dX12_ahead_75 rfl rfl ?_
        refine e_iconst (pc := 76) dX12_ahead_76 (x_R rfl) ?_
        refine e_icmp_ne (pc := 77) (tgt := 84) dX12_ahead_77 (by decide) (fun hb => ?_) (fun hb => ?_)
        · rw [if_neg hb] at hr14
          refine e_bipush (pc := 84) dX12_ahead_84 (by decide +kernel) (x_R rfl) ?_
          cases hr14
          exact hjhr14
        · rw [if_pos hb] at hr14
          refine e_iconst (pc := 80) dX12_ahead_80 (x_R rfl) ?_
          refine e_goto (pc := 81) (tgt := 86) dX12_ahead_81 (by decide) ?_
          cases hr14
          exact hjhr14
      · rw [if_pos hb] at hr14
        refine e_iconst (pc := 71) dX12_ahead_71 (x_R rfl) ?_
        refine e_goto (pc := 72) (tgt := 86) dX12_ahead_72 (by decide) ?_
        cases hr14
        exact hjhr14
    · rw [if_neg hb] at hG
      refine e_iconst (pc := 51) dX12_ahead_51 (x_R rfl) ?_
      cases hG
      exact (e_ireturn rfl dX12_ahead_52 rfl)
  clear hG
  refine e_if_ne (pc := 6) (tgt := 13) dX12_ahead_6 (by decide) (fun hb => ?_) (fun hb => ?_)
  · rw [if_neg hb] at hr3
    refine e_iloadn (pc := 13) (i := 2) dX12_ahead_13 rfl rfl ?_
    refine e_iconst (pc := 14) dX12_ahead_14 (x_R rfl) ?_
    refine e_bipush (pc := 15) dX12_ahead_15 (by decide +kernel) (x_R rfl) ?_
    obtain ⟨v5, hq5, hr3⟩ := x_bd1 hr3
    refine e_invS (pc := 17) (K1 := 0) (S1 := 0) (K := 0) (S := 0) (dd2 := 0) (av := [x_i b, x_i 0, x_i 72]) (st := [x_r (16 * 32 + 0)]) dX12_ahead_17 xmX12_61 rfl (f_cal (M := M) (us2 := []) [] hn rfl trivial rfl rfl rfl (c_X12_isIn hst hs   hq5)) (by decide) (Nat.le_of_ble_eq_true rfl) (Or.inl rfl) ?_
    show Ev g _ _ _ _ _ _ 20 [some (x_r (16 * 32 + 0)), some (x_i a), some (x_i b), some (x_i c), none, none] [x_i v5, x_r (16 * 32 + 0)] (al, ro, fl (ml M [32] [S])) _ _ _ _
    refine e_if_ne (pc := 20) (tgt := 27) dX12_ahead_20 (by decide) (fun hb => ?_) (fun hb => ?_)
    · rw [if_neg hb] at hr3
      refine e_iloadn (pc := 27) (i := 3) dX12_ahead_27 rfl rfl ?_
      refine e_iconst (pc := 28) dX12_ahead_28 (x_R rfl) ?_
      refine e_iconst (pc := 29) dX12_ahead_29 (x_R rfl) ?_
      obtain ⟨v7, hq7, hr3⟩ := x_bd1 hr3
      refine e_invS (pc := 30) (K1 := 0) (S1 := 0) (K := 0) (S := 0) (dd2 := 0) (av := [x_i c, x_i 0, x_i 2]) (st := [x_r (16 * 32 + 0)]) dX12_ahead_30 xmX12_61 rfl (f_cal (M := M) (us2 := []) [] hn rfl trivial rfl rfl rfl (c_X12_isIn hst hs   hq7)) (by decide) (Nat.le_of_ble_eq_true rfl) (Or.inl rfl) ?_
      show Ev g _ _ _ _ _ _ 33 [some (x_r (16 * 32 + 0)), some (x_i a), some (x_i b), some (x_i c), none, none] [x_i v7, x_r (16 * 32 + 0)] (al, ro, fl (ml M [32] [S])) _ _ _ _
      refine e_if_ne (pc := 33) (tgt := 40) dX12_ahead_33 (by decide) (fun hb => ?_) (fun hb => ?_)
      · rw [if_neg hb] at hr3
        refine e_iconst (pc := 40) dX12_ahead_40 (x_R rfl) ?_
        cases hr3
        exact hjhr3
      · rw [if_pos hb] at hr3
        refine e_iconst (pc := 36) dX12_ahead_36 (x_R rfl) ?_
        refine e_goto (pc := 37) (tgt := 41) dX12_ahead_37 (by decide) ?_
        cases hr3
        exact hjhr3
    · rw [if_pos hb] at hr3
      refine e_iconst (pc := 23) dX12_ahead_23 (x_R rfl) ?_
      refine e_goto (pc := 24) (tgt := 41) dX12_ahead_24 (by decide) ?_
      cases hr3
      exact hjhr3
  · rw [if_pos hb] at hr3
    refine e_iconst (pc := 9) dX12_ahead_9 (x_R rfl) ?_
    refine e_goto (pc := 10) (tgt := 41) dX12_ahead_10 (by decide) ?_
    cases hr3
    exact hjhr3
