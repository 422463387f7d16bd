set_option maxRecDepth 100000 in
set_option maxHeartbeats 4000000 in
theorem c_X12_road {g : xG} {al : List (Nat × Nat × Nat)} {ro : Nat → Nat → Option Nat} (hst : g.1.stackTraces = false) (hs : SH al ro) {M : Nat → xU} {a : Int} {b : Int} {S : xU}  {t : (Int × xU)} (hG : G12_road a b S = some t) :
    Cal g yX12_road cX12_road 8 (some .int) 4 [x_r (16 * 32 + 0), x_i a, x_i b] (al, ro, fl (ml M [32] [S])) 0 0 (.inl (some (x_i t.1))) (al, ro, fl (ml M [32] [t.2])) := by
  have hn : ([32] : List Nat).Nodup := by decide
  refine cal_of_ev (plainFor_of_name (by decide)) (x_c1 rfl) (Nat.le_of_ble_eq_true rfl) hst ?_
  show Ev g _ _ _ _ _ _ 0 [some (x_r (16 * 32 + 0)), some (x_i a), some (x_i b), none, none, none, none, none] [] (al, ro, fl (ml M [32] [S])) _ _ _ _
  rw [G12_road] at hG
  refine e_aloadn (pc := 0) (i := 0) dX12_road_0 rfl rfl ?_
  refine f_geti (pc := 1) (k := 0) (u := 32) (q := 0) dX12_road_1 xf12_76 (sa_32_0 hs) rfl hn rfl rfl (by decide) ?_
  show Ev g _ _ _ _ _ _ 4 [some (x_r (16 * 32 + 0)), some (x_i a), some (x_i b), none, none, none, none, none] [x_i (S 0 8)] (al, ro, fl (ml M [32] [S])) _ _ _ _
  refine e_istoren (pc := 4) (i := 3) dX12_road_4 rfl (by decide) rfl ?_
  show Ev g _ _ _ _ _ _ 5 [some (x_r (16 * 32 + 0)), some (x_i a), some (x_i b), some (x_i (S 0 8)), none, none, none, none] [] (al, ro, fl (ml M [32] [S])) _ _ _ _
  refine e_aloadn (pc := 5) (i := 0) dX12_road_5 rfl rfl ?_
  refine e_iconst (pc := 6) dX12_road_6 (x_R rfl) ?_
  refine f_puti (pc := 7) (k := 0) (u := 32) (q := 0) dX12_road_7 xf12_76 xw10_8 (sa_32_0 hs) hn rfl rfl rfl (by decide) ?_
  show Ev g _ _ _ _ _ _ 10 [some (x_r (16 * 32 + 0)), some (x_i a), some (x_i b), some (x_i (S 0 8)), none, none, none, none] [] (al, ro, fl (ml M [32] [(x_up S 0 8 0)])) _ _ _ _
  refine e_aloadn (pc := 10) (i := 0) dX12_road_10 rfl rfl ?_
  refine e_iloadn (pc := 11) (i := 1) dX12_road_11 rfl rfl ?_
  obtain ⟨v1, hq1, hG⟩ := x_bd1 hG
  refine e_invS (pc := 12) (K1 := 0) (S1 := 0) (K := 0) (S := 0) (dd2 := 1) (av := [x_i a]) (st := [x_r (16 * 32 + 0)]) dX12_road_12 xmX12_304 rfl (f_cal (M := M) (us2 := []) [] hn rfl trivial rfl rfl rfl (c_X12_isFlag hst hs   hq1)) (by decide) (Nat.le_of_ble_eq_true rfl) (Or.inl rfl) ?_
  show Ev g _ _ _ _ _ _ 15 [some (x_r (16 * 32 + 0)), some (x_i a), some (x_i b), some (x_i (S 0 8)), none, none, none, none] [x_i v1, x_r (16 * 32 + 0)] (al, ro, fl (ml M [32] [(x_up S 0 8 0)])) _ _ _ _
  obtain ⟨v3, hr3, hG⟩ := x_bd1 hG
  have hjhr3 : Ev g yX12_road cX12_road 8 (some .int) [] 4 35 [some (x_r (16 * 32 + 0)), some (x_i a), some (x_i b), some (x_i (S 0 8)), none, none, none, none] [x_i v3, x_r (16 * 32 + 0)] (al, ro, fl (ml M [32] [(x_up S 0 8 0)])) 0 0 (.inl (some (x_i t.1))) (al, ro, fl (ml M [32] [t.2])) := by
    refine f_puti (pc := 35) (k := 0) (u := 32) (q := 0) dX12_road_35 xf12_58 xw10_0 (sa_32_0 hs) hn rfl rfl rfl (by decide) ?_
    show Ev g _ _ _ _ _ _ 38 [some (x_r (16 * 32 + 0)), some (x_i a), some (x_i b), some (x_i (S 0 8)), none, none, none, none] [] (al, ro, fl (ml M [32] [(x_up (x_up S 0 8 0) 0 0 v3)])) _ _ _ _
    refine e_aloadn (pc := 38) (i := 0) dX12_road_38 rfl rfl ?_
    refine f_geti (pc := 39) (k := 0) (u := 32) (q := 0) dX12_road_39 xf12_58 (sa_32_0 hs) rfl hn rfl rfl (by decide) ?_
    show Ev g _ _ _ _ _ _ 42 [some (x_r (16 * 32 + 0)), some (x_i a), some (x_i b), some (x_i (S 0 8)), none, none, none, none] [x_i ((x_up (x_up S 0 8 0) 0 0 v3) 0 0)] (al, ro, fl (ml M [32] [(x_up (x_up S 0 8 0) 0 0 v3)])) _ _ _ _
    refine e_if_le (pc := 42) (tgt := 47) dX12_road_42 (by decide) (fun hb => ?_) (fun hb => ?_)
    · rw [if_pos hb] at hG
      refine e_iloadn (pc := 47) (i := 3) dX12_road_47 rfl rfl ?_
      refine e_if_ne (pc := 48) (tgt := 61) dX12_road_48 (by decide) (fun hb => ?_) (fun hb => ?_)
      · rw [if_neg hb] at hG
        refine e_aloadn (pc := 61) (i := 0) dX12_road_61 rfl rfl ?_
        refine e_iloadn (pc := 62) (i := 3) dX12_road_62 rfl rfl ?_
        obtain ⟨S7, hq7, hG⟩ := x_bd1 hG
        refine e_invV (pc := 63) (K1 := 0) (S1 := 0) (K := 0) (S := 0) (dd2 := 3) (av := [x_i (S 0 8)]) (st := []) (id := 16 * 32 + 0) dX12_road_63 xmX12_340 rfl (Or.inl ⟨10, 27, TX12, (sa_32_0 hs), rfl, by decide⟩) (f_cal (M := M) (us2 := [32]) [0] hn rfl (And.intro rfl trivial) rfl rfl rfl (c_X12_roadsOf hst hs   hq7)) (by decide) (Nat.le_of_ble_eq_true rfl) (Or.inl rfl) ?_
        show Ev g _ _ _ _ _ _ 66 [some (x_r (16 * 32 + 0)), some (x_i a), some (x_i b), some (x_i (S 0 8)), none, none, none, none] [] (al, ro, fl (ml M [32] [S7])) _ _ _ _
        refine e_ldcw (pc := 66) dX12_road_66 xkX12_327 (x_R rfl) ?_
        refine e_istore (pc := 69) (i := 4) dX12_road_69 (by decide) rfl ?_
        show Ev g _ _ _ _ _ _ 71 [some (x_r (16 * 32 + 0)), some (x_i a), some (x_i b), some (x_i (S 0 8)), some (x_i 2000000000), none, none, none] [] (al, ro, fl (ml M [32] [S7])) _ _ _ _
        refine e_bipush (pc := 71) dX12_road_71 (by decide +kernel) (x_R rfl) ?_
        refine e_istore (pc := 73) (i := 5) dX12_road_73 (by decide) rfl ?_
        show Ev g _ _ _ _ _ _ 75 [some (x_r (16 * 32 + 0)), some (x_i a), some (x_i b), some (x_i (S 0 8)), some (x_i 2000000000), some (x_i 16), none, none] [] (al, ro, fl (ml M [32] [S7])) _ _ _ _
        refine e_iconst (pc := 75) dX12_road_75 (x_R rfl) ?_
        refine e_istore (pc := 76) (i := 6) dX12_road_76 (by decide) rfl ?_
        show Ev g _ _ _ _ _ _ 78 [some (x_r (16 * 32 + 0)), some (x_i a), some (x_i b), some (x_i (S 0 8)), some (x_i 2000000000), some (x_i 16), some (x_i 0), none] [] (al, ro, fl (ml M [32] [S7])) _ _ _ _
        obtain ⟨v12, v13, hl14, hG⟩ := x_bd2 hG
        have hk14 : ∀ q : (Int × Int), q = (v12, v13) → Ev g yX12_road cX12_road 8 (some .int) [] 4 161 [some (x_r (16 * 32 + 0)), some (x_i a), some (x_i b), some (x_i (S 0 8)), some (x_i q.1), some (x_i q.2), none, none] [] (al, ro, fl (ml M [32] [S7])) 0 0 (.inl (some (x_i t.1))) (al, ro, fl (ml M [32] [t.2])) := by
          intro q hq
          cases hq
          refine e_iloadn (pc := 161) (i := 2) dX12_road_161 rfl rfl ?_
          obtain ⟨v26, hr26, hG⟩ := x_bd1 hG
          have hjhr26 : Ev g yX12_road cX12_road 8 (some .int) [] 4 172 [some (x_r (16 * 32 + 0)), some (x_i a), some (x_i b), some (x_i (S 0 8)), some (x_i v12), some (x_i v13), none, none] [x_i v26] (al, ro, fl (ml M [32] [S7])) 0 0 (.inl (some (x_i t.1))) (al, ro, fl (ml M [32] [t.2])) := by
            cases hG
            exact (e_ireturn rfl dX12_road_172 rfl)
          clear hG
          refine e_if_eq (pc := 162) (tgt := 170) dX12_road_162 (by decide) (fun hb => ?_) (fun hb => ?_)
          · rw [if_pos hb] at hr26
            refine e_iload (pc := 170) dX12_road_170 rfl ?_
            cases hr26
            exact hjhr26
          · rw [if_neg hb] at hr26
            refine e_iload (pc := 165) dX12_road_165 rfl ?_
            refine e_goto (pc := 167) (tgt := 172) dX12_road_167 (by decide) ?_
            cases hr26
            exact hjhr26
        clear hG
        refine e_whl (G12_road_L78 a S S7) (fun z : (Int × Int × Int) => Ev g yX12_road cX12_road 8 (some .int) [] 4 78 [some (x_r (16 * 32 + 0)), some (x_i a), some (x_i b), some (x_i (S 0 8)), some (x_i z.1), some (x_i z.2.1), some (x_i z.2.2), none] [] (al, ro, fl (ml M [32] [S7])) 0 0 (.inl (some (x_i t.1))) (al, ro, fl (ml M [32] [t.2]))) (fun q => q = (v12, v13)) ?_ xFU (2000000000, 16, 0) _ hl14 rfl
        intro z t14 hf14 hi14 hx14
        obtain ⟨v9, v10, v11⟩ := z
        rw [G12_road_L78] at hf14
        show Ev g _ _ _ _ _ _ 78 [some (x_r (16 * 32 + 0)), some (x_i a), some (x_i b), some (x_i (S 0 8)), some (x_i v9), some (x_i v10), some (x_i v11), none] [] (al, ro, fl (ml M [32] [S7])) _ _ _ _
        refine e_iload (pc := 78) dX12_road_78 rfl ?_
        refine e_iloadn (pc := 80) (i := 3) dX12_road_80 rfl rfl ?_
        refine e_icmp_ge (pc := 81) (tgt := 161) dX12_road_81 (by decide) (fun hb => ?_) (fun hb => ?_)
        · rw [if_pos hb] at hf14
          cases hf14
          refine e_drop (i := 6) ?_
          have hh := hk14 _ (hx14 _ rfl)
          try dsimp only at hh
          exact hh
        · rw [if_neg hb] at hf14
          refine e_aloadn (pc := 84) (i := 0) dX12_road_84 rfl rfl ?_
          refine e_iloadn (pc := 85) (i := 1) dX12_road_85 rfl rfl ?_
          refine e_aloadn (pc := 86) (i := 0) dX12_road_86 rfl rfl ?_
          refine f_getr (pc := 87) (u := 32) (q := 0) dX12_road_87 xf12_22 (sa_32_0 hs) rfl (sr_32_0_7 hs) ?_
          refine e_iload (pc := 90) dX12_road_90 rfl ?_
          obtain ⟨hc0, hf14⟩ := x_gd_some hf14
          refine f_iald (pc := 92) (k := 0) (u := 32) (q := 5) (len := 400) dX12_road_92 (sa_32_5 hs) hc0 hn rfl rfl (by decide) ?_
          show Ev g _ _ _ _ _ _ 93 [some (x_r (16 * 32 + 0)), some (x_i a), some (x_i b), some (x_i (S 0 8)), some (x_i v9), some (x_i v10), some (x_i v11), none] [x_i (S7 5 (v11).toNat), x_i a, x_r (16 * 32 + 0)] (al, ro, fl (ml M [32] [S7])) _ _ _ _
          obtain ⟨v16, hq16, hf14⟩ := x_bd1 hf14
          refine e_invV (pc := 93) (K1 := 0) (S1 := 0) (K := 0) (S := 0) (dd2 := 2) (av := [x_i a, x_i (S7 5 (v11).toNat)]) (st := []) (id := 16 * 32 + 0) dX12_road_93 xmX12_334 rfl (Or.inl ⟨10, 27, TX12, (sa_32_0 hs), rfl, by decide⟩) (f_cal (M := M) (us2 := [32]) [0] hn rfl (And.intro rfl trivial) rfl rfl rfl (c_X12_farOf hst hs   hq16)) (by decide) (Nat.le_of_ble_eq_true rfl) (Or.inl rfl) ?_
          show Ev g _ _ _ _ _ _ 96 [some (x_r (16 * 32 + 0)), some (x_i a), some (x_i b), some (x_i (S 0 8)), some (x_i v9), some (x_i v10), some (x_i v11), none] [x_i v16] (al, ro, fl (ml M [32] [S7])) _ _ _ _
          refine e_aloadn (pc := 96) (i := 0) dX12_road_96 rfl rfl ?_
          refine f_getr (pc := 97) (u := 32) (q := 0) dX12_road_97 xf12_42 (sa_32_0 hs) rfl (sr_32_0_22 hs) ?_
          refine e_bipush (pc := 100) dX12_road_100 (by decide +kernel) (x_R rfl) ?_
          refine e_iconst (pc := 102) dX12_road_102 (x_R rfl) ?_
          refine e_iload (pc := 103) dX12_road_103 rfl ?_
          refine e_ishl (pc := 105) dX12_road_105 ?_
          refine e_imul (pc := 106) dX12_road_106 ?_
          refine e_iload (pc := 107) dX12_road_107 rfl ?_
          refine e_iadd (pc := 109) dX12_road_109 ?_
          obtain ⟨hc0, hf14⟩ := x_gd_some hf14
          refine f_iald (pc := 110) (k := 0) (u := 32) (q := 10) (len := 1024) dX12_road_110 (sa_32_10 hs) hc0 hn rfl rfl (by decide) ?_
          show Ev g _ _ _ _ _ _ 111 [some (x_r (16 * 32 + 0)), some (x_i a), some (x_i b), some (x_i (S 0 8)), some (x_i v9), some (x_i v10), some (x_i v11), none] [x_i (S7 10 ((x_add (x_mul 8 (x_shl 1 v11)) v11)).toNat), x_i v16] (al, ro, fl (ml M [32] [S7])) _ _ _ _
          refine e_iadd (pc := 111) dX12_road_111 ?_
          refine e_istore (pc := 112) (i := 7) dX12_road_112 (by decide) rfl ?_
          show Ev g _ _ _ _ _ _ 114 [some (x_r (16 * 32 + 0)), some (x_i a), some (x_i b), some (x_i (S 0 8)), some (x_i v9), some (x_i v10), some (x_i v11), some (x_i (x_add v16 (S7 10 ((x_add (x_mul 8 (x_shl 1 v11)) v11)).toNat)))] [] (al, ro, fl (ml M [32] [S7])) _ _ _ _
          refine e_iload (pc := 114) dX12_road_114 rfl ?_
          refine e_iload (pc := 116) dX12_road_116 rfl ?_
          obtain ⟨v18, hr18, hf14⟩ := x_bd1 hf14
          have hjhr18 : Ev g yX12_road cX12_road 8 (some .int) [] 4 125 [some (x_r (16 * 32 + 0)), some (x_i a), some (x_i b), some (x_i (S 0 8)), some (x_i v9), some (x_i v18), some (x_i v11), some (x_i (x_add v16 (S7 10 ((x_add (x_mul 8 (x_shl 1 v11)) v11)).toNat)))] [] (al, ro, fl (ml M [32] [S7])) 0 0 (.inl (some (x_i t.1))) (al, ro, fl (ml M [32] [t.2])) := by
            refine e_iload (pc := 125) dX12_road_125 rfl ?_
            refine e_iload (pc := 127) dX12_road_127 rfl ?_
            obtain ⟨v20, hr20, hf14⟩ := x_bd1 hf14
            have hjhr20 : Ev g yX12_road cX12_road 8 (some .int) [] 4 146 [some (x_r (16 * 32 + 0)), some (x_i a), some (x_i b), some (x_i (S 0 8)), some (x_i v9), some (x_i v20), some (x_i v11), some (x_i (x_add v16 (S7 10 ((x_add (x_mul 8 (x_shl 1 v11)) v11)).toNat)))] [] (al, ro, fl (ml M [32] [S7])) 0 0 (.inl (some (x_i t.1))) (al, ro, fl (ml M [32] [t.2])) := by
              refine e_iload (pc := 146) dX12_road_146 rfl ?_
              refine e_iload (pc := 148) dX12_road_148 rfl ?_
              obtain ⟨v24, hq24, hf14⟩ := x_bd1 hf14
              refine e_invS (pc := 150) (K1 := 0) (S1 := 0) (K := 0) (S := 0) (dd2 := 0) (av := [x_i v9, x_i (x_add v16 (S7 10 ((x_add (x_mul 8 (x_shl 1 v11)) v11)).toNat))]) (st := []) dX12_road_150 xmX12_73 rfl (f_cal (M := M) (us2 := []) [] hn rfl trivial rfl rfl rfl (c_X12_lesser hst hs   hq24)) (by decide) (Nat.le_of_ble_eq_true rfl) (Or.inl rfl) ?_
              show Ev g _ _ _ _ _ _ 153 [some (x_r (16 * 32 + 0)), some (x_i a), some (x_i b), some (x_i (S 0 8)), some (x_i v9), some (x_i v20), some (x_i v11), some (x_i (x_add v16 (S7 10 ((x_add (x_mul 8 (x_shl 1 v11)) v11)).toNat)))] [x_i v24] (al, ro, fl (ml M [32] [S7])) _ _ _ _
              refine e_istore (pc := 153) (i := 4) dX12_road_153 (by decide) rfl ?_
              show Ev g _ _ _ _ _ _ 155 [some (x_r (16 * 32 + 0)), some (x_i a), some (x_i b), some (x_i (S 0 8)), some (x_i v24), some (x_i v20), some (x_i v11), some (x_i (x_add v16 (S7 10 ((x_add (x_mul 8 (x_shl 1 v11)) v11)).toNat)))] [] (al, ro, fl (ml M [32] [S7])) _ _ _ _
              refine e_iinc (pc := 155) dX12_road_155 rfl (by decide) rfl ?_
              show Ev g _ _ _ _ _ _ 158 [some (x_r (16 * 32 + 0)), some (x_i a), some (x_i b), some (x_i (S 0 8)), some (x_i v24), some (x_i v20), some (x_i (x_add v11 1)), some (x_i (x_add v16 (S7 10 ((x_add (x_mul 8 (x_shl 1 v11)) v11)).toNat)))] [] (al, ro, fl (ml M [32] [S7])) _ _ _ _
              refine e_goto (pc := 158) (tgt := 78) dX12_road_158 (by decide) ?_
              cases hf14
              refine e_drop (i := 7) ?_
              have hh := hi14 _ rfl
              try dsimp only at hh
              exact hh
            clear hf14
            refine e_icmp_gt (pc := 129) (tgt := 146) dX12_road_129 (by decide) (fun hb => ?_) (fun hb => ?_)
            · rw [if_pos hb] at hr20
              cases hr20
              exact hjhr20
            · rw [if_neg hb] at hr20
              refine e_iload (pc := 132) dX12_road_132 rfl ?_
              refine e_aloadn (pc := 134) (i := 0) dX12_road_134 rfl rfl ?_
              refine f_getr (pc := 135) (u := 32) (q := 0) dX12_road_135 xf12_22 (sa_32_0 hs) rfl (sr_32_0_7 hs) ?_
              refine e_iload (pc := 138) dX12_road_138 rfl ?_
              obtain ⟨hc0, hr20⟩ := x_gd_some hr20
              refine f_iald (pc := 140) (k := 0) (u := 32) (q := 5) (len := 400) dX12_road_140 (sa_32_5 hs) hc0 hn rfl rfl (by decide) ?_
              show Ev g _ _ _ _ _ _ 141 [some (x_r (16 * 32 + 0)), some (x_i a), some (x_i b), some (x_i (S 0 8)), some (x_i v9), some (x_i v18), some (x_i v11), some (x_i (x_add v16 (S7 10 ((x_add (x_mul 8 (x_shl 1 v11)) v11)).toNat)))] [x_i (S7 5 (v11).toNat), x_i v18] (al, ro, fl (ml M [32] [S7])) _ _ _ _
              obtain ⟨v22, hq22, hr20⟩ := x_bd1 hr20
              refine e_invS (pc := 141) (K1 := 0) (S1 := 0) (K := 0) (S := 0) (dd2 := 0) (av := [x_i v18, x_i (S7 5 (v11).toNat)]) (st := []) dX12_road_141 xmX12_73 rfl (f_cal (M := M) (us2 := []) [] hn rfl trivial rfl rfl rfl (c_X12_lesser hst hs   hq22)) (by decide) (Nat.le_of_ble_eq_true rfl) (Or.inl rfl) ?_
              show Ev g _ _ _ _ _ _ 144 [some (x_r (16 * 32 + 0)), some (x_i a), some (x_i b), some (x_i (S 0 8)), some (x_i v9), some (x_i v18), some (x_i v11), some (x_i (x_add v16 (S7 10 ((x_add (x_mul 8 (x_shl 1 v11)) v11)).toNat)))] [x_i v22] (al, ro, fl (ml M [32] [S7])) _ _ _ _
              refine e_istore (pc := 144) (i := 5) dX12_road_144 (by decide) rfl ?_
              show Ev g _ _ _ _ _ _ 146 [some (x_r (16 * 32 + 0)), some (x_i a), some (x_i b), some (x_i (S 0 8)), some (x_i v9), some (x_i v22), some (x_i v11), some (x_i (x_add v16 (S7 10 ((x_add (x_mul 8 (x_shl 1 v11)) v11)).toNat)))] [] (al, ro, fl (ml M [32] [S7])) _ _ _ _
              cases hr20
              exact hjhr20
          clear hf14
          refine e_icmp_ge (pc := 118) (tgt := 125) dX12_road_118 (by decide) (fun hb => ?_) (fun hb => ?_)
          · rw [if_pos hb] at hr18
            cases hr18
            exact hjhr18
          · rw [if_neg hb] at hr18
            refine e_bipush (pc := 121) dX12_road_121 (by decide +kernel) (x_R rfl) ?_
            refine e_istore (pc := 123) (i := 5) dX12_road_123 (by decide) rfl ?_
            show Ev g _ _ _ _ _ _ 125 [some (x_r (16 * 32 + 0)), some (x_i a), some (x_i b), some (x_i (S 0 8)), some (x_i v9), some (x_i 16), some (x_i v11), some (x_i (x_add v16 (S7 10 ((x_add (x_mul 8 (x_shl 1 v11)) v11)).toNat)))] [] (al, ro, fl (ml M [32] [S7])) _ _ _ _
            cases hr18
            exact hjhr18
      · rw [if_pos hb] at hG
        refine e_iloadn (pc := 51) (i := 2) dX12_road_51 rfl rfl ?_
        obtain ⟨v28, hr28, hG⟩ := x_bd1 hG
        have hjhr28 : Ev g yX12_road cX12_road 8 (some .int) [] 4 60 [some (x_r (16 * 32 + 0)), some (x_i a), some (x_i b), some (x_i (S 0 8)), none, none, none, none] [x_i v28] (al, ro, fl (ml M [32] [(x_up (x_up S 0 8 0) 0 0 v3)])) 0 0 (.inl (some (x_i t.1))) (al, ro, fl (ml M [32] [t.2])) := by
          cases hG
          exact (e_ireturn rfl dX12_road_60 rfl)
        clear hG
        refine e_if_eq (pc := 52) (tgt := 59) dX12_road_52 (by decide) (fun hb => ?_) (fun hb => ?_)
        · rw [if_pos hb] at hr28
          refine e_iconst (pc := 59) dX12_road_59 (x_R rfl) ?_
          cases hr28
          exact hjhr28
        · rw [if_neg hb] at hr28
          refine e_iconst (pc := 55) dX12_road_55 (x_R rfl) ?_
          refine e_goto (pc := 56) (tgt := 60) dX12_road_56 (by decide) ?_
          cases hr28
          exact hjhr28
    · rw [if_neg hb] at hG
      refine e_iconst (pc := 45) dX12_road_45 (x_R rfl) ?_
      cases hG
      exact (e_ireturn rfl dX12_road_46 rfl)
  clear hG
  refine e_if_ne (pc := 15) (tgt := 22) dX12_road_15 (by decide) (fun hb => ?_) (fun hb => ?_)
  · rw [if_neg hb] at hr3
    refine e_aloadn (pc := 22) (i := 0) dX12_road_22 rfl rfl ?_
    refine e_iloadn (pc := 23) (i := 3) dX12_road_23 rfl rfl ?_
    obtain ⟨v5, hq5, hr3⟩ := x_bd1 hr3
    refine e_invV (pc := 24) (K1 := 0) (S1 := 0) (K := 0) (S := 0) (dd2 := 1) (av := [x_i (S 0 8)]) (st := [x_r (16 * 32 + 0)]) (id := 16 * 32 + 0) dX12_road_24 xmX12_337 rfl (Or.inl ⟨10, 27, TX12, (sa_32_0 hs), rfl, by decide⟩) (f_cal (M := M) (us2 := [32]) [0] hn rfl (And.intro rfl trivial) rfl rfl rfl (c_X12_areFlags hst hs   hq5)) (by decide) (Nat.le_of_ble_eq_true rfl) (Or.inl rfl) ?_
    show Ev g _ _ _ _ _ _ 27 [some (x_r (16 * 32 + 0)), some (x_i a), some (x_i b), some (x_i (S 0 8)), none, none, none, none] [x_i v5, x_r (16 * 32 + 0)] (al, ro, fl (ml M [32] [(x_up S 0 8 0)])) _ _ _ _
    refine e_if_ne (pc := 27) (tgt := 34) dX12_road_27 (by decide) (fun hb => ?_) (fun hb => ?_)
    · rw [if_neg hb] at hr3
      refine e_iconst (pc := 34) dX12_road_34 (x_R rfl) ?_
      cases hr3
      exact hjhr3
    · rw [if_pos hb] at hr3
      refine e_iconst (pc := 30) dX12_road_30 (x_R rfl) ?_
      refine e_goto (pc := 31) (tgt := 35) dX12_road_31 (by decide) ?_
      cases hr3
      exact hjhr3
  · rw [if_pos hb] at hr3
    refine e_iconst (pc := 18) dX12_road_18 (x_R rfl) ?_
    refine e_goto (pc := 19) (tgt := 35) dX12_road_19 (by decide) ?_
    cases hr3
    exact hjhr3
set_option maxRecDepth 100000 in
set_option maxHeartbeats 4000000 in
theorem c_X12_seatsOf {g : xG} {al : List (Nat × Nat × Nat)} {ro : Nat → Nat → Option Nat} (hst : g.1.stackTraces = false) (hs : SH al ro) {M : Nat → xU} {S : xU}  {t : xU} (hG : G12_seatsOf S = some t) :
    Cal g yX12_seatsOf cX12_seatsOf 6 none 1 [x_r (16 * 32 + 0)] (al, ro, fl (ml M [32] [S])) 0 0 (.inl none) (al, ro, fl (ml M [32] [t])) := by
  have hn : ([32] : List Nat).Nodup := by decide
  refine cal_of_ev (plainFor_of_name (by decide)) (x_c1 rfl) (Nat.le_of_ble_eq_true rfl) hst ?_
  show Ev g _ _ _ _ _ _ 0 [some (x_r (16 * 32 + 0)), none, none, none, none, none] [] (al, ro, fl (ml M [32] [S])) _ _ _ _
  rw [G12_seatsOf] at hG
  refine e_iconst (pc := 0) dX12_seatsOf_0 (x_R rfl) ?_
  refine e_istoren (pc := 1) (i := 1) dX12_seatsOf_1 rfl (by decide) rfl ?_
  show Ev g _ _ _ _ _ _ 2 [some (x_r (16 * 32 + 0)), some (x_i 0), none, none, none, none] [] (al, ro, fl (ml M [32] [S])) _ _ _ _
  obtain ⟨S3, hl4, hG⟩ := x_bd1 hG
  have hk4 : ∀ q : xU, q = S3 → Ev g yX12_seatsOf cX12_seatsOf 6 none [] 1 33 [some (x_r (16 * 32 + 0)), none, none, none, none, none] [] (al, ro, fl (ml M [32] [q])) 0 0 (.inl none) (al, ro, fl (ml M [32] [t])) := by
    intro q hq
    replace hq := hq.symm
    subst hq
    refine e_aloadn (pc := 33) (i := 0) dX12_seatsOf_33 rfl rfl ?_
    refine f_getr (pc := 34) (u := 32) (q := 0) dX12_seatsOf_34 xf12_7 (sa_32_0 hs) rfl (sr_32_0_1 hs) ?_
    refine e_iconst (pc := 37) dX12_seatsOf_37 (x_R rfl) ?_
    refine f_iald (pc := 38) (k := 0) (u := 32) (q := 1) (len := 772) dX12_seatsOf_38 (sa_32_1 hs) (by decide) hn rfl rfl (by decide) ?_
    show Ev g _ _ _ _ _ _ 39 [some (x_r (16 * 32 + 0)), none, none, none, none, none] [x_i (S3 1 3)] (al, ro, fl (ml M [32] [S3])) _ _ _ _
    refine e_iconst (pc := 39) dX12_seatsOf_39 (x_R rfl) ?_
    refine e_isub (pc := 40) dX12_seatsOf_40 ?_
    refine e_istoren (pc := 41) (i := 1) dX12_seatsOf_41 rfl (by decide) rfl ?_
    show Ev g _ _ _ _ _ _ 42 [some (x_r (16 * 32 + 0)), some (x_i (x_sub (S3 1 3) 1)), none, none, none, none] [] (al, ro, fl (ml M [32] [S3])) _ _ _ _
    obtain ⟨S8, hl9, hG⟩ := x_bd1 hG
    have hk9 : ∀ q : xU, q = S8 → Ev g yX12_seatsOf cX12_seatsOf 6 none [] 1 159 [some (x_r (16 * 32 + 0)), none, none, none, none, none] [] (al, ro, fl (ml M [32] [q])) 0 0 (.inl none) (al, ro, fl (ml M [32] [t])) := by
      intro q hq
      replace hq := hq.symm
      subst hq
      cases hG
      exact (e_return rfl dX12_seatsOf_159)
    clear hG
    refine e_whl G12_seatsOf_L42 (fun z : (Int × xU) => Ev g yX12_seatsOf cX12_seatsOf 6 none [] 1 42 [some (x_r (16 * 32 + 0)), some (x_i z.1), none, none, none, none] [] (al, ro, fl (ml M [32] [z.2])) 0 0 (.inl none) (al, ro, fl (ml M [32] [t]))) (fun q => q = S8) ?_ xFU ((x_sub (S3 1 3) 1), S3) _ hl9 rfl
    intro z t9 hf9 hi9 hx9
    obtain ⟨v6, S7⟩ := z
    rw [G12_seatsOf_L42] at hf9
    show Ev g _ _ _ _ _ _ 42 [some (x_r (16 * 32 + 0)), some (x_i v6), none, none, none, none] [] (al, ro, fl (ml M [32] [S7])) _ _ _ _
    refine e_iloadn (pc := 42) (i := 1) dX12_seatsOf_42 rfl rfl ?_
    refine e_if_lt (pc := 43) (tgt := 159) dX12_seatsOf_43 (by decide) (fun hb => ?_) (fun hb => ?_)
    · rw [if_pos hb] at hf9
      cases hf9
      refine e_drop (i := 1) ?_
      have hh := hk9 _ (hx9 _ rfl)
      try dsimp only at hh
      exact hh
    · rw [if_neg hb] at hf9
      refine e_iconst (pc := 46) dX12_seatsOf_46 (x_R rfl) ?_
      refine e_istoren (pc := 47) (i := 2) dX12_seatsOf_47 rfl (by decide) rfl ?_
      show Ev g _ _ _ _ _ _ 48 [some (x_r (16 * 32 + 0)), some (x_i v6), some (x_i 0), none, none, none] [] (al, ro, fl (ml M [32] [S7])) _ _ _ _
      obtain ⟨S13, hl14, hf9⟩ := x_bd1 hf9
      have hk14 : ∀ q : xU, q = S13 → Ev g yX12_seatsOf cX12_seatsOf 6 none [] 1 153 [some (x_r (16 * 32 + 0)), some (x_i v6), none, none, none, none] [] (al, ro, fl (ml M [32] [q])) 0 0 (.inl none) (al, ro, fl (ml M [32] [t])) := by
        intro q hq
        replace hq := hq.symm
        subst hq
        refine e_iinc (pc := 153) dX12_seatsOf_153 rfl (by decide) rfl ?_
        show Ev g _ _ _ _ _ _ 156 [some (x_r (16 * 32 + 0)), some (x_i (x_add v6 (-1))), none, none, none, none] [] (al, ro, fl (ml M [32] [S13])) _ _ _ _
        refine e_goto (pc := 156) (tgt := 42) dX12_seatsOf_156 (by decide) ?_
        cases hf9
        have hh := hi9 _ rfl
        try dsimp only at hh
        exact hh
      clear hf9
      refine e_whl (G12_seatsOf_L48 v6) (fun z : (Int × xU) => Ev g yX12_seatsOf cX12_seatsOf 6 none [] 1 48 [some (x_r (16 * 32 + 0)), some (x_i v6), some (x_i z.1), none, none, none] [] (al, ro, fl (ml M [32] [z.2])) 0 0 (.inl none) (al, ro, fl (ml M [32] [t]))) (fun q => q = S13) ?_ xFU (0, S7) _ hl14 rfl
      intro z t14 hf14 hi14 hx14
      obtain ⟨v11, S12⟩ := z
      rw [G12_seatsOf_L48] at hf14
      show Ev g _ _ _ _ _ _ 48 [some (x_r (16 * 32 + 0)), some (x_i v6), some (x_i v11), none, none, none] [] (al, ro, fl (ml M [32] [S12])) _ _ _ _
      refine e_iloadn (pc := 48) (i := 2) dX12_seatsOf_48 rfl rfl ?_
      refine e_sipush (pc := 49) dX12_seatsOf_49 (by decide +kernel) (x_R rfl) ?_
      refine e_icmp_ge (pc := 52) (tgt := 153) dX12_seatsOf_52 (by decide) (fun hb => ?_) (fun hb => ?_)
      · rw [if_pos hb] at hf14
        cases hf14
        refine e_drop (i := 2) ?_
        have hh := hk14 _ (hx14 _ rfl)
        try dsimp only at hh
        exact hh
      · rw [if_neg hb] at hf14
        refine e_aloadn (pc := 55) (i := 0) dX12_seatsOf_55 rfl rfl ?_
        refine f_getr (pc := 56) (u := 32) (q := 0) dX12_seatsOf_56 xf12_36 (sa_32_0 hs) rfl (sr_32_0_20 hs) ?_
        refine e_sipush (pc := 59) dX12_seatsOf_59 (by decide +kernel) (x_R rfl) ?_
        refine e_iloadn (pc := 62) (i := 1) dX12_seatsOf_62 rfl rfl ?_
        refine e_iconst (pc := 63) dX12_seatsOf_63 (x_R rfl) ?_
        refine e_iadd (pc := 64) dX12_seatsOf_64 ?_
        refine e_imul (pc := 65) dX12_seatsOf_65 ?_
        refine e_iloadn (pc := 66) (i := 2) dX12_seatsOf_66 rfl rfl ?_
        refine e_iadd (pc := 67) dX12_seatsOf_67 ?_
        obtain ⟨hc0, hf14⟩ := x_gd_some hf14
        refine f_iald (pc := 68) (k := 0) (u := 32) (q := 8) (len := 32768) dX12_seatsOf_68 (sa_32_8 hs) hc0 hn rfl rfl (by decide) ?_
        show Ev g _ _ _ _ _ _ 69 [some (x_r (16 * 32 + 0)), some (x_i v6), some (x_i v11), none, none, none] [x_i (S12 8 ((x_add (x_mul 4096 (x_add v6 1)) v11)).toNat)] (al, ro, fl (ml M [32] [S12])) _ _ _ _
        refine e_istoren (pc := 69) (i := 3) dX12_seatsOf_69 rfl (by decide) rfl ?_
        show Ev g _ _ _ _ _ _ 70 [some (x_r (16 * 32 + 0)), some (x_i v6), some (x_i v11), some (x_i (S12 8 ((x_add (x_mul 4096 (x_add v6 1)) v11)).toNat)), none, none] [] (al, ro, fl (ml M [32] [S12])) _ _ _ _
        refine e_aloadn (pc := 70) (i := 0) dX12_seatsOf_70 rfl rfl ?_
        refine e_iloadn (pc := 71) (i := 1) dX12_seatsOf_71 rfl rfl ?_
        refine e_iconst (pc := 72) dX12_seatsOf_72 (x_R rfl) ?_
        obtain ⟨v16, hq16, hf14⟩ := x_bd1 hf14
        refine e_invV (pc := 73) (K1 := 0) (S1 := 0) (K := 0) (S := 0) (dd2 := 0) (av := [x_i v6, x_i 3]) (st := []) (id := 16 * 32 + 0) dX12_seatsOf_73 xmX12_65 rfl (Or.inl ⟨10, 27, TX12, (sa_32_0 hs), rfl, by decide⟩) (f_cal (M := M) (us2 := [32]) [0] hn rfl (And.intro rfl trivial) rfl rfl rfl (c_X12_of hst hs   hq16)) (by decide) (Nat.le_of_ble_eq_true rfl) (Or.inl rfl) ?_
        show Ev g _ _ _ _ _ _ 76 [some (x_r (16 * 32 + 0)), some (x_i v6), some (x_i v11), some (x_i (S12 8 ((x_add (x_mul 4096 (x_add v6 1)) v11)).toNat)), none, none] [x_i v16] (al, ro, fl (ml M [32] [S12])) _ _ _ _
        refine e_iloadn (pc := 76) (i := 2) dX12_seatsOf_76 rfl rfl ?_
        refine e_iconst (pc := 77) dX12_seatsOf_77 (x_R rfl) ?_
        refine e_ixor (pc := 78) dX12_seatsOf_78 ?_
        refine e_iand (pc := 79) dX12_seatsOf_79 ?_
        refine e_istore (pc := 80) (i := 4) dX12_seatsOf_80 (by decide) rfl ?_
        show Ev g _ _ _ _ _ _ 82 [some (x_r (16 * 32 + 0)), some (x_i v6), some (x_i v11), some (x_i (S12 8 ((x_add (x_mul 4096 (x_add v6 1)) v11)).toNat)), some (x_i (x_and v16 (x_xor v11 (-1)))), none] [] (al, ro, fl (ml M [32] [S12])) _ _ _ _
        refine e_iconst (pc := 82) dX12_seatsOf_82 (x_R rfl) ?_
        refine e_istore (pc := 83) (i := 5) dX12_seatsOf_83 (by decide) rfl ?_
        show Ev g _ _ _ _ _ _ 85 [some (x_r (16 * 32 + 0)), some (x_i v6), some (x_i v11), some (x_i (S12 8 ((x_add (x_mul 4096 (x_add v6 1)) v11)).toNat)), some (x_i (x_and v16 (x_xor v11 (-1)))), some (x_i 0)] [] (al, ro, fl (ml M [32] [S12])) _ _ _ _
        obtain ⟨v20, hl21, hf14⟩ := x_bd1 hf14
        have hk21 : ∀ q : Int, q = v20 → Ev g yX12_seatsOf cX12_seatsOf 6 none [] 1 134 [some (x_r (16 * 32 + 0)), some (x_i v6), some (x_i v11), some (x_i q), some (x_i (x_and v16 (x_xor v11 (-1)))), none] [] (al, ro, fl (ml M [32] [S12])) 0 0 (.inl none) (al, ro, fl (ml M [32] [t])) := by
          intro q hq
          replace hq := hq.symm
          subst hq
          refine e_aloadn (pc := 134) (i := 0) dX12_seatsOf_134 rfl rfl ?_
          refine f_getr (pc := 135) (u := 32) (q := 0) dX12_seatsOf_135 xf12_36 (sa_32_0 hs) rfl (sr_32_0_20 hs) ?_
          refine e_sipush (pc := 138) dX12_seatsOf_138 (by decide +kernel) (x_R rfl) ?_
          refine e_iloadn (pc := 141) (i := 1) dX12_seatsOf_141 rfl rfl ?_
          refine e_imul (pc := 142) dX12_seatsOf_142 ?_
          refine e_iloadn (pc := 143) (i := 2) dX12_seatsOf_143 rfl rfl ?_
          refine e_iadd (pc := 144) dX12_seatsOf_144 ?_
          refine e_iloadn (pc := 145) (i := 3) dX12_seatsOf_145 rfl rfl ?_
          obtain ⟨hc0, hf14⟩ := x_gd_some hf14
          refine f_iast (pc := 146) (k := 0) (u := 32) (q := 8) (len := 32768) dX12_seatsOf_146 (sa_32_8 hs) hc0 hn rfl rfl rfl (by decide) ?_
          show Ev g _ _ _ _ _ _ 147 [some (x_r (16 * 32 + 0)), some (x_i v6), some (x_i v11), some (x_i v20), some (x_i (x_and v16 (x_xor v11 (-1)))), none] [] (al, ro, fl (ml M [32] [(x_up S12 8 ((x_add (x_mul 4096 v6) v11)).toNat v20)])) _ _ _ _
          refine e_iinc (pc := 147) dX12_seatsOf_147 rfl (by decide) rfl ?_
          show Ev g _ _ _ _ _ _ 150 [some (x_r (16 * 32 + 0)), some (x_i v6), some (x_i (x_add v11 1)), some (x_i v20), some (x_i (x_and v16 (x_xor v11 (-1)))), none] [] (al, ro, fl (ml M [32] [(x_up S12 8 ((x_add (x_mul 4096 v6) v11)).toNat v20)])) _ _ _ _
          refine e_goto (pc := 150) (tgt := 48) dX12_seatsOf_150 (by decide) ?_
          cases hf14
          refine e_drop (i := 3) ?_
          refine e_drop (i := 4) ?_
          have hh := hi14 _ rfl
          try dsimp only at hh
          exact hh
        clear hf14
        refine e_whl (G12_seatsOf_L85 v6 v11 S12 v16) (fun z : (Int × Int) => Ev g yX12_seatsOf cX12_seatsOf 6 none [] 1 85 [some (x_r (16 * 32 + 0)), some (x_i v6), some (x_i v11), some (x_i z.1), some (x_i (x_and v16 (x_xor v11 (-1)))), some (x_i z.2)] [] (al, ro, fl (ml M [32] [S12])) 0 0 (.inl none) (al, ro, fl (ml M [32] [t]))) (fun q => q = v20) ?_ xFU ((S12 8 ((x_add (x_mul 4096 (x_add v6 1)) v11)).toNat), 0) _ hl21 rfl
        intro z t21 hf21 hi21 hx21
        obtain ⟨v18, v19⟩ := z
        rw [G12_seatsOf_L85] at hf21
        show Ev g _ _ _ _ _ _ 85 [some (x_r (16 * 32 + 0)), some (x_i v6), some (x_i v11), some (x_i v18), some (x_i (x_and v16 (x_xor v11 (-1)))), some (x_i v19)] [] (al, ro, fl (ml M [32] [S12])) _ _ _ _
        refine e_iload (pc := 85) dX12_seatsOf_85 rfl ?_
        refine e_bipush (pc := 87) dX12_seatsOf_87 (by decide +kernel) (x_R rfl) ?_
        refine e_icmp_ge (pc := 89) (tgt := 134) dX12_seatsOf_89 (by decide) (fun hb => ?_) (fun hb => ?_)
        · rw [if_pos hb] at hf21
          cases hf21
          refine e_drop (i := 5) ?_
          have hh := hk21 _ (hx21 _ rfl)
          try dsimp only at hh
          exact hh
        · rw [if_neg hb] at hf21
          refine e_iload (pc := 92) dX12_seatsOf_92 rfl ?_
          refine e_iload (pc := 94) dX12_seatsOf_94 rfl ?_
          obtain ⟨v23, hq23, hf21⟩ := x_bd1 hf21
          refine e_invS (pc := 96) (K1 := 0) (S1 := 0) (K := 0) (S := 0) (dd2 := 0) (av := [x_i (x_and v16 (x_xor v11 (-1))), x_i v19]) (st := []) dX12_seatsOf_96 xmX12_119 rfl (f_cal (M := M) (us2 := []) [] hn rfl trivial rfl rfl rfl (c_X12_isOf hst hs   hq23)) (by decide) (Nat.le_of_ble_eq_true rfl) (Or.inl rfl) ?_
          show Ev g _ _ _ _ _ _ 99 [some (x_r (16 * 32 + 0)), some (x_i v6), some (x_i v11), some (x_i v18), some (x_i (x_and v16 (x_xor v11 (-1)))), some (x_i v19)] [x_i v23] (al, ro, fl (ml M [32] [S12])) _ _ _ _
          obtain ⟨v25, hr25, hf21⟩ := x_bd1 hf21
          have hjhr25 : Ev g yX12_seatsOf cX12_seatsOf 6 none [] 1 128 [some (x_r (16 * 32 + 0)), some (x_i v6), some (x_i v11), some (x_i v25), some (x_i (x_and v16 (x_xor v11 (-1)))), some (x_i v19)] [] (al, ro, fl (ml M [32] [S12])) 0 0 (.inl none) (al, ro, fl (ml M [32] [t])) := by
            refine e_iinc (pc := 128) dX12_seatsOf_128 rfl (by decide) rfl ?_
            show Ev g _ _ _ _ _ _ 131 [some (x_r (16 * 32 + 0)), some (x_i v6), some (x_i v11), some (x_i v25), some (x_i (x_and v16 (x_xor v11 (-1)))), some (x_i (x_add v19 1))] [] (al, ro, fl (ml M [32] [S12])) _ _ _ _
            refine e_goto (pc := 131) (tgt := 85) dX12_seatsOf_131 (by decide) ?_
            cases hf21
            have hh := hi21 _ rfl
            try dsimp only at hh
            exact hh
          clear hf21
          refine e_if_eq (pc := 99) (tgt := 128) dX12_seatsOf_99 (by decide) (fun hb => ?_) (fun hb => ?_)
          · rw [if_pos hb] at hr25
            cases hr25
            exact hjhr25
          · rw [if_neg hb] at hr25
            refine e_iloadn (pc := 102) (i := 3) dX12_seatsOf_102 rfl rfl ?_
            refine e_iconst (pc := 103) dX12_seatsOf_103 (x_R rfl) ?_
            refine e_aloadn (pc := 104) (i := 0) dX12_seatsOf_104 rfl rfl ?_
            refine f_getr (pc := 105) (u := 32) (q := 0) dX12_seatsOf_105 xf12_36 (sa_32_0 hs) rfl (sr_32_0_20 hs) ?_
            refine e_sipush (pc := 108) dX12_seatsOf_108 (by decide +kernel) (x_R rfl) ?_
            refine e_iloadn (pc := 111) (i := 1) dX12_seatsOf_111 rfl rfl ?_
            refine e_iconst (pc := 112) dX12_seatsOf_112 (x_R rfl) ?_
            refine e_iadd (pc := 113) dX12_seatsOf_113 ?_
            refine e_imul (pc := 114) dX12_seatsOf_114 ?_
            refine e_iloadn (pc := 115) (i := 2) dX12_seatsOf_115 rfl rfl ?_
            refine e_iconst (pc := 116) dX12_seatsOf_116 (x_R rfl) ?_
            refine e_iload (pc := 117) dX12_seatsOf_117 rfl ?_
            refine e_ishl (pc := 119) dX12_seatsOf_119 ?_
            refine e_ior (pc := 120) dX12_seatsOf_120 ?_
            refine e_iadd (pc := 121) dX12_seatsOf_121 ?_
            obtain ⟨hc0, hr25⟩ := x_gd_some hr25
            refine f_iald (pc := 122) (k := 0) (u := 32) (q := 8) (len := 32768) dX12_seatsOf_122 (sa_32_8 hs) hc0 hn rfl rfl (by decide) ?_
            show Ev g _ _ _ _ _ _ 123 [some (x_r (16 * 32 + 0)), some (x_i v6), some (x_i v11), some (x_i v18), some (x_i (x_and v16 (x_xor v11 (-1)))), some (x_i v19)] [x_i (S12 8 ((x_add (x_mul 4096 (x_add v6 1)) (x_or v11 (x_shl 1 v19)))).toNat), x_i 1, x_i v18] (al, ro, fl (ml M [32] [S12])) _ _ _ _
            refine e_iadd (pc := 123) dX12_seatsOf_123 ?_
            obtain ⟨v27, hq27, hr25⟩ := x_bd1 hr25
            refine e_invS (pc := 124) (K1 := 0) (S1 := 0) (K := 0) (S := 0) (dd2 := 0) (av := [x_i v18, x_i (x_add 1 (S12 8 ((x_add (x_mul 4096 (x_add v6 1)) (x_or v11 (x_shl 1 v19)))).toNat))]) (st := []) dX12_seatsOf_124 xmX12_266 rfl (f_cal (M := M) (us2 := []) [] hn rfl trivial rfl rfl rfl (c_X12_greater hst hs   hq27)) (by decide) (Nat.le_of_ble_eq_true rfl) (Or.inl rfl) ?_
            show Ev g _ _ _ _ _ _ 127 [some (x_r (16 * 32 + 0)), some (x_i v6), some (x_i v11), some (x_i v18), some (x_i (x_and v16 (x_xor v11 (-1)))), some (x_i v19)] [x_i v27] (al, ro, fl (ml M [32] [S12])) _ _ _ _
            refine e_istoren (pc := 127) (i := 3) dX12_seatsOf_127 rfl (by decide) rfl ?_
            show Ev g _ _ _ _ _ _ 128 [some (x_r (16 * 32 + 0)), some (x_i v6), some (x_i v11), some (x_i v27), some (x_i (x_and v16 (x_xor v11 (-1)))), some (x_i v19)] [] (al, ro, fl (ml M [32] [S12])) _ _ _ _
            cases hr25
            exact hjhr25
  clear hG
  refine e_whl G12_seatsOf_L2 (fun z : (Int × xU) => Ev g yX12_seatsOf cX12_seatsOf 6 none [] 1 2 [some (x_r (16 * 32 + 0)), some (x_i z.1), none, none, none, none] [] (al, ro, fl (ml M [32] [z.2])) 0 0 (.inl none) (al, ro, fl (ml M [32] [t]))) (fun q => q = S3) ?_ xFU (0, S) _ hl4 rfl
  intro z t4 hf4 hi4 hx4
  obtain ⟨v1, S2⟩ := z
  rw [G12_seatsOf_L2] at hf4
  show Ev g _ _ _ _ _ _ 2 [some (x_r (16 * 32 + 0)), some (x_i v1), none, none, none, none] [] (al, ro, fl (ml M [32] [S2])) _ _ _ _
  refine e_iloadn (pc := 2) (i := 1) dX12_seatsOf_2 rfl rfl ?_
  refine e_sipush (pc := 3) dX12_seatsOf_3 (by decide +kernel) (x_R rfl) ?_
  refine e_icmp_ge (pc := 6) (tgt := 33) dX12_seatsOf_6 (by decide) (fun hb => ?_) (fun hb => ?_)
  · rw [if_pos hb] at hf4
    cases hf4
    refine e_drop (i := 1) ?_
    have hh := hk4 _ (hx4 _ rfl)
    try dsimp only at hh
    exact hh
  · rw [if_neg hb] at hf4
    refine e_aloadn (pc := 9) (i := 0) dX12_seatsOf_9 rfl rfl ?_
    refine f_getr (pc := 10) (u := 32) (q := 0) dX12_seatsOf_10 xf12_36 (sa_32_0 hs) rfl (sr_32_0_20 hs) ?_
    refine e_sipush (pc := 13) dX12_seatsOf_13 (by decide +kernel) (x_R rfl) ?_
    refine e_aloadn (pc := 16) (i := 0) dX12_seatsOf_16 rfl rfl ?_
    refine f_getr (pc := 17) (u := 32) (q := 0) dX12_seatsOf_17 xf12_7 (sa_32_0 hs) rfl (sr_32_0_1 hs) ?_
    refine e_iconst (pc := 20) dX12_seatsOf_20 (x_R rfl) ?_
    refine f_iald (pc := 21) (k := 0) (u := 32) (q := 1) (len := 772) dX12_seatsOf_21 (sa_32_1 hs) (by decide) hn rfl rfl (by decide) ?_
    show Ev g _ _ _ _ _ _ 22 [some (x_r (16 * 32 + 0)), some (x_i v1), none, none, none, none] [x_i (S2 1 3), x_i 4096, x_r (16 * 32 + 8)] (al, ro, fl (ml M [32] [S2])) _ _ _ _
    refine e_imul (pc := 22) dX12_seatsOf_22 ?_
    refine e_iloadn (pc := 23) (i := 1) dX12_seatsOf_23 rfl rfl ?_
    refine e_iadd (pc := 24) dX12_seatsOf_24 ?_
    refine e_iconst (pc := 25) dX12_seatsOf_25 (x_R rfl) ?_
    obtain ⟨hc0, hf4⟩ := x_gd_some hf4
    refine f_iast (pc := 26) (k := 0) (u := 32) (q := 8) (len := 32768) dX12_seatsOf_26 (sa_32_8 hs) hc0 hn rfl rfl rfl (by decide) ?_
    show Ev g _ _ _ _ _ _ 27 [some (x_r (16 * 32 + 0)), some (x_i v1), none, none, none, none] [] (al, ro, fl (ml M [32] [(x_up S2 8 ((x_add (x_mul 4096 (S2 1 3)) v1)).toNat 0)])) _ _ _ _
    refine e_iinc (pc := 27) dX12_seatsOf_27 rfl (by decide) rfl ?_
    show Ev g _ _ _ _ _ _ 30 [some (x_r (16 * 32 + 0)), some (x_i (x_add v1 1)), none, none, none, none] [] (al, ro, fl (ml M [32] [(x_up S2 8 ((x_add (x_mul 4096 (S2 1 3)) v1)).toNat 0)])) _ _ _ _
    refine e_goto (pc := 30) (tgt := 2) dX12_seatsOf_30 (by decide) ?_
    cases hf4
    have hh := hi4 _ rfl
    try dsimp only at hh
    exact hh
set_option maxRecDepth 100000 in
set_option maxHeartbeats 4000000 in
theorem c_X12_seats {g : xG} {al : List (Nat × Nat × Nat)} {ro : Nat → Nat → Option Nat} (hst : g.1.stackTraces = false) (hs : SH al ro) {M : Nat → xU} {a : Int} {S : xU}  {t : (Int × xU)} (hG : G12_seats a S = some t) :
    Cal g yX12_seats cX12_seats 6 (some .int) 2 [x_r (16 * 32 + 0), x_i a] (al, ro, fl (ml M [32] [S])) 0 0 (.inl (some (x_i t.1))) (al, ro, fl (ml M [32] [t.2])) := by
  have hn : ([32] : List Nat).Nodup := by decide
  refine cal_of_ev (plainFor_of_name (by decide)) (x_c1 rfl) (Nat.le_of_ble_eq_true rfl) hst ?_
  show Ev g _ _ _ _ _ _ 0 [some (x_r (16 * 32 + 0)), some (x_i a), none, none, none, none] [] (al, ro, fl (ml M [32] [S])) _ _ _ _
  rw [G12_seats] at hG
  refine e_aloadn (pc := 0) (i := 0) dX12_seats_0 rfl rfl ?_
  refine e_iloadn (pc := 1) (i := 1) dX12_seats_1 rfl rfl ?_
  refine e_iconst (pc := 2) dX12_seats_2 (x_R rfl) ?_
  obtain ⟨v1, hr1, hG⟩ := x_bd1 hG
  have hjhr1 : Ev g yX12_seats cX12_seats 6 (some .int) [] 2 19 [some (x_r (16 * 32 + 0)), some (x_i a), none, none, none, none] [x_i v1, x_r (16 * 32 + 0)] (al, ro, fl (ml M [32] [S])) 0 0 (.inl (some (x_i t.1))) (al, ro, fl (ml M [32] [t.2])) := by
    refine f_puti (pc := 19) (k := 0) (u := 32) (q := 0) dX12_seats_19 xf12_58 xw10_0 (sa_32_0 hs) hn rfl rfl rfl (by decide) ?_
    show Ev g _ _ _ _ _ _ 22 [some (x_r (16 * 32 + 0)), some (x_i a), none, none, none, none] [] (al, ro, fl (ml M [32] [(x_up S 0 0 v1)])) _ _ _ _
    refine e_aloadn (pc := 22) (i := 0) dX12_seats_22 rfl rfl ?_
    refine f_geti (pc := 23) (k := 0) (u := 32) (q := 0) dX12_seats_23 xf12_58 (sa_32_0 hs) rfl hn rfl rfl (by decide) ?_
    show Ev g _ _ _ _ _ _ 26 [some (x_r (16 * 32 + 0)), some (x_i a), none, none, none, none] [x_i ((x_up S 0 0 v1) 0 0)] (al, ro, fl (ml M [32] [(x_up S 0 0 v1)])) _ _ _ _
    refine e_if_le (pc := 26) (tgt := 31) dX12_seats_26 (by decide) (fun hb => ?_) (fun hb => ?_)
    · rw [if_pos hb] at hG
      refine e_aloadn (pc := 31) (i := 0) dX12_seats_31 rfl rfl ?_
      obtain ⟨S5, hq5, hG⟩ := x_bd1 hG
      refine e_invV (pc := 32) (K1 := 0) (S1 := 0) (K := 0) (S := 0) (dd2 := 1) (av := []) (st := []) (id := 16 * 32 + 0) dX12_seats_32 xmX12_343 rfl (Or.inl ⟨10, 27, TX12, (sa_32_0 hs), rfl, by decide⟩) (f_cal (M := M) (us2 := [32]) [0] hn rfl (And.intro rfl trivial) rfl rfl rfl (c_X12_seatsOf hst hs   hq5)) (by decide) (Nat.le_of_ble_eq_true rfl) (Or.inl rfl) ?_
      show Ev g _ _ _ _ _ _ 35 [some (x_r (16 * 32 + 0)), some (x_i a), none, none, none, none] [] (al, ro, fl (ml M [32] [S5])) _ _ _ _
      refine e_iloadn (pc := 35) (i := 1) dX12_seats_35 rfl rfl ?_
      refine e_iconst (pc := 36) dX12_seats_36 (x_R rfl) ?_
      refine e_icmp_ne (pc := 37) (tgt := 47) dX12_seats_37 (by decide) (fun hb => ?_) (fun hb => ?_)
      · rw [if_neg hb] at hG
        refine e_iconst (pc := 47) dX12_seats_47 (x_R rfl) ?_
        refine e_istoren (pc := 48) (i := 2) dX12_seats_48 rfl (by decide) rfl ?_
        show Ev g _ _ _ _ _ _ 49 [some (x_r (16 * 32 + 0)), some (x_i a), some (x_i 0), none, none, none] [] (al, ro, fl (ml M [32] [S5])) _ _ _ _
        refine e_iconst (pc := 49) dX12_seats_49 (x_R rfl) ?_
        refine e_istoren (pc := 50) (i := 3) dX12_seats_50 rfl (by decide) rfl ?_
        show Ev g _ _ _ _ _ _ 51 [some (x_r (16 * 32 + 0)), some (x_i a), some (x_i 0), some (x_i (-1)), none, none] [] (al, ro, fl (ml M [32] [S5])) _ _ _ _
        refine e_iconst (pc := 51) dX12_seats_51 (x_R rfl) ?_
        refine e_istore (pc := 52) (i := 4) dX12_seats_52 (by decide) rfl ?_
        show Ev g _ _ _ _ _ _ 54 [some (x_r (16 * 32 + 0)), some (x_i a), some (x_i 0), some (x_i (-1)), some (x_i 0), none] [] (al, ro, fl (ml M [32] [S5])) _ _ _ _
        obtain ⟨v10, hl11, hG⟩ := x_bd1 hG
        have hk11 : ∀ q : Int, q = v10 → Ev g yX12_seats cX12_seats 6 (some .int) [] 2 158 [some (x_r (16 * 32 + 0)), some (x_i a), none, some (x_i q), none, none] [] (al, ro, fl (ml M [32] [S5])) 0 0 (.inl (some (x_i t.1))) (al, ro, fl (ml M [32] [t.2])) := by
          intro q hq
          replace hq := hq.symm
          subst hq
          refine e_iloadn (pc := 158) (i := 3) dX12_seats_158 rfl rfl ?_
          cases hG
          exact (e_ireturn rfl dX12_seats_159 rfl)
        clear hG
        refine e_whl (G12_seats_L54 a S5) (fun z : (Int × Int × Int) => Ev g yX12_seats cX12_seats 6 (some .int) [] 2 54 [some (x_r (16 * 32 + 0)), some (x_i a), some (x_i z.1), some (x_i z.2.1), some (x_i z.2.2), none] [] (al, ro, fl (ml M [32] [S5])) 0 0 (.inl (some (x_i t.1))) (al, ro, fl (ml M [32] [t.2]))) (fun q => q = v10) ?_ xFU (0, (-1), 0) _ hl11 rfl
        intro z t11 hf11 hi11 hx11
        obtain ⟨v7, v8, v9⟩ := z
        rw [G12_seats_L54] at hf11
        show Ev g _ _ _ _ _ _ 54 [some (x_r (16 * 32 + 0)), some (x_i a), some (x_i v7), some (x_i v8), some (x_i v9), none] [] (al, ro, fl (ml M [32] [S5])) _ _ _ _
        refine e_iload (pc := 54) dX12_seats_54 rfl ?_
        refine e_iloadn (pc := 56) (i := 1) dX12_seats_56 rfl rfl ?_
        refine e_icmp_gt (pc := 57) (tgt := 158) dX12_seats_57 (by decide) (fun hb => ?_) (fun hb => ?_)
        · rw [if_pos hb] at hf11
          cases hf11
          refine e_drop (i := 2) ?_
          refine e_drop (i := 4) ?_
          have hh := hk11 _ (hx11 _ rfl)
          try dsimp only at hh
          exact hh
        · rw [if_neg hb] at hf11
          refine e_iconst (pc := 60) dX12_seats_60 (x_R rfl) ?_
          refine e_istoren (pc := 61) (i := 3) dX12_seats_61 rfl (by decide) rfl ?_
          show Ev g _ _ _ _ _ _ 62 [some (x_r (16 * 32 + 0)), some (x_i a), some (x_i v7), some (x_i (-1)), some (x_i v9), none] [] (al, ro, fl (ml M [32] [S5])) _ _ _ _
          refine e_bipush (pc := 62) dX12_seats_62 (by decide +kernel) (x_R rfl) ?_
          refine e_istore (pc := 64) (i := 5) dX12_seats_64 (by decide) rfl ?_
          show Ev g _ _ _ _ _ _ 66 [some (x_r (16 * 32 + 0)), some (x_i a), some (x_i v7), some (x_i (-1)), some (x_i v9), some (x_i 11)] [] (al, ro, fl (ml M [32] [S5])) _ _ _ _
          obtain ⟨v15, hl16, hf11⟩ := x_bd1 hf11
          have hk16 : ∀ q : Int, q = v15 → Ev g yX12_seats cX12_seats 6 (some .int) [] 2 137 [some (x_r (16 * 32 + 0)), some (x_i a), some (x_i v7), some (x_i q), some (x_i v9), none] [] (al, ro, fl (ml M [32] [S5])) 0 0 (.inl (some (x_i t.1))) (al, ro, fl (ml M [32] [t.2])) := by
            intro q hq
            replace hq := hq.symm
            subst hq
            refine e_iloadn (pc := 137) (i := 2) dX12_seats_137 rfl rfl ?_
            refine e_iloadn (pc := 138) (i := 3) dX12_seats_138 rfl rfl ?_
            refine e_iconst (pc := 139) dX12_seats_139 (x_R rfl) ?_
            obtain ⟨v24, hr24, hf11⟩ := x_bd1 hf11
            have hjhr24 : Ev g yX12_seats cX12_seats 6 (some .int) [] 2 150 [some (x_r (16 * 32 + 0)), some (x_i a), some (x_i v7), some (x_i v15), some (x_i v9), none] [x_i v24, x_i v7] (al, ro, fl (ml M [32] [S5])) 0 0 (.inl (some (x_i t.1))) (al, ro, fl (ml M [32] [t.2])) := by
              refine e_ior (pc := 150) dX12_seats_150 ?_
              refine e_istoren (pc := 151) (i := 2) dX12_seats_151 rfl (by decide) rfl ?_
              show Ev g _ _ _ _ _ _ 152 [some (x_r (16 * 32 + 0)), some (x_i a), some (x_i (x_or v7 v24)), some (x_i v15), some (x_i v9), none] [] (al, ro, fl (ml M [32] [S5])) _ _ _ _
              refine e_iinc (pc := 152) dX12_seats_152 rfl (by decide) rfl ?_
              show Ev g _ _ _ _ _ _ 155 [some (x_r (16 * 32 + 0)), some (x_i a), some (x_i (x_or v7 v24)), some (x_i v15), some (x_i (x_add v9 1)), none] [] (al, ro, fl (ml M [32] [S5])) _ _ _ _
              refine e_goto (pc := 155) (tgt := 54) dX12_seats_155 (by decide) ?_
              cases hf11
              have hh := hi11 _ rfl
              try dsimp only at hh
              exact hh
            clear hf11
            refine e_icmp_ne (pc := 140) (tgt := 147) dX12_seats_140 (by decide) (fun hb => ?_) (fun hb => ?_)
            · rw [if_neg hb] at hr24
              refine e_iconst (pc := 147) dX12_seats_147 (x_R rfl) ?_
              refine e_iloadn (pc := 148) (i := 3) dX12_seats_148 rfl rfl ?_
              refine e_ishl (pc := 149) dX12_seats_149 ?_
              cases hr24
              exact hjhr24
            · rw [if_pos hb] at hr24
              refine e_iconst (pc := 143) dX12_seats_143 (x_R rfl) ?_
              refine e_goto (pc := 144) (tgt := 150) dX12_seats_144 (by decide) ?_
              cases hr24
              exact hjhr24
          clear hf11
          refine e_whl (G12_seats_L66 S5 v7 v9) (fun z : (Int × Int) => Ev g yX12_seats cX12_seats 6 (some .int) [] 2 66 [some (x_r (16 * 32 + 0)), some (x_i a), some (x_i v7), some (x_i z.1), some (x_i v9), some (x_i z.2)] [] (al, ro, fl (ml M [32] [S5])) 0 0 (.inl (some (x_i t.1))) (al, ro, fl (ml M [32] [t.2]))) (fun q => q = v15) ?_ xFU ((-1), 11) _ hl16 rfl
          intro z t16 hf16 hi16 hx16
          obtain ⟨v13, v14⟩ := z
          rw [G12_seats_L66] at hf16
          show Ev g _ _ _ _ _ _ 66 [some (x_r (16 * 32 + 0)), some (x_i a), some (x_i v7), some (x_i v13), some (x_i v9), some (x_i v14)] [] (al, ro, fl (ml M [32] [S5])) _ _ _ _
          refine e_iload (pc := 66) dX12_seats_66 rfl ?_
          refine e_if_lt (pc := 68) (tgt := 137) dX12_seats_68 (by decide) (fun hb => ?_) (fun hb => ?_)
          · rw [if_pos hb] at hf16
            cases hf16
            refine e_drop (i := 5) ?_
            have hh := hk16 _ (hx16 _ rfl)
            try dsimp only at hh
            exact hh
          · rw [if_neg hb] at hf16
            refine e_aloadn (pc := 71) (i := 0) dX12_seats_71 rfl rfl ?_
            refine e_iload (pc := 72) dX12_seats_72 rfl ?_
            refine e_iconst (pc := 74) dX12_seats_74 (x_R rfl) ?_
            obtain ⟨v18, hq18, hf16⟩ := x_bd1 hf16
            refine e_invV (pc := 75) (K1 := 0) (S1 := 0) (K := 0) (S := 0) (dd2 := 0) (av := [x_i v9, x_i 3]) (st := []) (id := 16 * 32 + 0) dX12_seats_75 xmX12_65 rfl (Or.inl ⟨10, 27, TX12, (sa_32_0 hs), rfl, by decide⟩) (f_cal (M := M) (us2 := [32]) [0] hn rfl (And.intro rfl trivial) rfl rfl rfl (c_X12_of hst hs   hq18)) (by decide) (Nat.le_of_ble_eq_true rfl) (Or.inl rfl) ?_
            show Ev g _ _ _ _ _ _ 78 [some (x_r (16 * 32 + 0)), some (x_i a), some (x_i v7), some (x_i v13), some (x_i v9), some (x_i v14)] [x_i v18] (al, ro, fl (ml M [32] [S5])) _ _ _ _
            refine e_iloadn (pc := 78) (i := 2) dX12_seats_78 rfl rfl ?_
            refine e_iconst (pc := 79) dX12_seats_79 (x_R rfl) ?_
            refine e_ixor (pc := 80) dX12_seats_80 ?_
            refine e_iand (pc := 81) dX12_seats_81 ?_
            refine e_iload (pc := 82) dX12_seats_82 rfl ?_
            obtain ⟨v20, hq20, hf16⟩ := x_bd1 hf16
            refine e_invS (pc := 84) (K1 := 0) (S1 := 0) (K := 0) (S := 0) (dd2 := 0) (av := [x_i (x_and v18 (x_xor v7 (-1))), x_i v14]) (st := []) dX12_seats_84 xmX12_119 rfl (f_cal (M := M) (us2 := []) [] hn rfl trivial rfl rfl rfl (c_X12_isOf hst hs   hq20)) (by decide) (Nat.le_of_ble_eq_true rfl) (Or.inl rfl) ?_
            show Ev g _ _ _ _ _ _ 87 [some (x_r (16 * 32 + 0)), some (x_i a), some (x_i v7), some (x_i v13), some (x_i v9), some (x_i v14)] [x_i v20] (al, ro, fl (ml M [32] [S5])) _ _ _ _
            obtain ⟨v22, hr22, hf16⟩ := x_bd1 hf16
            have hjhr22 : Ev g yX12_seats cX12_seats 6 (some .int) [] 2 131 [some (x_r (16 * 32 + 0)), some (x_i a), some (x_i v7), some (x_i v22), some (x_i v9), some (x_i v14)] [] (al, ro, fl (ml M [32] [S5])) 0 0 (.inl (some (x_i t.1))) (al, ro, fl (ml M [32] [t.2])) := by
              refine e_iinc (pc := 131) dX12_seats_131 rfl (by decide) rfl ?_
              show Ev g _ _ _ _ _ _ 134 [some (x_r (16 * 32 + 0)), some (x_i a), some (x_i v7), some (x_i v22), some (x_i v9), some (x_i (x_add v14 (-1)))] [] (al, ro, fl (ml M [32] [S5])) _ _ _ _
              refine e_goto (pc := 134) (tgt := 66) dX12_seats_134 (by decide) ?_
              cases hf16
              have hh := hi16 _ rfl
              try dsimp only at hh
              exact hh
            clear hf16
            refine e_if_eq (pc := 87) (tgt := 131) dX12_seats_87 (by decide) (fun hb => ?_) (fun hb => ?_)
            · rw [if_pos hb] at hr22
              cases hr22
              exact hjhr22
            · rw [if_neg hb] at hr22
              refine e_iconst (pc := 90) dX12_seats_90 (x_R rfl) ?_
              refine e_aloadn (pc := 91) (i := 0) dX12_seats_91 rfl rfl ?_
              refine f_getr (pc := 92) (u := 32) (q := 0) dX12_seats_92 xf12_36 (sa_32_0 hs) rfl (sr_32_0_20 hs) ?_
              refine e_sipush (pc := 95) dX12_seats_95 (by decide +kernel) (x_R rfl) ?_
              refine e_iload (pc := 98) dX12_seats_98 rfl ?_
              refine e_iconst (pc := 100) dX12_seats_100 (x_R rfl) ?_
              refine e_iadd (pc := 101) dX12_seats_101 ?_
              refine e_imul (pc := 102) dX12_seats_102 ?_
              refine e_iloadn (pc := 103) (i := 2) dX12_seats_103 rfl rfl ?_
              refine e_iconst (pc := 104) dX12_seats_104 (x_R rfl) ?_
              refine e_iload (pc := 105) dX12_seats_105 rfl ?_
              refine e_ishl (pc := 107) dX12_seats_107 ?_
              refine e_ior (pc := 108) dX12_seats_108 ?_
              refine e_iadd (pc := 109) dX12_seats_109 ?_
              obtain ⟨hc0, hr22⟩ := x_gd_some hr22
              refine f_iald (pc := 110) (k := 0) (u := 32) (q := 8) (len := 32768) dX12_seats_110 (sa_32_8 hs) hc0 hn rfl rfl (by decide) ?_
              show Ev g _ _ _ _ _ _ 111 [some (x_r (16 * 32 + 0)), some (x_i a), some (x_i v7), some (x_i v13), some (x_i v9), some (x_i v14)] [x_i (S5 8 ((x_add (x_mul 4096 (x_add v9 1)) (x_or v7 (x_shl 1 v14)))).toNat), x_i 1] (al, ro, fl (ml M [32] [S5])) _ _ _ _
              refine e_iadd (pc := 111) dX12_seats_111 ?_
              refine e_aloadn (pc := 112) (i := 0) dX12_seats_112 rfl rfl ?_
              refine f_getr (pc := 113) (u := 32) (q := 0) dX12_seats_113 xf12_36 (sa_32_0 hs) rfl (sr_32_0_20 hs) ?_
              refine e_sipush (pc := 116) dX12_seats_116 (by decide +kernel) (x_R rfl) ?_
              refine e_iload (pc := 119) dX12_seats_119 rfl ?_
              refine e_imul (pc := 121) dX12_seats_121 ?_
              refine e_iloadn (pc := 122) (i := 2) dX12_seats_122 rfl rfl ?_
              refine e_iadd (pc := 123) dX12_seats_123 ?_
              obtain ⟨hc0, hr22⟩ := x_gd_some hr22
              refine f_iald (pc := 124) (k := 0) (u := 32) (q := 8) (len := 32768) dX12_seats_124 (sa_32_8 hs) hc0 hn rfl rfl (by decide) ?_
              show Ev g _ _ _ _ _ _ 125 [some (x_r (16 * 32 + 0)), some (x_i a), some (x_i v7), some (x_i v13), some (x_i v9), some (x_i v14)] [x_i (S5 8 ((x_add (x_mul 4096 v9) v7)).toNat), x_i (x_add 1 (S5 8 ((x_add (x_mul 4096 (x_add v9 1)) (x_or v7 (x_shl 1 v14)))).toNat))] (al, ro, fl (ml M [32] [S5])) _ _ _ _
              refine e_icmp_ne (pc := 125) (tgt := 131) dX12_seats_125 (by decide) (fun hb => ?_) (fun hb => ?_)
              · rw [if_neg hb] at hr22
                cases hr22
                exact hjhr22
              · rw [if_pos hb] at hr22
                refine e_iload (pc := 128) dX12_seats_128 rfl ?_
                refine e_istoren (pc := 130) (i := 3) dX12_seats_130 rfl (by decide) rfl ?_
                show Ev g _ _ _ _ _ _ 131 [some (x_r (16 * 32 + 0)), some (x_i a), some (x_i v7), some (x_i v14), some (x_i v9), some (x_i v14)] [] (al, ro, fl (ml M [32] [S5])) _ _ _ _
                cases hr22
                exact hjhr22
      · rw [if_pos hb] at hG
        refine e_aloadn (pc := 40) (i := 0) dX12_seats_40 rfl rfl ?_
        refine f_getr (pc := 41) (u := 32) (q := 0) dX12_seats_41 xf12_36 (sa_32_0 hs) rfl (sr_32_0_20 hs) ?_
        refine e_iconst (pc := 44) dX12_seats_44 (x_R rfl) ?_
        refine f_iald (pc := 45) (k := 0) (u := 32) (q := 8) (len := 32768) dX12_seats_45 (sa_32_8 hs) (by decide) hn rfl rfl (by decide) ?_
        show Ev g _ _ _ _ _ _ 46 [some (x_r (16 * 32 + 0)), some (x_i a), none, none, none, none] [x_i (S5 8 0)] (al, ro, fl (ml M [32] [S5])) _ _ _ _
        cases hG
        exact (e_ireturn rfl dX12_seats_46 rfl)
    · rw [if_neg hb] at hG
      refine e_iconst (pc := 29) dX12_seats_29 (x_R rfl) ?_
      cases hG
      exact (e_ireturn rfl dX12_seats_30 rfl)
  clear hG
  refine e_icmp_eq (pc := 3) (tgt := 18) dX12_seats_3 (by decide) (fun hb => ?_) (fun hb => ?_)
  · rw [if_pos hb] at hr1
    refine e_iconst (pc := 18) dX12_seats_18 (x_R rfl) ?_
    cases hr1
    exact hjhr1
  · rw [if_neg hb] at hr1
    refine e_aloadn (pc := 6) (i := 0) dX12_seats_6 rfl rfl ?_
    refine e_iloadn (pc := 7) (i := 1) dX12_seats_7 rfl rfl ?_
    obtain ⟨v3, hq3, hr1⟩ := x_bd1 hr1
    refine e_invV (pc := 8) (K1 := 0) (S1 := 0) (K := 0) (S := 0) (dd2 := 1) (av := [x_i a]) (st := [x_r (16 * 32 + 0)]) (id := 16 * 32 + 0) dX12_seats_8 xmX12_295 rfl (Or.inl ⟨10, 27, TX12, (sa_32_0 hs), rfl, by decide⟩) (f_cal (M := M) (us2 := [32]) [0] hn rfl (And.intro rfl trivial) rfl rfl rfl (c_X12_isMonk hst hs   hq3)) (by decide) (Nat.le_of_ble_eq_true rfl) (Or.inl rfl) ?_
    show Ev g _ _ _ _ _ _ 11 [some (x_r (16 * 32 + 0)), some (x_i a), none, none, none, none] [x_i v3, x_r (16 * 32 + 0)] (al, ro, fl (ml M [32] [S])) _ _ _ _
    refine e_if_ne (pc := 11) (tgt := 18) dX12_seats_11 (by decide) (fun hb => ?_) (fun hb => ?_)
    · rw [if_neg hb] at hr1
      refine e_iconst (pc := 18) dX12_seats_18 (x_R rfl) ?_
      cases hr1
      exact hjhr1
    · rw [if_pos hb] at hr1
      refine e_iconst (pc := 14) dX12_seats_14 (x_R rfl) ?_
      refine e_goto (pc := 15) (tgt := 19) dX12_seats_15 (by decide) ?_
      cases hr1
      exact hjhr1
set_option maxRecDepth 100000 in
set_option maxHeartbeats 4000000 in
theorem c_X12_likesOf {g : xG} {al : List (Nat × Nat × Nat)} {ro : Nat → Nat → Option Nat} (hst : g.1.stackTraces = false) (hs : SH al ro) {M : Nat → xU} {a : Int} {S : xU}  {t : Int} (hG : G12_likesOf a S = some t) :
    Cal g yX12_likesOf cX12_likesOf 4 (some .int) 1 [x_r (16 * 32 + 0), x_i a] (al, ro, fl (ml M [32] [S])) 0 0 (.inl (some (x_i t))) (al, ro, fl (ml M [32] [S])) := by
  have hn : ([32] : List Nat).Nodup := by decide
  refine cal_of_ev (plainFor_of_name (by decide)) (x_c1 rfl) (Nat.le_of_ble_eq_true rfl) hst ?_
  show Ev g _ _ _ _ _ _ 0 [some (x_r (16 * 32 + 0)), some (x_i a), none, none] [] (al, ro, fl (ml M [32] [S])) _ _ _ _
  rw [G12_likesOf] at hG
  refine e_iconst (pc := 0) dX12_likesOf_0 (x_R rfl) ?_
  refine e_istoren (pc := 1) (i := 2) dX12_likesOf_1 rfl (by decide) rfl ?_
  show Ev g _ _ _ _ _ _ 2 [some (x_r (16 * 32 + 0)), some (x_i a), some (x_i 0), none] [] (al, ro, fl (ml M [32] [S])) _ _ _ _
  refine e_iconst (pc := 2) dX12_likesOf_2 (x_R rfl) ?_
  refine e_istoren (pc := 3) (i := 3) dX12_likesOf_3 rfl (by decide) rfl ?_
  show Ev g _ _ _ _ _ _ 4 [some (x_r (16 * 32 + 0)), some (x_i a), some (x_i 0), some (x_i 0)] [] (al, ro, fl (ml M [32] [S])) _ _ _ _
  obtain ⟨v3, hl4, hG⟩ := x_bd1 hG
  have hk4 : ∀ q : Int, q = v3 → Ev g yX12_likesOf cX12_likesOf 4 (some .int) [] 1 41 [some (x_r (16 * 32 + 0)), some (x_i a), some (x_i q), none] [] (al, ro, fl (ml M [32] [S])) 0 0 (.inl (some (x_i t))) (al, ro, fl (ml M [32] [S])) := by
    intro q hq
    replace hq := hq.symm
    subst hq
    refine e_iloadn (pc := 41) (i := 2) dX12_likesOf_41 rfl rfl ?_
    cases hG
    exact (e_ireturn rfl dX12_likesOf_42 rfl)
  clear hG
  refine e_whl (G12_likesOf_L4 a S) (fun z : (Int × Int) => Ev g yX12_likesOf cX12_likesOf 4 (some .int) [] 1 4 [some (x_r (16 * 32 + 0)), some (x_i a), some (x_i z.1), some (x_i z.2)] [] (al, ro, fl (ml M [32] [S])) 0 0 (.inl (some (x_i t))) (al, ro, fl (ml M [32] [S]))) (fun q => q = v3) ?_ xFU (0, 0) _ hl4 rfl
  intro z t4 hf4 hi4 hx4
  obtain ⟨v1, v2⟩ := z
  rw [G12_likesOf_L4] at hf4
  show Ev g _ _ _ _ _ _ 4 [some (x_r (16 * 32 + 0)), some (x_i a), some (x_i v1), some (x_i v2)] [] (al, ro, fl (ml M [32] [S])) _ _ _ _
  refine e_iloadn (pc := 4) (i := 3) dX12_likesOf_4 rfl rfl ?_
  refine e_aloadn (pc := 5) (i := 0) dX12_likesOf_5 rfl rfl ?_
  refine f_getr (pc := 6) (u := 32) (q := 0) dX12_likesOf_6 xf12_7 (sa_32_0 hs) rfl (sr_32_0_1 hs) ?_
  refine e_iconst (pc := 9) dX12_likesOf_9 (x_R rfl) ?_
  refine f_iald (pc := 10) (k := 0) (u := 32) (q := 1) (len := 772) dX12_likesOf_10 (sa_32_1 hs) (by decide) hn rfl rfl (by decide) ?_
  show Ev g _ _ _ _ _ _ 11 [some (x_r (16 * 32 + 0)), some (x_i a), some (x_i v1), some (x_i v2)] [x_i (S 1 3), x_i v2] (al, ro, fl (ml M [32] [S])) _ _ _ _
  refine e_icmp_ge (pc := 11) (tgt := 41) dX12_likesOf_11 (by decide) (fun hb => ?_) (fun hb => ?_)
  · rw [if_pos hb] at hf4
    cases hf4
    refine e_drop (i := 3) ?_
    have hh := hk4 _ (hx4 _ rfl)
    try dsimp only at hh
    exact hh
  · rw [if_neg hb] at hf4
    refine e_iloadn (pc := 14) (i := 2) dX12_likesOf_14 rfl rfl ?_
    refine e_iloadn (pc := 15) (i := 1) dX12_likesOf_15 rfl rfl ?_
    refine e_iloadn (pc := 16) (i := 3) dX12_likesOf_16 rfl rfl ?_
    obtain ⟨v6, hq6, hf4⟩ := x_bd1 hf4
    refine e_invS (pc := 17) (K1 := 0) (S1 := 0) (K := 0) (S := 0) (dd2 := 0) (av := [x_i a, x_i v2]) (st := [x_i v1]) dX12_likesOf_17 xmX12_119 rfl (f_cal (M := M) (us2 := []) [] hn rfl trivial rfl rfl rfl (c_X12_isOf hst hs   hq6)) (by decide) (Nat.le_of_ble_eq_true rfl) (Or.inl rfl) ?_
    show Ev g _ _ _ _ _ _ 20 [some (x_r (16 * 32 + 0)), some (x_i a), some (x_i v1), some (x_i v2)] [x_i v6, x_i v1] (al, ro, fl (ml M [32] [S])) _ _ _ _
    obtain ⟨v8, hr8, hf4⟩ := x_bd1 hf4
    have hjhr8 : Ev g yX12_likesOf cX12_likesOf 4 (some .int) [] 1 33 [some (x_r (16 * 32 + 0)), some (x_i a), some (x_i v1), some (x_i v2)] [x_i v8, x_i v1] (al, ro, fl (ml M [32] [S])) 0 0 (.inl (some (x_i t))) (al, ro, fl (ml M [32] [S])) := by
      refine e_ior (pc := 33) dX12_likesOf_33 ?_
      refine e_istoren (pc := 34) (i := 2) dX12_likesOf_34 rfl (by decide) rfl ?_
      show Ev g _ _ _ _ _ _ 35 [some (x_r (16 * 32 + 0)), some (x_i a), some (x_i (x_or v1 v8)), some (x_i v2)] [] (al, ro, fl (ml M [32] [S])) _ _ _ _
      refine e_iinc (pc := 35) dX12_likesOf_35 rfl (by decide) rfl ?_
      show Ev g _ _ _ _ _ _ 38 [some (x_r (16 * 32 + 0)), some (x_i a), some (x_i (x_or v1 v8)), some (x_i (x_add v2 1))] [] (al, ro, fl (ml M [32] [S])) _ _ _ _
      refine e_goto (pc := 38) (tgt := 4) dX12_likesOf_38 (by decide) ?_
      cases hf4
      have hh := hi4 _ rfl
      try dsimp only at hh
      exact hh
    clear hf4
    refine e_if_eq (pc := 20) (tgt := 32) dX12_likesOf_20 (by decide) (fun hb => ?_) (fun hb => ?_)
    · rw [if_pos hb] at hr8
      refine e_iconst (pc := 32) dX12_likesOf_32 (x_R rfl) ?_
      cases hr8
      exact hjhr8
    · rw [if_neg hb] at hr8
      refine e_aloadn (pc := 23) (i := 0) dX12_likesOf_23 rfl rfl ?_
      refine e_iloadn (pc := 24) (i := 3) dX12_likesOf_24 rfl rfl ?_
      refine e_iconst (pc := 25) dX12_likesOf_25 (x_R rfl) ?_
      obtain ⟨v10, hq10, hr8⟩ := x_bd1 hr8
      refine e_invV (pc := 26) (K1 := 0) (S1 := 0) (K := 0) (S := 0) (dd2 := 0) (av := [x_i v2, x_i 3]) (st := [x_i v1]) (id := 16 * 32 + 0) dX12_likesOf_26 xmX12_65 rfl (Or.inl ⟨10, 27, TX12, (sa_32_0 hs), rfl, by decide⟩) (f_cal (M := M) (us2 := [32]) [0] hn rfl (And.intro rfl trivial) rfl rfl rfl (c_X12_of hst hs   hq10)) (by decide) (Nat.le_of_ble_eq_true rfl) (Or.inl rfl) ?_
      show Ev g _ _ _ _ _ _ 29 [some (x_r (16 * 32 + 0)), some (x_i a), some (x_i v1), some (x_i v2)] [x_i v10, x_i v1] (al, ro, fl (ml M [32] [S])) _ _ _ _
      refine e_goto (pc := 29) (tgt := 33) dX12_likesOf_29 (by decide) ?_
      cases hr8
      exact hjhr8
