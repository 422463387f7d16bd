set_option maxRecDepth 100000 in
set_option maxHeartbeats 4000000 in
theorem c_X12_count {g : xG} {al : List (Nat × Nat × Nat)} {ro : Nat → Nat → Option Nat} (hst : g.1.stackTraces = false) (hs : SH al ro) {M : Nat → xU} {a : Int} {S : xU}  {t : (Int × xU)} (hG : G12_count a S = some t) :
    Cal g yX12_count cX12_count 4 (some .int) 2 [x_r (16 * 32 + 0), x_i a] (al, ro, fl (ml M [32] [S])) 0 0 (.inl (some (x_i t.1))) (al, ro, fl (ml M [32] [t.2])) := by
  have hn : ([32] : List Nat).Nodup := by decide
  refine cal_of_ev (plainFor_of_name (by decide)) (x_c1 rfl) (Nat.le_of_ble_eq_true rfl) hst ?_
  show Ev g _ _ _ _ _ _ 0 [some (x_r (16 * 32 + 0)), some (x_i a), none, none] [] (al, ro, fl (ml M [32] [S])) _ _ _ _
  rw [G12_count] at hG
  refine e_aloadn (pc := 0) (i := 0) dX12_count_0 rfl rfl ?_
  refine e_iconst (pc := 1) dX12_count_1 (x_R rfl) ?_
  refine f_puti (pc := 2) (k := 0) (u := 32) (q := 0) dX12_count_2 xf12_58 xw10_0 (sa_32_0 hs) hn rfl rfl rfl (by decide) ?_
  show Ev g _ _ _ _ _ _ 5 [some (x_r (16 * 32 + 0)), some (x_i a), none, none] [] (al, ro, fl (ml M [32] [(x_up S 0 0 0)])) _ _ _ _
  refine e_iloadn (pc := 5) (i := 1) dX12_count_5 rfl rfl ?_
  refine e_if_ne (pc := 6) (tgt := 16) dX12_count_6 (by decide) (fun hb => ?_) (fun hb => ?_)
  · rw [if_neg hb] at hG
    refine e_iloadn (pc := 16) (i := 1) dX12_count_16 rfl rfl ?_
    refine e_iconst (pc := 17) dX12_count_17 (x_R rfl) ?_
    refine e_icmp_ne (pc := 18) (tgt := 28) dX12_count_18 (by decide) (fun hb => ?_) (fun hb => ?_)
    · rw [if_neg hb] at hG
      refine e_iloadn (pc := 28) (i := 1) dX12_count_28 rfl rfl ?_
      refine e_iconst (pc := 29) dX12_count_29 (x_R rfl) ?_
      refine e_icmp_ne (pc := 30) (tgt := 40) dX12_count_30 (by decide) (fun hb => ?_) (fun hb => ?_)
      · rw [if_neg hb] at hG
        refine e_iloadn (pc := 40) (i := 1) dX12_count_40 rfl rfl ?_
        refine e_iconst (pc := 41) dX12_count_41 (x_R rfl) ?_
        refine e_bipush (pc := 42) dX12_count_42 (by decide +kernel) (x_R rfl) ?_
        obtain ⟨v1, hq1, hG⟩ := x_bd1 hG
        refine e_invS (pc := 44) (K1 := 0) (S1 := 0) (K := 0) (S := 0) (dd2 := 0) (av := [x_i a, x_i 3, x_i 8]) (st := []) dX12_count_44 xmX12_61 rfl (f_cal (M := M) (us2 := []) [] hn rfl trivial rfl rfl rfl (c_X12_isIn hst hs   hq1)) (by decide) (Nat.le_of_ble_eq_true rfl) (Or.inl rfl) ?_
        show Ev g _ _ _ _ _ _ 47 [some (x_r (16 * 32 + 0)), some (x_i a), none, none] [x_i v1] (al, ro, fl (ml M [32] [(x_up S 0 0 0)])) _ _ _ _
        refine e_if_eq (pc := 47) (tgt := 61) dX12_count_47 (by decide) (fun hb => ?_) (fun hb => ?_)
        · rw [if_pos hb] at hG
          refine e_iloadn (pc := 61) (i := 1) dX12_count_61 rfl rfl ?_
          refine e_bipush (pc := 62) dX12_count_62 (by decide +kernel) (x_R rfl) ?_
          refine e_icmp_ne (pc := 64) (tgt := 72) dX12_count_64 (by decide) (fun hb => ?_) (fun hb => ?_)
          · rw [if_neg hb] at hG
            refine e_iloadn (pc := 72) (i := 1) dX12_count_72 rfl rfl ?_
            refine e_bipush (pc := 73) dX12_count_73 (by decide +kernel) (x_R rfl) ?_
            refine e_icmp_ne (pc := 75) (tgt := 86) dX12_count_75 (by decide) (fun hb => ?_) (fun hb => ?_)
            · rw [if_neg hb] at hG
              refine e_iloadn (pc := 86) (i := 1) dX12_count_86 rfl rfl ?_
              refine e_bipush (pc := 87) dX12_count_87 (by decide +kernel) (x_R rfl) ?_
              refine e_icmp_ne (pc := 89) (tgt := 97) dX12_count_89 (by decide) (fun hb => ?_) (fun hb => ?_)
              · rw [if_neg hb] at hG
                refine e_iconst (pc := 97) dX12_count_97 (x_R rfl) ?_
                refine e_istoren (pc := 98) (i := 2) dX12_count_98 rfl (by decide) rfl ?_
                show Ev g _ _ _ _ _ _ 99 [some (x_r (16 * 32 + 0)), some (x_i a), some (x_i 0), none] [] (al, ro, fl (ml M [32] [(x_up S 0 0 0)])) _ _ _ _
                refine e_iconst (pc := 99) dX12_count_99 (x_R rfl) ?_
                refine e_istoren (pc := 100) (i := 3) dX12_count_100 rfl (by decide) rfl ?_
                show Ev g _ _ _ _ _ _ 101 [some (x_r (16 * 32 + 0)), some (x_i a), some (x_i 0), some (x_i 0)] [] (al, ro, fl (ml M [32] [(x_up S 0 0 0)])) _ _ _ _
                obtain ⟨v5, hl6, hG⟩ := x_bd1 hG
                have hk6 : ∀ q : Int, q = v5 → Ev g yX12_count cX12_count 4 (some .int) [] 2 124 [some (x_r (16 * 32 + 0)), some (x_i a), some (x_i q), none] [] (al, ro, fl (ml M [32] [(x_up S 0 0 0)])) 0 0 (.inl (some (x_i t.1))) (al, ro, fl (ml M [32] [t.2])) := by
                  intro q hq
                  replace hq := hq.symm
                  subst hq
                  refine e_iloadn (pc := 124) (i := 1) dX12_count_124 rfl rfl ?_
                  refine e_bipush (pc := 125) dX12_count_125 (by decide +kernel) (x_R rfl) ?_
                  obtain ⟨v8, hr8, hG⟩ := x_bd1 hG
                  have hjhr8 : Ev g yX12_count cX12_count 4 (some .int) [] 2 135 [some (x_r (16 * 32 + 0)), some (x_i a), some (x_i v5), none] [x_i v8] (al, ro, fl (ml M [32] [(x_up S 0 0 0)])) 0 0 (.inl (some (x_i t.1))) (al, ro, fl (ml M [32] [t.2])) := by
                    cases hG
                    exact (e_ireturn rfl dX12_count_135 rfl)
                  clear hG
                  refine e_icmp_ne (pc := 127) (tgt := 134) dX12_count_127 (by decide) (fun hb => ?_) (fun hb => ?_)
                  · rw [if_neg hb] at hr8
                    refine e_iconst (pc := 134) dX12_count_134 (x_R rfl) ?_
                    cases hr8
                    exact hjhr8
                  · rw [if_pos hb] at hr8
                    refine e_iloadn (pc := 130) (i := 2) dX12_count_130 rfl rfl ?_
                    refine e_goto (pc := 131) (tgt := 135) dX12_count_131 (by decide) ?_
                    cases hr8
                    exact hjhr8
                clear hG
                refine e_whl (G12_count_L101 S) (fun z : (Int × Int) => Ev g yX12_count cX12_count 4 (some .int) [] 2 101 [some (x_r (16 * 32 + 0)), some (x_i a), some (x_i z.1), some (x_i z.2)] [] (al, ro, fl (ml M [32] [(x_up S 0 0 0)])) 0 0 (.inl (some (x_i t.1))) (al, ro, fl (ml M [32] [t.2]))) (fun q => q = v5) ?_ xFU (0, 0) _ hl6 rfl
                intro z t6 hf6 hi6 hx6
                obtain ⟨v3, v4⟩ := z
                rw [G12_count_L101] at hf6
                show Ev g _ _ _ _ _ _ 101 [some (x_r (16 * 32 + 0)), some (x_i a), some (x_i v3), some (x_i v4)] [] (al, ro, fl (ml M [32] [(x_up S 0 0 0)])) _ _ _ _
                refine e_iloadn (pc := 101) (i := 3) dX12_count_101 rfl rfl ?_
                refine e_iconst (pc := 102) dX12_count_102 (x_R rfl) ?_
                refine e_icmp_ge (pc := 103) (tgt := 124) dX12_count_103 (by decide) (fun hb => ?_) (fun hb => ?_)
                · rw [if_pos hb] at hf6
                  cases hf6
                  refine e_drop (i := 3) ?_
                  have hh := hk6 _ (hx6 _ rfl)
                  try dsimp only at hh
                  exact hh
                · rw [if_neg hb] at hf6
                  refine e_iloadn (pc := 106) (i := 2) dX12_count_106 rfl rfl ?_
                  refine e_aloadn (pc := 107) (i := 0) dX12_count_107 rfl rfl ?_
                  refine f_getr (pc := 108) (u := 32) (q := 0) dX12_count_108 xf12_7 (sa_32_0 hs) rfl (sr_32_0_1 hs) ?_
                  refine e_bipush (pc := 111) dX12_count_111 (by decide +kernel) (x_R rfl) ?_
                  refine e_iloadn (pc := 113) (i := 3) dX12_count_113 rfl rfl ?_
                  refine e_iadd (pc := 114) dX12_count_114 ?_
                  obtain ⟨hc0, hf6⟩ := x_gd_some hf6
                  refine f_iald (pc := 115) (k := 0) (u := 32) (q := 1) (len := 772) dX12_count_115 (sa_32_1 hs) hc0 hn rfl rfl (by decide) ?_
                  show Ev g _ _ _ _ _ _ 116 [some (x_r (16 * 32 + 0)), some (x_i a), some (x_i v3), some (x_i v4)] [x_i ((x_up S 0 0 0) 1 ((x_add 12 v4)).toNat), x_i v3] (al, ro, fl (ml M [32] [(x_up S 0 0 0)])) _ _ _ _
                  refine e_iadd (pc := 116) dX12_count_116 ?_
                  refine e_istoren (pc := 117) (i := 2) dX12_count_117 rfl (by decide) rfl ?_
                  show Ev g _ _ _ _ _ _ 118 [some (x_r (16 * 32 + 0)), some (x_i a), some (x_i (x_add v3 ((x_up S 0 0 0) 1 ((x_add 12 v4)).toNat))), some (x_i v4)] [] (al, ro, fl (ml M [32] [(x_up S 0 0 0)])) _ _ _ _
                  refine e_iinc (pc := 118) dX12_count_118 rfl (by decide) rfl ?_
                  show Ev g _ _ _ _ _ _ 121 [some (x_r (16 * 32 + 0)), some (x_i a), some (x_i (x_add v3 ((x_up S 0 0 0) 1 ((x_add 12 v4)).toNat))), some (x_i (x_add v4 1))] [] (al, ro, fl (ml M [32] [(x_up S 0 0 0)])) _ _ _ _
                  refine e_goto (pc := 121) (tgt := 101) dX12_count_121 (by decide) ?_
                  cases hf6
                  have hh := hi6 _ rfl
                  try dsimp only at hh
                  exact hh
              · rw [if_pos hb] at hG
                refine e_aloadn (pc := 92) (i := 0) dX12_count_92 rfl rfl ?_
                refine f_geti (pc := 93) (k := 0) (u := 32) (q := 0) dX12_count_93 xf12_204 (sa_32_0 hs) rfl hn rfl rfl (by decide) ?_
                show Ev g _ _ _ _ _ _ 96 [some (x_r (16 * 32 + 0)), some (x_i a), none, none] [x_i ((x_up S 0 0 0) 0 6)] (al, ro, fl (ml M [32] [(x_up S 0 0 0)])) _ _ _ _
                cases hG
                exact (e_ireturn rfl dX12_count_96 rfl)
            · rw [if_pos hb] at hG
              refine e_aloadn (pc := 78) (i := 0) dX12_count_78 rfl rfl ?_
              refine f_getr (pc := 79) (u := 32) (q := 0) dX12_count_79 xf12_7 (sa_32_0 hs) rfl (sr_32_0_1 hs) ?_
              refine e_bipush (pc := 82) dX12_count_82 (by decide +kernel) (x_R rfl) ?_
              refine f_iald (pc := 84) (k := 0) (u := 32) (q := 1) (len := 772) dX12_count_84 (sa_32_1 hs) (by decide) hn rfl rfl (by decide) ?_
              show Ev g _ _ _ _ _ _ 85 [some (x_r (16 * 32 + 0)), some (x_i a), none, none] [x_i ((x_up S 0 0 0) 1 10)] (al, ro, fl (ml M [32] [(x_up S 0 0 0)])) _ _ _ _
              cases hG
              exact (e_ireturn rfl dX12_count_85 rfl)
          · rw [if_pos hb] at hG
            refine e_aloadn (pc := 67) (i := 0) dX12_count_67 rfl rfl ?_
            obtain ⟨v10, hq10, hG⟩ := x_bd1 hG
            refine e_invV (pc := 68) (K1 := 0) (S1 := 0) (K := 0) (S := 0) (dd2 := 1) (av := []) (st := []) (id := 16 * 32 + 0) dX12_count_68 xmX12_298 rfl (Or.inl ⟨10, 27, TX12, (sa_32_0 hs), rfl, by decide⟩) (f_cal (M := M) (us2 := [32]) [0] hn rfl (And.intro rfl trivial) rfl rfl rfl (c_X12_lateOfAll hst hs   hq10)) (by decide) (Nat.le_of_ble_eq_true rfl) (Or.inl rfl) ?_
            show Ev g _ _ _ _ _ _ 71 [some (x_r (16 * 32 + 0)), some (x_i a), none, none] [x_i v10] (al, ro, fl (ml M [32] [(x_up S 0 0 0)])) _ _ _ _
            cases hG
            exact (e_ireturn rfl dX12_count_71 rfl)
        · rw [if_neg hb] at hG
          refine e_aloadn (pc := 50) (i := 0) dX12_count_50 rfl rfl ?_
          refine f_getr (pc := 51) (u := 32) (q := 0) dX12_count_51 xf12_7 (sa_32_0 hs) rfl (sr_32_0_1 hs) ?_
          refine e_iconst (pc := 54) dX12_count_54 (x_R rfl) ?_
          refine e_iloadn (pc := 55) (i := 1) dX12_count_55 rfl rfl ?_
          refine e_iadd (pc := 56) dX12_count_56 ?_
          refine e_iconst (pc := 57) dX12_count_57 (x_R rfl) ?_
          refine e_isub (pc := 58) dX12_count_58 ?_
          obtain ⟨hc0, hG⟩ := x_gd_some hG
          refine f_iald (pc := 59) (k := 0) (u := 32) (q := 1) (len := 772) dX12_count_59 (sa_32_1 hs) hc0 hn rfl rfl (by decide) ?_
          show Ev g _ _ _ _ _ _ 60 [some (x_r (16 * 32 + 0)), some (x_i a), none, none] [x_i ((x_up S 0 0 0) 1 ((x_sub (x_add 4 a) 3)).toNat)] (al, ro, fl (ml M [32] [(x_up S 0 0 0)])) _ _ _ _
          cases hG
          exact (e_ireturn rfl dX12_count_60 rfl)
      · rw [if_pos hb] at hG
        refine e_aloadn (pc := 33) (i := 0) dX12_count_33 rfl rfl ?_
        refine f_getr (pc := 34) (u := 32) (q := 0) dX12_count_34 xf12_7 (sa_32_0 hs) rfl (sr_32_0_1 hs) ?_
        refine e_iconst (pc := 37) dX12_count_37 (x_R rfl) ?_
        refine f_iald (pc := 38) (k := 0) (u := 32) (q := 1) (len := 772) dX12_count_38 (sa_32_1 hs) (by decide) hn rfl rfl (by decide) ?_
        show Ev g _ _ _ _ _ _ 39 [some (x_r (16 * 32 + 0)), some (x_i a), none, none] [x_i ((x_up S 0 0 0) 1 1)] (al, ro, fl (ml M [32] [(x_up S 0 0 0)])) _ _ _ _
        cases hG
        exact (e_ireturn rfl dX12_count_39 rfl)
    · rw [if_pos hb] at hG
      refine e_aloadn (pc := 21) (i := 0) dX12_count_21 rfl rfl ?_
      refine f_getr (pc := 22) (u := 32) (q := 0) dX12_count_22 xf12_7 (sa_32_0 hs) rfl (sr_32_0_1 hs) ?_
      refine e_iconst (pc := 25) dX12_count_25 (x_R rfl) ?_
      refine f_iald (pc := 26) (k := 0) (u := 32) (q := 1) (len := 772) dX12_count_26 (sa_32_1 hs) (by decide) hn rfl rfl (by decide) ?_
      show Ev g _ _ _ _ _ _ 27 [some (x_r (16 * 32 + 0)), some (x_i a), none, none] [x_i ((x_up S 0 0 0) 1 0)] (al, ro, fl (ml M [32] [(x_up S 0 0 0)])) _ _ _ _
      cases hG
      exact (e_ireturn rfl dX12_count_27 rfl)
  · rw [if_pos hb] at hG
    refine e_aloadn (pc := 9) (i := 0) dX12_count_9 rfl rfl ?_
    refine f_getr (pc := 10) (u := 32) (q := 0) dX12_count_10 xf12_7 (sa_32_0 hs) rfl (sr_32_0_1 hs) ?_
    refine e_iconst (pc := 13) dX12_count_13 (x_R rfl) ?_
    refine f_iald (pc := 14) (k := 0) (u := 32) (q := 1) (len := 772) dX12_count_14 (sa_32_1 hs) (by decide) hn rfl rfl (by decide) ?_
    show Ev g _ _ _ _ _ _ 15 [some (x_r (16 * 32 + 0)), some (x_i a), none, none] [x_i ((x_up S 0 0 0) 1 3)] (al, ro, fl (ml M [32] [(x_up S 0 0 0)])) _ _ _ _
    cases hG
    exact (e_ireturn rfl dX12_count_15 rfl)
