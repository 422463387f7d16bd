set_option maxRecDepth 100000 in
set_option maxHeartbeats 4000000 in
theorem c_X12_lateOfAll {g : xG} {al : List (Nat × Nat × Nat)} {ro : Nat → Nat → Option Nat} (hst : g.1.stackTraces = false) (hs : SH al ro) {M : Nat → xU} {S : xU}  {t : Int} (hG : G12_lateOfAll S = some t) :
    Cal g yX12_lateOfAll cX12_lateOfAll 3 (some .int) 1 [x_r (16 * 32 + 0)] (al, ro, fl (ml M [32] [S])) 0 0 (.inl (some (x_i t))) (al, ro, fl (ml M [32] [S])) := by
  have hn : ([32] : List Nat).Nodup := by decide
  refine cal_of_ev (plainFor_of_name (by decide)) (x_c1 rfl) (Nat.le_of_ble_eq_true rfl) hst ?_
  show Ev g _ _ _ _ _ _ 0 [some (x_r (16 * 32 + 0)), none, none] [] (al, ro, fl (ml M [32] [S])) _ _ _ _
  rw [G12_lateOfAll] at hG
  refine e_iconst (pc := 0) dX12_lateOfAll_0 (x_R rfl) ?_
  refine e_istoren (pc := 1) (i := 1) dX12_lateOfAll_1 rfl (by decide) rfl ?_
  show Ev g _ _ _ _ _ _ 2 [some (x_r (16 * 32 + 0)), some (x_i 0), none] [] (al, ro, fl (ml M [32] [S])) _ _ _ _
  refine e_iconst (pc := 2) dX12_lateOfAll_2 (x_R rfl) ?_
  refine e_istoren (pc := 3) (i := 2) dX12_lateOfAll_3 rfl (by decide) rfl ?_
  show Ev g _ _ _ _ _ _ 4 [some (x_r (16 * 32 + 0)), some (x_i 0), some (x_i 0)] [] (al, ro, fl (ml M [32] [S])) _ _ _ _
  obtain ⟨v3, hl4, hG⟩ := x_bd1 hG
  have hk4 : ∀ q : Int, q = v3 → Ev g yX12_lateOfAll cX12_lateOfAll 3 (some .int) [] 1 29 [some (x_r (16 * 32 + 0)), some (x_i q), none] [] (al, ro, fl (ml M [32] [S])) 0 0 (.inl (some (x_i t))) (al, ro, fl (ml M [32] [S])) := by
    intro q hq
    replace hq := hq.symm
    subst hq
    refine e_iloadn (pc := 29) (i := 1) dX12_lateOfAll_29 rfl rfl ?_
    cases hG
    exact (e_ireturn rfl dX12_lateOfAll_30 rfl)
  clear hG
  refine e_whl (G12_lateOfAll_L4 S) (fun z : (Int × Int) => Ev g yX12_lateOfAll cX12_lateOfAll 3 (some .int) [] 1 4 [some (x_r (16 * 32 + 0)), some (x_i z.1), some (x_i z.2)] [] (al, ro, fl (ml M [32] [S])) 0 0 (.inl (some (x_i t))) (al, ro, fl (ml M [32] [S]))) (fun q => q = v3) ?_ xFU (0, 0) _ hl4 rfl
  intro z t4 hf4 hi4 hx4
  obtain ⟨v1, v2⟩ := z
  rw [G12_lateOfAll_L4] at hf4
  show Ev g _ _ _ _ _ _ 4 [some (x_r (16 * 32 + 0)), some (x_i v1), some (x_i v2)] [] (al, ro, fl (ml M [32] [S])) _ _ _ _
  refine e_iloadn (pc := 4) (i := 2) dX12_lateOfAll_4 rfl rfl ?_
  refine e_aloadn (pc := 5) (i := 0) dX12_lateOfAll_5 rfl rfl ?_
  refine f_getr (pc := 6) (u := 32) (q := 0) dX12_lateOfAll_6 xf12_7 (sa_32_0 hs) rfl (sr_32_0_1 hs) ?_
  refine e_iconst (pc := 9) dX12_lateOfAll_9 (x_R rfl) ?_
  refine f_iald (pc := 10) (k := 0) (u := 32) (q := 1) (len := 772) dX12_lateOfAll_10 (sa_32_1 hs) (by decide) hn rfl rfl (by decide) ?_
  show Ev g _ _ _ _ _ _ 11 [some (x_r (16 * 32 + 0)), some (x_i v1), some (x_i v2)] [x_i (S 1 3), x_i v2] (al, ro, fl (ml M [32] [S])) _ _ _ _
  refine e_icmp_ge (pc := 11) (tgt := 29) dX12_lateOfAll_11 (by decide) (fun hb => ?_) (fun hb => ?_)
  · rw [if_pos hb] at hf4
    cases hf4
    refine e_drop (i := 2) ?_
    have hh := hk4 _ (hx4 _ rfl)
    try dsimp only at hh
    exact hh
  · rw [if_neg hb] at hf4
    refine e_iloadn (pc := 14) (i := 1) dX12_lateOfAll_14 rfl rfl ?_
    refine e_aloadn (pc := 15) (i := 0) dX12_lateOfAll_15 rfl rfl ?_
    refine e_iloadn (pc := 16) (i := 2) dX12_lateOfAll_16 rfl rfl ?_
    refine e_iconst (pc := 17) dX12_lateOfAll_17 (x_R rfl) ?_
    obtain ⟨v6, hq6, hf4⟩ := x_bd1 hf4
    refine e_invV (pc := 18) (K1 := 0) (S1 := 0) (K := 0) (S := 0) (dd2 := 0) (av := [x_i v2, x_i 5]) (st := [x_i v1]) (id := 16 * 32 + 0) dX12_lateOfAll_18 xmX12_65 rfl (Or.inl ⟨10, 27, TX12, (sa_32_0 hs), rfl, by decide⟩) (f_cal (M := M) (us2 := [32]) [0] hn rfl (And.intro rfl trivial) rfl rfl rfl (c_X12_of hst hs   hq6)) (by decide) (Nat.le_of_ble_eq_true rfl) (Or.inl rfl) ?_
    show Ev g _ _ _ _ _ _ 21 [some (x_r (16 * 32 + 0)), some (x_i v1), some (x_i v2)] [x_i v6, x_i v1] (al, ro, fl (ml M [32] [S])) _ _ _ _
    refine e_iadd (pc := 21) dX12_lateOfAll_21 ?_
    refine e_istoren (pc := 22) (i := 1) dX12_lateOfAll_22 rfl (by decide) rfl ?_
    show Ev g _ _ _ _ _ _ 23 [some (x_r (16 * 32 + 0)), some (x_i (x_add v1 v6)), some (x_i v2)] [] (al, ro, fl (ml M [32] [S])) _ _ _ _
    refine e_iinc (pc := 23) dX12_lateOfAll_23 rfl (by decide) rfl ?_
    show Ev g _ _ _ _ _ _ 26 [some (x_r (16 * 32 + 0)), some (x_i (x_add v1 v6)), some (x_i (x_add v2 1))] [] (al, ro, fl (ml M [32] [S])) _ _ _ _
    refine e_goto (pc := 26) (tgt := 4) dX12_lateOfAll_26 (by decide) ?_
    cases hf4
    have hh := hi4 _ rfl
    try dsimp only at hh
    exact hh
set_option maxRecDepth 100000 in
set_option maxHeartbeats 4000000 in
theorem c_X12_monk {g : xG} {al : List (Nat × Nat × Nat)} {ro : Nat → Nat → Option Nat} (hst : g.1.stackTraces = false) (hs : SH al ro) {M : Nat → xU} {a : Int} {b : Int} {S : xU}  {t : (Int × xU)} (hG : G12_monk a b S = some t) :
    Cal g yX12_monk cX12_monk 3 (some .int) 44 [x_r (16 * 32 + 0), x_i a, x_i b] (al, ro, fl (ml M [32] [S])) 0 0 (.inl (some (x_i t.1))) (al, ro, fl (ml M [32] [t.2])) := by
  have hn : ([32] : List Nat).Nodup := by decide
  refine cal_of_ev (plainFor_of_name (by decide)) (x_c1 rfl) (Nat.le_of_ble_eq_true rfl) hst ?_
  show Ev g _ _ _ _ _ _ 0 [some (x_r (16 * 32 + 0)), some (x_i a), some (x_i b)] [] (al, ro, fl (ml M [32] [S])) _ _ _ _
  rw [G12_monk] at hG
  refine e_aloadn (pc := 0) (i := 0) dX12_monk_0 rfl rfl ?_
  refine e_aloadn (pc := 1) (i := 0) dX12_monk_1 rfl rfl ?_
  refine e_iloadn (pc := 2) (i := 1) dX12_monk_2 rfl rfl ?_
  obtain ⟨v1, hq1, hG⟩ := x_bd1 hG
  refine e_invV (pc := 3) (K1 := 0) (S1 := 0) (K := 0) (S := 0) (dd2 := 1) (av := [x_i a]) (st := [x_r (16 * 32 + 0)]) (id := 16 * 32 + 0) dX12_monk_3 xmX12_295 rfl (Or.inl ⟨10, 27, TX12, (sa_32_0 hs), rfl, by decide⟩) (f_cal (M := M) (us2 := [32]) [0] hn rfl (And.intro rfl trivial) rfl rfl rfl (c_X12_isMonk hst hs   hq1)) (by decide) (Nat.le_of_ble_eq_true rfl) (Or.inl rfl) ?_
  show Ev g _ _ _ _ _ _ 6 [some (x_r (16 * 32 + 0)), some (x_i a), some (x_i b)] [x_i v1, x_r (16 * 32 + 0)] (al, ro, fl (ml M [32] [S])) _ _ _ _
  obtain ⟨v3, hr3, hG⟩ := x_bd1 hG
  have hjhr3 : Ev g yX12_monk cX12_monk 3 (some .int) [] 44 28 [some (x_r (16 * 32 + 0)), some (x_i a), some (x_i b)] [x_i v3, x_r (16 * 32 + 0)] (al, ro, fl (ml M [32] [S])) 0 0 (.inl (some (x_i t.1))) (al, ro, fl (ml M [32] [t.2])) := by
    refine f_puti (pc := 28) (k := 0) (u := 32) (q := 0) dX12_monk_28 xf12_58 xw10_0 (sa_32_0 hs) hn rfl rfl rfl (by decide) ?_
    show Ev g _ _ _ _ _ _ 31 [some (x_r (16 * 32 + 0)), some (x_i a), some (x_i b)] [] (al, ro, fl (ml M [32] [(x_up S 0 0 v3)])) _ _ _ _
    refine e_aloadn (pc := 31) (i := 0) dX12_monk_31 rfl rfl ?_
    refine f_geti (pc := 32) (k := 0) (u := 32) (q := 0) dX12_monk_32 xf12_58 (sa_32_0 hs) rfl hn rfl rfl (by decide) ?_
    show Ev g _ _ _ _ _ _ 35 [some (x_r (16 * 32 + 0)), some (x_i a), some (x_i b)] [x_i ((x_up S 0 0 v3) 0 0)] (al, ro, fl (ml M [32] [(x_up S 0 0 v3)])) _ _ _ _
    refine e_if_le (pc := 35) (tgt := 40) dX12_monk_35 (by decide) (fun hb => ?_) (fun hb => ?_)
    · rw [if_pos hb] at hG
      refine e_iloadn (pc := 40) (i := 2) dX12_monk_40 rfl rfl ?_
      refine e_bipush (pc := 41) dX12_monk_41 (by decide +kernel) (x_R rfl) ?_
      refine e_icmp_ge (pc := 43) (tgt := 53) dX12_monk_43 (by decide) (fun hb => ?_) (fun hb => ?_)
      · rw [if_pos hb] at hG
        refine e_iloadn (pc := 53) (i := 2) dX12_monk_53 rfl rfl ?_
        refine e_bipush (pc := 54) dX12_monk_54 (by decide +kernel) (x_R rfl) ?_
        refine e_icmp_ne (pc := 56) (tgt := 65) dX12_monk_56 (by decide) (fun hb => ?_) (fun hb => ?_)
        · rw [if_neg hb] at hG
          refine e_aloadn (pc := 65) (i := 0) dX12_monk_65 rfl rfl ?_
          obtain ⟨v7, hq7, hG⟩ := x_bd1 hG
          refine e_invV (pc := 66) (K1 := 0) (S1 := 0) (K := 0) (S := 0) (dd2 := 1) (av := []) (st := []) (id := 16 * 32 + 0) dX12_monk_66 xmX12_298 rfl (Or.inl ⟨10, 27, TX12, (sa_32_0 hs), rfl, by decide⟩) (f_cal (M := M) (us2 := [32]) [0] hn rfl (And.intro rfl trivial) rfl rfl rfl (c_X12_lateOfAll hst hs   hq7)) (by decide) (Nat.le_of_ble_eq_true rfl) (Or.inl rfl) ?_
          show Ev g _ _ _ _ _ _ 69 [some (x_r (16 * 32 + 0)), some (x_i a), some (x_i b)] [x_i v7] (al, ro, fl (ml M [32] [(x_up S 0 0 v3)])) _ _ _ _
          obtain ⟨v9, hr9, hG⟩ := x_bd1 hG
          have hjhr9 : Ev g yX12_monk cX12_monk 3 (some .int) [] 44 90 [some (x_r (16 * 32 + 0)), some (x_i a), some (x_i b)] [x_i v9] (al, ro, fl (ml M [32] [(x_up S 0 0 v3)])) 0 0 (.inl (some (x_i t.1))) (al, ro, fl (ml M [32] [t.2])) := by
            cases hG
            exact (e_ireturn rfl dX12_monk_90 rfl)
          clear hG
          refine e_if_ne (pc := 69) (tgt := 76) dX12_monk_69 (by decide) (fun hb => ?_) (fun hb => ?_)
          · rw [if_neg hb] at hr9
            refine e_bipush (pc := 76) dX12_monk_76 (by decide +kernel) (x_R rfl) ?_
            refine e_aloadn (pc := 78) (i := 0) dX12_monk_78 rfl rfl ?_
            refine e_iloadn (pc := 79) (i := 1) dX12_monk_79 rfl rfl ?_
            refine e_iconst (pc := 80) dX12_monk_80 (x_R rfl) ?_
            obtain ⟨v11, hq11, hr9⟩ := x_bd1 hr9
            refine e_invV (pc := 81) (K1 := 0) (S1 := 0) (K := 0) (S := 0) (dd2 := 0) (av := [x_i a, x_i 5]) (st := [x_i 100]) (id := 16 * 32 + 0) dX12_monk_81 xmX12_65 rfl (Or.inl ⟨10, 27, TX12, (sa_32_0 hs), rfl, by decide⟩) (f_cal (M := M) (us2 := [32]) [0] hn rfl (And.intro rfl trivial) rfl rfl rfl (c_X12_of hst hs   hq11)) (by decide) (Nat.le_of_ble_eq_true rfl) (Or.inl rfl) ?_
            show Ev g _ _ _ _ _ _ 84 [some (x_r (16 * 32 + 0)), some (x_i a), some (x_i b)] [x_i v11, x_i 100] (al, ro, fl (ml M [32] [(x_up S 0 0 v3)])) _ _ _ _
            refine e_imul (pc := 84) dX12_monk_84 ?_
            refine e_aloadn (pc := 85) (i := 0) dX12_monk_85 rfl rfl ?_
            obtain ⟨v13, hq13, hr9⟩ := x_bd1 hr9
            refine e_invV (pc := 86) (K1 := 0) (S1 := 0) (K := 0) (S := 0) (dd2 := 1) (av := []) (st := [x_i (x_mul 100 v11)]) (id := 16 * 32 + 0) dX12_monk_86 xmX12_298 rfl (Or.inl ⟨10, 27, TX12, (sa_32_0 hs), rfl, by decide⟩) (f_cal (M := M) (us2 := [32]) [0] hn rfl (And.intro rfl trivial) rfl rfl rfl (c_X12_lateOfAll hst hs   hq13)) (by decide) (Nat.le_of_ble_eq_true rfl) (Or.inl rfl) ?_
            show Ev g _ _ _ _ _ _ 89 [some (x_r (16 * 32 + 0)), some (x_i a), some (x_i b)] [x_i v13, x_i (x_mul 100 v11)] (al, ro, fl (ml M [32] [(x_up S 0 0 v3)])) _ _ _ _
            obtain ⟨hc0, hr9⟩ := x_gd_some hr9
            refine e_idiv (pc := 89) dX12_monk_89 hc0 ?_
            cases hr9
            exact hjhr9
          · rw [if_pos hb] at hr9
            refine e_iconst (pc := 72) dX12_monk_72 (x_R rfl) ?_
            refine e_goto (pc := 73) (tgt := 90) dX12_monk_73 (by decide) ?_
            cases hr9
            exact hjhr9
        · rw [if_pos hb] at hG
          refine e_aloadn (pc := 59) (i := 0) dX12_monk_59 rfl rfl ?_
          refine e_iloadn (pc := 60) (i := 1) dX12_monk_60 rfl rfl ?_
          obtain ⟨v15, S16, hq16, hG⟩ := x_bd2 hG
          refine e_invV (pc := 61) (K1 := 0) (S1 := 0) (K := 0) (S := 0) (dd2 := 43) (av := [x_i a]) (st := []) (id := 16 * 32 + 0) dX12_monk_61 xmX12_270 rfl (Or.inl ⟨10, 27, TX12, (sa_32_0 hs), rfl, by decide⟩) (f_cal (M := M) (us2 := [32]) [0] hn rfl (And.intro rfl trivial) rfl rfl rfl (c_X12_strideOf hst hs   hq16)) (by decide) (Nat.le_of_ble_eq_true rfl) (Or.inl rfl) ?_
          show Ev g _ _ _ _ _ _ 64 [some (x_r (16 * 32 + 0)), some (x_i a), some (x_i b)] [x_i v15] (al, ro, fl (ml M [32] [S16])) _ _ _ _
          cases hG
          exact (e_ireturn rfl dX12_monk_64 rfl)
      · rw [if_neg hb] at hG
        refine e_aloadn (pc := 46) (i := 0) dX12_monk_46 rfl rfl ?_
        refine e_iloadn (pc := 47) (i := 1) dX12_monk_47 rfl rfl ?_
        refine e_iloadn (pc := 48) (i := 2) dX12_monk_48 rfl rfl ?_
        obtain ⟨v18, hq18, hG⟩ := x_bd1 hG
        refine e_invV (pc := 49) (K1 := 0) (S1 := 0) (K := 0) (S := 0) (dd2 := 0) (av := [x_i a, x_i b]) (st := []) (id := 16 * 32 + 0) dX12_monk_49 xmX12_65 rfl (Or.inl ⟨10, 27, TX12, (sa_32_0 hs), rfl, by decide⟩) (f_cal (M := M) (us2 := [32]) [0] hn rfl (And.intro rfl trivial) rfl rfl rfl (c_X12_of hst hs   hq18)) (by decide) (Nat.le_of_ble_eq_true rfl) (Or.inl rfl) ?_
        show Ev g _ _ _ _ _ _ 52 [some (x_r (16 * 32 + 0)), some (x_i a), some (x_i b)] [x_i v18] (al, ro, fl (ml M [32] [(x_up S 0 0 v3)])) _ _ _ _
        cases hG
        exact (e_ireturn rfl dX12_monk_52 rfl)
    · rw [if_neg hb] at hG
      refine e_iconst (pc := 38) dX12_monk_38 (x_R rfl) ?_
      cases hG
      exact (e_ireturn rfl dX12_monk_39 rfl)
  clear hG
  refine e_if_ne (pc := 6) (tgt := 13) dX12_monk_6 (by decide) (fun hb => ?_) (fun hb => ?_)
  · rw [if_neg hb] at hr3
    refine e_iloadn (pc := 13) (i := 2) dX12_monk_13 rfl rfl ?_
    refine e_iconst (pc := 14) dX12_monk_14 (x_R rfl) ?_
    refine e_bipush (pc := 15) dX12_monk_15 (by decide +kernel) (x_R rfl) ?_
    obtain ⟨v5, hq5, hr3⟩ := x_bd1 hr3
    refine e_invS (pc := 17) (K1 := 0) (S1 := 0) (K := 0) (S := 0) (dd2 := 0) (av := [x_i b, x_i 0, x_i 9]) (st := [x_r (16 * 32 + 0)]) dX12_monk_17 xmX12_61 rfl (f_cal (M := M) (us2 := []) [] hn rfl trivial rfl rfl rfl (c_X12_isIn hst hs   hq5)) (by decide) (Nat.le_of_ble_eq_true rfl) (Or.inl rfl) ?_
    show Ev g _ _ _ _ _ _ 20 [some (x_r (16 * 32 + 0)), some (x_i a), some (x_i b)] [x_i v5, x_r (16 * 32 + 0)] (al, ro, fl (ml M [32] [S])) _ _ _ _
    refine e_if_ne (pc := 20) (tgt := 27) dX12_monk_20 (by decide) (fun hb => ?_) (fun hb => ?_)
    · rw [if_neg hb] at hr3
      refine e_iconst (pc := 27) dX12_monk_27 (x_R rfl) ?_
      cases hr3
      exact hjhr3
    · rw [if_pos hb] at hr3
      refine e_iconst (pc := 23) dX12_monk_23 (x_R rfl) ?_
      refine e_goto (pc := 24) (tgt := 28) dX12_monk_24 (by decide) ?_
      cases hr3
      exact hjhr3
  · rw [if_pos hb] at hr3
    refine e_iconst (pc := 9) dX12_monk_9 (x_R rfl) ?_
    refine e_goto (pc := 10) (tgt := 28) dX12_monk_10 (by decide) ?_
    cases hr3
    exact hjhr3
set_option maxRecDepth 100000 in
set_option maxHeartbeats 4000000 in
theorem c_X12_store {g : xG} {al : List (Nat × Nat × Nat)} {ro : Nat → Nat → Option Nat} (hst : g.1.stackTraces = false) (hs : SH al ro) {M : Nat → xU} {a : Int} {S : xU}  {t : (Int × xU)} (hG : G12_store a S = some t) :
    Cal g yX12_store cX12_store 2 (some .int) 2 [x_r (16 * 32 + 0), x_i a] (al, ro, fl (ml M [32] [S])) 0 0 (.inl (some (x_i t.1))) (al, ro, fl (ml M [32] [t.2])) := by
  have hn : ([32] : List Nat).Nodup := by decide
  refine cal_of_ev (plainFor_of_name (by decide)) (x_c1 rfl) (Nat.le_of_ble_eq_true rfl) hst ?_
  show Ev g _ _ _ _ _ _ 0 [some (x_r (16 * 32 + 0)), some (x_i a)] [] (al, ro, fl (ml M [32] [S])) _ _ _ _
  rw [G12_store] at hG
  refine e_aloadn (pc := 0) (i := 0) dX12_store_0 rfl rfl ?_
  refine e_iloadn (pc := 1) (i := 1) dX12_store_1 rfl rfl ?_
  obtain ⟨v1, hq1, hG⟩ := x_bd1 hG
  refine e_invS (pc := 2) (K1 := 0) (S1 := 0) (K := 0) (S := 0) (dd2 := 1) (av := [x_i a]) (st := [x_r (16 * 32 + 0)]) dX12_store_2 xmX12_301 rfl (f_cal (M := M) (us2 := []) [] hn rfl trivial rfl rfl rfl (c_X12_isWalk hst hs   hq1)) (by decide) (Nat.le_of_ble_eq_true rfl) (Or.inl rfl) ?_
  show Ev g _ _ _ _ _ _ 5 [some (x_r (16 * 32 + 0)), some (x_i a)] [x_i v1, x_r (16 * 32 + 0)] (al, ro, fl (ml M [32] [S])) _ _ _ _
  obtain ⟨v3, hr3, hG⟩ := x_bd1 hG
  have hjhr3 : Ev g yX12_store cX12_store 2 (some .int) [] 2 13 [some (x_r (16 * 32 + 0)), some (x_i a)] [x_i v3, x_r (16 * 32 + 0)] (al, ro, fl (ml M [32] [S])) 0 0 (.inl (some (x_i t.1))) (al, ro, fl (ml M [32] [t.2])) := by
    refine f_puti (pc := 13) (k := 0) (u := 32) (q := 0) dX12_store_13 xf12_58 xw10_0 (sa_32_0 hs) hn rfl rfl rfl (by decide) ?_
    show Ev g _ _ _ _ _ _ 16 [some (x_r (16 * 32 + 0)), some (x_i a)] [] (al, ro, fl (ml M [32] [(x_up S 0 0 v3)])) _ _ _ _
    refine e_aloadn (pc := 16) (i := 0) dX12_store_16 rfl rfl ?_
    refine f_geti (pc := 17) (k := 0) (u := 32) (q := 0) dX12_store_17 xf12_58 (sa_32_0 hs) rfl hn rfl rfl (by decide) ?_
    show Ev g _ _ _ _ _ _ 20 [some (x_r (16 * 32 + 0)), some (x_i a)] [x_i ((x_up S 0 0 v3) 0 0)] (al, ro, fl (ml M [32] [(x_up S 0 0 v3)])) _ _ _ _
    obtain ⟨v5, hr5, hG⟩ := x_bd1 hG
    have hjhr5 : Ev g yX12_store cX12_store 2 (some .int) [] 2 36 [some (x_r (16 * 32 + 0)), some (x_i a)] [x_i v5] (al, ro, fl (ml M [32] [(x_up S 0 0 v3)])) 0 0 (.inl (some (x_i t.1))) (al, ro, fl (ml M [32] [t.2])) := by
      cases hG
      exact (e_ireturn rfl dX12_store_36 rfl)
    clear hG
    refine e_if_le (pc := 20) (tgt := 27) dX12_store_20 (by decide) (fun hb => ?_) (fun hb => ?_)
    · rw [if_pos hb] at hr5
      refine e_aloadn (pc := 27) (i := 0) dX12_store_27 rfl rfl ?_
      refine f_getr (pc := 28) (u := 32) (q := 0) dX12_store_28 xf12_7 (sa_32_0 hs) rfl (sr_32_0_1 hs) ?_
      refine e_bipush (pc := 31) dX12_store_31 (by decide +kernel) (x_R rfl) ?_
      refine e_iloadn (pc := 33) (i := 1) dX12_store_33 rfl rfl ?_
      refine e_iadd (pc := 34) dX12_store_34 ?_
      obtain ⟨hc0, hr5⟩ := x_gd_some hr5
      refine f_iald (pc := 35) (k := 0) (u := 32) (q := 1) (len := 772) dX12_store_35 (sa_32_1 hs) hc0 hn rfl rfl (by decide) ?_
      show Ev g _ _ _ _ _ _ 36 [some (x_r (16 * 32 + 0)), some (x_i a)] [x_i ((x_up S 0 0 v3) 1 ((x_add 12 a)).toNat)] (al, ro, fl (ml M [32] [(x_up S 0 0 v3)])) _ _ _ _
      cases hr5
      exact hjhr5
    · rw [if_neg hb] at hr5
      refine e_iconst (pc := 23) dX12_store_23 (x_R rfl) ?_
      refine e_goto (pc := 24) (tgt := 36) dX12_store_24 (by decide) ?_
      cases hr5
      exact hjhr5
  clear hG
  refine e_if_ne (pc := 5) (tgt := 12) dX12_store_5 (by decide) (fun hb => ?_) (fun hb => ?_)
  · rw [if_neg hb] at hr3
    refine e_iconst (pc := 12) dX12_store_12 (x_R rfl) ?_
    cases hr3
    exact hjhr3
  · rw [if_pos hb] at hr3
    refine e_iconst (pc := 8) dX12_store_8 (x_R rfl) ?_
    refine e_goto (pc := 9) (tgt := 13) dX12_store_9 (by decide) ?_
    cases hr3
    exact hjhr3
set_option maxRecDepth 100000 in
set_option maxHeartbeats 4000000 in
theorem c_X12_season {g : xG} {al : List (Nat × Nat × Nat)} {ro : Nat → Nat → Option Nat} (hst : g.1.stackTraces = false) (hs : SH al ro) {M : Nat → xU} {a : Int} {S : xU}  {t : (Int × xU)} (hG : G12_season a S = some t) :
    Cal g yX12_season cX12_season 2 (some .int) 2 [x_r (16 * 32 + 0), x_i a] (al, ro, fl (ml M [32] [S])) 0 0 (.inl (some (x_i t.1))) (al, ro, fl (ml M [32] [t.2])) := by
  have hn : ([32] : List Nat).Nodup := by decide
  refine cal_of_ev (plainFor_of_name (by decide)) (x_c1 rfl) (Nat.le_of_ble_eq_true rfl) hst ?_
  show Ev g _ _ _ _ _ _ 0 [some (x_r (16 * 32 + 0)), some (x_i a)] [] (al, ro, fl (ml M [32] [S])) _ _ _ _
  rw [G12_season] at hG
  refine e_aloadn (pc := 0) (i := 0) dX12_season_0 rfl rfl ?_
  refine e_iloadn (pc := 1) (i := 1) dX12_season_1 rfl rfl ?_
  obtain ⟨v1, hq1, hG⟩ := x_bd1 hG
  refine e_invS (pc := 2) (K1 := 0) (S1 := 0) (K := 0) (S := 0) (dd2 := 1) (av := [x_i a]) (st := [x_r (16 * 32 + 0)]) dX12_season_2 xmX12_304 rfl (f_cal (M := M) (us2 := []) [] hn rfl trivial rfl rfl rfl (c_X12_isFlag hst hs   hq1)) (by decide) (Nat.le_of_ble_eq_true rfl) (Or.inl rfl) ?_
  show Ev g _ _ _ _ _ _ 5 [some (x_r (16 * 32 + 0)), some (x_i a)] [x_i v1, x_r (16 * 32 + 0)] (al, ro, fl (ml M [32] [S])) _ _ _ _
  obtain ⟨v3, hr3, hG⟩ := x_bd1 hG
  have hjhr3 : Ev g yX12_season cX12_season 2 (some .int) [] 2 13 [some (x_r (16 * 32 + 0)), some (x_i a)] [x_i v3, x_r (16 * 32 + 0)] (al, ro, fl (ml M [32] [S])) 0 0 (.inl (some (x_i t.1))) (al, ro, fl (ml M [32] [t.2])) := by
    refine f_puti (pc := 13) (k := 0) (u := 32) (q := 0) dX12_season_13 xf12_58 xw10_0 (sa_32_0 hs) hn rfl rfl rfl (by decide) ?_
    show Ev g _ _ _ _ _ _ 16 [some (x_r (16 * 32 + 0)), some (x_i a)] [] (al, ro, fl (ml M [32] [(x_up S 0 0 v3)])) _ _ _ _
    refine e_aloadn (pc := 16) (i := 0) dX12_season_16 rfl rfl ?_
    refine f_geti (pc := 17) (k := 0) (u := 32) (q := 0) dX12_season_17 xf12_58 (sa_32_0 hs) rfl hn rfl rfl (by decide) ?_
    show Ev g _ _ _ _ _ _ 20 [some (x_r (16 * 32 + 0)), some (x_i a)] [x_i ((x_up S 0 0 v3) 0 0)] (al, ro, fl (ml M [32] [(x_up S 0 0 v3)])) _ _ _ _
    obtain ⟨v5, hr5, hG⟩ := x_bd1 hG
    have hjhr5 : Ev g yX12_season cX12_season 2 (some .int) [] 2 32 [some (x_r (16 * 32 + 0)), some (x_i a)] [x_i v5] (al, ro, fl (ml M [32] [(x_up S 0 0 v3)])) 0 0 (.inl (some (x_i t.1))) (al, ro, fl (ml M [32] [t.2])) := by
      cases hG
      exact (e_ireturn rfl dX12_season_32 rfl)
    clear hG
    refine e_if_le (pc := 20) (tgt := 27) dX12_season_20 (by decide) (fun hb => ?_) (fun hb => ?_)
    · rw [if_pos hb] at hr5
      refine e_aloadn (pc := 27) (i := 0) dX12_season_27 rfl rfl ?_
      refine e_iloadn (pc := 28) (i := 1) dX12_season_28 rfl rfl ?_
      obtain ⟨v7, hq7, hr5⟩ := x_bd1 hr5
      refine e_invV (pc := 29) (K1 := 0) (S1 := 0) (K := 0) (S := 0) (dd2 := 0) (av := [x_i a]) (st := []) (id := 16 * 32 + 0) dX12_season_29 xmX12_263 rfl (Or.inl ⟨10, 27, TX12, (sa_32_0 hs), rfl, by decide⟩) (f_cal (M := M) (us2 := [32]) [0] hn rfl (And.intro rfl trivial) rfl rfl rfl (c_X12_seasonOf hst hs   hq7)) (by decide) (Nat.le_of_ble_eq_true rfl) (Or.inl rfl) ?_
      show Ev g _ _ _ _ _ _ 32 [some (x_r (16 * 32 + 0)), some (x_i a)] [x_i v7] (al, ro, fl (ml M [32] [(x_up S 0 0 v3)])) _ _ _ _
      cases hr5
      exact hjhr5
    · rw [if_neg hb] at hr5
      refine e_iconst (pc := 23) dX12_season_23 (x_R rfl) ?_
      refine e_goto (pc := 24) (tgt := 32) dX12_season_24 (by decide) ?_
      cases hr5
      exact hjhr5
  clear hG
  refine e_if_ne (pc := 5) (tgt := 12) dX12_season_5 (by decide) (fun hb => ?_) (fun hb => ?_)
  · rw [if_neg hb] at hr3
    refine e_iconst (pc := 12) dX12_season_12 (x_R rfl) ?_
    cases hr3
    exact hjhr3
  · rw [if_pos hb] at hr3
    refine e_iconst (pc := 8) dX12_season_8 (x_R rfl) ?_
    refine e_goto (pc := 9) (tgt := 13) dX12_season_9 (by decide) ?_
    cases hr3
    exact hjhr3
set_option maxRecDepth 100000 in
set_option maxHeartbeats 4000000 in
theorem c_X12_remembers {g : xG} {al : List (Nat × Nat × Nat)} {ro : Nat → Nat → Option Nat} (hst : g.1.stackTraces = false) (hs : SH al ro) {M : Nat → xU} {S : xU}  {t : xU} (hG : G12_remembers S = some t) :
    Cal g yX12_remembers cX12_remembers 2 none 0 [x_r (16 * 32 + 0)] (al, ro, fl (ml M [32] [S])) 0 0 (.inl none) (al, ro, fl (ml M [32] [t])) := by
  have hn : ([32] : List Nat).Nodup := by decide
  refine cal_of_ev (plainFor_of_name (by decide)) (x_c1 rfl) (Nat.le_of_ble_eq_true rfl) hst ?_
  show Ev g _ _ _ _ _ _ 0 [some (x_r (16 * 32 + 0)), none] [] (al, ro, fl (ml M [32] [S])) _ _ _ _
  rw [G12_remembers] at hG
  refine e_aloadn (pc := 0) (i := 0) dX12_remembers_0 rfl rfl ?_
  refine f_geti (pc := 1) (k := 0) (u := 32) (q := 0) dX12_remembers_1 xf12_204 (sa_32_0 hs) rfl hn rfl rfl (by decide) ?_
  show Ev g _ _ _ _ _ _ 4 [some (x_r (16 * 32 + 0)), none] [x_i (S 0 6)] (al, ro, fl (ml M [32] [S])) _ _ _ _
  refine e_bipush (pc := 4) dX12_remembers_4 (by decide +kernel) (x_R rfl) ?_
  obtain ⟨S1, hr1, hG⟩ := x_bd1 hG
  have hjhr1 : Ev g yX12_remembers cX12_remembers 2 none [] 0 50 [some (x_r (16 * 32 + 0)), none] [] (al, ro, fl (ml M [32] [S1])) 0 0 (.inl none) (al, ro, fl (ml M [32] [t])) := by
    refine e_iconst (pc := 50) dX12_remembers_50 (x_R rfl) ?_
    refine e_istoren (pc := 51) (i := 1) dX12_remembers_51 rfl (by decide) rfl ?_
    show Ev g _ _ _ _ _ _ 52 [some (x_r (16 * 32 + 0)), some (x_i 0)] [] (al, ro, fl (ml M [32] [S1])) _ _ _ _
    obtain ⟨S10, hl11, hG⟩ := x_bd1 hG
    have hk11 : ∀ q : xU, q = S10 → Ev g yX12_remembers cX12_remembers 2 none [] 0 86 [some (x_r (16 * 32 + 0)), none] [] (al, ro, fl (ml M [32] [q])) 0 0 (.inl none) (al, ro, fl (ml M [32] [t])) := by
      intro q hq
      replace hq := hq.symm
      subst hq
      refine e_aloadn (pc := 86) (i := 0) dX12_remembers_86 rfl rfl ?_
      refine e_dup (pc := 87) dX12_remembers_87 rfl ?_
      refine f_geti (pc := 88) (k := 0) (u := 32) (q := 0) dX12_remembers_88 xf12_204 (sa_32_0 hs) rfl hn rfl rfl (by decide) ?_
      show Ev g _ _ _ _ _ _ 91 [some (x_r (16 * 32 + 0)), none] [x_i (S10 0 6), x_r (16 * 32 + 0)] (al, ro, fl (ml M [32] [S10])) _ _ _ _
      refine e_iconst (pc := 91) dX12_remembers_91 (x_R rfl) ?_
      refine e_iadd (pc := 92) dX12_remembers_92 ?_
      refine f_puti (pc := 93) (k := 0) (u := 32) (q := 0) dX12_remembers_93 xf12_204 xw10_6 (sa_32_0 hs) hn rfl rfl rfl (by decide) ?_
      show Ev g _ _ _ _ _ _ 96 [some (x_r (16 * 32 + 0)), none] [] (al, ro, fl (ml M [32] [(x_up S10 0 6 (x_add (S10 0 6) 1))])) _ _ _ _
      cases hG
      exact (e_return rfl dX12_remembers_96)
    clear hG
    refine e_whl G12_remembers_L52 (fun z : (Int × xU) => Ev g yX12_remembers cX12_remembers 2 none [] 0 52 [some (x_r (16 * 32 + 0)), some (x_i z.1)] [] (al, ro, fl (ml M [32] [z.2])) 0 0 (.inl none) (al, ro, fl (ml M [32] [t]))) (fun q => q = S10) ?_ xFU (0, S1) _ hl11 rfl
    intro z t11 hf11 hi11 hx11
    obtain ⟨v8, S9⟩ := z
    rw [G12_remembers_L52] at hf11
    show Ev g _ _ _ _ _ _ 52 [some (x_r (16 * 32 + 0)), some (x_i v8)] [] (al, ro, fl (ml M [32] [S9])) _ _ _ _
    refine e_iloadn (pc := 52) (i := 1) dX12_remembers_52 rfl rfl ?_
    refine e_sipush (pc := 53) dX12_remembers_53 (by decide +kernel) (x_R rfl) ?_
    refine e_icmp_ge (pc := 56) (tgt := 86) dX12_remembers_56 (by decide) (fun hb => ?_) (fun hb => ?_)
    · rw [if_pos hb] at hf11
      cases hf11
      refine e_drop (i := 1) ?_
      have hh := hk11 _ (hx11 _ rfl)
      try dsimp only at hh
      exact hh
    · rw [if_neg hb] at hf11
      refine e_aloadn (pc := 59) (i := 0) dX12_remembers_59 rfl rfl ?_
      refine f_getr (pc := 60) (u := 32) (q := 0) dX12_remembers_60 xf12_19 (sa_32_0 hs) rfl (sr_32_0_5 hs) ?_
      refine e_sipush (pc := 63) dX12_remembers_63 (by decide +kernel) (x_R rfl) ?_
      refine e_aloadn (pc := 66) (i := 0) dX12_remembers_66 rfl rfl ?_
      refine f_geti (pc := 67) (k := 0) (u := 32) (q := 0) dX12_remembers_67 xf12_204 (sa_32_0 hs) rfl hn rfl rfl (by decide) ?_
      show Ev g _ _ _ _ _ _ 70 [some (x_r (16 * 32 + 0)), some (x_i v8)] [x_i (S9 0 6), x_i 372, x_r (16 * 32 + 4)] (al, ro, fl (ml M [32] [S9])) _ _ _ _
      refine e_imul (pc := 70) dX12_remembers_70 ?_
      refine e_iloadn (pc := 71) (i := 1) dX12_remembers_71 rfl rfl ?_
      refine e_iadd (pc := 72) dX12_remembers_72 ?_
      refine e_aloadn (pc := 73) (i := 0) dX12_remembers_73 rfl rfl ?_
      refine f_getr (pc := 74) (u := 32) (q := 0) dX12_remembers_74 xf12_7 (sa_32_0 hs) rfl (sr_32_0_1 hs) ?_
      refine e_iloadn (pc := 77) (i := 1) dX12_remembers_77 rfl rfl ?_
      obtain ⟨hc0, hf11⟩ := x_gd_some hf11
      refine f_iald (pc := 78) (k := 0) (u := 32) (q := 1) (len := 772) dX12_remembers_78 (sa_32_1 hs) hc0 hn rfl rfl (by decide) ?_
      show Ev g _ _ _ _ _ _ 79 [some (x_r (16 * 32 + 0)), some (x_i v8)] [x_i (S9 1 (v8).toNat), x_i (x_add (x_mul 372 (S9 0 6)) v8), x_r (16 * 32 + 4)] (al, ro, fl (ml M [32] [S9])) _ _ _ _
      obtain ⟨hc0, hf11⟩ := x_gd_some hf11
      refine f_iast (pc := 79) (k := 0) (u := 32) (q := 4) (len := 4464) dX12_remembers_79 (sa_32_4 hs) hc0 hn rfl rfl rfl (by decide) ?_
      show Ev g _ _ _ _ _ _ 80 [some (x_r (16 * 32 + 0)), some (x_i v8)] [] (al, ro, fl (ml M [32] [(x_up S9 4 ((x_add (x_mul 372 (S9 0 6)) v8)).toNat (S9 1 (v8).toNat))])) _ _ _ _
      refine e_iinc (pc := 80) dX12_remembers_80 rfl (by decide) rfl ?_
      show Ev g _ _ _ _ _ _ 83 [some (x_r (16 * 32 + 0)), some (x_i (x_add v8 1))] [] (al, ro, fl (ml M [32] [(x_up S9 4 ((x_add (x_mul 372 (S9 0 6)) v8)).toNat (S9 1 (v8).toNat))])) _ _ _ _
      refine e_goto (pc := 83) (tgt := 52) dX12_remembers_83 (by decide) ?_
      cases hf11
      have hh := hi11 _ rfl
      try dsimp only at hh
      exact hh
  clear hG
  refine e_icmp_ne (pc := 6) (tgt := 50) dX12_remembers_6 (by decide) (fun hb => ?_) (fun hb => ?_)
  · rw [if_neg hb] at hr1
    cases hr1
    exact hjhr1
  · rw [if_pos hb] at hr1
    refine e_iconst (pc := 9) dX12_remembers_9 (x_R rfl) ?_
    refine e_istoren (pc := 10) (i := 1) dX12_remembers_10 rfl (by decide) rfl ?_
    show Ev g _ _ _ _ _ _ 11 [some (x_r (16 * 32 + 0)), some (x_i 0)] [] (al, ro, fl (ml M [32] [S])) _ _ _ _
    obtain ⟨S5, hl6, hr1⟩ := x_bd1 hr1
    have hk6 : ∀ q : xU, q = S5 → Ev g yX12_remembers cX12_remembers 2 none [] 0 40 [some (x_r (16 * 32 + 0)), none] [] (al, ro, fl (ml M [32] [q])) 0 0 (.inl none) (al, ro, fl (ml M [32] [t])) := by
      intro q hq
      replace hq := hq.symm
      subst hq
      refine e_aloadn (pc := 40) (i := 0) dX12_remembers_40 rfl rfl ?_
      refine e_dup (pc := 41) dX12_remembers_41 rfl ?_
      refine f_geti (pc := 42) (k := 0) (u := 32) (q := 0) dX12_remembers_42 xf12_204 (sa_32_0 hs) rfl hn rfl rfl (by decide) ?_
      show Ev g _ _ _ _ _ _ 45 [some (x_r (16 * 32 + 0)), none] [x_i (S5 0 6), x_r (16 * 32 + 0)] (al, ro, fl (ml M [32] [S5])) _ _ _ _
      refine e_iconst (pc := 45) dX12_remembers_45 (x_R rfl) ?_
      refine e_isub (pc := 46) dX12_remembers_46 ?_
      refine f_puti (pc := 47) (k := 0) (u := 32) (q := 0) dX12_remembers_47 xf12_204 xw10_6 (sa_32_0 hs) hn rfl rfl rfl (by decide) ?_
      show Ev g _ _ _ _ _ _ 50 [some (x_r (16 * 32 + 0)), none] [] (al, ro, fl (ml M [32] [(x_up S5 0 6 (x_sub (S5 0 6) 1))])) _ _ _ _
      cases hr1
      exact hjhr1
    clear hr1
    refine e_whl G12_remembers_L11 (fun z : (Int × xU) => Ev g yX12_remembers cX12_remembers 2 none [] 0 11 [some (x_r (16 * 32 + 0)), some (x_i z.1)] [] (al, ro, fl (ml M [32] [z.2])) 0 0 (.inl none) (al, ro, fl (ml M [32] [t]))) (fun q => q = S5) ?_ xFU (0, S) _ hl6 rfl
    intro z t6 hf6 hi6 hx6
    obtain ⟨v3, S4⟩ := z
    rw [G12_remembers_L11] at hf6
    show Ev g _ _ _ _ _ _ 11 [some (x_r (16 * 32 + 0)), some (x_i v3)] [] (al, ro, fl (ml M [32] [S4])) _ _ _ _
    refine e_iloadn (pc := 11) (i := 1) dX12_remembers_11 rfl rfl ?_
    refine e_sipush (pc := 12) dX12_remembers_12 (by decide +kernel) (x_R rfl) ?_
    refine e_icmp_ge (pc := 15) (tgt := 40) dX12_remembers_15 (by decide) (fun hb => ?_) (fun hb => ?_)
    · rw [if_pos hb] at hf6
      cases hf6
      refine e_drop (i := 1) ?_
      have hh := hk6 _ (hx6 _ rfl)
      try dsimp only at hh
      exact hh
    · rw [if_neg hb] at hf6
      refine e_aloadn (pc := 18) (i := 0) dX12_remembers_18 rfl rfl ?_
      refine f_getr (pc := 19) (u := 32) (q := 0) dX12_remembers_19 xf12_19 (sa_32_0 hs) rfl (sr_32_0_5 hs) ?_
      refine e_iloadn (pc := 22) (i := 1) dX12_remembers_22 rfl rfl ?_
      refine e_aloadn (pc := 23) (i := 0) dX12_remembers_23 rfl rfl ?_
      refine f_getr (pc := 24) (u := 32) (q := 0) dX12_remembers_24 xf12_19 (sa_32_0 hs) rfl (sr_32_0_5 hs) ?_
      refine e_iloadn (pc := 27) (i := 1) dX12_remembers_27 rfl rfl ?_
      refine e_sipush (pc := 28) dX12_remembers_28 (by decide +kernel) (x_R rfl) ?_
      refine e_iadd (pc := 31) dX12_remembers_31 ?_
      obtain ⟨hc0, hf6⟩ := x_gd_some hf6
      refine f_iald (pc := 32) (k := 0) (u := 32) (q := 4) (len := 4464) dX12_remembers_32 (sa_32_4 hs) hc0 hn rfl rfl (by decide) ?_
      show Ev g _ _ _ _ _ _ 33 [some (x_r (16 * 32 + 0)), some (x_i v3)] [x_i (S4 4 ((x_add v3 372)).toNat), x_i v3, x_r (16 * 32 + 4)] (al, ro, fl (ml M [32] [S4])) _ _ _ _
      obtain ⟨hc0, hf6⟩ := x_gd_some hf6
      refine f_iast (pc := 33) (k := 0) (u := 32) (q := 4) (len := 4464) dX12_remembers_33 (sa_32_4 hs) hc0 hn rfl rfl rfl (by decide) ?_
      show Ev g _ _ _ _ _ _ 34 [some (x_r (16 * 32 + 0)), some (x_i v3)] [] (al, ro, fl (ml M [32] [(x_up S4 4 (v3).toNat (S4 4 ((x_add v3 372)).toNat))])) _ _ _ _
      refine e_iinc (pc := 34) dX12_remembers_34 rfl (by decide) rfl ?_
      show Ev g _ _ _ _ _ _ 37 [some (x_r (16 * 32 + 0)), some (x_i (x_add v3 1))] [] (al, ro, fl (ml M [32] [(x_up S4 4 (v3).toNat (S4 4 ((x_add v3 372)).toNat))])) _ _ _ _
      refine e_goto (pc := 37) (tgt := 11) dX12_remembers_37 (by decide) ?_
      cases hf6
      have hh := hi6 _ rfl
      try dsimp only at hh
      exact hh
set_option maxRecDepth 100000 in
set_option maxHeartbeats 4000000 in
theorem c_X12_sets {g : xG} {al : List (Nat × Nat × Nat)} {ro : Nat → Nat → Option Nat} (hst : g.1.stackTraces = false) (hs : SH al ro) {M : Nat → xU} {a : Int} {b : Int} {S : xU}  {t : (Int × xU)} (hG : G12_sets a b S = some t) :
    Cal g yX12_sets cX12_sets 4 (some .int) 1 [x_r (16 * 32 + 0), x_i a, x_i b] (al, ro, fl (ml M [32] [S])) 0 0 (.inl (some (x_i t.1))) (al, ro, fl (ml M [32] [t.2])) := by
  have hn : ([32] : List Nat).Nodup := by decide
  refine cal_of_ev (plainFor_of_name (by decide)) (x_c1 rfl) (Nat.le_of_ble_eq_true rfl) hst ?_
  show Ev g _ _ _ _ _ _ 0 [some (x_r (16 * 32 + 0)), some (x_i a), some (x_i b), none] [] (al, ro, fl (ml M [32] [S])) _ _ _ _
  rw [G12_sets] at hG
  refine e_aloadn (pc := 0) (i := 0) dX12_sets_0 rfl rfl ?_
  obtain ⟨S1, hq1, hG⟩ := x_bd1 hG
  refine e_invV (pc := 1) (K1 := 0) (S1 := 0) (K := 0) (S := 0) (dd2 := 0) (av := []) (st := []) (id := 16 * 32 + 0) dX12_sets_1 xmX12_307 rfl (Or.inl ⟨10, 27, TX12, (sa_32_0 hs), rfl, by decide⟩) (f_cal (M := M) (us2 := [32]) [0] hn rfl (And.intro rfl trivial) rfl rfl rfl (c_X12_remembers hst hs   hq1)) (by decide) (Nat.le_of_ble_eq_true rfl) (Or.inl rfl) ?_
  show Ev g _ _ _ _ _ _ 4 [some (x_r (16 * 32 + 0)), some (x_i a), some (x_i b), none] [] (al, ro, fl (ml M [32] [S1])) _ _ _ _
  refine e_aloadn (pc := 4) (i := 0) dX12_sets_4 rfl rfl ?_
  refine f_getr (pc := 5) (u := 32) (q := 0) dX12_sets_5 xf12_7 (sa_32_0 hs) rfl (sr_32_0_1 hs) ?_
  refine e_iloadn (pc := 8) (i := 1) dX12_sets_8 rfl rfl ?_
  obtain ⟨hc0, hG⟩ := x_gd_some hG
  refine f_iald (pc := 9) (k := 0) (u := 32) (q := 1) (len := 772) dX12_sets_9 (sa_32_1 hs) hc0 hn rfl rfl (by decide) ?_
  show Ev g _ _ _ _ _ _ 10 [some (x_r (16 * 32 + 0)), some (x_i a), some (x_i b), none] [x_i (S1 1 (a).toNat)] (al, ro, fl (ml M [32] [S1])) _ _ _ _
  refine e_istoren (pc := 10) (i := 3) dX12_sets_10 rfl (by decide) rfl ?_
  show Ev g _ _ _ _ _ _ 11 [some (x_r (16 * 32 + 0)), some (x_i a), some (x_i b), some (x_i (S1 1 (a).toNat))] [] (al, ro, fl (ml M [32] [S1])) _ _ _ _
  refine e_aloadn (pc := 11) (i := 0) dX12_sets_11 rfl rfl ?_
  refine f_getr (pc := 12) (u := 32) (q := 0) dX12_sets_12 xf12_7 (sa_32_0 hs) rfl (sr_32_0_1 hs) ?_
  refine e_iloadn (pc := 15) (i := 1) dX12_sets_15 rfl rfl ?_
  refine e_iloadn (pc := 16) (i := 2) dX12_sets_16 rfl rfl ?_
  obtain ⟨hc0, hG⟩ := x_gd_some hG
  refine f_iast (pc := 17) (k := 0) (u := 32) (q := 1) (len := 772) dX12_sets_17 (sa_32_1 hs) hc0 hn rfl rfl rfl (by decide) ?_
  show Ev g _ _ _ _ _ _ 18 [some (x_r (16 * 32 + 0)), some (x_i a), some (x_i b), some (x_i (S1 1 (a).toNat))] [] (al, ro, fl (ml M [32] [(x_up S1 1 (a).toNat b)])) _ _ _ _
  refine e_iloadn (pc := 18) (i := 3) dX12_sets_18 rfl rfl ?_
  cases hG
  exact (e_ireturn rfl dX12_sets_19 rfl)
set_option maxRecDepth 100000 in
set_option maxHeartbeats 4000000 in
theorem c_X12_hours {g : xG} {al : List (Nat × Nat × Nat)} {ro : Nat → Nat → Option Nat} (hst : g.1.stackTraces = false) (hs : SH al ro) {M : Nat → xU} {a : Int} {S : xU}  {t : (Int × xU)} (hG : G12_hours a S = some t) :
    Cal g yX12_hours cX12_hours 2 (some .int) 47 [x_r (16 * 32 + 0), x_i a] (al, ro, fl (ml M [32] [S])) 0 0 (.inl (some (x_i t.1))) (al, ro, fl (ml M [32] [t.2])) := by
  have hn : ([32] : List Nat).Nodup := by decide
  refine cal_of_ev (plainFor_of_name (by decide)) (x_c1 rfl) (Nat.le_of_ble_eq_true rfl) hst ?_
  show Ev g _ _ _ _ _ _ 0 [some (x_r (16 * 32 + 0)), some (x_i a)] [] (al, ro, fl (ml M [32] [S])) _ _ _ _
  rw [G12_hours] at hG
  refine e_aloadn (pc := 0) (i := 0) dX12_hours_0 rfl rfl ?_
  refine e_iloadn (pc := 1) (i := 1) dX12_hours_1 rfl rfl ?_
  refine e_iconst (pc := 2) dX12_hours_2 (x_R rfl) ?_
  refine e_bipush (pc := 3) dX12_hours_3 (by decide +kernel) (x_R rfl) ?_
  obtain ⟨v1, hq1, hG⟩ := x_bd1 hG
  refine e_invS (pc := 5) (K1 := 0) (S1 := 0) (K := 0) (S := 0) (dd2 := 0) (av := [x_i a, x_i 1, x_i 72]) (st := [x_r (16 * 32 + 0)]) dX12_hours_5 xmX12_61 rfl (f_cal (M := M) (us2 := []) [] hn rfl trivial rfl rfl rfl (c_X12_isIn hst hs   hq1)) (by decide) (Nat.le_of_ble_eq_true rfl) (Or.inl rfl) ?_
  show Ev g _ _ _ _ _ _ 8 [some (x_r (16 * 32 + 0)), some (x_i a)] [x_i v1, x_r (16 * 32 + 0)] (al, ro, fl (ml M [32] [S])) _ _ _ _
  obtain ⟨v3, hr3, hG⟩ := x_bd1 hG
  have hjhr3 : Ev g yX12_hours cX12_hours 2 (some .int) [] 47 16 [some (x_r (16 * 32 + 0)), some (x_i a)] [x_i v3, x_r (16 * 32 + 0)] (al, ro, fl (ml M [32] [S])) 0 0 (.inl (some (x_i t.1))) (al, ro, fl (ml M [32] [t.2])) := by
    refine f_puti (pc := 16) (k := 0) (u := 32) (q := 0) dX12_hours_16 xf12_58 xw10_0 (sa_32_0 hs) hn rfl rfl rfl (by decide) ?_
    show Ev g _ _ _ _ _ _ 19 [some (x_r (16 * 32 + 0)), some (x_i a)] [] (al, ro, fl (ml M [32] [(x_up S 0 0 v3)])) _ _ _ _
    refine e_aloadn (pc := 19) (i := 0) dX12_hours_19 rfl rfl ?_
    refine f_geti (pc := 20) (k := 0) (u := 32) (q := 0) dX12_hours_20 xf12_58 (sa_32_0 hs) rfl hn rfl rfl (by decide) ?_
    show Ev g _ _ _ _ _ _ 23 [some (x_r (16 * 32 + 0)), some (x_i a)] [x_i ((x_up S 0 0 v3) 0 0)] (al, ro, fl (ml M [32] [(x_up S 0 0 v3)])) _ _ _ _
    refine e_if_le (pc := 23) (tgt := 28) dX12_hours_23 (by decide) (fun hb => ?_) (fun hb => ?_)
    · rw [if_pos hb] at hG
      refine e_aloadn (pc := 28) (i := 0) dX12_hours_28 rfl rfl ?_
      obtain ⟨S5, hq5, hG⟩ := x_bd1 hG
      refine e_invV (pc := 29) (K1 := 0) (S1 := 0) (K := 0) (S := 0) (dd2 := 0) (av := []) (st := []) (id := 16 * 32 + 0) dX12_hours_29 xmX12_307 rfl (Or.inl ⟨10, 27, TX12, (sa_32_0 hs), rfl, by decide⟩) (f_cal (M := M) (us2 := [32]) [0] hn rfl (And.intro rfl trivial) rfl rfl rfl (c_X12_remembers hst hs   hq5)) (by decide) (Nat.le_of_ble_eq_true rfl) (Or.inl rfl) ?_
      show Ev g _ _ _ _ _ _ 32 [some (x_r (16 * 32 + 0)), some (x_i a)] [] (al, ro, fl (ml M [32] [S5])) _ _ _ _
      refine e_aloadn (pc := 32) (i := 0) dX12_hours_32 rfl rfl ?_
      refine e_iloadn (pc := 33) (i := 1) dX12_hours_33 rfl rfl ?_
      refine e_iconst (pc := 34) dX12_hours_34 (x_R rfl) ?_
      obtain ⟨v7, S8, hq8, hG⟩ := x_bd2 hG
      refine e_invV (pc := 35) (K1 := 0) (S1 := 0) (K := 0) (S := 0) (dd2 := 46) (av := [x_i a, x_i 1]) (st := []) (id := 16 * 32 + 0) dX12_hours_35 xmX12_310 rfl (Or.inl ⟨10, 27, TX12, (sa_32_0 hs), rfl, by decide⟩) (f_cal (M := M) (us2 := [32]) [0] hn rfl (And.intro rfl trivial) rfl rfl rfl (c_X12_goes hst hs   hq8)) (by decide) (Nat.le_of_ble_eq_true rfl) (Or.inl rfl) ?_
      show Ev g _ _ _ _ _ _ 38 [some (x_r (16 * 32 + 0)), some (x_i a)] [x_i v7] (al, ro, fl (ml M [32] [S8])) _ _ _ _
      cases hG
      exact (e_ireturn rfl dX12_hours_38 rfl)
    · rw [if_neg hb] at hG
      refine e_iconst (pc := 26) dX12_hours_26 (x_R rfl) ?_
      cases hG
      exact (e_ireturn rfl dX12_hours_27 rfl)
  clear hG
  refine e_if_ne (pc := 8) (tgt := 15) dX12_hours_8 (by decide) (fun hb => ?_) (fun hb => ?_)
  · rw [if_neg hb] at hr3
    refine e_iconst (pc := 15) dX12_hours_15 (x_R rfl) ?_
    cases hr3
    exact hjhr3
  · rw [if_pos hb] at hr3
    refine e_iconst (pc := 11) dX12_hours_11 (x_R rfl) ?_
    refine e_goto (pc := 12) (tgt := 16) dX12_hours_12 (by decide) ?_
    cases hr3
    exact hjhr3
set_option maxRecDepth 100000 in
set_option maxHeartbeats 4000000 in
theorem c_X12_cross {g : xG} {al : List (Nat × Nat × Nat)} {ro : Nat → Nat → Option Nat} (hst : g.1.stackTraces = false) (hs : SH al ro) {M : Nat → xU} {a : Int} {S : xU}  {t : (Int × xU)} (hG : G12_cross a S = some t) :
    Cal g yX12_cross cX12_cross 3 (some .int) 2 [x_r (16 * 32 + 0), x_i a] (al, ro, fl (ml M [32] [S])) 0 0 (.inl (some (x_i t.1))) (al, ro, fl (ml M [32] [t.2])) := by
  have hn : ([32] : List Nat).Nodup := by decide
  refine cal_of_ev (plainFor_of_name (by decide)) (x_c1 rfl) (Nat.le_of_ble_eq_true rfl) hst ?_
  show Ev g _ _ _ _ _ _ 0 [some (x_r (16 * 32 + 0)), some (x_i a), none] [] (al, ro, fl (ml M [32] [S])) _ _ _ _
  rw [G12_cross] at hG
  refine e_aloadn (pc := 0) (i := 0) dX12_cross_0 rfl rfl ?_
  refine e_aloadn (pc := 1) (i := 0) dX12_cross_1 rfl rfl ?_
  refine e_iloadn (pc := 2) (i := 1) dX12_cross_2 rfl rfl ?_
  obtain ⟨v1, hq1, hG⟩ := x_bd1 hG
  refine e_invV (pc := 3) (K1 := 0) (S1 := 0) (K := 0) (S := 0) (dd2 := 1) (av := [x_i a]) (st := [x_r (16 * 32 + 0)]) (id := 16 * 32 + 0) dX12_cross_3 xmX12_295 rfl (Or.inl ⟨10, 27, TX12, (sa_32_0 hs), rfl, by decide⟩) (f_cal (M := M) (us2 := [32]) [0] hn rfl (And.intro rfl trivial) rfl rfl rfl (c_X12_isMonk hst hs   hq1)) (by decide) (Nat.le_of_ble_eq_true rfl) (Or.inl rfl) ?_
  show Ev g _ _ _ _ _ _ 6 [some (x_r (16 * 32 + 0)), some (x_i a), none] [x_i v1, x_r (16 * 32 + 0)] (al, ro, fl (ml M [32] [S])) _ _ _ _
  obtain ⟨v3, hr3, hG⟩ := x_bd1 hG
  have hjhr3 : Ev g yX12_cross cX12_cross 3 (some .int) [] 2 14 [some (x_r (16 * 32 + 0)), some (x_i a), none] [x_i v3, x_r (16 * 32 + 0)] (al, ro, fl (ml M [32] [S])) 0 0 (.inl (some (x_i t.1))) (al, ro, fl (ml M [32] [t.2])) := by
    refine f_puti (pc := 14) (k := 0) (u := 32) (q := 0) dX12_cross_14 xf12_58 xw10_0 (sa_32_0 hs) hn rfl rfl rfl (by decide) ?_
    show Ev g _ _ _ _ _ _ 17 [some (x_r (16 * 32 + 0)), some (x_i a), none] [] (al, ro, fl (ml M [32] [(x_up S 0 0 v3)])) _ _ _ _
    refine e_aloadn (pc := 17) (i := 0) dX12_cross_17 rfl rfl ?_
    refine f_geti (pc := 18) (k := 0) (u := 32) (q := 0) dX12_cross_18 xf12_58 (sa_32_0 hs) rfl hn rfl rfl (by decide) ?_
    show Ev g _ _ _ _ _ _ 21 [some (x_r (16 * 32 + 0)), some (x_i a), none] [x_i ((x_up S 0 0 v3) 0 0)] (al, ro, fl (ml M [32] [(x_up S 0 0 v3)])) _ _ _ _
    refine e_if_le (pc := 21) (tgt := 26) dX12_cross_21 (by decide) (fun hb => ?_) (fun hb => ?_)
    · rw [if_pos hb] at hG
      refine e_aloadn (pc := 26) (i := 0) dX12_cross_26 rfl rfl ?_
      refine e_aloadn (pc := 27) (i := 0) dX12_cross_27 rfl rfl ?_
      refine e_iloadn (pc := 28) (i := 1) dX12_cross_28 rfl rfl ?_
      obtain ⟨v5, hq5, hG⟩ := x_bd1 hG
      refine e_invV (pc := 29) (K1 := 0) (S1 := 0) (K := 0) (S := 0) (dd2 := 1) (av := [x_i a]) (st := [x_r (16 * 32 + 0)]) (id := 16 * 32 + 0) dX12_cross_29 xmX12_69 rfl (Or.inl ⟨10, 27, TX12, (sa_32_0 hs), rfl, by decide⟩) (f_cal (M := M) (us2 := [32]) [0] hn rfl (And.intro rfl trivial) rfl rfl rfl (c_X12_isLost hst hs   hq5)) (by decide) (Nat.le_of_ble_eq_true rfl) (Or.inl rfl) ?_
      show Ev g _ _ _ _ _ _ 32 [some (x_r (16 * 32 + 0)), some (x_i a), none] [x_i v5, x_r (16 * 32 + 0)] (al, ro, fl (ml M [32] [(x_up S 0 0 v3)])) _ _ _ _
      obtain ⟨v7, hr7, hG⟩ := x_bd1 hG
      have hjhr7 : Ev g yX12_cross cX12_cross 3 (some .int) [] 2 40 [some (x_r (16 * 32 + 0)), some (x_i a), none] [x_i v7, x_r (16 * 32 + 0)] (al, ro, fl (ml M [32] [(x_up S 0 0 v3)])) 0 0 (.inl (some (x_i t.1))) (al, ro, fl (ml M [32] [t.2])) := by
        refine f_puti (pc := 40) (k := 0) (u := 32) (q := 0) dX12_cross_40 xf12_58 xw10_0 (sa_32_0 hs) hn rfl rfl rfl (by decide) ?_
        show Ev g _ _ _ _ _ _ 43 [some (x_r (16 * 32 + 0)), some (x_i a), none] [] (al, ro, fl (ml M [32] [(x_up (x_up S 0 0 v3) 0 0 v7)])) _ _ _ _
        refine e_aloadn (pc := 43) (i := 0) dX12_cross_43 rfl rfl ?_
        refine f_geti (pc := 44) (k := 0) (u := 32) (q := 0) dX12_cross_44 xf12_58 (sa_32_0 hs) rfl hn rfl rfl (by decide) ?_
        show Ev g _ _ _ _ _ _ 47 [some (x_r (16 * 32 + 0)), some (x_i a), none] [x_i ((x_up (x_up S 0 0 v3) 0 0 v7) 0 0)] (al, ro, fl (ml M [32] [(x_up (x_up S 0 0 v3) 0 0 v7)])) _ _ _ _
        refine e_if_le (pc := 47) (tgt := 52) dX12_cross_47 (by decide) (fun hb => ?_) (fun hb => ?_)
        · rw [if_pos hb] at hG
          refine e_aloadn (pc := 52) (i := 0) dX12_cross_52 rfl rfl ?_
          refine e_bipush (pc := 53) dX12_cross_53 (by decide +kernel) (x_R rfl) ?_
          refine e_bipush (pc := 55) dX12_cross_55 (by decide +kernel) (x_R rfl) ?_
          refine e_iloadn (pc := 57) (i := 1) dX12_cross_57 rfl rfl ?_
          refine e_imul (pc := 58) dX12_cross_58 ?_
          refine e_iadd (pc := 59) dX12_cross_59 ?_
          refine e_iconst (pc := 60) dX12_cross_60 (x_R rfl) ?_
          refine e_iadd (pc := 61) dX12_cross_61 ?_
          refine e_aloadn (pc := 62) (i := 0) dX12_cross_62 rfl rfl ?_
          refine f_getr (pc := 63) (u := 32) (q := 0) dX12_cross_63 xf12_7 (sa_32_0 hs) rfl (sr_32_0_1 hs) ?_
          refine e_bipush (pc := 66) dX12_cross_66 (by decide +kernel) (x_R rfl) ?_
          refine f_iald (pc := 68) (k := 0) (u := 32) (q := 1) (len := 772) dX12_cross_68 (sa_32_1 hs) (by decide) hn rfl rfl (by decide) ?_
          show Ev g _ _ _ _ _ _ 69 [some (x_r (16 * 32 + 0)), some (x_i a), none] [x_i ((x_up (x_up S 0 0 v3) 0 0 v7) 1 9), x_i (x_add (x_add 16 (x_mul 8 a)) 4), x_r (16 * 32 + 0)] (al, ro, fl (ml M [32] [(x_up (x_up S 0 0 v3) 0 0 v7)])) _ _ _ _
          obtain ⟨v9, S10, hq10, hG⟩ := x_bd2 hG
          refine e_invV (pc := 69) (K1 := 0) (S1 := 0) (K := 0) (S := 0) (dd2 := 1) (av := [x_i (x_add (x_add 16 (x_mul 8 a)) 4), x_i ((x_up (x_up S 0 0 v3) 0 0 v7) 1 9)]) (st := []) (id := 16 * 32 + 0) dX12_cross_69 xmX12_314 rfl (Or.inl ⟨10, 27, TX12, (sa_32_0 hs), rfl, by decide⟩) (f_cal (M := M) (us2 := [32]) [0] hn rfl (And.intro rfl trivial) rfl rfl rfl (c_X12_sets hst hs   hq10)) (by decide) (Nat.le_of_ble_eq_true rfl) (Or.inl rfl) ?_
          show Ev g _ _ _ _ _ _ 72 [some (x_r (16 * 32 + 0)), some (x_i a), none] [x_i v9] (al, ro, fl (ml M [32] [S10])) _ _ _ _
          refine e_istoren (pc := 72) (i := 2) dX12_cross_72 rfl (by decide) rfl ?_
          show Ev g _ _ _ _ _ _ 73 [some (x_r (16 * 32 + 0)), some (x_i a), some (x_i v9)] [] (al, ro, fl (ml M [32] [S10])) _ _ _ _
          refine e_aloadn (pc := 73) (i := 0) dX12_cross_73 rfl rfl ?_
          refine e_iloadn (pc := 74) (i := 1) dX12_cross_74 rfl rfl ?_
          refine e_iconst (pc := 75) dX12_cross_75 (x_R rfl) ?_
          refine e_aloadn (pc := 76) (i := 0) dX12_cross_76 rfl rfl ?_
          refine e_iloadn (pc := 77) (i := 1) dX12_cross_77 rfl rfl ?_
          refine e_iconst (pc := 78) dX12_cross_78 (x_R rfl) ?_
          obtain ⟨v12, hq12, hG⟩ := x_bd1 hG
          refine e_invV (pc := 79) (K1 := 0) (S1 := 0) (K := 0) (S := 0) (dd2 := 0) (av := [x_i a, x_i 0]) (st := [x_i 0, x_i a, x_r (16 * 32 + 0)]) (id := 16 * 32 + 0) dX12_cross_79 xmX12_65 rfl (Or.inl ⟨10, 27, TX12, (sa_32_0 hs), rfl, by decide⟩) (f_cal (M := M) (us2 := [32]) [0] hn rfl (And.intro rfl trivial) rfl rfl rfl (c_X12_of hst hs   hq12)) (by decide) (Nat.le_of_ble_eq_true rfl) (Or.inl rfl) ?_
          show Ev g _ _ _ _ _ _ 82 [some (x_r (16 * 32 + 0)), some (x_i a), some (x_i v9)] [x_i v12, x_i 0, x_i a, x_r (16 * 32 + 0)] (al, ro, fl (ml M [32] [S10])) _ _ _ _
          refine e_bipush (pc := 82) dX12_cross_82 (by decide +kernel) (x_R rfl) ?_
          refine e_iadd (pc := 84) dX12_cross_84 ?_
          refine e_bipush (pc := 85) dX12_cross_85 (by decide +kernel) (x_R rfl) ?_
          refine e_irem (pc := 87) dX12_cross_87 (by decide) ?_
          obtain ⟨S14, hq14, hG⟩ := x_bd1 hG
          refine e_invV (pc := 88) (K1 := 0) (S1 := 0) (K := 0) (S := 0) (dd2 := 0) (av := [x_i a, x_i 0, x_i (x_rem (x_add v12 8) 16)]) (st := []) (id := 16 * 32 + 0) dX12_cross_88 xmX12_140 rfl (Or.inl ⟨10, 27, TX12, (sa_32_0 hs), rfl, by decide⟩) (f_cal (M := M) (us2 := [32]) [0] hn rfl (And.intro rfl trivial) rfl rfl rfl (c_X12_lays hst hs   hq14)) (by decide) (Nat.le_of_ble_eq_true rfl) (Or.inl rfl) ?_
          show Ev g _ _ _ _ _ _ 91 [some (x_r (16 * 32 + 0)), some (x_i a), some (x_i v9)] [] (al, ro, fl (ml M [32] [S14])) _ _ _ _
          refine e_aloadn (pc := 91) (i := 0) dX12_cross_91 rfl rfl ?_
          refine e_iloadn (pc := 92) (i := 1) dX12_cross_92 rfl rfl ?_
          refine e_iconst (pc := 93) dX12_cross_93 (x_R rfl) ?_
          obtain ⟨v16, hq16, hG⟩ := x_bd1 hG
          refine e_invV (pc := 94) (K1 := 0) (S1 := 0) (K := 0) (S := 0) (dd2 := 0) (av := [x_i a, x_i 0]) (st := []) (id := 16 * 32 + 0) dX12_cross_94 xmX12_65 rfl (Or.inl ⟨10, 27, TX12, (sa_32_0 hs), rfl, by decide⟩) (f_cal (M := M) (us2 := [32]) [0] hn rfl (And.intro rfl trivial) rfl rfl rfl (c_X12_of hst hs   hq16)) (by decide) (Nat.le_of_ble_eq_true rfl) (Or.inl rfl) ?_
          show Ev g _ _ _ _ _ _ 97 [some (x_r (16 * 32 + 0)), some (x_i a), some (x_i v9)] [x_i v16] (al, ro, fl (ml M [32] [S14])) _ _ _ _
          cases hG
          exact (e_ireturn rfl dX12_cross_97 rfl)
        · rw [if_neg hb] at hG
          refine e_iconst (pc := 50) dX12_cross_50 (x_R rfl) ?_
          cases hG
          exact (e_ireturn rfl dX12_cross_51 rfl)
      clear hG
      refine e_if_eq (pc := 32) (tgt := 39) dX12_cross_32 (by decide) (fun hb => ?_) (fun hb => ?_)
      · rw [if_pos hb] at hr7
        refine e_iconst (pc := 39) dX12_cross_39 (x_R rfl) ?_
        cases hr7
        exact hjhr7
      · rw [if_neg hb] at hr7
        refine e_iconst (pc := 35) dX12_cross_35 (x_R rfl) ?_
        refine e_goto (pc := 36) (tgt := 40) dX12_cross_36 (by decide) ?_
        cases hr7
        exact hjhr7
    · rw [if_neg hb] at hG
      refine e_iconst (pc := 24) dX12_cross_24 (x_R rfl) ?_
      cases hG
      exact (e_ireturn rfl dX12_cross_25 rfl)
  clear hG
  refine e_if_ne (pc := 6) (tgt := 13) dX12_cross_6 (by decide) (fun hb => ?_) (fun hb => ?_)
  · rw [if_neg hb] at hr3
    refine e_iconst (pc := 13) dX12_cross_13 (x_R rfl) ?_
    cases hr3
    exact hjhr3
  · rw [if_pos hb] at hr3
    refine e_iconst (pc := 9) dX12_cross_9 (x_R rfl) ?_
    refine e_goto (pc := 10) (tgt := 14) dX12_cross_10 (by decide) ?_
    cases hr3
    exact hjhr3
set_option maxRecDepth 100000 in
set_option maxHeartbeats 4000000 in
theorem c_X12_bell {g : xG} {al : List (Nat × Nat × Nat)} {ro : Nat → Nat → Option Nat} (hst : g.1.stackTraces = false) (hs : SH al ro) {M : Nat → xU} {a : Int} {S : xU}  {t : (Int × xU)} (hG : G12_bell a S = some t) :
    Cal g yX12_bell cX12_bell 2 (some .int) 2 [x_r (16 * 32 + 0), x_i a] (al, ro, fl (ml M [32] [S])) 0 0 (.inl (some (x_i t.1))) (al, ro, fl (ml M [32] [t.2])) := by
  have hn : ([32] : List Nat).Nodup := by decide
  refine cal_of_ev (plainFor_of_name (by decide)) (x_c1 rfl) (Nat.le_of_ble_eq_true rfl) hst ?_
  show Ev g _ _ _ _ _ _ 0 [some (x_r (16 * 32 + 0)), some (x_i a)] [] (al, ro, fl (ml M [32] [S])) _ _ _ _
  rw [G12_bell] at hG
  refine e_aloadn (pc := 0) (i := 0) dX12_bell_0 rfl rfl ?_
  refine e_iloadn (pc := 1) (i := 1) dX12_bell_1 rfl rfl ?_
  obtain ⟨v1, hq1, hG⟩ := x_bd1 hG
  refine e_invS (pc := 2) (K1 := 0) (S1 := 0) (K := 0) (S := 0) (dd2 := 1) (av := [x_i a]) (st := [x_r (16 * 32 + 0)]) dX12_bell_2 xmX12_304 rfl (f_cal (M := M) (us2 := []) [] hn rfl trivial rfl rfl rfl (c_X12_isFlag hst hs   hq1)) (by decide) (Nat.le_of_ble_eq_true rfl) (Or.inl rfl) ?_
  show Ev g _ _ _ _ _ _ 5 [some (x_r (16 * 32 + 0)), some (x_i a)] [x_i v1, x_r (16 * 32 + 0)] (al, ro, fl (ml M [32] [S])) _ _ _ _
  obtain ⟨v3, hr3, hG⟩ := x_bd1 hG
  have hjhr3 : Ev g yX12_bell cX12_bell 2 (some .int) [] 2 13 [some (x_r (16 * 32 + 0)), some (x_i a)] [x_i v3, x_r (16 * 32 + 0)] (al, ro, fl (ml M [32] [S])) 0 0 (.inl (some (x_i t.1))) (al, ro, fl (ml M [32] [t.2])) := by
    refine f_puti (pc := 13) (k := 0) (u := 32) (q := 0) dX12_bell_13 xf12_58 xw10_0 (sa_32_0 hs) hn rfl rfl rfl (by decide) ?_
    show Ev g _ _ _ _ _ _ 16 [some (x_r (16 * 32 + 0)), some (x_i a)] [] (al, ro, fl (ml M [32] [(x_up S 0 0 v3)])) _ _ _ _
    refine e_aloadn (pc := 16) (i := 0) dX12_bell_16 rfl rfl ?_
    refine f_geti (pc := 17) (k := 0) (u := 32) (q := 0) dX12_bell_17 xf12_58 (sa_32_0 hs) rfl hn rfl rfl (by decide) ?_
    show Ev g _ _ _ _ _ _ 20 [some (x_r (16 * 32 + 0)), some (x_i a)] [x_i ((x_up S 0 0 v3) 0 0)] (al, ro, fl (ml M [32] [(x_up S 0 0 v3)])) _ _ _ _
    obtain ⟨v5, S6, hr6, hG⟩ := x_bd2 hG
    have hjhr6 : Ev g yX12_bell cX12_bell 2 (some .int) [] 2 34 [some (x_r (16 * 32 + 0)), some (x_i a)] [x_i v5] (al, ro, fl (ml M [32] [S6])) 0 0 (.inl (some (x_i t.1))) (al, ro, fl (ml M [32] [t.2])) := by
      cases hG
      exact (e_ireturn rfl dX12_bell_34 rfl)
    clear hG
    refine e_if_le (pc := 20) (tgt := 27) dX12_bell_20 (by decide) (fun hb => ?_) (fun hb => ?_)
    · rw [if_pos hb] at hr6
      refine e_aloadn (pc := 27) (i := 0) dX12_bell_27 rfl rfl ?_
      refine e_bipush (pc := 28) dX12_bell_28 (by decide +kernel) (x_R rfl) ?_
      refine e_iloadn (pc := 30) (i := 1) dX12_bell_30 rfl rfl ?_
      obtain ⟨v8, S9, hq9, hr6⟩ := x_bd2 hr6
      refine e_invV (pc := 31) (K1 := 0) (S1 := 0) (K := 0) (S := 0) (dd2 := 1) (av := [x_i 6, x_i a]) (st := []) (id := 16 * 32 + 0) dX12_bell_31 xmX12_314 rfl (Or.inl ⟨10, 27, TX12, (sa_32_0 hs), rfl, by decide⟩) (f_cal (M := M) (us2 := [32]) [0] hn rfl (And.intro rfl trivial) rfl rfl rfl (c_X12_sets hst hs   hq9)) (by decide) (Nat.le_of_ble_eq_true rfl) (Or.inl rfl) ?_
      show Ev g _ _ _ _ _ _ 34 [some (x_r (16 * 32 + 0)), some (x_i a)] [x_i v8] (al, ro, fl (ml M [32] [S9])) _ _ _ _
      cases hr6
      exact hjhr6
    · rw [if_neg hb] at hr6
      refine e_iconst (pc := 23) dX12_bell_23 (x_R rfl) ?_
      refine e_goto (pc := 24) (tgt := 34) dX12_bell_24 (by decide) ?_
      cases hr6
      exact hjhr6
  clear hG
  refine e_if_ne (pc := 5) (tgt := 12) dX12_bell_5 (by decide) (fun hb => ?_) (fun hb => ?_)
  · rw [if_neg hb] at hr3
    refine e_iconst (pc := 12) dX12_bell_12 (x_R rfl) ?_
    cases hr3
    exact hjhr3
  · rw [if_pos hb] at hr3
    refine e_iconst (pc := 8) dX12_bell_8 (x_R rfl) ?_
    refine e_goto (pc := 9) (tgt := 13) dX12_bell_9 (by decide) ?_
    cases hr3
    exact hjhr3
set_option maxRecDepth 100000 in
set_option maxHeartbeats 4000000 in
theorem c_X12_mood {g : xG} {al : List (Nat × Nat × Nat)} {ro : Nat → Nat → Option Nat} (hst : g.1.stackTraces = false) (hs : SH al ro) {M : Nat → xU} {a : Int} {S : xU}  {t : (Int × xU)} (hG : G12_mood a S = some t) :
    Cal g yX12_mood cX12_mood 2 (some .int) 2 [x_r (16 * 32 + 0), x_i a] (al, ro, fl (ml M [32] [S])) 0 0 (.inl (some (x_i t.1))) (al, ro, fl (ml M [32] [t.2])) := by
  have hn : ([32] : List Nat).Nodup := by decide
  refine cal_of_ev (plainFor_of_name (by decide)) (x_c1 rfl) (Nat.le_of_ble_eq_true rfl) hst ?_
  show Ev g _ _ _ _ _ _ 0 [some (x_r (16 * 32 + 0)), some (x_i a)] [] (al, ro, fl (ml M [32] [S])) _ _ _ _
  rw [G12_mood] at hG
  refine e_aloadn (pc := 0) (i := 0) dX12_mood_0 rfl rfl ?_
  refine e_iloadn (pc := 1) (i := 1) dX12_mood_1 rfl rfl ?_
  refine e_iconst (pc := 2) dX12_mood_2 (x_R rfl) ?_
  refine e_iconst (pc := 3) dX12_mood_3 (x_R rfl) ?_
  obtain ⟨v1, hq1, hG⟩ := x_bd1 hG
  refine e_invS (pc := 4) (K1 := 0) (S1 := 0) (K := 0) (S := 0) (dd2 := 0) (av := [x_i a, x_i 0, x_i 4]) (st := [x_r (16 * 32 + 0)]) dX12_mood_4 xmX12_61 rfl (f_cal (M := M) (us2 := []) [] hn rfl trivial rfl rfl rfl (c_X12_isIn hst hs   hq1)) (by decide) (Nat.le_of_ble_eq_true rfl) (Or.inl rfl) ?_
  show Ev g _ _ _ _ _ _ 7 [some (x_r (16 * 32 + 0)), some (x_i a)] [x_i v1, x_r (16 * 32 + 0)] (al, ro, fl (ml M [32] [S])) _ _ _ _
  obtain ⟨v3, hr3, hG⟩ := x_bd1 hG
  have hjhr3 : Ev g yX12_mood cX12_mood 2 (some .int) [] 2 15 [some (x_r (16 * 32 + 0)), some (x_i a)] [x_i v3, x_r (16 * 32 + 0)] (al, ro, fl (ml M [32] [S])) 0 0 (.inl (some (x_i t.1))) (al, ro, fl (ml M [32] [t.2])) := by
    refine f_puti (pc := 15) (k := 0) (u := 32) (q := 0) dX12_mood_15 xf12_58 xw10_0 (sa_32_0 hs) hn rfl rfl rfl (by decide) ?_
    show Ev g _ _ _ _ _ _ 18 [some (x_r (16 * 32 + 0)), some (x_i a)] [] (al, ro, fl (ml M [32] [(x_up S 0 0 v3)])) _ _ _ _
    refine e_aloadn (pc := 18) (i := 0) dX12_mood_18 rfl rfl ?_
    refine f_geti (pc := 19) (k := 0) (u := 32) (q := 0) dX12_mood_19 xf12_58 (sa_32_0 hs) rfl hn rfl rfl (by decide) ?_
    show Ev g _ _ _ _ _ _ 22 [some (x_r (16 * 32 + 0)), some (x_i a)] [x_i ((x_up S 0 0 v3) 0 0)] (al, ro, fl (ml M [32] [(x_up S 0 0 v3)])) _ _ _ _
    obtain ⟨v5, S6, hr6, hG⟩ := x_bd2 hG
    have hjhr6 : Ev g yX12_mood cX12_mood 2 (some .int) [] 2 36 [some (x_r (16 * 32 + 0)), some (x_i a)] [x_i v5] (al, ro, fl (ml M [32] [S6])) 0 0 (.inl (some (x_i t.1))) (al, ro, fl (ml M [32] [t.2])) := by
      cases hG
      exact (e_ireturn rfl dX12_mood_36 rfl)
    clear hG
    refine e_if_le (pc := 22) (tgt := 29) dX12_mood_22 (by decide) (fun hb => ?_) (fun hb => ?_)
    · rw [if_pos hb] at hr6
      refine e_aloadn (pc := 29) (i := 0) dX12_mood_29 rfl rfl ?_
      refine e_bipush (pc := 30) dX12_mood_30 (by decide +kernel) (x_R rfl) ?_
      refine e_iloadn (pc := 32) (i := 1) dX12_mood_32 rfl rfl ?_
      obtain ⟨v8, S9, hq9, hr6⟩ := x_bd2 hr6
      refine e_invV (pc := 33) (K1 := 0) (S1 := 0) (K := 0) (S := 0) (dd2 := 1) (av := [x_i 7, x_i a]) (st := []) (id := 16 * 32 + 0) dX12_mood_33 xmX12_314 rfl (Or.inl ⟨10, 27, TX12, (sa_32_0 hs), rfl, by decide⟩) (f_cal (M := M) (us2 := [32]) [0] hn rfl (And.intro rfl trivial) rfl rfl rfl (c_X12_sets hst hs   hq9)) (by decide) (Nat.le_of_ble_eq_true rfl) (Or.inl rfl) ?_
      show Ev g _ _ _ _ _ _ 36 [some (x_r (16 * 32 + 0)), some (x_i a)] [x_i v8] (al, ro, fl (ml M [32] [S9])) _ _ _ _
      cases hr6
      exact hjhr6
    · rw [if_neg hb] at hr6
      refine e_iconst (pc := 25) dX12_mood_25 (x_R rfl) ?_
      refine e_goto (pc := 26) (tgt := 36) dX12_mood_26 (by decide) ?_
      cases hr6
      exact hjhr6
  clear hG
  refine e_if_ne (pc := 7) (tgt := 14) dX12_mood_7 (by decide) (fun hb => ?_) (fun hb => ?_)
  · rw [if_neg hb] at hr3
    refine e_iconst (pc := 14) dX12_mood_14 (x_R rfl) ?_
    cases hr3
    exact hjhr3
  · rw [if_pos hb] at hr3
    refine e_iconst (pc := 10) dX12_mood_10 (x_R rfl) ?_
    refine e_goto (pc := 11) (tgt := 15) dX12_mood_11 (by decide) ?_
    cases hr3
    exact hjhr3
set_option maxRecDepth 100000 in
set_option maxHeartbeats 4000000 in
theorem c_X12_areTwo {g : xG} {al : List (Nat × Nat × Nat)} {ro : Nat → Nat → Option Nat} (hst : g.1.stackTraces = false) (hs : SH al ro) {M : Nat → xU} {a : Int} {b : Int} {S : xU}  {t : xU} (hG : G12_areTwo a b S = some t) :
    Cal g yX12_areTwo cX12_areTwo 3 none 2 [x_r (16 * 32 + 0), x_i a, x_i b] (al, ro, fl (ml M [32] [S])) 0 0 (.inl none) (al, ro, fl (ml M [32] [t])) := by
  have hn : ([32] : List Nat).Nodup := by decide
  refine cal_of_ev (plainFor_of_name (by decide)) (x_c1 rfl) (Nat.le_of_ble_eq_true rfl) hst ?_
  show Ev g _ _ _ _ _ _ 0 [some (x_r (16 * 32 + 0)), some (x_i a), some (x_i b)] [] (al, ro, fl (ml M [32] [S])) _ _ _ _
  rw [G12_areTwo] at hG
  refine e_aloadn (pc := 0) (i := 0) dX12_areTwo_0 rfl rfl ?_
  refine e_aloadn (pc := 1) (i := 0) dX12_areTwo_1 rfl rfl ?_
  refine e_iloadn (pc := 2) (i := 1) dX12_areTwo_2 rfl rfl ?_
  obtain ⟨v1, hq1, hG⟩ := x_bd1 hG
  refine e_invV (pc := 3) (K1 := 0) (S1 := 0) (K := 0) (S := 0) (dd2 := 1) (av := [x_i a]) (st := [x_r (16 * 32 + 0)]) (id := 16 * 32 + 0) dX12_areTwo_3 xmX12_295 rfl (Or.inl ⟨10, 27, TX12, (sa_32_0 hs), rfl, by decide⟩) (f_cal (M := M) (us2 := [32]) [0] hn rfl (And.intro rfl trivial) rfl rfl rfl (c_X12_isMonk hst hs   hq1)) (by decide) (Nat.le_of_ble_eq_true rfl) (Or.inl rfl) ?_
  show Ev g _ _ _ _ _ _ 6 [some (x_r (16 * 32 + 0)), some (x_i a), some (x_i b)] [x_i v1, x_r (16 * 32 + 0)] (al, ro, fl (ml M [32] [S])) _ _ _ _
  obtain ⟨v3, hr3, hG⟩ := x_bd1 hG
  have hjhr3 : Ev g yX12_areTwo cX12_areTwo 3 none [] 2 31 [some (x_r (16 * 32 + 0)), some (x_i a), some (x_i b)] [x_i v3, x_r (16 * 32 + 0)] (al, ro, fl (ml M [32] [S])) 0 0 (.inl none) (al, ro, fl (ml M [32] [t])) := by
    refine f_puti (pc := 31) (k := 0) (u := 32) (q := 0) dX12_areTwo_31 xf12_58 xw10_0 (sa_32_0 hs) hn rfl rfl rfl (by decide) ?_
    show Ev g _ _ _ _ _ _ 34 [some (x_r (16 * 32 + 0)), some (x_i a), some (x_i b)] [] (al, ro, fl (ml M [32] [(x_up S 0 0 v3)])) _ _ _ _
    cases hG
    exact (e_return rfl dX12_areTwo_34)
  clear hG
  refine e_if_eq (pc := 6) (tgt := 17) dX12_areTwo_6 (by decide) (fun hb => ?_) (fun hb => ?_)
  · rw [if_pos hb] at hr3
    refine e_iconst (pc := 17) dX12_areTwo_17 (x_R rfl) ?_
    refine e_goto (pc := 18) (tgt := 31) dX12_areTwo_18 (by decide) ?_
    cases hr3
    exact hjhr3
  · rw [if_neg hb] at hr3
    refine e_aloadn (pc := 9) (i := 0) dX12_areTwo_9 rfl rfl ?_
    refine e_iloadn (pc := 10) (i := 2) dX12_areTwo_10 rfl rfl ?_
    obtain ⟨v5, hq5, hr3⟩ := x_bd1 hr3
    refine e_invV (pc := 11) (K1 := 0) (S1 := 0) (K := 0) (S := 0) (dd2 := 1) (av := [x_i b]) (st := [x_r (16 * 32 + 0)]) (id := 16 * 32 + 0) dX12_areTwo_11 xmX12_295 rfl (Or.inl ⟨10, 27, TX12, (sa_32_0 hs), rfl, by decide⟩) (f_cal (M := M) (us2 := [32]) [0] hn rfl (And.intro rfl trivial) rfl rfl rfl (c_X12_isMonk hst hs   hq5)) (by decide) (Nat.le_of_ble_eq_true rfl) (Or.inl rfl) ?_
    show Ev g _ _ _ _ _ _ 14 [some (x_r (16 * 32 + 0)), some (x_i a), some (x_i b)] [x_i v5, x_r (16 * 32 + 0)] (al, ro, fl (ml M [32] [S])) _ _ _ _
    refine e_if_ne (pc := 14) (tgt := 21) dX12_areTwo_14 (by decide) (fun hb => ?_) (fun hb => ?_)
    · rw [if_neg hb] at hr3
      refine e_iloadn (pc := 21) (i := 1) dX12_areTwo_21 rfl rfl ?_
      refine e_iloadn (pc := 22) (i := 2) dX12_areTwo_22 rfl rfl ?_
      refine e_icmp_ne (pc := 23) (tgt := 30) dX12_areTwo_23 (by decide) (fun hb => ?_) (fun hb => ?_)
      · rw [if_neg hb] at hr3
        refine e_iconst (pc := 30) dX12_areTwo_30 (x_R rfl) ?_
        cases hr3
        exact hjhr3
      · rw [if_pos hb] at hr3
        refine e_iconst (pc := 26) dX12_areTwo_26 (x_R rfl) ?_
        refine e_goto (pc := 27) (tgt := 31) dX12_areTwo_27 (by decide) ?_
        cases hr3
        exact hjhr3
    · rw [if_pos hb] at hr3
      refine e_iconst (pc := 17) dX12_areTwo_17 (x_R rfl) ?_
      refine e_goto (pc := 18) (tgt := 31) dX12_areTwo_18 (by decide) ?_
      cases hr3
      exact hjhr3
set_option maxRecDepth 100000 in
set_option maxHeartbeats 4000000 in
theorem c_X12_change {g : xG} {al : List (Nat × Nat × Nat)} {ro : Nat → Nat → Option Nat} (hst : g.1.stackTraces = false) (hs : SH al ro) {M : Nat → xU} {a : Int} {b : Int} {S : xU}  {t : (Int × xU)} (hG : G12_change a b S = some t) :
    Cal g yX12_change cX12_change 4 (some .int) 3 [x_r (16 * 32 + 0), x_i a, x_i b] (al, ro, fl (ml M [32] [S])) 0 0 (.inl (some (x_i t.1))) (al, ro, fl (ml M [32] [t.2])) := by
  have hn : ([32] : List Nat).Nodup := by decide
  refine cal_of_ev (plainFor_of_name (by decide)) (x_c1 rfl) (Nat.le_of_ble_eq_true rfl) hst ?_
  show Ev g _ _ _ _ _ _ 0 [some (x_r (16 * 32 + 0)), some (x_i a), some (x_i b), none] [] (al, ro, fl (ml M [32] [S])) _ _ _ _
  rw [G12_change] at hG
  refine e_aloadn (pc := 0) (i := 0) dX12_change_0 rfl rfl ?_
  refine e_iloadn (pc := 1) (i := 1) dX12_change_1 rfl rfl ?_
  refine e_iloadn (pc := 2) (i := 2) dX12_change_2 rfl rfl ?_
  obtain ⟨S1, hq1, hG⟩ := x_bd1 hG
  refine e_invV (pc := 3) (K1 := 0) (S1 := 0) (K := 0) (S := 0) (dd2 := 2) (av := [x_i a, x_i b]) (st := []) (id := 16 * 32 + 0) dX12_change_3 xmX12_317 rfl (Or.inl ⟨10, 27, TX12, (sa_32_0 hs), rfl, by decide⟩) (f_cal (M := M) (us2 := [32]) [0] hn rfl (And.intro rfl trivial) rfl rfl rfl (c_X12_areTwo hst hs   hq1)) (by decide) (Nat.le_of_ble_eq_true rfl) (Or.inl rfl) ?_
  show Ev g _ _ _ _ _ _ 6 [some (x_r (16 * 32 + 0)), some (x_i a), some (x_i b), none] [] (al, ro, fl (ml M [32] [S1])) _ _ _ _
  refine e_aloadn (pc := 6) (i := 0) dX12_change_6 rfl rfl ?_
  refine f_geti (pc := 7) (k := 0) (u := 32) (q := 0) dX12_change_7 xf12_58 (sa_32_0 hs) rfl hn rfl rfl (by decide) ?_
  show Ev g _ _ _ _ _ _ 10 [some (x_r (16 * 32 + 0)), some (x_i a), some (x_i b), none] [x_i (S1 0 0)] (al, ro, fl (ml M [32] [S1])) _ _ _ _
  refine e_if_le (pc := 10) (tgt := 15) dX12_change_10 (by decide) (fun hb => ?_) (fun hb => ?_)
  · rw [if_pos hb] at hG
    refine e_aloadn (pc := 15) (i := 0) dX12_change_15 rfl rfl ?_
    refine e_bipush (pc := 16) dX12_change_16 (by decide +kernel) (x_R rfl) ?_
    refine e_bipush (pc := 18) dX12_change_18 (by decide +kernel) (x_R rfl) ?_
    refine e_iloadn (pc := 20) (i := 1) dX12_change_20 rfl rfl ?_
    refine e_imul (pc := 21) dX12_change_21 ?_
    refine e_iadd (pc := 22) dX12_change_22 ?_
    refine e_iconst (pc := 23) dX12_change_23 (x_R rfl) ?_
    refine e_iadd (pc := 24) dX12_change_24 ?_
    refine e_aloadn (pc := 25) (i := 0) dX12_change_25 rfl rfl ?_
    refine e_iloadn (pc := 26) (i := 2) dX12_change_26 rfl rfl ?_
    refine e_iconst (pc := 27) dX12_change_27 (x_R rfl) ?_
    obtain ⟨v3, hq3, hG⟩ := x_bd1 hG
    refine e_invV (pc := 28) (K1 := 0) (S1 := 0) (K := 0) (S := 0) (dd2 := 0) (av := [x_i b, x_i 2]) (st := [x_i (x_add (x_add 16 (x_mul 8 a)) 2), x_r (16 * 32 + 0)]) (id := 16 * 32 + 0) dX12_change_28 xmX12_65 rfl (Or.inl ⟨10, 27, TX12, (sa_32_0 hs), rfl, by decide⟩) (f_cal (M := M) (us2 := [32]) [0] hn rfl (And.intro rfl trivial) rfl rfl rfl (c_X12_of hst hs   hq3)) (by decide) (Nat.le_of_ble_eq_true rfl) (Or.inl rfl) ?_
    show Ev g _ _ _ _ _ _ 31 [some (x_r (16 * 32 + 0)), some (x_i a), some (x_i b), none] [x_i v3, x_i (x_add (x_add 16 (x_mul 8 a)) 2), x_r (16 * 32 + 0)] (al, ro, fl (ml M [32] [S1])) _ _ _ _
    obtain ⟨v5, S6, hq6, hG⟩ := x_bd2 hG
    refine e_invV (pc := 31) (K1 := 0) (S1 := 0) (K := 0) (S := 0) (dd2 := 1) (av := [x_i (x_add (x_add 16 (x_mul 8 a)) 2), x_i v3]) (st := []) (id := 16 * 32 + 0) dX12_change_31 xmX12_314 rfl (Or.inl ⟨10, 27, TX12, (sa_32_0 hs), rfl, by decide⟩) (f_cal (M := M) (us2 := [32]) [0] hn rfl (And.intro rfl trivial) rfl rfl rfl (c_X12_sets hst hs   hq6)) (by decide) (Nat.le_of_ble_eq_true rfl) (Or.inl rfl) ?_
    show Ev g _ _ _ _ _ _ 34 [some (x_r (16 * 32 + 0)), some (x_i a), some (x_i b), none] [x_i v5] (al, ro, fl (ml M [32] [S6])) _ _ _ _
    refine e_istoren (pc := 34) (i := 3) dX12_change_34 rfl (by decide) rfl ?_
    show Ev g _ _ _ _ _ _ 35 [some (x_r (16 * 32 + 0)), some (x_i a), some (x_i b), some (x_i v5)] [] (al, ro, fl (ml M [32] [S6])) _ _ _ _
    refine e_aloadn (pc := 35) (i := 0) dX12_change_35 rfl rfl ?_
    refine e_iloadn (pc := 36) (i := 2) dX12_change_36 rfl rfl ?_
    refine e_iconst (pc := 37) dX12_change_37 (x_R rfl) ?_
    refine e_iloadn (pc := 38) (i := 3) dX12_change_38 rfl rfl ?_
    obtain ⟨S8, hq8, hG⟩ := x_bd1 hG
    refine e_invV (pc := 39) (K1 := 0) (S1 := 0) (K := 0) (S := 0) (dd2 := 0) (av := [x_i b, x_i 2, x_i v5]) (st := []) (id := 16 * 32 + 0) dX12_change_39 xmX12_140 rfl (Or.inl ⟨10, 27, TX12, (sa_32_0 hs), rfl, by decide⟩) (f_cal (M := M) (us2 := [32]) [0] hn rfl (And.intro rfl trivial) rfl rfl rfl (c_X12_lays hst hs   hq8)) (by decide) (Nat.le_of_ble_eq_true rfl) (Or.inl rfl) ?_
    show Ev g _ _ _ _ _ _ 42 [some (x_r (16 * 32 + 0)), some (x_i a), some (x_i b), some (x_i v5)] [] (al, ro, fl (ml M [32] [S8])) _ _ _ _
    refine e_aloadn (pc := 42) (i := 0) dX12_change_42 rfl rfl ?_
    refine e_iloadn (pc := 43) (i := 1) dX12_change_43 rfl rfl ?_
    refine e_iconst (pc := 44) dX12_change_44 (x_R rfl) ?_
    obtain ⟨v10, hq10, hG⟩ := x_bd1 hG
    refine e_invV (pc := 45) (K1 := 0) (S1 := 0) (K := 0) (S := 0) (dd2 := 0) (av := [x_i a, x_i 2]) (st := []) (id := 16 * 32 + 0) dX12_change_45 xmX12_65 rfl (Or.inl ⟨10, 27, TX12, (sa_32_0 hs), rfl, by decide⟩) (f_cal (M := M) (us2 := [32]) [0] hn rfl (And.intro rfl trivial) rfl rfl rfl (c_X12_of hst hs   hq10)) (by decide) (Nat.le_of_ble_eq_true rfl) (Or.inl rfl) ?_
    show Ev g _ _ _ _ _ _ 48 [some (x_r (16 * 32 + 0)), some (x_i a), some (x_i b), some (x_i v5)] [x_i v10] (al, ro, fl (ml M [32] [S8])) _ _ _ _
    cases hG
    exact (e_ireturn rfl dX12_change_48 rfl)
  · rw [if_neg hb] at hG
    refine e_iconst (pc := 13) dX12_change_13 (x_R rfl) ?_
    cases hG
    exact (e_ireturn rfl dX12_change_14 rfl)
