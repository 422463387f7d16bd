set_option maxRecDepth 100000 in
set_option maxHeartbeats 4000000 in
theorem c_X12_shown {g : xG} {al : List (Nat × Nat × Nat)} {ro : Nat → Nat → Option Nat} (hst : g.1.stackTraces = false) (hs : SH al ro) {M : Nat → xU} {S : xU}  {t : (Int × xU)} (hG : G12_shown S = some t) :
    Cal g yX12_shown cX12_shown 3 (some .int) 2 [x_r (16 * 32 + 0)] (al, ro, fl (ml M [32] [S])) 0 0 (.inl (some (x_i t.1))) (al, ro, fl (ml M [32] [t.2])) := by
  have hn : ([32] : List Nat).Nodup := by decide
  refine cal_of_ev (plainFor_of_name (by decide)) (x_c1 rfl) (Nat.le_of_ble_eq_true rfl) hst ?_
  show Ev g _ _ _ _ _ _ 0 [some (x_r (16 * 32 + 0)), none, none] [] (al, ro, fl (ml M [32] [S])) _ _ _ _
  rw [G12_shown] at hG
  refine e_aloadn (pc := 0) (i := 0) dX12_shown_0 rfl rfl ?_
  refine e_iconst (pc := 1) dX12_shown_1 (x_R rfl) ?_
  refine f_puti (pc := 2) (k := 0) (u := 32) (q := 0) dX12_shown_2 xf12_58 xw10_0 (sa_32_0 hs) hn rfl rfl rfl (by decide) ?_
  show Ev g _ _ _ _ _ _ 5 [some (x_r (16 * 32 + 0)), none, none] [] (al, ro, fl (ml M [32] [(x_up S 0 0 0)])) _ _ _ _
  refine e_iconst (pc := 5) dX12_shown_5 (x_R rfl) ?_
  refine e_istoren (pc := 6) (i := 1) dX12_shown_6 rfl (by decide) rfl ?_
  show Ev g _ _ _ _ _ _ 7 [some (x_r (16 * 32 + 0)), some (x_i 0), none] [] (al, ro, fl (ml M [32] [(x_up S 0 0 0)])) _ _ _ _
  refine e_iconst (pc := 7) dX12_shown_7 (x_R rfl) ?_
  refine e_istoren (pc := 8) (i := 2) dX12_shown_8 rfl (by decide) rfl ?_
  show Ev g _ _ _ _ _ _ 9 [some (x_r (16 * 32 + 0)), some (x_i 0), some (x_i 1)] [] (al, ro, fl (ml M [32] [(x_up S 0 0 0)])) _ _ _ _
  obtain ⟨v3, hl4, hG⟩ := x_bd1 hG
  have hk4 : ∀ q : Int, q = v3 → Ev g yX12_shown cX12_shown 3 (some .int) [] 2 55 [some (x_r (16 * 32 + 0)), some (x_i q), none] [] (al, ro, fl (ml M [32] [(x_up S 0 0 0)])) 0 0 (.inl (some (x_i t.1))) (al, ro, fl (ml M [32] [t.2])) := by
    intro q hq
    replace hq := hq.symm
    subst hq
    refine e_iloadn (pc := 55) (i := 1) dX12_shown_55 rfl rfl ?_
    cases hG
    exact (e_ireturn rfl dX12_shown_56 rfl)
  clear hG
  refine e_whl (G12_shown_L9 S) (fun z : (Int × Int) => Ev g yX12_shown cX12_shown 3 (some .int) [] 2 9 [some (x_r (16 * 32 + 0)), some (x_i z.1), some (x_i z.2)] [] (al, ro, fl (ml M [32] [(x_up S 0 0 0)])) 0 0 (.inl (some (x_i t.1))) (al, ro, fl (ml M [32] [t.2]))) (fun q => q = v3) ?_ xFU (0, 1) _ hl4 rfl
  intro z t4 hf4 hi4 hx4
  obtain ⟨v1, v2⟩ := z
  rw [G12_shown_L9] at hf4
  show Ev g _ _ _ _ _ _ 9 [some (x_r (16 * 32 + 0)), some (x_i v1), some (x_i v2)] [] (al, ro, fl (ml M [32] [(x_up S 0 0 0)])) _ _ _ _
  refine e_iloadn (pc := 9) (i := 2) dX12_shown_9 rfl rfl ?_
  refine e_aloadn (pc := 10) (i := 0) dX12_shown_10 rfl rfl ?_
  obtain ⟨v6, hq6, hf4⟩ := x_bd1 hf4
  refine e_invV (pc := 11) (K1 := 0) (S1 := 0) (K := 0) (S := 0) (dd2 := 0) (av := []) (st := [x_i v2]) (id := 16 * 32 + 0) dX12_shown_11 xmX12_346 rfl (Or.inl ⟨10, 27, TX12, (sa_32_0 hs), rfl, by decide⟩) (f_cal (M := M) (us2 := [32]) [0] hn rfl (And.intro rfl trivial) rfl rfl rfl (c_X12_all hst hs   hq6)) (by decide) (Nat.le_of_ble_eq_true rfl) (Or.inl rfl) ?_
  show Ev g _ _ _ _ _ _ 14 [some (x_r (16 * 32 + 0)), some (x_i v1), some (x_i v2)] [x_i v6, x_i v2] (al, ro, fl (ml M [32] [(x_up S 0 0 0)])) _ _ _ _
  refine e_icmp_gt (pc := 14) (tgt := 55) dX12_shown_14 (by decide) (fun hb => ?_) (fun hb => ?_)
  · rw [if_pos hb] at hf4
    cases hf4
    refine e_drop (i := 2) ?_
    have hh := hk4 _ (hx4 _ rfl)
    try dsimp only at hh
    exact hh
  · rw [if_neg hb] at hf4
    refine e_aloadn (pc := 17) (i := 0) dX12_shown_17 rfl rfl ?_
    refine e_iloadn (pc := 18) (i := 2) dX12_shown_18 rfl rfl ?_
    obtain ⟨v8, hq8, hf4⟩ := x_bd1 hf4
    refine e_invV (pc := 19) (K1 := 0) (S1 := 0) (K := 0) (S := 0) (dd2 := 1) (av := [x_i v2]) (st := []) (id := 16 * 32 + 0) dX12_shown_19 xmX12_349 rfl (Or.inl ⟨10, 27, TX12, (sa_32_0 hs), rfl, by decide⟩) (f_cal (M := M) (us2 := [32]) [0] hn rfl (And.intro rfl trivial) rfl rfl rfl (c_X12_likesOf hst hs   hq8)) (by decide) (Nat.le_of_ble_eq_true rfl) (Or.inl rfl) ?_
    show Ev g _ _ _ _ _ _ 22 [some (x_r (16 * 32 + 0)), some (x_i v1), some (x_i v2)] [x_i v8] (al, ro, fl (ml M [32] [(x_up S 0 0 0)])) _ _ _ _
    obtain ⟨v10, hq10, hf4⟩ := x_bd1 hf4
    refine e_invS (pc := 22) (K1 := 0) (S1 := 0) (K := 0) (S := 0) (dd2 := 0) (av := [x_i v8]) (st := []) dX12_shown_22 xmX12_352 rfl (f_cal (M := M) (us2 := []) [] hn rfl trivial rfl rfl rfl (c_X12_bits hst hs   hq10)) (by decide) (Nat.le_of_ble_eq_true rfl) (Or.inl rfl) ?_
    show Ev g _ _ _ _ _ _ 25 [some (x_r (16 * 32 + 0)), some (x_i v1), some (x_i v2)] [x_i v10] (al, ro, fl (ml M [32] [(x_up S 0 0 0)])) _ _ _ _
    refine e_iloadn (pc := 25) (i := 2) dX12_shown_25 rfl rfl ?_
    obtain ⟨v12, hq12, hf4⟩ := x_bd1 hf4
    refine e_invS (pc := 26) (K1 := 0) (S1 := 0) (K := 0) (S := 0) (dd2 := 0) (av := [x_i v2]) (st := [x_i v10]) dX12_shown_26 xmX12_352 rfl (f_cal (M := M) (us2 := []) [] hn rfl trivial rfl rfl rfl (c_X12_bits hst hs   hq12)) (by decide) (Nat.le_of_ble_eq_true rfl) (Or.inl rfl) ?_
    show Ev g _ _ _ _ _ _ 29 [some (x_r (16 * 32 + 0)), some (x_i v1), some (x_i v2)] [x_i v12, x_i v10] (al, ro, fl (ml M [32] [(x_up S 0 0 0)])) _ _ _ _
    obtain ⟨v14, hr14, hf4⟩ := x_bd1 hf4
    have hjhr14 : Ev g yX12_shown cX12_shown 3 (some .int) [] 2 49 [some (x_r (16 * 32 + 0)), some (x_i v14), some (x_i v2)] [] (al, ro, fl (ml M [32] [(x_up S 0 0 0)])) 0 0 (.inl (some (x_i t.1))) (al, ro, fl (ml M [32] [t.2])) := by
      refine e_iinc (pc := 49) dX12_shown_49 rfl (by decide) rfl ?_
      show Ev g _ _ _ _ _ _ 52 [some (x_r (16 * 32 + 0)), some (x_i v14), some (x_i (x_add v2 1))] [] (al, ro, fl (ml M [32] [(x_up S 0 0 0)])) _ _ _ _
      refine e_goto (pc := 52) (tgt := 9) dX12_shown_52 (by decide) ?_
      cases hf4
      have hh := hi4 _ rfl
      try dsimp only at hh
      exact hh
    clear hf4
    refine e_icmp_ge (pc := 29) (tgt := 49) dX12_shown_29 (by decide) (fun hb => ?_) (fun hb => ?_)
    · rw [if_pos hb] at hr14
      cases hr14
      exact hjhr14
    · rw [if_neg hb] at hr14
      refine e_iloadn (pc := 32) (i := 1) dX12_shown_32 rfl rfl ?_
      refine e_if_eq (pc := 33) (tgt := 47) dX12_shown_33 (by decide) (fun hb => ?_) (fun hb => ?_)
      · rw [if_pos hb] at hr14
        refine e_iloadn (pc := 47) (i := 2) dX12_shown_47 rfl rfl ?_
        refine e_istoren (pc := 48) (i := 1) dX12_shown_48 rfl (by decide) rfl ?_
        show Ev g _ _ _ _ _ _ 49 [some (x_r (16 * 32 + 0)), some (x_i v2), some (x_i v2)] [] (al, ro, fl (ml M [32] [(x_up S 0 0 0)])) _ _ _ _
        cases hr14
        exact hjhr14
      · rw [if_neg hb] at hr14
        refine e_iloadn (pc := 36) (i := 2) dX12_shown_36 rfl rfl ?_
        obtain ⟨v16, hq16, hr14⟩ := x_bd1 hr14
        refine e_invS (pc := 37) (K1 := 0) (S1 := 0) (K := 0) (S := 0) (dd2 := 0) (av := [x_i v2]) (st := []) dX12_shown_37 xmX12_352 rfl (f_cal (M := M) (us2 := []) [] hn rfl trivial rfl rfl rfl (c_X12_bits hst hs   hq16)) (by decide) (Nat.le_of_ble_eq_true rfl) (Or.inl rfl) ?_
        show Ev g _ _ _ _ _ _ 40 [some (x_r (16 * 32 + 0)), some (x_i v1), some (x_i v2)] [x_i v16] (al, ro, fl (ml M [32] [(x_up S 0 0 0)])) _ _ _ _
        refine e_iloadn (pc := 40) (i := 1) dX12_shown_40 rfl rfl ?_
        obtain ⟨v18, hq18, hr14⟩ := x_bd1 hr14
        refine e_invS (pc := 41) (K1 := 0) (S1 := 0) (K := 0) (S := 0) (dd2 := 0) (av := [x_i v1]) (st := [x_i v16]) dX12_shown_41 xmX12_352 rfl (f_cal (M := M) (us2 := []) [] hn rfl trivial rfl rfl rfl (c_X12_bits hst hs   hq18)) (by decide) (Nat.le_of_ble_eq_true rfl) (Or.inl rfl) ?_
        show Ev g _ _ _ _ _ _ 44 [some (x_r (16 * 32 + 0)), some (x_i v1), some (x_i v2)] [x_i v18, x_i v16] (al, ro, fl (ml M [32] [(x_up S 0 0 0)])) _ _ _ _
        refine e_icmp_ge (pc := 44) (tgt := 49) dX12_shown_44 (by decide) (fun hb => ?_) (fun hb => ?_)
        · rw [if_pos hb] at hr14
          cases hr14
          exact hjhr14
        · rw [if_neg hb] at hr14
          refine e_iloadn (pc := 47) (i := 2) dX12_shown_47 rfl rfl ?_
          refine e_istoren (pc := 48) (i := 1) dX12_shown_48 rfl (by decide) rfl ?_
          show Ev g _ _ _ _ _ _ 49 [some (x_r (16 * 32 + 0)), some (x_i v2), some (x_i v2)] [] (al, ro, fl (ml M [32] [(x_up S 0 0 0)])) _ _ _ _
          cases hr14
          exact hjhr14
set_option maxRecDepth 100000 in
set_option maxHeartbeats 4000000 in
theorem c_X12_serves {g : xG} {al : List (Nat × Nat × Nat)} {ro : Nat → Nat → Option Nat} (hst : g.1.stackTraces = false) (hs : SH al ro) {M : Nat → xU} {a : Int} {S : xU}  {t : (Int × xU)} (hG : G12_serves a S = some t) :
    Cal g yX12_serves cX12_serves 4 (some .int) 1 [x_r (16 * 32 + 0), x_i a] (al, ro, fl (ml M [32] [S])) 0 0 (.inl (some (x_i t.1))) (al, ro, fl (ml M [32] [t.2])) := by
  have hn : ([32] : List Nat).Nodup := by decide
  refine cal_of_ev (plainFor_of_name (by decide)) (x_c1 rfl) (Nat.le_of_ble_eq_true rfl) hst ?_
  show Ev g _ _ _ _ _ _ 0 [some (x_r (16 * 32 + 0)), some (x_i a), none, none] [] (al, ro, fl (ml M [32] [S])) _ _ _ _
  rw [G12_serves] at hG
  refine e_aloadn (pc := 0) (i := 0) dX12_serves_0 rfl rfl ?_
  refine e_iloadn (pc := 1) (i := 1) dX12_serves_1 rfl rfl ?_
  refine e_iconst (pc := 2) dX12_serves_2 (x_R rfl) ?_
  refine e_bipush (pc := 3) dX12_serves_3 (by decide +kernel) (x_R rfl) ?_
  obtain ⟨v1, hq1, hG⟩ := x_bd1 hG
  refine e_invS (pc := 5) (K1 := 0) (S1 := 0) (K := 0) (S := 0) (dd2 := 0) (av := [x_i a, x_i 0, x_i 11]) (st := [x_r (16 * 32 + 0)]) dX12_serves_5 xmX12_61 rfl (f_cal (M := M) (us2 := []) [] hn rfl trivial rfl rfl rfl (c_X12_isIn hst hs   hq1)) (by decide) (Nat.le_of_ble_eq_true rfl) (Or.inl rfl) ?_
  show Ev g _ _ _ _ _ _ 8 [some (x_r (16 * 32 + 0)), some (x_i a), none, none] [x_i v1, x_r (16 * 32 + 0)] (al, ro, fl (ml M [32] [S])) _ _ _ _
  obtain ⟨v3, hr3, hG⟩ := x_bd1 hG
  have hjhr3 : Ev g yX12_serves cX12_serves 4 (some .int) [] 1 16 [some (x_r (16 * 32 + 0)), some (x_i a), none, none] [x_i v3, x_r (16 * 32 + 0)] (al, ro, fl (ml M [32] [S])) 0 0 (.inl (some (x_i t.1))) (al, ro, fl (ml M [32] [t.2])) := by
    refine f_puti (pc := 16) (k := 0) (u := 32) (q := 0) dX12_serves_16 xf12_58 xw10_0 (sa_32_0 hs) hn rfl rfl rfl (by decide) ?_
    show Ev g _ _ _ _ _ _ 19 [some (x_r (16 * 32 + 0)), some (x_i a), none, none] [] (al, ro, fl (ml M [32] [(x_up S 0 0 v3)])) _ _ _ _
    refine e_aloadn (pc := 19) (i := 0) dX12_serves_19 rfl rfl ?_
    refine f_geti (pc := 20) (k := 0) (u := 32) (q := 0) dX12_serves_20 xf12_58 (sa_32_0 hs) rfl hn rfl rfl (by decide) ?_
    show Ev g _ _ _ _ _ _ 23 [some (x_r (16 * 32 + 0)), some (x_i a), none, none] [x_i ((x_up S 0 0 v3) 0 0)] (al, ro, fl (ml M [32] [(x_up S 0 0 v3)])) _ _ _ _
    refine e_if_le (pc := 23) (tgt := 28) dX12_serves_23 (by decide) (fun hb => ?_) (fun hb => ?_)
    · rw [if_pos hb] at hG
      refine e_iconst (pc := 28) dX12_serves_28 (x_R rfl) ?_
      refine e_istoren (pc := 29) (i := 2) dX12_serves_29 rfl (by decide) rfl ?_
      show Ev g _ _ _ _ _ _ 30 [some (x_r (16 * 32 + 0)), some (x_i a), some (x_i 0), none] [] (al, ro, fl (ml M [32] [(x_up S 0 0 v3)])) _ _ _ _
      refine e_iconst (pc := 30) dX12_serves_30 (x_R rfl) ?_
      refine e_istoren (pc := 31) (i := 3) dX12_serves_31 rfl (by decide) rfl ?_
      show Ev g _ _ _ _ _ _ 32 [some (x_r (16 * 32 + 0)), some (x_i a), some (x_i 0), some (x_i 0)] [] (al, ro, fl (ml M [32] [(x_up S 0 0 v3)])) _ _ _ _
      obtain ⟨v7, hl8, hG⟩ := x_bd1 hG
      have hk8 : ∀ q : Int, q = v7 → Ev g yX12_serves cX12_serves 4 (some .int) [] 1 71 [some (x_r (16 * 32 + 0)), some (x_i a), some (x_i q), none] [] (al, ro, fl (ml M [32] [(x_up S 0 0 v3)])) 0 0 (.inl (some (x_i t.1))) (al, ro, fl (ml M [32] [t.2])) := by
        intro q hq
        replace hq := hq.symm
        subst hq
        refine e_iloadn (pc := 71) (i := 2) dX12_serves_71 rfl rfl ?_
        cases hG
        exact (e_ireturn rfl dX12_serves_72 rfl)
      clear hG
      refine e_whl (G12_serves_L32 a S v3) (fun z : (Int × Int) => Ev g yX12_serves cX12_serves 4 (some .int) [] 1 32 [some (x_r (16 * 32 + 0)), some (x_i a), some (x_i z.1), some (x_i z.2)] [] (al, ro, fl (ml M [32] [(x_up S 0 0 v3)])) 0 0 (.inl (some (x_i t.1))) (al, ro, fl (ml M [32] [t.2]))) (fun q => q = v7) ?_ xFU (0, 0) _ hl8 rfl
      intro z t8 hf8 hi8 hx8
      obtain ⟨v5, v6⟩ := z
      rw [G12_serves_L32] at hf8
      show Ev g _ _ _ _ _ _ 32 [some (x_r (16 * 32 + 0)), some (x_i a), some (x_i v5), some (x_i v6)] [] (al, ro, fl (ml M [32] [(x_up S 0 0 v3)])) _ _ _ _
      refine e_iloadn (pc := 32) (i := 3) dX12_serves_32 rfl rfl ?_
      refine e_aloadn (pc := 33) (i := 0) dX12_serves_33 rfl rfl ?_
      refine f_getr (pc := 34) (u := 32) (q := 0) dX12_serves_34 xf12_7 (sa_32_0 hs) rfl (sr_32_0_1 hs) ?_
      refine e_iconst (pc := 37) dX12_serves_37 (x_R rfl) ?_
      refine f_iald (pc := 38) (k := 0) (u := 32) (q := 1) (len := 772) dX12_serves_38 (sa_32_1 hs) (by decide) hn rfl rfl (by decide) ?_
      show Ev g _ _ _ _ _ _ 39 [some (x_r (16 * 32 + 0)), some (x_i a), some (x_i v5), some (x_i v6)] [x_i ((x_up S 0 0 v3) 1 3), x_i v6] (al, ro, fl (ml M [32] [(x_up S 0 0 v3)])) _ _ _ _
      refine e_icmp_ge (pc := 39) (tgt := 71) dX12_serves_39 (by decide) (fun hb => ?_) (fun hb => ?_)
      · rw [if_pos hb] at hf8
        cases hf8
        refine e_drop (i := 3) ?_
        have hh := hk8 _ (hx8 _ rfl)
        try dsimp only at hh
        exact hh
      · rw [if_neg hb] at hf8
        refine e_iloadn (pc := 42) (i := 2) dX12_serves_42 rfl rfl ?_
        refine e_aloadn (pc := 43) (i := 0) dX12_serves_43 rfl rfl ?_
        refine e_iloadn (pc := 44) (i := 3) dX12_serves_44 rfl rfl ?_
        refine e_iconst (pc := 45) dX12_serves_45 (x_R rfl) ?_
        obtain ⟨v10, hq10, hf8⟩ := x_bd1 hf8
        refine e_invV (pc := 46) (K1 := 0) (S1 := 0) (K := 0) (S := 0) (dd2 := 0) (av := [x_i v6, x_i 3]) (st := [x_i v5]) (id := 16 * 32 + 0) dX12_serves_46 xmX12_65 rfl (Or.inl ⟨10, 27, TX12, (sa_32_0 hs), rfl, by decide⟩) (f_cal (M := M) (us2 := [32]) [0] hn rfl (And.intro rfl trivial) rfl rfl rfl (c_X12_of hst hs   hq10)) (by decide) (Nat.le_of_ble_eq_true rfl) (Or.inl rfl) ?_
        show Ev g _ _ _ _ _ _ 49 [some (x_r (16 * 32 + 0)), some (x_i a), some (x_i v5), some (x_i v6)] [x_i v10, x_i v5] (al, ro, fl (ml M [32] [(x_up S 0 0 v3)])) _ _ _ _
        refine e_iloadn (pc := 49) (i := 1) dX12_serves_49 rfl rfl ?_
        obtain ⟨v12, hq12, hf8⟩ := x_bd1 hf8
        refine e_invS (pc := 50) (K1 := 0) (S1 := 0) (K := 0) (S := 0) (dd2 := 0) (av := [x_i v10, x_i a]) (st := [x_i v5]) dX12_serves_50 xmX12_119 rfl (f_cal (M := M) (us2 := []) [] hn rfl trivial rfl rfl rfl (c_X12_isOf hst hs   hq12)) (by decide) (Nat.le_of_ble_eq_true rfl) (Or.inl rfl) ?_
        show Ev g _ _ _ _ _ _ 53 [some (x_r (16 * 32 + 0)), some (x_i a), some (x_i v5), some (x_i v6)] [x_i v12, x_i v5] (al, ro, fl (ml M [32] [(x_up S 0 0 v3)])) _ _ _ _
        obtain ⟨v14, hr14, hf8⟩ := x_bd1 hf8
        have hjhr14 : Ev g yX12_serves cX12_serves 4 (some .int) [] 1 63 [some (x_r (16 * 32 + 0)), some (x_i a), some (x_i v5), some (x_i v6)] [x_i v14, x_i v5] (al, ro, fl (ml M [32] [(x_up S 0 0 v3)])) 0 0 (.inl (some (x_i t.1))) (al, ro, fl (ml M [32] [t.2])) := by
          refine e_ior (pc := 63) dX12_serves_63 ?_
          refine e_istoren (pc := 64) (i := 2) dX12_serves_64 rfl (by decide) rfl ?_
          show Ev g _ _ _ _ _ _ 65 [some (x_r (16 * 32 + 0)), some (x_i a), some (x_i (x_or v5 v14)), some (x_i v6)] [] (al, ro, fl (ml M [32] [(x_up S 0 0 v3)])) _ _ _ _
          refine e_iinc (pc := 65) dX12_serves_65 rfl (by decide) rfl ?_
          show Ev g _ _ _ _ _ _ 68 [some (x_r (16 * 32 + 0)), some (x_i a), some (x_i (x_or v5 v14)), some (x_i (x_add v6 1))] [] (al, ro, fl (ml M [32] [(x_up S 0 0 v3)])) _ _ _ _
          refine e_goto (pc := 68) (tgt := 32) dX12_serves_68 (by decide) ?_
          cases hf8
          have hh := hi8 _ rfl
          try dsimp only at hh
          exact hh
        clear hf8
        refine e_if_eq (pc := 53) (tgt := 62) dX12_serves_53 (by decide) (fun hb => ?_) (fun hb => ?_)
        · rw [if_pos hb] at hr14
          refine e_iconst (pc := 62) dX12_serves_62 (x_R rfl) ?_
          cases hr14
          exact hjhr14
        · rw [if_neg hb] at hr14
          refine e_iconst (pc := 56) dX12_serves_56 (x_R rfl) ?_
          refine e_iloadn (pc := 57) (i := 3) dX12_serves_57 rfl rfl ?_
          refine e_ishl (pc := 58) dX12_serves_58 ?_
          refine e_goto (pc := 59) (tgt := 63) dX12_serves_59 (by decide) ?_
          cases hr14
          exact hjhr14
    · rw [if_neg hb] at hG
      refine e_iconst (pc := 26) dX12_serves_26 (x_R rfl) ?_
      cases hG
      exact (e_ireturn rfl dX12_serves_27 rfl)
  clear hG
  refine e_if_ne (pc := 8) (tgt := 15) dX12_serves_8 (by decide) (fun hb => ?_) (fun hb => ?_)
  · rw [if_neg hb] at hr3
    refine e_iconst (pc := 15) dX12_serves_15 (x_R rfl) ?_
    cases hr3
    exact hjhr3
  · rw [if_pos hb] at hr3
    refine e_iconst (pc := 11) dX12_serves_11 (x_R rfl) ?_
    refine e_goto (pc := 12) (tgt := 16) dX12_serves_12 (by decide) ?_
    cases hr3
    exact hjhr3
set_option maxRecDepth 100000 in
set_option maxHeartbeats 4000000 in
theorem c_X12_pains {g : xG} {al : List (Nat × Nat × Nat)} {ro : Nat → Nat → Option Nat} (hst : g.1.stackTraces = false) (hs : SH al ro) {M : Nat → xU} {a : Int} {b : Int} {S : xU}  {t : Int} (hG : G12_pains a b S = some t) :
    Cal g yX12_pains cX12_pains 4 (some .int) 1 [x_r (16 * 32 + 0), x_i a, x_i b] (al, ro, fl (ml M [32] [S])) 0 0 (.inl (some (x_i t))) (al, ro, fl (ml M [32] [S])) := by
  have hn : ([32] : List Nat).Nodup := by decide
  refine cal_of_ev (plainFor_of_name (by decide)) (x_c1 rfl) (Nat.le_of_ble_eq_true rfl) hst ?_
  show Ev g _ _ _ _ _ _ 0 [some (x_r (16 * 32 + 0)), some (x_i a), some (x_i b), none] [] (al, ro, fl (ml M [32] [S])) _ _ _ _
  rw [G12_pains] at hG
  refine e_iloadn (pc := 0) (i := 2) dX12_pains_0 rfl rfl ?_
  refine e_aloadn (pc := 1) (i := 0) dX12_pains_1 rfl rfl ?_
  refine e_iloadn (pc := 2) (i := 1) dX12_pains_2 rfl rfl ?_
  refine e_iconst (pc := 3) dX12_pains_3 (x_R rfl) ?_
  obtain ⟨v1, hq1, hG⟩ := x_bd1 hG
  refine e_invV (pc := 4) (K1 := 0) (S1 := 0) (K := 0) (S := 0) (dd2 := 0) (av := [x_i a, x_i 2]) (st := [x_i b]) (id := 16 * 32 + 0) dX12_pains_4 xmX12_65 rfl (Or.inl ⟨10, 27, TX12, (sa_32_0 hs), rfl, by decide⟩) (f_cal (M := M) (us2 := [32]) [0] hn rfl (And.intro rfl trivial) rfl rfl rfl (c_X12_of hst hs   hq1)) (by decide) (Nat.le_of_ble_eq_true rfl) (Or.inl rfl) ?_
  show Ev g _ _ _ _ _ _ 7 [some (x_r (16 * 32 + 0)), some (x_i a), some (x_i b), none] [x_i v1, x_i b] (al, ro, fl (ml M [32] [S])) _ _ _ _
  refine e_isub (pc := 7) dX12_pains_7 ?_
  refine e_bipush (pc := 8) dX12_pains_8 (by decide +kernel) (x_R rfl) ?_
  refine e_iadd (pc := 10) dX12_pains_10 ?_
  refine e_bipush (pc := 11) dX12_pains_11 (by decide +kernel) (x_R rfl) ?_
  refine e_irem (pc := 13) dX12_pains_13 (by decide) ?_
  refine e_istoren (pc := 14) (i := 3) dX12_pains_14 rfl (by decide) rfl ?_
  show Ev g _ _ _ _ _ _ 15 [some (x_r (16 * 32 + 0)), some (x_i a), some (x_i b), some (x_i (x_rem (x_add (x_sub b v1) 12) 12))] [] (al, ro, fl (ml M [32] [S])) _ _ _ _
  refine e_aloadn (pc := 15) (i := 0) dX12_pains_15 rfl rfl ?_
  refine e_iloadn (pc := 16) (i := 1) dX12_pains_16 rfl rfl ?_
  refine e_iconst (pc := 17) dX12_pains_17 (x_R rfl) ?_
  obtain ⟨v3, hq3, hG⟩ := x_bd1 hG
  refine e_invV (pc := 18) (K1 := 0) (S1 := 0) (K := 0) (S := 0) (dd2 := 0) (av := [x_i a, x_i 3]) (st := []) (id := 16 * 32 + 0) dX12_pains_18 xmX12_65 rfl (Or.inl ⟨10, 27, TX12, (sa_32_0 hs), rfl, by decide⟩) (f_cal (M := M) (us2 := [32]) [0] hn rfl (And.intro rfl trivial) rfl rfl rfl (c_X12_of hst hs   hq3)) (by decide) (Nat.le_of_ble_eq_true rfl) (Or.inl rfl) ?_
  show Ev g _ _ _ _ _ _ 21 [some (x_r (16 * 32 + 0)), some (x_i a), some (x_i b), some (x_i (x_rem (x_add (x_sub b v1) 12) 12))] [x_i v3] (al, ro, fl (ml M [32] [S])) _ _ _ _
  refine e_iloadn (pc := 21) (i := 2) dX12_pains_21 rfl rfl ?_
  obtain ⟨v5, hq5, hG⟩ := x_bd1 hG
  refine e_invS (pc := 22) (K1 := 0) (S1 := 0) (K := 0) (S := 0) (dd2 := 0) (av := [x_i v3, x_i b]) (st := []) dX12_pains_22 xmX12_119 rfl (f_cal (M := M) (us2 := []) [] hn rfl trivial rfl rfl rfl (c_X12_isOf hst hs   hq5)) (by decide) (Nat.le_of_ble_eq_true rfl) (Or.inl rfl) ?_
  show Ev g _ _ _ _ _ _ 25 [some (x_r (16 * 32 + 0)), some (x_i a), some (x_i b), some (x_i (x_rem (x_add (x_sub b v1) 12) 12))] [x_i v5] (al, ro, fl (ml M [32] [S])) _ _ _ _
  obtain ⟨v7, hr7, hG⟩ := x_bd1 hG
  have hjhr7 : Ev g yX12_pains cX12_pains 4 (some .int) [] 1 34 [some (x_r (16 * 32 + 0)), some (x_i a), some (x_i b), some (x_i (x_rem (x_add (x_sub b v1) 12) 12))] [x_i v7] (al, ro, fl (ml M [32] [S])) 0 0 (.inl (some (x_i t))) (al, ro, fl (ml M [32] [S])) := by
    refine e_iloadn (pc := 34) (i := 3) dX12_pains_34 rfl rfl ?_
    refine e_bipush (pc := 35) dX12_pains_35 (by decide +kernel) (x_R rfl) ?_
    refine e_iloadn (pc := 37) (i := 3) dX12_pains_37 rfl rfl ?_
    refine e_isub (pc := 38) dX12_pains_38 ?_
    obtain ⟨v9, hq9, hG⟩ := x_bd1 hG
    refine e_invS (pc := 39) (K1 := 0) (S1 := 0) (K := 0) (S := 0) (dd2 := 0) (av := [x_i (x_rem (x_add (x_sub b v1) 12) 12), x_i (x_sub 12 (x_rem (x_add (x_sub b v1) 12) 12))]) (st := [x_i v7]) dX12_pains_39 xmX12_73 rfl (f_cal (M := M) (us2 := []) [] hn rfl trivial rfl rfl rfl (c_X12_lesser hst hs   hq9)) (by decide) (Nat.le_of_ble_eq_true rfl) (Or.inl rfl) ?_
    show Ev g _ _ _ _ _ _ 42 [some (x_r (16 * 32 + 0)), some (x_i a), some (x_i b), some (x_i (x_rem (x_add (x_sub b v1) 12) 12))] [x_i v9, x_i v7] (al, ro, fl (ml M [32] [S])) _ _ _ _
    refine e_iadd (pc := 42) dX12_pains_42 ?_
    cases hG
    exact (e_ireturn rfl dX12_pains_43 rfl)
  clear hG
  refine e_if_eq (pc := 25) (tgt := 32) dX12_pains_25 (by decide) (fun hb => ?_) (fun hb => ?_)
  · rw [if_pos hb] at hr7
    refine e_bipush (pc := 32) dX12_pains_32 (by decide +kernel) (x_R rfl) ?_
    cases hr7
    exact hjhr7
  · rw [if_neg hb] at hr7
    refine e_iconst (pc := 28) dX12_pains_28 (x_R rfl) ?_
    refine e_goto (pc := 29) (tgt := 34) dX12_pains_29 (by decide) ?_
    cases hr7
    exact hjhr7
set_option maxRecDepth 100000 in
set_option maxHeartbeats 4000000 in
theorem c_X12_pointsTo {g : xG} {al : List (Nat × Nat × Nat)} {ro : Nat → Nat → Option Nat} (hst : g.1.stackTraces = false) (hs : SH al ro) {M : Nat → xU} {a : Int} {b : Int} {S : xU}  {t : Int} (hG : G12_pointsTo a b S = some t) :
    Cal g yX12_pointsTo cX12_pointsTo 5 (some .int) 2 [x_r (16 * 32 + 0), x_i a, x_i b] (al, ro, fl (ml M [32] [S])) 0 0 (.inl (some (x_i t))) (al, ro, fl (ml M [32] [S])) := by
  have hn : ([32] : List Nat).Nodup := by decide
  refine cal_of_ev (plainFor_of_name (by decide)) (x_c1 rfl) (Nat.le_of_ble_eq_true rfl) hst ?_
  show Ev g _ _ _ _ _ _ 0 [some (x_r (16 * 32 + 0)), some (x_i a), some (x_i b), none, none] [] (al, ro, fl (ml M [32] [S])) _ _ _ _
  rw [G12_pointsTo] at hG
  refine e_iconst (pc := 0) dX12_pointsTo_0 (x_R rfl) ?_
  refine e_istoren (pc := 1) (i := 3) dX12_pointsTo_1 rfl (by decide) rfl ?_
  show Ev g _ _ _ _ _ _ 2 [some (x_r (16 * 32 + 0)), some (x_i a), some (x_i b), some (x_i (-1)), none] [] (al, ro, fl (ml M [32] [S])) _ _ _ _
  refine e_iconst (pc := 2) dX12_pointsTo_2 (x_R rfl) ?_
  refine e_istore (pc := 3) (i := 4) dX12_pointsTo_3 (by decide) rfl ?_
  show Ev g _ _ _ _ _ _ 5 [some (x_r (16 * 32 + 0)), some (x_i a), some (x_i b), some (x_i (-1)), some (x_i 0)] [] (al, ro, fl (ml M [32] [S])) _ _ _ _
  obtain ⟨v3, hl4, hG⟩ := x_bd1 hG
  have hk4 : ∀ q : Int, q = v3 → Ev g yX12_pointsTo cX12_pointsTo 5 (some .int) [] 2 65 [some (x_r (16 * 32 + 0)), some (x_i a), some (x_i b), some (x_i q), none] [] (al, ro, fl (ml M [32] [S])) 0 0 (.inl (some (x_i t))) (al, ro, fl (ml M [32] [S])) := by
    intro q hq
    replace hq := hq.symm
    subst hq
    refine e_iloadn (pc := 65) (i := 3) dX12_pointsTo_65 rfl rfl ?_
    cases hG
    exact (e_ireturn rfl dX12_pointsTo_66 rfl)
  clear hG
  refine e_whl (G12_pointsTo_L5 a b S) (fun z : (Int × Int) => Ev g yX12_pointsTo cX12_pointsTo 5 (some .int) [] 2 5 [some (x_r (16 * 32 + 0)), some (x_i a), some (x_i b), some (x_i z.1), some (x_i z.2)] [] (al, ro, fl (ml M [32] [S])) 0 0 (.inl (some (x_i t))) (al, ro, fl (ml M [32] [S]))) (fun q => q = v3) ?_ xFU ((-1), 0) _ hl4 rfl
  intro z t4 hf4 hi4 hx4
  obtain ⟨v1, v2⟩ := z
  rw [G12_pointsTo_L5] at hf4
  show Ev g _ _ _ _ _ _ 5 [some (x_r (16 * 32 + 0)), some (x_i a), some (x_i b), some (x_i v1), some (x_i v2)] [] (al, ro, fl (ml M [32] [S])) _ _ _ _
  refine e_iload (pc := 5) dX12_pointsTo_5 rfl ?_
  refine e_aloadn (pc := 7) (i := 0) dX12_pointsTo_7 rfl rfl ?_
  refine f_getr (pc := 8) (u := 32) (q := 0) dX12_pointsTo_8 xf12_7 (sa_32_0 hs) rfl (sr_32_0_1 hs) ?_
  refine e_iconst (pc := 11) dX12_pointsTo_11 (x_R rfl) ?_
  refine f_iald (pc := 12) (k := 0) (u := 32) (q := 1) (len := 772) dX12_pointsTo_12 (sa_32_1 hs) (by decide) hn rfl rfl (by decide) ?_
  show Ev g _ _ _ _ _ _ 13 [some (x_r (16 * 32 + 0)), some (x_i a), some (x_i b), some (x_i v1), some (x_i v2)] [x_i (S 1 3), x_i v2] (al, ro, fl (ml M [32] [S])) _ _ _ _
  refine e_icmp_ge (pc := 13) (tgt := 65) dX12_pointsTo_13 (by decide) (fun hb => ?_) (fun hb => ?_)
  · rw [if_pos hb] at hf4
    cases hf4
    refine e_drop (i := 4) ?_
    have hh := hk4 _ (hx4 _ rfl)
    try dsimp only at hh
    exact hh
  · rw [if_neg hb] at hf4
    refine e_iloadn (pc := 16) (i := 2) dX12_pointsTo_16 rfl rfl ?_
    refine e_iload (pc := 17) dX12_pointsTo_17 rfl ?_
    obtain ⟨v6, hq6, hf4⟩ := x_bd1 hf4
    refine e_invS (pc := 19) (K1 := 0) (S1 := 0) (K := 0) (S := 0) (dd2 := 0) (av := [x_i b, x_i v2]) (st := []) dX12_pointsTo_19 xmX12_119 rfl (f_cal (M := M) (us2 := []) [] hn rfl trivial rfl rfl rfl (c_X12_isOf hst hs   hq6)) (by decide) (Nat.le_of_ble_eq_true rfl) (Or.inl rfl) ?_
    show Ev g _ _ _ _ _ _ 22 [some (x_r (16 * 32 + 0)), some (x_i a), some (x_i b), some (x_i v1), some (x_i v2)] [x_i v6] (al, ro, fl (ml M [32] [S])) _ _ _ _
    obtain ⟨v8, hr8, hf4⟩ := x_bd1 hf4
    have hjhr8 : Ev g yX12_pointsTo cX12_pointsTo 5 (some .int) [] 2 59 [some (x_r (16 * 32 + 0)), some (x_i a), some (x_i b), some (x_i v8), some (x_i v2)] [] (al, ro, fl (ml M [32] [S])) 0 0 (.inl (some (x_i t))) (al, ro, fl (ml M [32] [S])) := by
      refine e_iinc (pc := 59) dX12_pointsTo_59 rfl (by decide) rfl ?_
      show Ev g _ _ _ _ _ _ 62 [some (x_r (16 * 32 + 0)), some (x_i a), some (x_i b), some (x_i v8), some (x_i (x_add v2 1))] [] (al, ro, fl (ml M [32] [S])) _ _ _ _
      refine e_goto (pc := 62) (tgt := 5) dX12_pointsTo_62 (by decide) ?_
      cases hf4
      have hh := hi4 _ rfl
      try dsimp only at hh
      exact hh
    clear hf4
    refine e_if_eq (pc := 22) (tgt := 59) dX12_pointsTo_22 (by decide) (fun hb => ?_) (fun hb => ?_)
    · rw [if_pos hb] at hr8
      cases hr8
      exact hjhr8
    · rw [if_neg hb] at hr8
      refine e_iloadn (pc := 25) (i := 3) dX12_pointsTo_25 rfl rfl ?_
      refine e_iconst (pc := 26) dX12_pointsTo_26 (x_R rfl) ?_
      refine e_icmp_eq (pc := 27) (tgt := 56) dX12_pointsTo_27 (by decide) (fun hb => ?_) (fun hb => ?_)
      · rw [if_pos hb] at hr8
        refine e_iload (pc := 56) dX12_pointsTo_56 rfl ?_
        refine e_istoren (pc := 58) (i := 3) dX12_pointsTo_58 rfl (by decide) rfl ?_
        show Ev g _ _ _ _ _ _ 59 [some (x_r (16 * 32 + 0)), some (x_i a), some (x_i b), some (x_i v2), some (x_i v2)] [] (al, ro, fl (ml M [32] [S])) _ _ _ _
        cases hr8
        exact hjhr8
      · rw [if_neg hb] at hr8
        refine e_aloadn (pc := 30) (i := 0) dX12_pointsTo_30 rfl rfl ?_
        refine e_iloadn (pc := 31) (i := 1) dX12_pointsTo_31 rfl rfl ?_
        refine e_aloadn (pc := 32) (i := 0) dX12_pointsTo_32 rfl rfl ?_
        refine e_iload (pc := 33) dX12_pointsTo_33 rfl ?_
        refine e_iconst (pc := 35) dX12_pointsTo_35 (x_R rfl) ?_
        obtain ⟨v10, hq10, hr8⟩ := x_bd1 hr8
        refine e_invV (pc := 36) (K1 := 0) (S1 := 0) (K := 0) (S := 0) (dd2 := 0) (av := [x_i v2, x_i 2]) (st := [x_i a, x_r (16 * 32 + 0)]) (id := 16 * 32 + 0) dX12_pointsTo_36 xmX12_65 rfl (Or.inl ⟨10, 27, TX12, (sa_32_0 hs), rfl, by decide⟩) (f_cal (M := M) (us2 := [32]) [0] hn rfl (And.intro rfl trivial) rfl rfl rfl (c_X12_of hst hs   hq10)) (by decide) (Nat.le_of_ble_eq_true rfl) (Or.inl rfl) ?_
        show Ev g _ _ _ _ _ _ 39 [some (x_r (16 * 32 + 0)), some (x_i a), some (x_i b), some (x_i v1), some (x_i v2)] [x_i v10, x_i a, x_r (16 * 32 + 0)] (al, ro, fl (ml M [32] [S])) _ _ _ _
        obtain ⟨v12, hq12, hr8⟩ := x_bd1 hr8
        refine e_invV (pc := 39) (K1 := 0) (S1 := 0) (K := 0) (S := 0) (dd2 := 1) (av := [x_i a, x_i v10]) (st := []) (id := 16 * 32 + 0) dX12_pointsTo_39 xmX12_355 rfl (Or.inl ⟨10, 27, TX12, (sa_32_0 hs), rfl, by decide⟩) (f_cal (M := M) (us2 := [32]) [0] hn rfl (And.intro rfl trivial) rfl rfl rfl (c_X12_pains hst hs   hq12)) (by decide) (Nat.le_of_ble_eq_true rfl) (Or.inl rfl) ?_
        show Ev g _ _ _ _ _ _ 42 [some (x_r (16 * 32 + 0)), some (x_i a), some (x_i b), some (x_i v1), some (x_i v2)] [x_i v12] (al, ro, fl (ml M [32] [S])) _ _ _ _
        refine e_aloadn (pc := 42) (i := 0) dX12_pointsTo_42 rfl rfl ?_
        refine e_iloadn (pc := 43) (i := 1) dX12_pointsTo_43 rfl rfl ?_
        refine e_aloadn (pc := 44) (i := 0) dX12_pointsTo_44 rfl rfl ?_
        refine e_iloadn (pc := 45) (i := 3) dX12_pointsTo_45 rfl rfl ?_
        refine e_iconst (pc := 46) dX12_pointsTo_46 (x_R rfl) ?_
        obtain ⟨v14, hq14, hr8⟩ := x_bd1 hr8
        refine e_invV (pc := 47) (K1 := 0) (S1 := 0) (K := 0) (S := 0) (dd2 := 0) (av := [x_i v1, x_i 2]) (st := [x_i a, x_r (16 * 32 + 0), x_i v12]) (id := 16 * 32 + 0) dX12_pointsTo_47 xmX12_65 rfl (Or.inl ⟨10, 27, TX12, (sa_32_0 hs), rfl, by decide⟩) (f_cal (M := M) (us2 := [32]) [0] hn rfl (And.intro rfl trivial) rfl rfl rfl (c_X12_of hst hs   hq14)) (by decide) (Nat.le_of_ble_eq_true rfl) (Or.inl rfl) ?_
        show Ev g _ _ _ _ _ _ 50 [some (x_r (16 * 32 + 0)), some (x_i a), some (x_i b), some (x_i v1), some (x_i v2)] [x_i v14, x_i a, x_r (16 * 32 + 0), x_i v12] (al, ro, fl (ml M [32] [S])) _ _ _ _
        obtain ⟨v16, hq16, hr8⟩ := x_bd1 hr8
        refine e_invV (pc := 50) (K1 := 0) (S1 := 0) (K := 0) (S := 0) (dd2 := 1) (av := [x_i a, x_i v14]) (st := [x_i v12]) (id := 16 * 32 + 0) dX12_pointsTo_50 xmX12_355 rfl (Or.inl ⟨10, 27, TX12, (sa_32_0 hs), rfl, by decide⟩) (f_cal (M := M) (us2 := [32]) [0] hn rfl (And.intro rfl trivial) rfl rfl rfl (c_X12_pains hst hs   hq16)) (by decide) (Nat.le_of_ble_eq_true rfl) (Or.inl rfl) ?_
        show Ev g _ _ _ _ _ _ 53 [some (x_r (16 * 32 + 0)), some (x_i a), some (x_i b), some (x_i v1), some (x_i v2)] [x_i v16, x_i v12] (al, ro, fl (ml M [32] [S])) _ _ _ _
        refine e_icmp_ge (pc := 53) (tgt := 59) dX12_pointsTo_53 (by decide) (fun hb => ?_) (fun hb => ?_)
        · rw [if_pos hb] at hr8
          cases hr8
          exact hjhr8
        · rw [if_neg hb] at hr8
          refine e_iload (pc := 56) dX12_pointsTo_56 rfl ?_
          refine e_istoren (pc := 58) (i := 3) dX12_pointsTo_58 rfl (by decide) rfl ?_
          show Ev g _ _ _ _ _ _ 59 [some (x_r (16 * 32 + 0)), some (x_i a), some (x_i b), some (x_i v2), some (x_i v2)] [] (al, ro, fl (ml M [32] [S])) _ _ _ _
          cases hr8
          exact hjhr8
set_option maxRecDepth 100000 in
set_option maxHeartbeats 4000000 in
theorem c_X12_ringOf {g : xG} {al : List (Nat × Nat × Nat)} {ro : Nat → Nat → Option Nat} (hst : g.1.stackTraces = false) (hs : SH al ro) {M : Nat → xU} {a : Int} {b : Int} {S : xU}  {t : Int} (hG : G12_ringOf a b S = some t) :
    Cal g yX12_ringOf cX12_ringOf 5 (some .int) 3 [x_r (16 * 32 + 0), x_i a, x_i b] (al, ro, fl (ml M [32] [S])) 0 0 (.inl (some (x_i t))) (al, ro, fl (ml M [32] [S])) := by
  have hn : ([32] : List Nat).Nodup := by decide
  refine cal_of_ev (plainFor_of_name (by decide)) (x_c1 rfl) (Nat.le_of_ble_eq_true rfl) hst ?_
  show Ev g _ _ _ _ _ _ 0 [some (x_r (16 * 32 + 0)), some (x_i a), some (x_i b), none, none] [] (al, ro, fl (ml M [32] [S])) _ _ _ _
  rw [G12_ringOf] at hG
  refine e_aloadn (pc := 0) (i := 0) dX12_ringOf_0 rfl rfl ?_
  refine e_iloadn (pc := 1) (i := 1) dX12_ringOf_1 rfl rfl ?_
  refine e_iloadn (pc := 2) (i := 2) dX12_ringOf_2 rfl rfl ?_
  obtain ⟨v1, hq1, hG⟩ := x_bd1 hG
  refine e_invV (pc := 3) (K1 := 0) (S1 := 0) (K := 0) (S := 0) (dd2 := 2) (av := [x_i a, x_i b]) (st := []) (id := 16 * 32 + 0) dX12_ringOf_3 xmX12_358 rfl (Or.inl ⟨10, 27, TX12, (sa_32_0 hs), rfl, by decide⟩) (f_cal (M := M) (us2 := [32]) [0] hn rfl (And.intro rfl trivial) rfl rfl rfl (c_X12_pointsTo hst hs   hq1)) (by decide) (Nat.le_of_ble_eq_true rfl) (Or.inl rfl) ?_
  show Ev g _ _ _ _ _ _ 6 [some (x_r (16 * 32 + 0)), some (x_i a), some (x_i b), none, none] [x_i v1] (al, ro, fl (ml M [32] [S])) _ _ _ _
  refine e_istoren (pc := 6) (i := 3) dX12_ringOf_6 rfl (by decide) rfl ?_
  show Ev g _ _ _ _ _ _ 7 [some (x_r (16 * 32 + 0)), some (x_i a), some (x_i b), some (x_i v1), none] [] (al, ro, fl (ml M [32] [S])) _ _ _ _
  refine e_iconst (pc := 7) dX12_ringOf_7 (x_R rfl) ?_
  refine e_istore (pc := 8) (i := 4) dX12_ringOf_8 (by decide) rfl ?_
  show Ev g _ _ _ _ _ _ 10 [some (x_r (16 * 32 + 0)), some (x_i a), some (x_i b), some (x_i v1), some (x_i 1)] [] (al, ro, fl (ml M [32] [S])) _ _ _ _
  obtain ⟨v5, v6, hl7, hG⟩ := x_bd2 hG
  have hk7 : ∀ q : (Int × Int), q = (v5, v6) → Ev g yX12_ringOf cX12_ringOf 5 (some .int) [] 3 35 [some (x_r (16 * 32 + 0)), some (x_i a), some (x_i b), some (x_i q.1), some (x_i q.2)] [] (al, ro, fl (ml M [32] [S])) 0 0 (.inl (some (x_i t))) (al, ro, fl (ml M [32] [S])) := by
    intro q hq
    cases hq
    refine e_iloadn (pc := 35) (i := 3) dX12_ringOf_35 rfl rfl ?_
    refine e_iloadn (pc := 36) (i := 1) dX12_ringOf_36 rfl rfl ?_
    obtain ⟨v11, hr11, hG⟩ := x_bd1 hG
    have hjhr11 : Ev g yX12_ringOf cX12_ringOf 5 (some .int) [] 3 46 [some (x_r (16 * 32 + 0)), some (x_i a), some (x_i b), some (x_i v5), some (x_i v6)] [x_i v11] (al, ro, fl (ml M [32] [S])) 0 0 (.inl (some (x_i t))) (al, ro, fl (ml M [32] [S])) := by
      cases hG
      exact (e_ireturn rfl dX12_ringOf_46 rfl)
    clear hG
    refine e_icmp_ne (pc := 37) (tgt := 45) dX12_ringOf_37 (by decide) (fun hb => ?_) (fun hb => ?_)
    · rw [if_neg hb] at hr11
      refine e_iconst (pc := 45) dX12_ringOf_45 (x_R rfl) ?_
      cases hr11
      exact hjhr11
    · rw [if_pos hb] at hr11
      refine e_iload (pc := 40) dX12_ringOf_40 rfl ?_
      refine e_goto (pc := 42) (tgt := 46) dX12_ringOf_42 (by decide) ?_
      cases hr11
      exact hjhr11
  clear hG
  refine e_whl (G12_ringOf_L10 a b S) (fun z : (Int × Int) => Ev g yX12_ringOf cX12_ringOf 5 (some .int) [] 3 10 [some (x_r (16 * 32 + 0)), some (x_i a), some (x_i b), some (x_i z.1), some (x_i z.2)] [] (al, ro, fl (ml M [32] [S])) 0 0 (.inl (some (x_i t))) (al, ro, fl (ml M [32] [S]))) (fun q => q = (v5, v6)) ?_ xFU (v1, 1) _ hl7 rfl
  intro z t7 hf7 hi7 hx7
  obtain ⟨v3, v4⟩ := z
  rw [G12_ringOf_L10] at hf7
  show Ev g _ _ _ _ _ _ 10 [some (x_r (16 * 32 + 0)), some (x_i a), some (x_i b), some (x_i v3), some (x_i v4)] [] (al, ro, fl (ml M [32] [S])) _ _ _ _
  refine e_iloadn (pc := 10) (i := 3) dX12_ringOf_10 rfl rfl ?_
  refine e_iloadn (pc := 11) (i := 1) dX12_ringOf_11 rfl rfl ?_
  refine e_icmp_eq (pc := 12) (tgt := 35) dX12_ringOf_12 (by decide) (fun hb => ?_) (fun hb => ?_)
  · rw [if_pos hb] at hf7
    cases hf7
    have hh := hk7 _ (hx7 _ rfl)
    try dsimp only at hh
    exact hh
  · rw [if_neg hb] at hf7
    refine e_iload (pc := 15) dX12_ringOf_15 rfl ?_
    refine e_bipush (pc := 17) dX12_ringOf_17 (by decide +kernel) (x_R rfl) ?_
    refine e_icmp_gt (pc := 19) (tgt := 35) dX12_ringOf_19 (by decide) (fun hb => ?_) (fun hb => ?_)
    · rw [if_pos hb] at hf7
      cases hf7
      have hh := hk7 _ (hx7 _ rfl)
      try dsimp only at hh
      exact hh
    · rw [if_neg hb] at hf7
      refine e_aloadn (pc := 22) (i := 0) dX12_ringOf_22 rfl rfl ?_
      refine e_iloadn (pc := 23) (i := 3) dX12_ringOf_23 rfl rfl ?_
      refine e_iloadn (pc := 24) (i := 2) dX12_ringOf_24 rfl rfl ?_
      obtain ⟨v9, hq9, hf7⟩ := x_bd1 hf7
      refine e_invV (pc := 25) (K1 := 0) (S1 := 0) (K := 0) (S := 0) (dd2 := 2) (av := [x_i v3, x_i b]) (st := []) (id := 16 * 32 + 0) dX12_ringOf_25 xmX12_358 rfl (Or.inl ⟨10, 27, TX12, (sa_32_0 hs), rfl, by decide⟩) (f_cal (M := M) (us2 := [32]) [0] hn rfl (And.intro rfl trivial) rfl rfl rfl (c_X12_pointsTo hst hs   hq9)) (by decide) (Nat.le_of_ble_eq_true rfl) (Or.inl rfl) ?_
      show Ev g _ _ _ _ _ _ 28 [some (x_r (16 * 32 + 0)), some (x_i a), some (x_i b), some (x_i v3), some (x_i v4)] [x_i v9] (al, ro, fl (ml M [32] [S])) _ _ _ _
      refine e_istoren (pc := 28) (i := 3) dX12_ringOf_28 rfl (by decide) rfl ?_
      show Ev g _ _ _ _ _ _ 29 [some (x_r (16 * 32 + 0)), some (x_i a), some (x_i b), some (x_i v9), some (x_i v4)] [] (al, ro, fl (ml M [32] [S])) _ _ _ _
      refine e_iinc (pc := 29) dX12_ringOf_29 rfl (by decide) rfl ?_
      show Ev g _ _ _ _ _ _ 32 [some (x_r (16 * 32 + 0)), some (x_i a), some (x_i b), some (x_i v9), some (x_i (x_add v4 1))] [] (al, ro, fl (ml M [32] [S])) _ _ _ _
      refine e_goto (pc := 32) (tgt := 10) dX12_ringOf_32 (by decide) ?_
      cases hf7
      have hh := hi7 _ rfl
      try dsimp only at hh
      exact hh
set_option maxRecDepth 100000 in
set_option maxHeartbeats 4000000 in
theorem c_X12_trades {g : xG} {al : List (Nat × Nat × Nat)} {ro : Nat → Nat → Option Nat} (hst : g.1.stackTraces = false) (hs : SH al ro) {M : Nat → xU} {S : xU}  {t : xU} (hG : G12_trades S = some t) :
    Cal g yX12_trades cX12_trades 5 none 4 [x_r (16 * 32 + 0)] (al, ro, fl (ml M [32] [S])) 0 0 (.inl none) (al, ro, fl (ml M [32] [t])) := by
  have hn : ([32] : List Nat).Nodup := by decide
  refine cal_of_ev (plainFor_of_name (by decide)) (x_c1 rfl) (Nat.le_of_ble_eq_true rfl) hst ?_
  show Ev g _ _ _ _ _ _ 0 [some (x_r (16 * 32 + 0)), none, none, none, none] [] (al, ro, fl (ml M [32] [S])) _ _ _ _
  rw [G12_trades] at hG
  refine e_aloadn (pc := 0) (i := 0) dX12_trades_0 rfl rfl ?_
  obtain ⟨v1, hq1, hG⟩ := x_bd1 hG
  refine e_invV (pc := 1) (K1 := 0) (S1 := 0) (K := 0) (S := 0) (dd2 := 0) (av := []) (st := []) (id := 16 * 32 + 0) dX12_trades_1 xmX12_346 rfl (Or.inl ⟨10, 27, TX12, (sa_32_0 hs), rfl, by decide⟩) (f_cal (M := M) (us2 := [32]) [0] hn rfl (And.intro rfl trivial) rfl rfl rfl (c_X12_all hst hs   hq1)) (by decide) (Nat.le_of_ble_eq_true rfl) (Or.inl rfl) ?_
  show Ev g _ _ _ _ _ _ 4 [some (x_r (16 * 32 + 0)), none, none, none, none] [x_i v1] (al, ro, fl (ml M [32] [S])) _ _ _ _
  refine e_istoren (pc := 4) (i := 1) dX12_trades_4 rfl (by decide) rfl ?_
  show Ev g _ _ _ _ _ _ 5 [some (x_r (16 * 32 + 0)), some (x_i v1), none, none, none] [] (al, ro, fl (ml M [32] [S])) _ _ _ _
  obtain ⟨S5, hl6, hG⟩ := x_bd1 hG
  have hk6 : ∀ q : xU, q = S5 → Ev g yX12_trades cX12_trades 5 none [] 4 93 [some (x_r (16 * 32 + 0)), none, none, none, none] [] (al, ro, fl (ml M [32] [q])) 0 0 (.inl none) (al, ro, fl (ml M [32] [t])) := by
    intro q hq
    replace hq := hq.symm
    subst hq
    cases hG
    exact (e_return rfl dX12_trades_93)
  clear hG
  refine e_whl G12_trades_L5 (fun z : (Int × xU) => Ev g yX12_trades cX12_trades 5 none [] 4 5 [some (x_r (16 * 32 + 0)), some (x_i z.1), none, none, none] [] (al, ro, fl (ml M [32] [z.2])) 0 0 (.inl none) (al, ro, fl (ml M [32] [t]))) (fun q => q = S5) ?_ xFU (v1, S) _ hl6 rfl
  intro z t6 hf6 hi6 hx6
  obtain ⟨v3, S4⟩ := z
  rw [G12_trades_L5] at hf6
  show Ev g _ _ _ _ _ _ 5 [some (x_r (16 * 32 + 0)), some (x_i v3), none, none, none] [] (al, ro, fl (ml M [32] [S4])) _ _ _ _
  refine e_iloadn (pc := 5) (i := 1) dX12_trades_5 rfl rfl ?_
  refine e_if_eq (pc := 6) (tgt := 93) dX12_trades_6 (by decide) (fun hb => ?_) (fun hb => ?_)
  · rw [if_pos hb] at hf6
    cases hf6
    refine e_drop (i := 1) ?_
    have hh := hk6 _ (hx6 _ rfl)
    try dsimp only at hh
    exact hh
  · rw [if_neg hb] at hf6
    refine e_iconst (pc := 9) dX12_trades_9 (x_R rfl) ?_
    refine e_istoren (pc := 10) (i := 2) dX12_trades_10 rfl (by decide) rfl ?_
    show Ev g _ _ _ _ _ _ 11 [some (x_r (16 * 32 + 0)), some (x_i v3), some (x_i 0), none, none] [] (al, ro, fl (ml M [32] [S4])) _ _ _ _
    refine e_iconst (pc := 11) dX12_trades_11 (x_R rfl) ?_
    refine e_istoren (pc := 12) (i := 3) dX12_trades_12 rfl (by decide) rfl ?_
    show Ev g _ _ _ _ _ _ 13 [some (x_r (16 * 32 + 0)), some (x_i v3), some (x_i 0), some (x_i 0), none] [] (al, ro, fl (ml M [32] [S4])) _ _ _ _
    obtain ⟨v11, S12, hl13, hf6⟩ := x_bd2 hf6
    have hk13 : ∀ q : (Int × xU), q = (v11, S12) → Ev g yX12_trades cX12_trades 5 none [] 4 84 [some (x_r (16 * 32 + 0)), some (x_i v3), some (x_i q.1), none, none] [] (al, ro, fl (ml M [32] [q.2])) 0 0 (.inl none) (al, ro, fl (ml M [32] [t])) := by
      intro q hq
      cases hq
      refine e_iloadn (pc := 84) (i := 1) dX12_trades_84 rfl rfl ?_
      refine e_iloadn (pc := 85) (i := 2) dX12_trades_85 rfl rfl ?_
      refine e_iconst (pc := 86) dX12_trades_86 (x_R rfl) ?_
      refine e_ixor (pc := 87) dX12_trades_87 ?_
      refine e_iand (pc := 88) dX12_trades_88 ?_
      refine e_istoren (pc := 89) (i := 1) dX12_trades_89 rfl (by decide) rfl ?_
      show Ev g _ _ _ _ _ _ 90 [some (x_r (16 * 32 + 0)), some (x_i (x_and v3 (x_xor v11 (-1)))), some (x_i v11), none, none] [] (al, ro, fl (ml M [32] [S12])) _ _ _ _
      refine e_goto (pc := 90) (tgt := 5) dX12_trades_90 (by decide) ?_
      cases hf6
      refine e_drop (i := 2) ?_
      have hh := hi6 _ rfl
      try dsimp only at hh
      exact hh
    clear hf6
    refine e_whl (G12_trades_L13 v3) (fun z : (Int × Int × xU) => Ev g yX12_trades cX12_trades 5 none [] 4 13 [some (x_r (16 * 32 + 0)), some (x_i v3), some (x_i z.1), some (x_i z.2.1), none] [] (al, ro, fl (ml M [32] [z.2.2])) 0 0 (.inl none) (al, ro, fl (ml M [32] [t]))) (fun q => q = (v11, S12)) ?_ xFU (0, 0, S4) _ hl13 rfl
    intro z t13 hf13 hi13 hx13
    obtain ⟨v8, v9, S10⟩ := z
    rw [G12_trades_L13] at hf13
    show Ev g _ _ _ _ _ _ 13 [some (x_r (16 * 32 + 0)), some (x_i v3), some (x_i v8), some (x_i v9), none] [] (al, ro, fl (ml M [32] [S10])) _ _ _ _
    refine e_iloadn (pc := 13) (i := 3) dX12_trades_13 rfl rfl ?_
    refine e_aloadn (pc := 14) (i := 0) dX12_trades_14 rfl rfl ?_
    refine f_getr (pc := 15) (u := 32) (q := 0) dX12_trades_15 xf12_7 (sa_32_0 hs) rfl (sr_32_0_1 hs) ?_
    refine e_iconst (pc := 18) dX12_trades_18 (x_R rfl) ?_
    refine f_iald (pc := 19) (k := 0) (u := 32) (q := 1) (len := 772) dX12_trades_19 (sa_32_1 hs) (by decide) hn rfl rfl (by decide) ?_
    show Ev g _ _ _ _ _ _ 20 [some (x_r (16 * 32 + 0)), some (x_i v3), some (x_i v8), some (x_i v9), none] [x_i (S10 1 3), x_i v9] (al, ro, fl (ml M [32] [S10])) _ _ _ _
    refine e_icmp_ge (pc := 20) (tgt := 84) dX12_trades_20 (by decide) (fun hb => ?_) (fun hb => ?_)
    · rw [if_pos hb] at hf13
      cases hf13
      refine e_drop (i := 3) ?_
      have hh := hk13 _ (hx13 _ rfl)
      try dsimp only at hh
      exact hh
    · rw [if_neg hb] at hf13
      refine e_iloadn (pc := 23) (i := 1) dX12_trades_23 rfl rfl ?_
      refine e_iloadn (pc := 24) (i := 3) dX12_trades_24 rfl rfl ?_
      obtain ⟨v15, hq15, hf13⟩ := x_bd1 hf13
      refine e_invS (pc := 25) (K1 := 0) (S1 := 0) (K := 0) (S := 0) (dd2 := 0) (av := [x_i v3, x_i v9]) (st := []) dX12_trades_25 xmX12_119 rfl (f_cal (M := M) (us2 := []) [] hn rfl trivial rfl rfl rfl (c_X12_isOf hst hs   hq15)) (by decide) (Nat.le_of_ble_eq_true rfl) (Or.inl rfl) ?_
      show Ev g _ _ _ _ _ _ 28 [some (x_r (16 * 32 + 0)), some (x_i v3), some (x_i v8), some (x_i v9), none] [x_i v15] (al, ro, fl (ml M [32] [S10])) _ _ _ _
      obtain ⟨v17, hr17, hf13⟩ := x_bd1 hf13
      have hjhr17 : Ev g yX12_trades cX12_trades 5 none [] 4 41 [some (x_r (16 * 32 + 0)), some (x_i v3), some (x_i v8), some (x_i v9), none] [x_i v17] (al, ro, fl (ml M [32] [S10])) 0 0 (.inl none) (al, ro, fl (ml M [32] [t])) := by
        refine e_istore (pc := 41) (i := 4) dX12_trades_41 (by decide) rfl ?_
        show Ev g _ _ _ _ _ _ 43 [some (x_r (16 * 32 + 0)), some (x_i v3), some (x_i v8), some (x_i v9), some (x_i v17)] [] (al, ro, fl (ml M [32] [S10])) _ _ _ _
        refine e_iload (pc := 43) dX12_trades_43 rfl ?_
        refine e_iconst (pc := 45) dX12_trades_45 (x_R rfl) ?_
        obtain ⟨v21, S22, hr22, hf13⟩ := x_bd2 hf13
        have hjhr22 : Ev g yX12_trades cX12_trades 5 none [] 4 78 [some (x_r (16 * 32 + 0)), some (x_i v3), some (x_i v21), some (x_i v9), some (x_i v17)] [] (al, ro, fl (ml M [32] [S22])) 0 0 (.inl none) (al, ro, fl (ml M [32] [t])) := by
          refine e_iinc (pc := 78) dX12_trades_78 rfl (by decide) rfl ?_
          show Ev g _ _ _ _ _ _ 81 [some (x_r (16 * 32 + 0)), some (x_i v3), some (x_i v21), some (x_i (x_add v9 1)), some (x_i v17)] [] (al, ro, fl (ml M [32] [S22])) _ _ _ _
          refine e_goto (pc := 81) (tgt := 13) dX12_trades_81 (by decide) ?_
          cases hf13
          refine e_drop (i := 4) ?_
          have hh := hi13 _ rfl
          try dsimp only at hh
          exact hh
        clear hf13
        refine e_icmp_ne (pc := 46) (tgt := 52) dX12_trades_46 (by decide) (fun hb => ?_) (fun hb => ?_)
        · rw [if_neg hb] at hr22
          refine e_aloadn (pc := 52) (i := 0) dX12_trades_52 rfl rfl ?_
          refine f_getr (pc := 53) (u := 32) (q := 0) dX12_trades_53 xf12_49 (sa_32_0 hs) rfl (sr_32_0_24 hs) ?_
          refine e_iloadn (pc := 56) (i := 3) dX12_trades_56 rfl rfl ?_
          refine e_aloadn (pc := 57) (i := 0) dX12_trades_57 rfl rfl ?_
          refine e_iloadn (pc := 58) (i := 3) dX12_trades_58 rfl rfl ?_
          refine e_iloadn (pc := 59) (i := 1) dX12_trades_59 rfl rfl ?_
          obtain ⟨v24, hq24, hr22⟩ := x_bd1 hr22
          refine e_invV (pc := 60) (K1 := 0) (S1 := 0) (K := 0) (S := 0) (dd2 := 2) (av := [x_i v9, x_i v3]) (st := [x_i v9, x_r (16 * 32 + 12)]) (id := 16 * 32 + 0) dX12_trades_60 xmX12_358 rfl (Or.inl ⟨10, 27, TX12, (sa_32_0 hs), rfl, by decide⟩) (f_cal (M := M) (us2 := [32]) [0] hn rfl (And.intro rfl trivial) rfl rfl rfl (c_X12_pointsTo hst hs   hq24)) (by decide) (Nat.le_of_ble_eq_true rfl) (Or.inl rfl) ?_
          show Ev g _ _ _ _ _ _ 63 [some (x_r (16 * 32 + 0)), some (x_i v3), some (x_i v8), some (x_i v9), some (x_i v17)] [x_i v24, x_i v9, x_r (16 * 32 + 12)] (al, ro, fl (ml M [32] [S10])) _ _ _ _
          obtain ⟨hc0, hr22⟩ := x_gd_some hr22
          refine f_iast (pc := 63) (k := 0) (u := 32) (q := 12) (len := 7) dX12_trades_63 (sa_32_12 hs) hc0 hn rfl rfl rfl (by decide) ?_
          show Ev g _ _ _ _ _ _ 64 [some (x_r (16 * 32 + 0)), some (x_i v3), some (x_i v8), some (x_i v9), some (x_i v17)] [] (al, ro, fl (ml M [32] [(x_up S10 12 (v9).toNat v24)])) _ _ _ _
          refine e_aloadn (pc := 64) (i := 0) dX12_trades_64 rfl rfl ?_
          refine f_getr (pc := 65) (u := 32) (q := 0) dX12_trades_65 xf12_52 (sa_32_0 hs) rfl (sr_32_0_25 hs) ?_
          refine e_iloadn (pc := 68) (i := 3) dX12_trades_68 rfl rfl ?_
          refine e_iload (pc := 69) dX12_trades_69 rfl ?_
          obtain ⟨hc0, hr22⟩ := x_gd_some hr22
          refine f_iast (pc := 71) (k := 0) (u := 32) (q := 13) (len := 7) dX12_trades_71 (sa_32_13 hs) hc0 hn rfl rfl rfl (by decide) ?_
          show Ev g _ _ _ _ _ _ 72 [some (x_r (16 * 32 + 0)), some (x_i v3), some (x_i v8), some (x_i v9), some (x_i v17)] [] (al, ro, fl (ml M [32] [(x_up (x_up S10 12 (v9).toNat v24) 13 (v9).toNat v17)])) _ _ _ _
          refine e_iloadn (pc := 72) (i := 2) dX12_trades_72 rfl rfl ?_
          refine e_iconst (pc := 73) dX12_trades_73 (x_R rfl) ?_
          refine e_iloadn (pc := 74) (i := 3) dX12_trades_74 rfl rfl ?_
          refine e_ishl (pc := 75) dX12_trades_75 ?_
          refine e_ior (pc := 76) dX12_trades_76 ?_
          refine e_istoren (pc := 77) (i := 2) dX12_trades_77 rfl (by decide) rfl ?_
          show Ev g _ _ _ _ _ _ 78 [some (x_r (16 * 32 + 0)), some (x_i v3), some (x_i (x_or v8 (x_shl 1 v9))), some (x_i v9), some (x_i v17)] [] (al, ro, fl (ml M [32] [(x_up (x_up S10 12 (v9).toNat v24) 13 (v9).toNat v17)])) _ _ _ _
          cases hr22
          exact hjhr22
        · rw [if_pos hb] at hr22
          refine e_goto (pc := 49) (tgt := 78) dX12_trades_49 (by decide) ?_
          cases hr22
          exact hjhr22
      clear hf13
      refine e_if_eq (pc := 28) (tgt := 40) dX12_trades_28 (by decide) (fun hb => ?_) (fun hb => ?_)
      · rw [if_pos hb] at hr17
        refine e_iconst (pc := 40) dX12_trades_40 (x_R rfl) ?_
        cases hr17
        exact hjhr17
      · rw [if_neg hb] at hr17
        refine e_aloadn (pc := 31) (i := 0) dX12_trades_31 rfl rfl ?_
        refine e_iloadn (pc := 32) (i := 3) dX12_trades_32 rfl rfl ?_
        refine e_iloadn (pc := 33) (i := 1) dX12_trades_33 rfl rfl ?_
        obtain ⟨v19, hq19, hr17⟩ := x_bd1 hr17
        refine e_invV (pc := 34) (K1 := 0) (S1 := 0) (K := 0) (S := 0) (dd2 := 3) (av := [x_i v9, x_i v3]) (st := []) (id := 16 * 32 + 0) dX12_trades_34 xmX12_361 rfl (Or.inl ⟨10, 27, TX12, (sa_32_0 hs), rfl, by decide⟩) (f_cal (M := M) (us2 := [32]) [0] hn rfl (And.intro rfl trivial) rfl rfl rfl (c_X12_ringOf hst hs   hq19)) (by decide) (Nat.le_of_ble_eq_true rfl) (Or.inl rfl) ?_
        show Ev g _ _ _ _ _ _ 37 [some (x_r (16 * 32 + 0)), some (x_i v3), some (x_i v8), some (x_i v9), none] [x_i v19] (al, ro, fl (ml M [32] [S10])) _ _ _ _
        refine e_goto (pc := 37) (tgt := 41) dX12_trades_37 (by decide) ?_
        cases hr17
        exact hjhr17
set_option maxRecDepth 100000 in
set_option maxHeartbeats 4000000 in
theorem c_X12_trade {g : xG} {al : List (Nat × Nat × Nat)} {ro : Nat → Nat → Option Nat} (hst : g.1.stackTraces = false) (hs : SH al ro) {M : Nat → xU} {a : Int} {b : Int} {S : xU}  {t : (Int × xU)} (hG : G12_trade a b S = some t) :
    Cal g yX12_trade cX12_trade 3 (some .int) 5 [x_r (16 * 32 + 0), x_i a, x_i b] (al, ro, fl (ml M [32] [S])) 0 0 (.inl (some (x_i t.1))) (al, ro, fl (ml M [32] [t.2])) := by
  have hn : ([32] : List Nat).Nodup := by decide
  refine cal_of_ev (plainFor_of_name (by decide)) (x_c1 rfl) (Nat.le_of_ble_eq_true rfl) hst ?_
  show Ev g _ _ _ _ _ _ 0 [some (x_r (16 * 32 + 0)), some (x_i a), some (x_i b)] [] (al, ro, fl (ml M [32] [S])) _ _ _ _
  rw [G12_trade] at hG
  refine e_aloadn (pc := 0) (i := 0) dX12_trade_0 rfl rfl ?_
  refine e_aloadn (pc := 1) (i := 0) dX12_trade_1 rfl rfl ?_
  refine e_iloadn (pc := 2) (i := 1) dX12_trade_2 rfl rfl ?_
  obtain ⟨v1, hq1, hG⟩ := x_bd1 hG
  refine e_invV (pc := 3) (K1 := 0) (S1 := 0) (K := 0) (S := 0) (dd2 := 1) (av := [x_i a]) (st := [x_r (16 * 32 + 0)]) (id := 16 * 32 + 0) dX12_trade_3 xmX12_295 rfl (Or.inl ⟨10, 27, TX12, (sa_32_0 hs), rfl, by decide⟩) (f_cal (M := M) (us2 := [32]) [0] hn rfl (And.intro rfl trivial) rfl rfl rfl (c_X12_isMonk hst hs   hq1)) (by decide) (Nat.le_of_ble_eq_true rfl) (Or.inl rfl) ?_
  show Ev g _ _ _ _ _ _ 6 [some (x_r (16 * 32 + 0)), some (x_i a), some (x_i b)] [x_i v1, x_r (16 * 32 + 0)] (al, ro, fl (ml M [32] [S])) _ _ _ _
  obtain ⟨v3, hr3, hG⟩ := x_bd1 hG
  have hjhr3 : Ev g yX12_trade cX12_trade 3 (some .int) [] 5 14 [some (x_r (16 * 32 + 0)), some (x_i a), some (x_i b)] [x_i v3, x_r (16 * 32 + 0)] (al, ro, fl (ml M [32] [S])) 0 0 (.inl (some (x_i t.1))) (al, ro, fl (ml M [32] [t.2])) := by
    refine f_puti (pc := 14) (k := 0) (u := 32) (q := 0) dX12_trade_14 xf12_58 xw10_0 (sa_32_0 hs) hn rfl rfl rfl (by decide) ?_
    show Ev g _ _ _ _ _ _ 17 [some (x_r (16 * 32 + 0)), some (x_i a), some (x_i b)] [] (al, ro, fl (ml M [32] [(x_up S 0 0 v3)])) _ _ _ _
    refine e_aloadn (pc := 17) (i := 0) dX12_trade_17 rfl rfl ?_
    refine f_geti (pc := 18) (k := 0) (u := 32) (q := 0) dX12_trade_18 xf12_58 (sa_32_0 hs) rfl hn rfl rfl (by decide) ?_
    show Ev g _ _ _ _ _ _ 21 [some (x_r (16 * 32 + 0)), some (x_i a), some (x_i b)] [x_i ((x_up S 0 0 v3) 0 0)] (al, ro, fl (ml M [32] [(x_up S 0 0 v3)])) _ _ _ _
    refine e_if_le (pc := 21) (tgt := 26) dX12_trade_21 (by decide) (fun hb => ?_) (fun hb => ?_)
    · rw [if_pos hb] at hG
      refine e_aloadn (pc := 26) (i := 0) dX12_trade_26 rfl rfl ?_
      obtain ⟨S5, hq5, hG⟩ := x_bd1 hG
      refine e_invV (pc := 27) (K1 := 0) (S1 := 0) (K := 0) (S := 0) (dd2 := 4) (av := []) (st := []) (id := 16 * 32 + 0) dX12_trade_27 xmX12_364 rfl (Or.inl ⟨10, 27, TX12, (sa_32_0 hs), rfl, by decide⟩) (f_cal (M := M) (us2 := [32]) [0] hn rfl (And.intro rfl trivial) rfl rfl rfl (c_X12_trades hst hs   hq5)) (by decide) (Nat.le_of_ble_eq_true rfl) (Or.inl rfl) ?_
      show Ev g _ _ _ _ _ _ 30 [some (x_r (16 * 32 + 0)), some (x_i a), some (x_i b)] [] (al, ro, fl (ml M [32] [S5])) _ _ _ _
      refine e_iloadn (pc := 30) (i := 2) dX12_trade_30 rfl rfl ?_
      obtain ⟨v7, hr7, hG⟩ := x_bd1 hG
      have hjhr7 : Ev g yX12_trade cX12_trade 3 (some .int) [] 5 49 [some (x_r (16 * 32 + 0)), some (x_i a), some (x_i b)] [x_i v7] (al, ro, fl (ml M [32] [S5])) 0 0 (.inl (some (x_i t.1))) (al, ro, fl (ml M [32] [t.2])) := by
        cases hG
        exact (e_ireturn rfl dX12_trade_49 rfl)
      clear hG
      refine e_if_eq (pc := 31) (tgt := 43) dX12_trade_31 (by decide) (fun hb => ?_) (fun hb => ?_)
      · rw [if_pos hb] at hr7
        refine e_aloadn (pc := 43) (i := 0) dX12_trade_43 rfl rfl ?_
        refine f_getr (pc := 44) (u := 32) (q := 0) dX12_trade_44 xf12_49 (sa_32_0 hs) rfl (sr_32_0_24 hs) ?_
        refine e_iloadn (pc := 47) (i := 1) dX12_trade_47 rfl rfl ?_
        obtain ⟨hc0, hr7⟩ := x_gd_some hr7
        refine f_iald (pc := 48) (k := 0) (u := 32) (q := 12) (len := 7) dX12_trade_48 (sa_32_12 hs) hc0 hn rfl rfl (by decide) ?_
        show Ev g _ _ _ _ _ _ 49 [some (x_r (16 * 32 + 0)), some (x_i a), some (x_i b)] [x_i (S5 12 (a).toNat)] (al, ro, fl (ml M [32] [S5])) _ _ _ _
        cases hr7
        exact hjhr7
      · rw [if_neg hb] at hr7
        refine e_aloadn (pc := 34) (i := 0) dX12_trade_34 rfl rfl ?_
        refine f_getr (pc := 35) (u := 32) (q := 0) dX12_trade_35 xf12_52 (sa_32_0 hs) rfl (sr_32_0_25 hs) ?_
        refine e_iloadn (pc := 38) (i := 1) dX12_trade_38 rfl rfl ?_
        obtain ⟨hc0, hr7⟩ := x_gd_some hr7
        refine f_iald (pc := 39) (k := 0) (u := 32) (q := 13) (len := 7) dX12_trade_39 (sa_32_13 hs) hc0 hn rfl rfl (by decide) ?_
        show Ev g _ _ _ _ _ _ 40 [some (x_r (16 * 32 + 0)), some (x_i a), some (x_i b)] [x_i (S5 13 (a).toNat)] (al, ro, fl (ml M [32] [S5])) _ _ _ _
        refine e_goto (pc := 40) (tgt := 49) dX12_trade_40 (by decide) ?_
        cases hr7
        exact hjhr7
    · rw [if_neg hb] at hG
      refine e_iconst (pc := 24) dX12_trade_24 (x_R rfl) ?_
      cases hG
      exact (e_ireturn rfl dX12_trade_25 rfl)
  clear hG
  refine e_if_ne (pc := 6) (tgt := 13) dX12_trade_6 (by decide) (fun hb => ?_) (fun hb => ?_)
  · rw [if_neg hb] at hr3
    refine e_iconst (pc := 13) dX12_trade_13 (x_R rfl) ?_
    cases hr3
    exact hjhr3
  · rw [if_pos hb] at hr3
    refine e_iconst (pc := 9) dX12_trade_9 (x_R rfl) ?_
    refine e_goto (pc := 10) (tgt := 14) dX12_trade_10 (by decide) ?_
    cases hr3
    exact hjhr3
set_option maxRecDepth 100000 in
set_option maxHeartbeats 4000000 in
theorem c_X12_content {g : xG} {al : List (Nat × Nat × Nat)} {ro : Nat → Nat → Option Nat} (hst : g.1.stackTraces = false) (hs : SH al ro) {M : Nat → xU} {S : xU}  {t : (Int × xU)} (hG : G12_content S = some t) :
    Cal g yX12_content cX12_content 3 (some .int) 1 [x_r (16 * 32 + 0)] (al, ro, fl (ml M [32] [S])) 0 0 (.inl (some (x_i t.1))) (al, ro, fl (ml M [32] [t.2])) := by
  have hn : ([32] : List Nat).Nodup := by decide
  refine cal_of_ev (plainFor_of_name (by decide)) (x_c1 rfl) (Nat.le_of_ble_eq_true rfl) hst ?_
  show Ev g _ _ _ _ _ _ 0 [some (x_r (16 * 32 + 0)), none, none] [] (al, ro, fl (ml M [32] [S])) _ _ _ _
  rw [G12_content] at hG
  refine e_aloadn (pc := 0) (i := 0) dX12_content_0 rfl rfl ?_
  refine e_iconst (pc := 1) dX12_content_1 (x_R rfl) ?_
  refine f_puti (pc := 2) (k := 0) (u := 32) (q := 0) dX12_content_2 xf12_58 xw10_0 (sa_32_0 hs) hn rfl rfl rfl (by decide) ?_
  show Ev g _ _ _ _ _ _ 5 [some (x_r (16 * 32 + 0)), none, none] [] (al, ro, fl (ml M [32] [(x_up S 0 0 0)])) _ _ _ _
  refine e_iconst (pc := 5) dX12_content_5 (x_R rfl) ?_
  refine e_istoren (pc := 6) (i := 1) dX12_content_6 rfl (by decide) rfl ?_
  show Ev g _ _ _ _ _ _ 7 [some (x_r (16 * 32 + 0)), some (x_i 0), none] [] (al, ro, fl (ml M [32] [(x_up S 0 0 0)])) _ _ _ _
  refine e_iconst (pc := 7) dX12_content_7 (x_R rfl) ?_
  refine e_istoren (pc := 8) (i := 2) dX12_content_8 rfl (by decide) rfl ?_
  show Ev g _ _ _ _ _ _ 9 [some (x_r (16 * 32 + 0)), some (x_i 0), some (x_i 0)] [] (al, ro, fl (ml M [32] [(x_up S 0 0 0)])) _ _ _ _
  obtain ⟨v3, hl4, hG⟩ := x_bd1 hG
  have hk4 : ∀ q : Int, q = v3 → Ev g yX12_content cX12_content 3 (some .int) [] 1 53 [some (x_r (16 * 32 + 0)), some (x_i q), none] [] (al, ro, fl (ml M [32] [(x_up S 0 0 0)])) 0 0 (.inl (some (x_i t.1))) (al, ro, fl (ml M [32] [t.2])) := by
    intro q hq
    replace hq := hq.symm
    subst hq
    refine e_iloadn (pc := 53) (i := 1) dX12_content_53 rfl rfl ?_
    cases hG
    exact (e_ireturn rfl dX12_content_54 rfl)
  clear hG
  refine e_whl (G12_content_L9 S) (fun z : (Int × Int) => Ev g yX12_content cX12_content 3 (some .int) [] 1 9 [some (x_r (16 * 32 + 0)), some (x_i z.1), some (x_i z.2)] [] (al, ro, fl (ml M [32] [(x_up S 0 0 0)])) 0 0 (.inl (some (x_i t.1))) (al, ro, fl (ml M [32] [t.2]))) (fun q => q = v3) ?_ xFU (0, 0) _ hl4 rfl
  intro z t4 hf4 hi4 hx4
  obtain ⟨v1, v2⟩ := z
  rw [G12_content_L9] at hf4
  show Ev g _ _ _ _ _ _ 9 [some (x_r (16 * 32 + 0)), some (x_i v1), some (x_i v2)] [] (al, ro, fl (ml M [32] [(x_up S 0 0 0)])) _ _ _ _
  refine e_iloadn (pc := 9) (i := 2) dX12_content_9 rfl rfl ?_
  refine e_aloadn (pc := 10) (i := 0) dX12_content_10 rfl rfl ?_
  refine f_getr (pc := 11) (u := 32) (q := 0) dX12_content_11 xf12_7 (sa_32_0 hs) rfl (sr_32_0_1 hs) ?_
  refine e_iconst (pc := 14) dX12_content_14 (x_R rfl) ?_
  refine f_iald (pc := 15) (k := 0) (u := 32) (q := 1) (len := 772) dX12_content_15 (sa_32_1 hs) (by decide) hn rfl rfl (by decide) ?_
  show Ev g _ _ _ _ _ _ 16 [some (x_r (16 * 32 + 0)), some (x_i v1), some (x_i v2)] [x_i ((x_up S 0 0 0) 1 3), x_i v2] (al, ro, fl (ml M [32] [(x_up S 0 0 0)])) _ _ _ _
  refine e_icmp_ge (pc := 16) (tgt := 53) dX12_content_16 (by decide) (fun hb => ?_) (fun hb => ?_)
  · rw [if_pos hb] at hf4
    cases hf4
    refine e_drop (i := 2) ?_
    have hh := hk4 _ (hx4 _ rfl)
    try dsimp only at hh
    exact hh
  · rw [if_neg hb] at hf4
    refine e_iloadn (pc := 19) (i := 1) dX12_content_19 rfl rfl ?_
    refine e_aloadn (pc := 20) (i := 0) dX12_content_20 rfl rfl ?_
    refine e_iloadn (pc := 21) (i := 2) dX12_content_21 rfl rfl ?_
    refine e_iconst (pc := 22) dX12_content_22 (x_R rfl) ?_
    obtain ⟨v6, hq6, hf4⟩ := x_bd1 hf4
    refine e_invV (pc := 23) (K1 := 0) (S1 := 0) (K := 0) (S := 0) (dd2 := 0) (av := [x_i v2, x_i 3]) (st := [x_i v1]) (id := 16 * 32 + 0) dX12_content_23 xmX12_65 rfl (Or.inl ⟨10, 27, TX12, (sa_32_0 hs), rfl, by decide⟩) (f_cal (M := M) (us2 := [32]) [0] hn rfl (And.intro rfl trivial) rfl rfl rfl (c_X12_of hst hs   hq6)) (by decide) (Nat.le_of_ble_eq_true rfl) (Or.inl rfl) ?_
    show Ev g _ _ _ _ _ _ 26 [some (x_r (16 * 32 + 0)), some (x_i v1), some (x_i v2)] [x_i v6, x_i v1] (al, ro, fl (ml M [32] [(x_up S 0 0 0)])) _ _ _ _
    refine e_aloadn (pc := 26) (i := 0) dX12_content_26 rfl rfl ?_
    refine e_iloadn (pc := 27) (i := 2) dX12_content_27 rfl rfl ?_
    refine e_iconst (pc := 28) dX12_content_28 (x_R rfl) ?_
    obtain ⟨v8, hq8, hf4⟩ := x_bd1 hf4
    refine e_invV (pc := 29) (K1 := 0) (S1 := 0) (K := 0) (S := 0) (dd2 := 0) (av := [x_i v2, x_i 2]) (st := [x_i v6, x_i v1]) (id := 16 * 32 + 0) dX12_content_29 xmX12_65 rfl (Or.inl ⟨10, 27, TX12, (sa_32_0 hs), rfl, by decide⟩) (f_cal (M := M) (us2 := [32]) [0] hn rfl (And.intro rfl trivial) rfl rfl rfl (c_X12_of hst hs   hq8)) (by decide) (Nat.le_of_ble_eq_true rfl) (Or.inl rfl) ?_
    show Ev g _ _ _ _ _ _ 32 [some (x_r (16 * 32 + 0)), some (x_i v1), some (x_i v2)] [x_i v8, x_i v6, x_i v1] (al, ro, fl (ml M [32] [(x_up S 0 0 0)])) _ _ _ _
    obtain ⟨v10, hq10, hf4⟩ := x_bd1 hf4
    refine e_invS (pc := 32) (K1 := 0) (S1 := 0) (K := 0) (S := 0) (dd2 := 0) (av := [x_i v6, x_i v8]) (st := [x_i v1]) dX12_content_32 xmX12_119 rfl (f_cal (M := M) (us2 := []) [] hn rfl trivial rfl rfl rfl (c_X12_isOf hst hs   hq10)) (by decide) (Nat.le_of_ble_eq_true rfl) (Or.inl rfl) ?_
    show Ev g _ _ _ _ _ _ 35 [some (x_r (16 * 32 + 0)), some (x_i v1), some (x_i v2)] [x_i v10, x_i v1] (al, ro, fl (ml M [32] [(x_up S 0 0 0)])) _ _ _ _
    obtain ⟨v12, hr12, hf4⟩ := x_bd1 hf4
    have hjhr12 : Ev g yX12_content cX12_content 3 (some .int) [] 1 45 [some (x_r (16 * 32 + 0)), some (x_i v1), some (x_i v2)] [x_i v12, x_i v1] (al, ro, fl (ml M [32] [(x_up S 0 0 0)])) 0 0 (.inl (some (x_i t.1))) (al, ro, fl (ml M [32] [t.2])) := by
      refine e_ior (pc := 45) dX12_content_45 ?_
      refine e_istoren (pc := 46) (i := 1) dX12_content_46 rfl (by decide) rfl ?_
      show Ev g _ _ _ _ _ _ 47 [some (x_r (16 * 32 + 0)), some (x_i (x_or v1 v12)), some (x_i v2)] [] (al, ro, fl (ml M [32] [(x_up S 0 0 0)])) _ _ _ _
      refine e_iinc (pc := 47) dX12_content_47 rfl (by decide) rfl ?_
      show Ev g _ _ _ _ _ _ 50 [some (x_r (16 * 32 + 0)), some (x_i (x_or v1 v12)), some (x_i (x_add v2 1))] [] (al, ro, fl (ml M [32] [(x_up S 0 0 0)])) _ _ _ _
      refine e_goto (pc := 50) (tgt := 9) dX12_content_50 (by decide) ?_
      cases hf4
      have hh := hi4 _ rfl
      try dsimp only at hh
      exact hh
    clear hf4
    refine e_if_eq (pc := 35) (tgt := 44) dX12_content_35 (by decide) (fun hb => ?_) (fun hb => ?_)
    · rw [if_pos hb] at hr12
      refine e_iconst (pc := 44) dX12_content_44 (x_R rfl) ?_
      cases hr12
      exact hjhr12
    · rw [if_neg hb] at hr12
      refine e_iconst (pc := 38) dX12_content_38 (x_R rfl) ?_
      refine e_iloadn (pc := 39) (i := 2) dX12_content_39 rfl rfl ?_
      refine e_ishl (pc := 40) dX12_content_40 ?_
      refine e_goto (pc := 41) (tgt := 45) dX12_content_41 (by decide) ?_
      cases hr12
      exact hjhr12
set_option maxRecDepth 100000 in
set_option maxHeartbeats 4000000 in
theorem c_X12_areRows {g : xG} {al : List (Nat × Nat × Nat)} {ro : Nat → Nat → Option Nat} (hst : g.1.stackTraces = false) (hs : SH al ro) {M : Nat → xU} {a : Int} {b : Int} {S : xU}  {t : Int} (hG : G12_areRows a b S = some t) :
    Cal g yX12_areRows cX12_areRows 5 (some .boolean) 0 [x_r (16 * 32 + 0), x_i a, x_i b] (al, ro, fl (ml M [32] [S])) 0 0 (.inl (some (x_i t))) (al, ro, fl (ml M [32] [S])) := by
  have hn : ([32] : List Nat).Nodup := by decide
  refine cal_of_ev (plainFor_of_name (by decide)) (x_c1 rfl) (Nat.le_of_ble_eq_true rfl) hst ?_
  show Ev g _ _ _ _ _ _ 0 [some (x_r (16 * 32 + 0)), some (x_i a), some (x_i b), none, none] [] (al, ro, fl (ml M [32] [S])) _ _ _ _
  rw [G12_areRows] at hG
  refine e_iloadn (pc := 0) (i := 1) dX12_areRows_0 rfl rfl ?_
  refine e_iconst (pc := 1) dX12_areRows_1 (x_R rfl) ?_
  refine e_irem (pc := 2) dX12_areRows_2 (by decide) ?_
  obtain ⟨v1, hr1, hG⟩ := x_bd1 hG
  have hjhr1 : Ev g yX12_areRows cX12_areRows 5 (some .boolean) [] 0 17 [some (x_r (16 * 32 + 0)), some (x_i a), some (x_i b), none, none] [x_i v1] (al, ro, fl (ml M [32] [S])) 0 0 (.inl (some (x_i t))) (al, ro, fl (ml M [32] [S])) := by
    refine e_istoren (pc := 17) (i := 3) dX12_areRows_17 rfl (by decide) rfl ?_
    show Ev g _ _ _ _ _ _ 18 [some (x_r (16 * 32 + 0)), some (x_i a), some (x_i b), some (x_i v1), none] [] (al, ro, fl (ml M [32] [S])) _ _ _ _
    refine e_iconst (pc := 18) dX12_areRows_18 (x_R rfl) ?_
    refine e_istore (pc := 19) (i := 4) dX12_areRows_19 (by decide) rfl ?_
    show Ev g _ _ _ _ _ _ 21 [some (x_r (16 * 32 + 0)), some (x_i a), some (x_i b), some (x_i v1), some (x_i 0)] [] (al, ro, fl (ml M [32] [S])) _ _ _ _
    obtain ⟨v5, hl6, hG⟩ := x_bd1 hG
    have hk6 : ∀ q : Int, q = v5 → Ev g yX12_areRows cX12_areRows 5 (some .boolean) [] 0 66 [some (x_r (16 * 32 + 0)), some (x_i a), some (x_i b), some (x_i q), none] [] (al, ro, fl (ml M [32] [S])) 0 0 (.inl (some (x_i t))) (al, ro, fl (ml M [32] [S])) := by
      intro q hq
      replace hq := hq.symm
      subst hq
      refine e_iloadn (pc := 66) (i := 3) dX12_areRows_66 rfl rfl ?_
      obtain ⟨hc0, hG⟩ := x_gd_some hG
      cases hG
      exact (e_ireturn rfl dX12_areRows_67 (x_bool hc0).1)
    clear hG
    refine e_whl (G12_areRows_L21 a b S) (fun z : (Int × Int) => Ev g yX12_areRows cX12_areRows 5 (some .boolean) [] 0 21 [some (x_r (16 * 32 + 0)), some (x_i a), some (x_i b), some (x_i z.1), some (x_i z.2)] [] (al, ro, fl (ml M [32] [S])) 0 0 (.inl (some (x_i t))) (al, ro, fl (ml M [32] [S]))) (fun q => q = v5) ?_ xFU (v1, 0) _ hl6 rfl
    intro z t6 hf6 hi6 hx6
    obtain ⟨v3, v4⟩ := z
    rw [G12_areRows_L21] at hf6
    show Ev g _ _ _ _ _ _ 21 [some (x_r (16 * 32 + 0)), some (x_i a), some (x_i b), some (x_i v3), some (x_i v4)] [] (al, ro, fl (ml M [32] [S])) _ _ _ _
    refine e_iload (pc := 21) dX12_areRows_21 rfl ?_
    refine e_iloadn (pc := 23) (i := 1) dX12_areRows_23 rfl rfl ?_
    refine e_icmp_ge (pc := 24) (tgt := 66) dX12_areRows_24 (by decide) (fun hb => ?_) (fun hb => ?_)
    · rw [if_pos hb] at hf6
      cases hf6
      refine e_drop (i := 4) ?_
      have hh := hk6 _ (hx6 _ rfl)
      try dsimp only at hh
      exact hh
    · rw [if_neg hb] at hf6
      refine e_iloadn (pc := 27) (i := 3) dX12_areRows_27 rfl rfl ?_
      refine e_if_eq (pc := 28) (tgt := 66) dX12_areRows_28 (by decide) (fun hb => ?_) (fun hb => ?_)
      · rw [if_pos hb] at hf6
        cases hf6
        refine e_drop (i := 4) ?_
        have hh := hk6 _ (hx6 _ rfl)
        try dsimp only at hh
        exact hh
      · rw [if_neg hb] at hf6
        refine e_aloadn (pc := 31) (i := 0) dX12_areRows_31 rfl rfl ?_
        refine f_getr (pc := 32) (u := 32) (q := 0) dX12_areRows_32 xf12_22 (sa_32_0 hs) rfl (sr_32_0_7 hs) ?_
        refine e_iload (pc := 35) dX12_areRows_35 rfl ?_
        obtain ⟨hc0, hf6⟩ := x_gd_some hf6
        refine f_iald (pc := 37) (k := 0) (u := 32) (q := 5) (len := 400) dX12_areRows_37 (sa_32_5 hs) hc0 hn rfl rfl (by decide) ?_
        show Ev g _ _ _ _ _ _ 38 [some (x_r (16 * 32 + 0)), some (x_i a), some (x_i b), some (x_i v3), some (x_i v4)] [x_i (S 5 (v4).toNat)] (al, ro, fl (ml M [32] [S])) _ _ _ _
        refine e_iload (pc := 38) dX12_areRows_38 rfl ?_
        refine e_iconst (pc := 40) dX12_areRows_40 (x_R rfl) ?_
        refine e_irem (pc := 41) dX12_areRows_41 (by decide) ?_
        obtain ⟨v8, hr8, hf6⟩ := x_bd1 hf6
        have hjhr8 : Ev g yX12_areRows cX12_areRows 5 (some .boolean) [] 0 51 [some (x_r (16 * 32 + 0)), some (x_i a), some (x_i b), some (x_i v3), some (x_i v4)] [x_i v8, x_i (S 5 (v4).toNat)] (al, ro, fl (ml M [32] [S])) 0 0 (.inl (some (x_i t))) (al, ro, fl (ml M [32] [S])) := by
          obtain ⟨v10, hr10, hf6⟩ := x_bd1 hf6
          have hjhr10 : Ev g yX12_areRows cX12_areRows 5 (some .boolean) [] 0 59 [some (x_r (16 * 32 + 0)), some (x_i a), some (x_i b), some (x_i v3), some (x_i v4)] [x_i v10] (al, ro, fl (ml M [32] [S])) 0 0 (.inl (some (x_i t))) (al, ro, fl (ml M [32] [S])) := by
            refine e_istoren (pc := 59) (i := 3) dX12_areRows_59 rfl (by decide) rfl ?_
            show Ev g _ _ _ _ _ _ 60 [some (x_r (16 * 32 + 0)), some (x_i a), some (x_i b), some (x_i v10), some (x_i v4)] [] (al, ro, fl (ml M [32] [S])) _ _ _ _
            refine e_iinc (pc := 60) dX12_areRows_60 rfl (by decide) rfl ?_
            show Ev g _ _ _ _ _ _ 63 [some (x_r (16 * 32 + 0)), some (x_i a), some (x_i b), some (x_i v10), some (x_i (x_add v4 1))] [] (al, ro, fl (ml M [32] [S])) _ _ _ _
            refine e_goto (pc := 63) (tgt := 21) dX12_areRows_63 (by decide) ?_
            cases hf6
            have hh := hi6 _ rfl
            try dsimp only at hh
            exact hh
          clear hf6
          refine e_icmp_gt (pc := 51) (tgt := 58) dX12_areRows_51 (by decide) (fun hb => ?_) (fun hb => ?_)
          · rw [if_pos hb] at hr10
            refine e_iconst (pc := 58) dX12_areRows_58 (x_R rfl) ?_
            cases hr10
            exact hjhr10
          · rw [if_neg hb] at hr10
            refine e_iconst (pc := 54) dX12_areRows_54 (x_R rfl) ?_
            refine e_goto (pc := 55) (tgt := 59) dX12_areRows_55 (by decide) ?_
            cases hr10
            exact hjhr10
        clear hf6
        refine e_if_ne (pc := 42) (tgt := 50) dX12_areRows_42 (by decide) (fun hb => ?_) (fun hb => ?_)
        · rw [if_neg hb] at hr8
          refine e_iloadn (pc := 50) (i := 2) dX12_areRows_50 rfl rfl ?_
          cases hr8
          exact hjhr8
        · rw [if_pos hb] at hr8
          refine e_bipush (pc := 45) dX12_areRows_45 (by decide +kernel) (x_R rfl) ?_
          refine e_goto (pc := 47) (tgt := 51) dX12_areRows_47 (by decide) ?_
          cases hr8
          exact hjhr8
  clear hG
  refine e_if_ne (pc := 3) (tgt := 16) dX12_areRows_3 (by decide) (fun hb => ?_) (fun hb => ?_)
  · rw [if_neg hb] at hr1
    refine e_iconst (pc := 16) dX12_areRows_16 (x_R rfl) ?_
    cases hr1
    exact hjhr1
  · rw [if_pos hb] at hr1
    refine e_iloadn (pc := 6) (i := 1) dX12_areRows_6 rfl rfl ?_
    refine e_bipush (pc := 7) dX12_areRows_7 (by decide +kernel) (x_R rfl) ?_
    refine e_icmp_gt (pc := 9) (tgt := 16) dX12_areRows_9 (by decide) (fun hb => ?_) (fun hb => ?_)
    · rw [if_pos hb] at hr1
      refine e_iconst (pc := 16) dX12_areRows_16 (x_R rfl) ?_
      cases hr1
      exact hjhr1
    · rw [if_neg hb] at hr1
      refine e_iconst (pc := 12) dX12_areRows_12 (x_R rfl) ?_
      refine e_goto (pc := 13) (tgt := 17) dX12_areRows_13 (by decide) ?_
      cases hr1
      exact hjhr1
