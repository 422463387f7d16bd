set_option maxRecDepth 100000 in
set_option maxHeartbeats 4000000 in
theorem c_X0_fewestWatching {g : xG} {al : List (Nat × Nat × Nat)} {ro : Nat → Nat → Option Nat} (hst : g.1.stackTraces = false) (hs : SH al ro) {M : Nat → xU} {N : xU}  {t : Int} (hG : G0_fewestWatching N = some t) :
    Cal g yX0_fewestWatching cX0_fewestWatching 5 (some .int) 4 [x_r (16 * 25 + 0), x_r (16 * 3 + 0)] (al, ro, fl (ml M [3] [N])) 0 0 (.inl (some (x_i t))) (al, ro, fl (ml M [3] [N])) := by
  have hn : ([3] : List Nat).Nodup := by decide
  refine cal_of_ev (plainFor_of_name (by decide)) (x_c1 rfl) (Nat.le_of_ble_eq_true rfl) hst ?_
  show Ev g _ _ _ _ _ _ 0 [some (x_r (16 * 25 + 0)), some (x_r (16 * 3 + 0)), none, none, none] [] (al, ro, fl (ml M [3] [N])) _ _ _ _
  rw [G0_fewestWatching] at hG
  refine e_iconst (pc := 0) dX0_fewestWatching_0 (x_R rfl) ?_
  refine e_istoren (pc := 1) (i := 2) dX0_fewestWatching_1 rfl (by decide) rfl ?_
  show Ev g _ _ _ _ _ _ 2 [some (x_r (16 * 25 + 0)), some (x_r (16 * 3 + 0)), some (x_i (-1)), none, none] [] (al, ro, fl (ml M [3] [N])) _ _ _ _
  refine e_bipush (pc := 2) dX0_fewestWatching_2 (by decide +kernel) (x_R rfl) ?_
  refine e_istoren (pc := 4) (i := 3) dX0_fewestWatching_4 rfl (by decide) rfl ?_
  show Ev g _ _ _ _ _ _ 5 [some (x_r (16 * 25 + 0)), some (x_r (16 * 3 + 0)), some (x_i (-1)), some (x_i 8), none] [] (al, ro, fl (ml M [3] [N])) _ _ _ _
  refine e_iconst (pc := 5) dX0_fewestWatching_5 (x_R rfl) ?_
  refine e_istore (pc := 6) (i := 4) dX0_fewestWatching_6 (by decide) rfl ?_
  show Ev g _ _ _ _ _ _ 8 [some (x_r (16 * 25 + 0)), some (x_r (16 * 3 + 0)), some (x_i (-1)), some (x_i 8), some (x_i 0)] [] (al, ro, fl (ml M [3] [N])) _ _ _ _
  obtain ⟨v4, hl5, hG⟩ := x_bd1 hG
  have hk5 : ∀ q : Int, q = v4 → Ev g yX0_fewestWatching cX0_fewestWatching 5 (some .int) [] 4 61 [some (x_r (16 * 25 + 0)), some (x_r (16 * 3 + 0)), some (x_i q), none, none] [] (al, ro, fl (ml M [3] [N])) 0 0 (.inl (some (x_i t))) (al, ro, fl (ml M [3] [N])) := by
    intro q hq
    replace hq := hq.symm
    subst hq
    refine e_iloadn (pc := 61) (i := 2) dX0_fewestWatching_61 rfl rfl ?_
    cases hG
    exact (e_ireturn rfl dX0_fewestWatching_62 rfl)
  clear hG
  refine e_whl (G0_fewestWatching_L8 N) (fun z : (Int × Int × Int) => Ev g yX0_fewestWatching cX0_fewestWatching 5 (some .int) [] 4 8 [some (x_r (16 * 25 + 0)), some (x_r (16 * 3 + 0)), some (x_i z.1), some (x_i z.2.1), some (x_i z.2.2)] [] (al, ro, fl (ml M [3] [N])) 0 0 (.inl (some (x_i t))) (al, ro, fl (ml M [3] [N]))) (fun q => q = v4) ?_ xFU ((-1), 8, 0) _ hl5 rfl
  intro z t5 hf5 hi5 hx5
  obtain ⟨v1, v2, v3⟩ := z
  rw [G0_fewestWatching_L8] at hf5
  show Ev g _ _ _ _ _ _ 8 [some (x_r (16 * 25 + 0)), some (x_r (16 * 3 + 0)), some (x_i v1), some (x_i v2), some (x_i v3)] [] (al, ro, fl (ml M [3] [N])) _ _ _ _
  refine e_iload (pc := 8) dX0_fewestWatching_8 rfl ?_
  refine e_iconst (pc := 10) dX0_fewestWatching_10 (x_R rfl) ?_
  refine e_aloadn (pc := 11) (i := 1) dX0_fewestWatching_11 rfl rfl ?_
  refine f_geti (pc := 12) (k := 0) (u := 3) (q := 0) dX0_fewestWatching_12 xf0_15 (sa_3_0 hs) rfl hn rfl rfl (by decide) ?_
  show Ev g _ _ _ _ _ _ 15 [some (x_r (16 * 25 + 0)), some (x_r (16 * 3 + 0)), some (x_i v1), some (x_i v2), some (x_i v3)] [x_i (N 0 3), x_i 1, x_i v3] (al, ro, fl (ml M [3] [N])) _ _ _ _
  refine e_ishl (pc := 15) dX0_fewestWatching_15 ?_
  refine e_icmp_ge (pc := 16) (tgt := 61) dX0_fewestWatching_16 (by decide) (fun hb => ?_) (fun hb => ?_)
  · rw [if_pos hb] at hf5
    cases hf5
    refine e_drop (i := 3) ?_
    refine e_drop (i := 4) ?_
    have hh := hk5 _ (hx5 _ rfl)
    try dsimp only at hh
    exact hh
  · rw [if_neg hb] at hf5
    refine e_iload (pc := 19) dX0_fewestWatching_19 rfl ?_
    refine e_sipush (pc := 21) dX0_fewestWatching_21 (by decide +kernel) (x_R rfl) ?_
    refine e_icmp_ge (pc := 24) (tgt := 61) dX0_fewestWatching_24 (by decide) (fun hb => ?_) (fun hb => ?_)
    · rw [if_pos hb] at hf5
      cases hf5
      refine e_drop (i := 3) ?_
      refine e_drop (i := 4) ?_
      have hh := hk5 _ (hx5 _ rfl)
      try dsimp only at hh
      exact hh
    · rw [if_neg hb] at hf5
      refine e_iload (pc := 27) dX0_fewestWatching_27 rfl ?_
      refine e_invS (pc := 29) (K1 := 0) (S1 := 0) (K := 0) (S := 0) (dd2 := 0) (av := [x_i v3]) (st := []) dX0_fewestWatching_29 xmX0_42 rfl (p_bitCount hst hs) (by decide) (Nat.le_of_ble_eq_true rfl) (Or.inl rfl) ?_
      show Ev g _ _ _ _ _ _ 32 [some (x_r (16 * 25 + 0)), some (x_r (16 * 3 + 0)), some (x_i v1), some (x_i v2), some (x_i v3)] [x_i (x_bc v3)] (al, ro, fl (ml M [3] [N])) _ _ _ _
      refine e_iloadn (pc := 32) (i := 3) dX0_fewestWatching_32 rfl rfl ?_
      obtain ⟨v7, v8, hr8, hf5⟩ := x_bd2 hf5
      have hjhr8 : Ev g yX0_fewestWatching cX0_fewestWatching 5 (some .int) [] 4 55 [some (x_r (16 * 25 + 0)), some (x_r (16 * 3 + 0)), some (x_i v7), some (x_i v8), some (x_i v3)] [] (al, ro, fl (ml M [3] [N])) 0 0 (.inl (some (x_i t))) (al, ro, fl (ml M [3] [N])) := by
        refine e_iinc (pc := 55) dX0_fewestWatching_55 rfl (by decide) rfl ?_
        show Ev g _ _ _ _ _ _ 58 [some (x_r (16 * 25 + 0)), some (x_r (16 * 3 + 0)), some (x_i v7), some (x_i v8), some (x_i (x_add v3 1))] [] (al, ro, fl (ml M [3] [N])) _ _ _ _
        refine e_goto (pc := 58) (tgt := 8) dX0_fewestWatching_58 (by decide) ?_
        cases hf5
        have hh := hi5 _ rfl
        try dsimp only at hh
        exact hh
      clear hf5
      refine e_icmp_ge (pc := 33) (tgt := 55) dX0_fewestWatching_33 (by decide) (fun hb => ?_) (fun hb => ?_)
      · rw [if_pos hb] at hr8
        cases hr8
        exact hjhr8
      · rw [if_neg hb] at hr8
        refine e_aloadn (pc := 36) (i := 0) dX0_fewestWatching_36 rfl rfl ?_
        refine e_aloadn (pc := 37) (i := 1) dX0_fewestWatching_37 rfl rfl ?_
        refine e_iload (pc := 38) dX0_fewestWatching_38 rfl ?_
        obtain ⟨v10, hq10, hr8⟩ := x_bd1 hr8
        refine e_invV (pc := 40) (K1 := 0) (S1 := 0) (K := 0) (S := 0) (dd2 := 3) (av := [x_r (16 * 3 + 0), x_i v3]) (st := []) (id := 16 * 25 + 0) dX0_fewestWatching_40 xmX0_55 rfl (Or.inl ⟨0, 1, TX0, (sa_25_0 hs), rfl, by decide⟩) (f_cal (M := M) (us2 := [3]) [0] hn rfl (And.intro rfl trivial) rfl rfl rfl (c_X0_watchesAll hst hs   hq10)) (by decide) (Nat.le_of_ble_eq_true rfl) (Or.inl rfl) ?_
        show Ev g _ _ _ _ _ _ 43 [some (x_r (16 * 25 + 0)), some (x_r (16 * 3 + 0)), some (x_i v1), some (x_i v2), some (x_i v3)] [x_i v10] (al, ro, fl (ml M [3] [N])) _ _ _ _
        refine e_if_eq (pc := 43) (tgt := 55) dX0_fewestWatching_43 (by decide) (fun hb => ?_) (fun hb => ?_)
        · rw [if_pos hb] at hr8
          cases hr8
          exact hjhr8
        · rw [if_neg hb] at hr8
          refine e_iload (pc := 46) dX0_fewestWatching_46 rfl ?_
          refine e_invS (pc := 48) (K1 := 0) (S1 := 0) (K := 0) (S := 0) (dd2 := 0) (av := [x_i v3]) (st := []) dX0_fewestWatching_48 xmX0_42 rfl (p_bitCount hst hs) (by decide) (Nat.le_of_ble_eq_true rfl) (Or.inl rfl) ?_
          show Ev g _ _ _ _ _ _ 51 [some (x_r (16 * 25 + 0)), some (x_r (16 * 3 + 0)), some (x_i v1), some (x_i v2), some (x_i v3)] [x_i (x_bc v3)] (al, ro, fl (ml M [3] [N])) _ _ _ _
          refine e_istoren (pc := 51) (i := 3) dX0_fewestWatching_51 rfl (by decide) rfl ?_
          show Ev g _ _ _ _ _ _ 52 [some (x_r (16 * 25 + 0)), some (x_r (16 * 3 + 0)), some (x_i v1), some (x_i (x_bc v3)), some (x_i v3)] [] (al, ro, fl (ml M [3] [N])) _ _ _ _
          refine e_iload (pc := 52) dX0_fewestWatching_52 rfl ?_
          refine e_istoren (pc := 54) (i := 2) dX0_fewestWatching_54 rfl (by decide) rfl ?_
          show Ev g _ _ _ _ _ _ 55 [some (x_r (16 * 25 + 0)), some (x_r (16 * 3 + 0)), some (x_i v3), some (x_i (x_bc v3)), some (x_i v3)] [] (al, ro, fl (ml M [3] [N])) _ _ _ _
          cases hr8
          exact hjhr8
set_option maxRecDepth 100000 in
set_option maxHeartbeats 4000000 in
theorem c_X1_sumOf {g : xG} {al : List (Nat × Nat × Nat)} {ro : Nat → Nat → Option Nat} (hst : g.1.stackTraces = false) (hs : SH al ro) {u : Nat} (hu : 3 ≤ u ∧ u ≤ 18) {M : Nat → xU} {a : Int} {C : xU}  {t : Int} (hG : G1_sumOf a C = some t) :
    Cal g yX1_sumOf cX1_sumOf 4 (some .int) 1 [x_r (16 * u + 0), x_i a] (al, ro, fl (ml M [u] [C])) 0 0 (.inl (some (x_i t))) (al, ro, fl (ml M [u] [C])) := by
  have hn : ([u] : List Nat).Nodup := by simp
  refine cal_of_ev (plainFor_of_name (by decide)) (x_c1 rfl) (Nat.le_of_ble_eq_true rfl) hst ?_
  show Ev g _ _ _ _ _ _ 0 [some (x_r (16 * u + 0)), some (x_i a), none, none] [] (al, ro, fl (ml M [u] [C])) _ _ _ _
  rw [G1_sumOf] at hG
  refine e_iconst (pc := 0) dX1_sumOf_0 (x_R rfl) ?_
  refine e_istoren (pc := 1) (i := 2) dX1_sumOf_1 rfl (by decide) rfl ?_
  show Ev g _ _ _ _ _ _ 2 [some (x_r (16 * u + 0)), some (x_i a), some (x_i 0), none] [] (al, ro, fl (ml M [u] [C])) _ _ _ _
  refine e_iconst (pc := 2) dX1_sumOf_2 (x_R rfl) ?_
  refine e_istoren (pc := 3) (i := 3) dX1_sumOf_3 rfl (by decide) rfl ?_
  show Ev g _ _ _ _ _ _ 4 [some (x_r (16 * u + 0)), some (x_i a), some (x_i 0), some (x_i 0)] [] (al, ro, fl (ml M [u] [C])) _ _ _ _
  obtain ⟨v3, hl4, hG⟩ := x_bd1 hG
  have hk4 : ∀ q : Int, q = v3 → Ev g yX1_sumOf cX1_sumOf 4 (some .int) [] 1 27 [some (x_r (16 * u + 0)), some (x_i a), some (x_i q), none] [] (al, ro, fl (ml M [u] [C])) 0 0 (.inl (some (x_i t))) (al, ro, fl (ml M [u] [C])) := by
    intro q hq
    replace hq := hq.symm
    subst hq
    refine e_iloadn (pc := 27) (i := 2) dX1_sumOf_27 rfl rfl ?_
    cases hG
    exact (e_ireturn rfl dX1_sumOf_28 rfl)
  clear hG
  refine e_whl (G1_sumOf_L4 a C) (fun z : (Int × Int) => Ev g yX1_sumOf cX1_sumOf 4 (some .int) [] 1 4 [some (x_r (16 * u + 0)), some (x_i a), some (x_i z.1), some (x_i z.2)] [] (al, ro, fl (ml M [u] [C])) 0 0 (.inl (some (x_i t))) (al, ro, fl (ml M [u] [C]))) (fun q => q = v3) ?_ xFU (0, 0) _ hl4 rfl
  intro z t4 hf4 hi4 hx4
  obtain ⟨v1, v2⟩ := z
  rw [G1_sumOf_L4] at hf4
  show Ev g _ _ _ _ _ _ 4 [some (x_r (16 * u + 0)), some (x_i a), some (x_i v1), some (x_i v2)] [] (al, ro, fl (ml M [u] [C])) _ _ _ _
  refine e_iloadn (pc := 4) (i := 3) dX1_sumOf_4 rfl rfl ?_
  refine e_aloadn (pc := 5) (i := 0) dX1_sumOf_5 rfl rfl ?_
  refine f_geti (pc := 6) (k := 0) (u := u) (q := 0) dX1_sumOf_6 xf1_43 (sc_a0 hs hu) rfl hn rfl rfl (by decide) ?_
  show Ev g _ _ _ _ _ _ 9 [some (x_r (16 * u + 0)), some (x_i a), some (x_i v1), some (x_i v2)] [x_i (C 0 3), x_i v2] (al, ro, fl (ml M [u] [C])) _ _ _ _
  refine e_icmp_ge (pc := 9) (tgt := 27) dX1_sumOf_9 (by decide) (fun hb => ?_) (fun hb => ?_)
  · rw [if_pos hb] at hf4
    cases hf4
    refine e_drop (i := 3) ?_
    have hh := hk4 _ (hx4 _ rfl)
    try dsimp only at hh
    exact hh
  · rw [if_neg hb] at hf4
    refine e_iloadn (pc := 12) (i := 2) dX1_sumOf_12 rfl rfl ?_
    refine e_aloadn (pc := 13) (i := 0) dX1_sumOf_13 rfl rfl ?_
    refine e_iloadn (pc := 14) (i := 1) dX1_sumOf_14 rfl rfl ?_
    refine e_iloadn (pc := 15) (i := 3) dX1_sumOf_15 rfl rfl ?_
    obtain ⟨v6, hq6, hf4⟩ := x_bd1 hf4
    refine e_invV (pc := 16) (K1 := 0) (S1 := 0) (K := 0) (S := 0) (dd2 := 0) (av := [x_i a, x_i v2]) (st := [x_i v1]) (id := 16 * u + 0) dX1_sumOf_16 xmX1_79 rfl (Or.inl ⟨1, 12, TX1, (sc_a0 hs hu), rfl, by decide⟩) (f_cal (M := M) (us2 := [u]) [0] hn rfl (And.intro rfl trivial) rfl rfl rfl (c_X1_of hst hs hu  hq6)) (by decide) (Nat.le_of_ble_eq_true rfl) (Or.inl rfl) ?_
    show Ev g _ _ _ _ _ _ 19 [some (x_r (16 * u + 0)), some (x_i a), some (x_i v1), some (x_i v2)] [x_i v6, x_i v1] (al, ro, fl (ml M [u] [C])) _ _ _ _
    refine e_iadd (pc := 19) dX1_sumOf_19 ?_
    refine e_istoren (pc := 20) (i := 2) dX1_sumOf_20 rfl (by decide) rfl ?_
    show Ev g _ _ _ _ _ _ 21 [some (x_r (16 * u + 0)), some (x_i a), some (x_i (x_add v1 v6)), some (x_i v2)] [] (al, ro, fl (ml M [u] [C])) _ _ _ _
    refine e_iinc (pc := 21) dX1_sumOf_21 rfl (by decide) rfl ?_
    show Ev g _ _ _ _ _ _ 24 [some (x_r (16 * u + 0)), some (x_i a), some (x_i (x_add v1 v6)), some (x_i (x_add v2 1))] [] (al, ro, fl (ml M [u] [C])) _ _ _ _
    refine e_goto (pc := 24) (tgt := 4) dX1_sumOf_24 (by decide) ?_
    cases hf4
    have hh := hi4 _ rfl
    try dsimp only at hh
    exact hh
set_option maxRecDepth 100000 in
set_option maxHeartbeats 4000000 in
theorem c_X0_carries {g : xG} {al : List (Nat × Nat × Nat)} {ro : Nat → Nat → Option Nat} (hst : g.1.stackTraces = false) (hs : SH al ro) {M : Nat → xU} {a : Int} {N : xU}  {t : Int} (hG : G0_carries a N = some t) :
    Cal g yX0_carries cX0_carries 5 (some .boolean) 2 [x_r (16 * 25 + 0), x_r (16 * 3 + 0), x_i a] (al, ro, fl (ml M [3] [N])) 0 0 (.inl (some (x_i t))) (al, ro, fl (ml M [3] [N])) := by
  have hn : ([3] : List Nat).Nodup := by decide
  refine cal_of_ev (plainFor_of_name (by decide)) (x_c1 rfl) (Nat.le_of_ble_eq_true rfl) hst ?_
  show Ev g _ _ _ _ _ _ 0 [some (x_r (16 * 25 + 0)), some (x_r (16 * 3 + 0)), some (x_i a), none, none] [] (al, ro, fl (ml M [3] [N])) _ _ _ _
  rw [G0_carries] at hG
  refine e_iconst (pc := 0) dX0_carries_0 (x_R rfl) ?_
  refine e_istoren (pc := 1) (i := 3) dX0_carries_1 rfl (by decide) rfl ?_
  show Ev g _ _ _ _ _ _ 2 [some (x_r (16 * 25 + 0)), some (x_r (16 * 3 + 0)), some (x_i a), some (x_i 0), none] [] (al, ro, fl (ml M [3] [N])) _ _ _ _
  refine e_iconst (pc := 2) dX0_carries_2 (x_R rfl) ?_
  refine e_istore (pc := 3) (i := 4) dX0_carries_3 (by decide) rfl ?_
  show Ev g _ _ _ _ _ _ 5 [some (x_r (16 * 25 + 0)), some (x_r (16 * 3 + 0)), some (x_i a), some (x_i 0), some (x_i 0)] [] (al, ro, fl (ml M [3] [N])) _ _ _ _
  obtain ⟨v3, hl4, hG⟩ := x_bd1 hG
  have hk4 : ∀ q : Int, q = v3 → Ev g yX0_carries cX0_carries 5 (some .boolean) [] 2 40 [some (x_r (16 * 25 + 0)), some (x_r (16 * 3 + 0)), some (x_i a), some (x_i q), none] [] (al, ro, fl (ml M [3] [N])) 0 0 (.inl (some (x_i t))) (al, ro, fl (ml M [3] [N])) := by
    intro q hq
    replace hq := hq.symm
    subst hq
    refine e_iloadn (pc := 40) (i := 3) dX0_carries_40 rfl rfl ?_
    refine e_aloadn (pc := 41) (i := 1) dX0_carries_41 rfl rfl ?_
    refine e_bipush (pc := 42) dX0_carries_42 (by decide +kernel) (x_R rfl) ?_
    obtain ⟨v12, hq12, hG⟩ := x_bd1 hG
    refine e_invV (pc := 44) (K1 := 0) (S1 := 0) (K := 0) (S := 0) (dd2 := 1) (av := [x_i 7]) (st := [x_i v3]) (id := 16 * 3 + 0) dX0_carries_44 xmX0_70 rfl (Or.inl ⟨1, 12, TX1, (sa_3_0 hs), rfl, by decide⟩) (f_cal (M := M) (us2 := [3]) [0] hn rfl (And.intro rfl trivial) rfl rfl rfl (c_X1_sumOf hst hs (by decide)  hq12)) (by decide) (Nat.le_of_ble_eq_true rfl) (Or.inl rfl) ?_
    show Ev g _ _ _ _ _ _ 47 [some (x_r (16 * 25 + 0)), some (x_r (16 * 3 + 0)), some (x_i a), some (x_i v3), none] [x_i v12, x_i v3] (al, ro, fl (ml M [3] [N])) _ _ _ _
    refine e_iloadn (pc := 47) (i := 3) dX0_carries_47 rfl rfl ?_
    refine e_isub (pc := 48) dX0_carries_48 ?_
    obtain ⟨v14, hr14, hG⟩ := x_bd1 hG
    have hjhr14 : Ev g yX0_carries cX0_carries 5 (some .boolean) [] 2 57 [some (x_r (16 * 25 + 0)), some (x_r (16 * 3 + 0)), some (x_i a), some (x_i v3), none] [x_i v14] (al, ro, fl (ml M [3] [N])) 0 0 (.inl (some (x_i t))) (al, ro, fl (ml M [3] [N])) := by
      obtain ⟨hc0, hG⟩ := x_gd_some hG
      cases hG
      exact (e_ireturn rfl dX0_carries_57 (x_bool hc0).1)
    clear hG
    refine e_icmp_le (pc := 49) (tgt := 56) dX0_carries_49 (by decide) (fun hb => ?_) (fun hb => ?_)
    · rw [if_pos hb] at hr14
      refine e_iconst (pc := 56) dX0_carries_56 (x_R rfl) ?_
      cases hr14
      exact hjhr14
    · rw [if_neg hb] at hr14
      refine e_iconst (pc := 52) dX0_carries_52 (x_R rfl) ?_
      refine e_goto (pc := 53) (tgt := 57) dX0_carries_53 (by decide) ?_
      cases hr14
      exact hjhr14
  clear hG
  refine e_whl (G0_carries_L5 a N) (fun z : (Int × Int) => Ev g yX0_carries cX0_carries 5 (some .boolean) [] 2 5 [some (x_r (16 * 25 + 0)), some (x_r (16 * 3 + 0)), some (x_i a), some (x_i z.1), some (x_i z.2)] [] (al, ro, fl (ml M [3] [N])) 0 0 (.inl (some (x_i t))) (al, ro, fl (ml M [3] [N]))) (fun q => q = v3) ?_ xFU (0, 0) _ hl4 rfl
  intro z t4 hf4 hi4 hx4
  obtain ⟨v1, v2⟩ := z
  rw [G0_carries_L5] at hf4
  show Ev g _ _ _ _ _ _ 5 [some (x_r (16 * 25 + 0)), some (x_r (16 * 3 + 0)), some (x_i a), some (x_i v1), some (x_i v2)] [] (al, ro, fl (ml M [3] [N])) _ _ _ _
  refine e_iload (pc := 5) dX0_carries_5 rfl ?_
  refine e_aloadn (pc := 7) (i := 1) dX0_carries_7 rfl rfl ?_
  refine f_geti (pc := 8) (k := 0) (u := 3) (q := 0) dX0_carries_8 xf0_15 (sa_3_0 hs) rfl hn rfl rfl (by decide) ?_
  show Ev g _ _ _ _ _ _ 11 [some (x_r (16 * 25 + 0)), some (x_r (16 * 3 + 0)), some (x_i a), some (x_i v1), some (x_i v2)] [x_i (N 0 3), x_i v2] (al, ro, fl (ml M [3] [N])) _ _ _ _
  refine e_icmp_ge (pc := 11) (tgt := 40) dX0_carries_11 (by decide) (fun hb => ?_) (fun hb => ?_)
  · rw [if_pos hb] at hf4
    cases hf4
    refine e_drop (i := 4) ?_
    have hh := hk4 _ (hx4 _ rfl)
    try dsimp only at hh
    exact hh
  · rw [if_neg hb] at hf4
    refine e_iloadn (pc := 14) (i := 2) dX0_carries_14 rfl rfl ?_
    refine e_iload (pc := 15) dX0_carries_15 rfl ?_
    obtain ⟨v6, hq6, hf4⟩ := x_bd1 hf4
    refine e_invS (pc := 17) (K1 := 0) (S1 := 0) (K := 0) (S := 0) (dd2 := 0) (av := [x_i a, x_i v2]) (st := []) dX0_carries_17 xmX0_21 rfl (f_cal (M := M) (us2 := []) [] hn rfl trivial rfl rfl rfl (c_X11_holdsBit hst hs   hq6)) (by decide) (Nat.le_of_ble_eq_true rfl) (Or.inl rfl) ?_
    show Ev g _ _ _ _ _ _ 20 [some (x_r (16 * 25 + 0)), some (x_r (16 * 3 + 0)), some (x_i a), some (x_i v1), some (x_i v2)] [x_i v6] (al, ro, fl (ml M [3] [N])) _ _ _ _
    obtain ⟨v8, hr8, hf4⟩ := x_bd1 hf4
    have hjhr8 : Ev g yX0_carries cX0_carries 5 (some .boolean) [] 2 34 [some (x_r (16 * 25 + 0)), some (x_r (16 * 3 + 0)), some (x_i a), some (x_i v8), some (x_i v2)] [] (al, ro, fl (ml M [3] [N])) 0 0 (.inl (some (x_i t))) (al, ro, fl (ml M [3] [N])) := by
      refine e_iinc (pc := 34) dX0_carries_34 rfl (by decide) rfl ?_
      show Ev g _ _ _ _ _ _ 37 [some (x_r (16 * 25 + 0)), some (x_r (16 * 3 + 0)), some (x_i a), some (x_i v8), some (x_i (x_add v2 1))] [] (al, ro, fl (ml M [3] [N])) _ _ _ _
      refine e_goto (pc := 37) (tgt := 5) dX0_carries_37 (by decide) ?_
      cases hf4
      have hh := hi4 _ rfl
      try dsimp only at hh
      exact hh
    clear hf4
    refine e_if_eq (pc := 20) (tgt := 34) dX0_carries_20 (by decide) (fun hb => ?_) (fun hb => ?_)
    · rw [if_pos hb] at hr8
      cases hr8
      exact hjhr8
    · rw [if_neg hb] at hr8
      refine e_iloadn (pc := 23) (i := 3) dX0_carries_23 rfl rfl ?_
      refine e_aloadn (pc := 24) (i := 1) dX0_carries_24 rfl rfl ?_
      refine e_bipush (pc := 25) dX0_carries_25 (by decide +kernel) (x_R rfl) ?_
      refine e_iload (pc := 27) dX0_carries_27 rfl ?_
      obtain ⟨v10, hq10, hr8⟩ := x_bd1 hr8
      refine e_invV (pc := 29) (K1 := 0) (S1 := 0) (K := 0) (S := 0) (dd2 := 0) (av := [x_i 7, x_i v2]) (st := [x_i v1]) (id := 16 * 3 + 0) dX0_carries_29 xmX0_39 rfl (Or.inl ⟨1, 12, TX1, (sa_3_0 hs), rfl, by decide⟩) (f_cal (M := M) (us2 := [3]) [0] hn rfl (And.intro rfl trivial) rfl rfl rfl (c_X1_of hst hs (by decide)  hq10)) (by decide) (Nat.le_of_ble_eq_true rfl) (Or.inl rfl) ?_
      show Ev g _ _ _ _ _ _ 32 [some (x_r (16 * 25 + 0)), some (x_r (16 * 3 + 0)), some (x_i a), some (x_i v1), some (x_i v2)] [x_i v10, x_i v1] (al, ro, fl (ml M [3] [N])) _ _ _ _
      refine e_iadd (pc := 32) dX0_carries_32 ?_
      refine e_istoren (pc := 33) (i := 3) dX0_carries_33 rfl (by decide) rfl ?_
      show Ev g _ _ _ _ _ _ 34 [some (x_r (16 * 25 + 0)), some (x_r (16 * 3 + 0)), some (x_i a), some (x_i (x_add v1 v10)), some (x_i v2)] [] (al, ro, fl (ml M [3] [N])) _ _ _ _
      cases hr8
      exact hjhr8
set_option maxRecDepth 100000 in
set_option maxHeartbeats 4000000 in
theorem c_X0_swingsOf {g : xG} {al : List (Nat × Nat × Nat)} {ro : Nat → Nat → Option Nat} (hst : g.1.stackTraces = false) (hs : SH al ro) {M : Nat → xU} {a : Int} {N : xU}  {t : Int} (hG : G0_swingsOf a N = some t) :
    Cal g yX0_swingsOf cX0_swingsOf 5 (some .int) 3 [x_r (16 * 25 + 0), x_r (16 * 3 + 0), x_i a] (al, ro, fl (ml M [3] [N])) 0 0 (.inl (some (x_i t))) (al, ro, fl (ml M [3] [N])) := by
  have hn : ([3] : List Nat).Nodup := by decide
  refine cal_of_ev (plainFor_of_name (by decide)) (x_c1 rfl) (Nat.le_of_ble_eq_true rfl) hst ?_
  show Ev g _ _ _ _ _ _ 0 [some (x_r (16 * 25 + 0)), some (x_r (16 * 3 + 0)), some (x_i a), none, none] [] (al, ro, fl (ml M [3] [N])) _ _ _ _
  rw [G0_swingsOf] at hG
  refine e_iconst (pc := 0) dX0_swingsOf_0 (x_R rfl) ?_
  refine e_istoren (pc := 1) (i := 3) dX0_swingsOf_1 rfl (by decide) rfl ?_
  show Ev g _ _ _ _ _ _ 2 [some (x_r (16 * 25 + 0)), some (x_r (16 * 3 + 0)), some (x_i a), some (x_i 0), none] [] (al, ro, fl (ml M [3] [N])) _ _ _ _
  refine e_iconst (pc := 2) dX0_swingsOf_2 (x_R rfl) ?_
  refine e_istore (pc := 3) (i := 4) dX0_swingsOf_3 (by decide) rfl ?_
  show Ev g _ _ _ _ _ _ 5 [some (x_r (16 * 25 + 0)), some (x_r (16 * 3 + 0)), some (x_i a), some (x_i 0), some (x_i 0)] [] (al, ro, fl (ml M [3] [N])) _ _ _ _
  obtain ⟨v3, hl4, hG⟩ := x_bd1 hG
  have hk4 : ∀ q : Int, q = v3 → Ev g yX0_swingsOf cX0_swingsOf 5 (some .int) [] 3 60 [some (x_r (16 * 25 + 0)), some (x_r (16 * 3 + 0)), some (x_i a), some (x_i q), none] [] (al, ro, fl (ml M [3] [N])) 0 0 (.inl (some (x_i t))) (al, ro, fl (ml M [3] [N])) := by
    intro q hq
    replace hq := hq.symm
    subst hq
    refine e_iloadn (pc := 60) (i := 3) dX0_swingsOf_60 rfl rfl ?_
    cases hG
    exact (e_ireturn rfl dX0_swingsOf_61 rfl)
  clear hG
  refine e_whl (G0_swingsOf_L5 a N) (fun z : (Int × Int) => Ev g yX0_swingsOf cX0_swingsOf 5 (some .int) [] 3 5 [some (x_r (16 * 25 + 0)), some (x_r (16 * 3 + 0)), some (x_i a), some (x_i z.1), some (x_i z.2)] [] (al, ro, fl (ml M [3] [N])) 0 0 (.inl (some (x_i t))) (al, ro, fl (ml M [3] [N]))) (fun q => q = v3) ?_ xFU (0, 0) _ hl4 rfl
  intro z t4 hf4 hi4 hx4
  obtain ⟨v1, v2⟩ := z
  rw [G0_swingsOf_L5] at hf4
  show Ev g _ _ _ _ _ _ 5 [some (x_r (16 * 25 + 0)), some (x_r (16 * 3 + 0)), some (x_i a), some (x_i v1), some (x_i v2)] [] (al, ro, fl (ml M [3] [N])) _ _ _ _
  refine e_iload (pc := 5) dX0_swingsOf_5 rfl ?_
  refine e_iconst (pc := 7) dX0_swingsOf_7 (x_R rfl) ?_
  refine e_aloadn (pc := 8) (i := 1) dX0_swingsOf_8 rfl rfl ?_
  refine f_geti (pc := 9) (k := 0) (u := 3) (q := 0) dX0_swingsOf_9 xf0_15 (sa_3_0 hs) rfl hn rfl rfl (by decide) ?_
  show Ev g _ _ _ _ _ _ 12 [some (x_r (16 * 25 + 0)), some (x_r (16 * 3 + 0)), some (x_i a), some (x_i v1), some (x_i v2)] [x_i (N 0 3), x_i 1, x_i v2] (al, ro, fl (ml M [3] [N])) _ _ _ _
  refine e_ishl (pc := 12) dX0_swingsOf_12 ?_
  refine e_icmp_ge (pc := 13) (tgt := 60) dX0_swingsOf_13 (by decide) (fun hb => ?_) (fun hb => ?_)
  · rw [if_pos hb] at hf4
    cases hf4
    refine e_drop (i := 4) ?_
    have hh := hk4 _ (hx4 _ rfl)
    try dsimp only at hh
    exact hh
  · rw [if_neg hb] at hf4
    refine e_iload (pc := 16) dX0_swingsOf_16 rfl ?_
    refine e_iloadn (pc := 18) (i := 2) dX0_swingsOf_18 rfl rfl ?_
    obtain ⟨v6, hq6, hf4⟩ := x_bd1 hf4
    refine e_invS (pc := 19) (K1 := 0) (S1 := 0) (K := 0) (S := 0) (dd2 := 0) (av := [x_i v2, x_i a]) (st := []) dX0_swingsOf_19 xmX0_21 rfl (f_cal (M := M) (us2 := []) [] hn rfl trivial rfl rfl rfl (c_X11_holdsBit hst hs   hq6)) (by decide) (Nat.le_of_ble_eq_true rfl) (Or.inl rfl) ?_
    show Ev g _ _ _ _ _ _ 22 [some (x_r (16 * 25 + 0)), some (x_r (16 * 3 + 0)), some (x_i a), some (x_i v1), some (x_i v2)] [x_i v6] (al, ro, fl (ml M [3] [N])) _ _ _ _
    obtain ⟨v8, hr8, hf4⟩ := x_bd1 hf4
    have hjhr8 : Ev g yX0_swingsOf cX0_swingsOf 5 (some .int) [] 3 54 [some (x_r (16 * 25 + 0)), some (x_r (16 * 3 + 0)), some (x_i a), some (x_i v8), some (x_i v2)] [] (al, ro, fl (ml M [3] [N])) 0 0 (.inl (some (x_i t))) (al, ro, fl (ml M [3] [N])) := by
      refine e_iinc (pc := 54) dX0_swingsOf_54 rfl (by decide) rfl ?_
      show Ev g _ _ _ _ _ _ 57 [some (x_r (16 * 25 + 0)), some (x_r (16 * 3 + 0)), some (x_i a), some (x_i v8), some (x_i (x_add v2 1))] [] (al, ro, fl (ml M [3] [N])) _ _ _ _
      refine e_goto (pc := 57) (tgt := 5) dX0_swingsOf_57 (by decide) ?_
      cases hf4
      have hh := hi4 _ rfl
      try dsimp only at hh
      exact hh
    clear hf4
    refine e_if_eq (pc := 22) (tgt := 54) dX0_swingsOf_22 (by decide) (fun hb => ?_) (fun hb => ?_)
    · rw [if_pos hb] at hr8
      cases hr8
      exact hjhr8
    · rw [if_neg hb] at hr8
      refine e_aloadn (pc := 25) (i := 0) dX0_swingsOf_25 rfl rfl ?_
      refine e_aloadn (pc := 26) (i := 1) dX0_swingsOf_26 rfl rfl ?_
      refine e_iload (pc := 27) dX0_swingsOf_27 rfl ?_
      obtain ⟨v10, hq10, hr8⟩ := x_bd1 hr8
      refine e_invV (pc := 29) (K1 := 0) (S1 := 0) (K := 0) (S := 0) (dd2 := 2) (av := [x_r (16 * 3 + 0), x_i v2]) (st := []) (id := 16 * 25 + 0) dX0_swingsOf_29 xmX0_73 rfl (Or.inl ⟨0, 1, TX0, (sa_25_0 hs), rfl, by decide⟩) (f_cal (M := M) (us2 := [3]) [0] hn rfl (And.intro rfl trivial) rfl rfl rfl (c_X0_carries hst hs   hq10)) (by decide) (Nat.le_of_ble_eq_true rfl) (Or.inl rfl) ?_
      show Ev g _ _ _ _ _ _ 32 [some (x_r (16 * 25 + 0)), some (x_r (16 * 3 + 0)), some (x_i a), some (x_i v1), some (x_i v2)] [x_i v10] (al, ro, fl (ml M [3] [N])) _ _ _ _
      refine e_if_eq (pc := 32) (tgt := 54) dX0_swingsOf_32 (by decide) (fun hb => ?_) (fun hb => ?_)
      · rw [if_pos hb] at hr8
        cases hr8
        exact hjhr8
      · rw [if_neg hb] at hr8
        refine e_aloadn (pc := 35) (i := 0) dX0_swingsOf_35 rfl rfl ?_
        refine e_aloadn (pc := 36) (i := 1) dX0_swingsOf_36 rfl rfl ?_
        refine e_iload (pc := 37) dX0_swingsOf_37 rfl ?_
        refine e_iconst (pc := 39) dX0_swingsOf_39 (x_R rfl) ?_
        refine e_iloadn (pc := 40) (i := 2) dX0_swingsOf_40 rfl rfl ?_
        refine e_ishl (pc := 41) dX0_swingsOf_41 ?_
        refine e_iconst (pc := 42) dX0_swingsOf_42 (x_R rfl) ?_
        refine e_ixor (pc := 43) dX0_swingsOf_43 ?_
        refine e_iand (pc := 44) dX0_swingsOf_44 ?_
        obtain ⟨v12, hq12, hr8⟩ := x_bd1 hr8
        refine e_invV (pc := 45) (K1 := 0) (S1 := 0) (K := 0) (S := 0) (dd2 := 2) (av := [x_r (16 * 3 + 0), x_i (x_and v2 (x_xor (x_shl 1 a) (-1)))]) (st := []) (id := 16 * 25 + 0) dX0_swingsOf_45 xmX0_73 rfl (Or.inl ⟨0, 1, TX0, (sa_25_0 hs), rfl, by decide⟩) (f_cal (M := M) (us2 := [3]) [0] hn rfl (And.intro rfl trivial) rfl rfl rfl (c_X0_carries hst hs   hq12)) (by decide) (Nat.le_of_ble_eq_true rfl) (Or.inl rfl) ?_
        show Ev g _ _ _ _ _ _ 48 [some (x_r (16 * 25 + 0)), some (x_r (16 * 3 + 0)), some (x_i a), some (x_i v1), some (x_i v2)] [x_i v12] (al, ro, fl (ml M [3] [N])) _ _ _ _
        refine e_if_ne (pc := 48) (tgt := 54) dX0_swingsOf_48 (by decide) (fun hb => ?_) (fun hb => ?_)
        · rw [if_neg hb] at hr8
          cases hr8
          exact hjhr8
        · rw [if_pos hb] at hr8
          refine e_iinc (pc := 51) dX0_swingsOf_51 rfl (by decide) rfl ?_
          show Ev g _ _ _ _ _ _ 54 [some (x_r (16 * 25 + 0)), some (x_r (16 * 3 + 0)), some (x_i a), some (x_i (x_add v1 1)), some (x_i v2)] [] (al, ro, fl (ml M [3] [N])) _ _ _ _
          cases hr8
          exact hjhr8
set_option maxRecDepth 100000 in
set_option maxHeartbeats 4000000 in
theorem c_X0_mostSwinging {g : xG} {al : List (Nat × Nat × Nat)} {ro : Nat → Nat → Option Nat} (hst : g.1.stackTraces = false) (hs : SH al ro) {M : Nat → xU} {N : xU}  {t : Int} (hG : G0_mostSwinging N = some t) :
    Cal g yX0_mostSwinging cX0_mostSwinging 6 (some .int) 4 [x_r (16 * 25 + 0), x_r (16 * 3 + 0)] (al, ro, fl (ml M [3] [N])) 0 0 (.inl (some (x_i t))) (al, ro, fl (ml M [3] [N])) := by
  have hn : ([3] : List Nat).Nodup := by decide
  refine cal_of_ev (plainFor_of_name (by decide)) (x_c1 rfl) (Nat.le_of_ble_eq_true rfl) hst ?_
  show Ev g _ _ _ _ _ _ 0 [some (x_r (16 * 25 + 0)), some (x_r (16 * 3 + 0)), none, none, none, none] [] (al, ro, fl (ml M [3] [N])) _ _ _ _
  rw [G0_mostSwinging] at hG
  refine e_iconst (pc := 0) dX0_mostSwinging_0 (x_R rfl) ?_
  refine e_istoren (pc := 1) (i := 2) dX0_mostSwinging_1 rfl (by decide) rfl ?_
  show Ev g _ _ _ _ _ _ 2 [some (x_r (16 * 25 + 0)), some (x_r (16 * 3 + 0)), some (x_i (-1)), none, none, none] [] (al, ro, fl (ml M [3] [N])) _ _ _ _
  refine e_iconst (pc := 2) dX0_mostSwinging_2 (x_R rfl) ?_
  refine e_istoren (pc := 3) (i := 3) dX0_mostSwinging_3 rfl (by decide) rfl ?_
  show Ev g _ _ _ _ _ _ 4 [some (x_r (16 * 25 + 0)), some (x_r (16 * 3 + 0)), some (x_i (-1)), some (x_i 0), none, none] [] (al, ro, fl (ml M [3] [N])) _ _ _ _
  refine e_iconst (pc := 4) dX0_mostSwinging_4 (x_R rfl) ?_
  refine e_istore (pc := 5) (i := 4) dX0_mostSwinging_5 (by decide) rfl ?_
  show Ev g _ _ _ _ _ _ 7 [some (x_r (16 * 25 + 0)), some (x_r (16 * 3 + 0)), some (x_i (-1)), some (x_i 0), some (x_i 0), none] [] (al, ro, fl (ml M [3] [N])) _ _ _ _
  obtain ⟨v4, hl5, hG⟩ := x_bd1 hG
  have hk5 : ∀ q : Int, q = v4 → Ev g yX0_mostSwinging cX0_mostSwinging 6 (some .int) [] 4 43 [some (x_r (16 * 25 + 0)), some (x_r (16 * 3 + 0)), some (x_i q), none, none, none] [] (al, ro, fl (ml M [3] [N])) 0 0 (.inl (some (x_i t))) (al, ro, fl (ml M [3] [N])) := by
    intro q hq
    replace hq := hq.symm
    subst hq
    refine e_iloadn (pc := 43) (i := 2) dX0_mostSwinging_43 rfl rfl ?_
    cases hG
    exact (e_ireturn rfl dX0_mostSwinging_44 rfl)
  clear hG
  refine e_whl (G0_mostSwinging_L7 N) (fun z : (Int × Int × Int) => Ev g yX0_mostSwinging cX0_mostSwinging 6 (some .int) [] 4 7 [some (x_r (16 * 25 + 0)), some (x_r (16 * 3 + 0)), some (x_i z.1), some (x_i z.2.1), some (x_i z.2.2), none] [] (al, ro, fl (ml M [3] [N])) 0 0 (.inl (some (x_i t))) (al, ro, fl (ml M [3] [N]))) (fun q => q = v4) ?_ xFU ((-1), 0, 0) _ hl5 rfl
  intro z t5 hf5 hi5 hx5
  obtain ⟨v1, v2, v3⟩ := z
  rw [G0_mostSwinging_L7] at hf5
  show Ev g _ _ _ _ _ _ 7 [some (x_r (16 * 25 + 0)), some (x_r (16 * 3 + 0)), some (x_i v1), some (x_i v2), some (x_i v3), none] [] (al, ro, fl (ml M [3] [N])) _ _ _ _
  refine e_iload (pc := 7) dX0_mostSwinging_7 rfl ?_
  refine e_aloadn (pc := 9) (i := 1) dX0_mostSwinging_9 rfl rfl ?_
  refine f_geti (pc := 10) (k := 0) (u := 3) (q := 0) dX0_mostSwinging_10 xf0_15 (sa_3_0 hs) rfl hn rfl rfl (by decide) ?_
  show Ev g _ _ _ _ _ _ 13 [some (x_r (16 * 25 + 0)), some (x_r (16 * 3 + 0)), some (x_i v1), some (x_i v2), some (x_i v3), none] [x_i (N 0 3), x_i v3] (al, ro, fl (ml M [3] [N])) _ _ _ _
  refine e_icmp_ge (pc := 13) (tgt := 43) dX0_mostSwinging_13 (by decide) (fun hb => ?_) (fun hb => ?_)
  · rw [if_pos hb] at hf5
    cases hf5
    refine e_drop (i := 3) ?_
    refine e_drop (i := 4) ?_
    have hh := hk5 _ (hx5 _ rfl)
    try dsimp only at hh
    exact hh
  · rw [if_neg hb] at hf5
    refine e_aloadn (pc := 16) (i := 0) dX0_mostSwinging_16 rfl rfl ?_
    refine e_aloadn (pc := 17) (i := 1) dX0_mostSwinging_17 rfl rfl ?_
    refine e_iload (pc := 18) dX0_mostSwinging_18 rfl ?_
    obtain ⟨v7, hq7, hf5⟩ := x_bd1 hf5
    refine e_invV (pc := 20) (K1 := 0) (S1 := 0) (K := 0) (S := 0) (dd2 := 3) (av := [x_r (16 * 3 + 0), x_i v3]) (st := []) (id := 16 * 25 + 0) dX0_mostSwinging_20 xmX0_76 rfl (Or.inl ⟨0, 1, TX0, (sa_25_0 hs), rfl, by decide⟩) (f_cal (M := M) (us2 := [3]) [0] hn rfl (And.intro rfl trivial) rfl rfl rfl (c_X0_swingsOf hst hs   hq7)) (by decide) (Nat.le_of_ble_eq_true rfl) (Or.inl rfl) ?_
    show Ev g _ _ _ _ _ _ 23 [some (x_r (16 * 25 + 0)), some (x_r (16 * 3 + 0)), some (x_i v1), some (x_i v2), some (x_i v3), none] [x_i v7] (al, ro, fl (ml M [3] [N])) _ _ _ _
    refine e_istore (pc := 23) (i := 5) dX0_mostSwinging_23 (by decide) rfl ?_
    show Ev g _ _ _ _ _ _ 25 [some (x_r (16 * 25 + 0)), some (x_r (16 * 3 + 0)), some (x_i v1), some (x_i v2), some (x_i v3), some (x_i v7)] [] (al, ro, fl (ml M [3] [N])) _ _ _ _
    refine e_iload (pc := 25) dX0_mostSwinging_25 rfl ?_
    refine e_iloadn (pc := 27) (i := 3) dX0_mostSwinging_27 rfl rfl ?_
    obtain ⟨v9, v10, hr10, hf5⟩ := x_bd2 hf5
    have hjhr10 : Ev g yX0_mostSwinging cX0_mostSwinging 6 (some .int) [] 4 37 [some (x_r (16 * 25 + 0)), some (x_r (16 * 3 + 0)), some (x_i v9), some (x_i v10), some (x_i v3), some (x_i v7)] [] (al, ro, fl (ml M [3] [N])) 0 0 (.inl (some (x_i t))) (al, ro, fl (ml M [3] [N])) := by
      refine e_iinc (pc := 37) dX0_mostSwinging_37 rfl (by decide) rfl ?_
      show Ev g _ _ _ _ _ _ 40 [some (x_r (16 * 25 + 0)), some (x_r (16 * 3 + 0)), some (x_i v9), some (x_i v10), some (x_i (x_add v3 1)), some (x_i v7)] [] (al, ro, fl (ml M [3] [N])) _ _ _ _
      refine e_goto (pc := 40) (tgt := 7) dX0_mostSwinging_40 (by decide) ?_
      cases hf5
      refine e_drop (i := 5) ?_
      have hh := hi5 _ rfl
      try dsimp only at hh
      exact hh
    clear hf5
    refine e_icmp_le (pc := 28) (tgt := 37) dX0_mostSwinging_28 (by decide) (fun hb => ?_) (fun hb => ?_)
    · rw [if_pos hb] at hr10
      cases hr10
      exact hjhr10
    · rw [if_neg hb] at hr10
      refine e_iload (pc := 31) dX0_mostSwinging_31 rfl ?_
      refine e_istoren (pc := 33) (i := 3) dX0_mostSwinging_33 rfl (by decide) rfl ?_
      show Ev g _ _ _ _ _ _ 34 [some (x_r (16 * 25 + 0)), some (x_r (16 * 3 + 0)), some (x_i v1), some (x_i v7), some (x_i v3), some (x_i v7)] [] (al, ro, fl (ml M [3] [N])) _ _ _ _
      refine e_iload (pc := 34) dX0_mostSwinging_34 rfl ?_
      refine e_istoren (pc := 36) (i := 2) dX0_mostSwinging_36 rfl (by decide) rfl ?_
      show Ev g _ _ _ _ _ _ 37 [some (x_r (16 * 25 + 0)), some (x_r (16 * 3 + 0)), some (x_i v3), some (x_i v7), some (x_i v3), some (x_i v7)] [] (al, ro, fl (ml M [3] [N])) _ _ _ _
      cases hr10
      exact hjhr10
set_option maxRecDepth 100000 in
set_option maxHeartbeats 4000000 in
theorem c_X0_gainOfMonk {g : xG} {al : List (Nat × Nat × Nat)} {ro : Nat → Nat → Option Nat} (hst : g.1.stackTraces = false) (hs : SH al ro) {M : Nat → xU} {a : Int} {b : Int} {N : xU}  {t : Int} (hG : G0_gainOfMonk a b N = some t) :
    Cal g yX0_gainOfMonk cX0_gainOfMonk 3 (some .int) 2 [x_r (16 * 3 + 0), x_i a, x_i b] (al, ro, fl (ml M [3] [N])) 0 0 (.inl (some (x_i t))) (al, ro, fl (ml M [3] [N])) := by
  have hn : ([3] : List Nat).Nodup := by decide
  refine cal_of_ev (plainFor_of_name (by decide)) (x_c1 rfl) (Nat.le_of_ble_eq_true rfl) hst ?_
  show Ev g _ _ _ _ _ _ 0 [some (x_r (16 * 3 + 0)), some (x_i a), some (x_i b)] [] (al, ro, fl (ml M [3] [N])) _ _ _ _
  rw [G0_gainOfMonk] at hG
  refine e_iloadn (pc := 0) (i := 2) dX0_gainOfMonk_0 rfl rfl ?_
  refine e_if_ne (pc := 1) (tgt := 10) dX0_gainOfMonk_1 (by decide) (fun hb => ?_) (fun hb => ?_)
  · rw [if_neg hb] at hG
    refine e_iloadn (pc := 10) (i := 2) dX0_gainOfMonk_10 rfl rfl ?_
    refine e_iconst (pc := 11) dX0_gainOfMonk_11 (x_R rfl) ?_
    obtain ⟨v1, hr1, hG⟩ := x_bd1 hG
    have hjhr1 : Ev g yX0_gainOfMonk cX0_gainOfMonk 3 (some .int) [] 2 32 [some (x_r (16 * 3 + 0)), some (x_i a), some (x_i b)] [x_i v1] (al, ro, fl (ml M [3] [N])) 0 0 (.inl (some (x_i t))) (al, ro, fl (ml M [3] [N])) := by
      cases hG
      exact (e_ireturn rfl dX0_gainOfMonk_32 rfl)
    clear hG
    refine e_icmp_ne (pc := 12) (tgt := 31) dX0_gainOfMonk_12 (by decide) (fun hb => ?_) (fun hb => ?_)
    · rw [if_neg hb] at hr1
      refine e_iconst (pc := 31) dX0_gainOfMonk_31 (x_R rfl) ?_
      cases hr1
      exact hjhr1
    · rw [if_pos hb] at hr1
      refine e_aloadn (pc := 15) (i := 0) dX0_gainOfMonk_15 rfl rfl ?_
      refine e_iconst (pc := 16) dX0_gainOfMonk_16 (x_R rfl) ?_
      refine e_iloadn (pc := 17) (i := 1) dX0_gainOfMonk_17 rfl rfl ?_
      obtain ⟨v3, hq3, hr1⟩ := x_bd1 hr1
      refine e_invV (pc := 18) (K1 := 0) (S1 := 0) (K := 0) (S := 0) (dd2 := 0) (av := [x_i 0, x_i a]) (st := []) (id := 16 * 3 + 0) dX0_gainOfMonk_18 xmX0_39 rfl (Or.inl ⟨1, 12, TX1, (sa_3_0 hs), rfl, by decide⟩) (f_cal (M := M) (us2 := [3]) [0] hn rfl (And.intro rfl trivial) rfl rfl rfl (c_X1_of hst hs (by decide)  hq3)) (by decide) (Nat.le_of_ble_eq_true rfl) (Or.inl rfl) ?_
      show Ev g _ _ _ _ _ _ 21 [some (x_r (16 * 3 + 0)), some (x_i a), some (x_i b)] [x_i v3] (al, ro, fl (ml M [3] [N])) _ _ _ _
      refine e_aloadn (pc := 21) (i := 0) dX0_gainOfMonk_21 rfl rfl ?_
      refine f_geti (pc := 22) (k := 0) (u := 3) (q := 0) dX0_gainOfMonk_22 xf0_89 (sa_3_0 hs) rfl hn rfl rfl (by decide) ?_
      show Ev g _ _ _ _ _ _ 25 [some (x_r (16 * 3 + 0)), some (x_i a), some (x_i b)] [x_i (N 0 7), x_i v3] (al, ro, fl (ml M [3] [N])) _ _ _ _
      obtain ⟨v5, hq5, hr1⟩ := x_bd1 hr1
      refine e_invS (pc := 25) (K1 := 0) (S1 := 0) (K := 0) (S := 0) (dd2 := 1) (av := [x_i v3, x_i (N 0 7)]) (st := []) dX0_gainOfMonk_25 xmX0_67 rfl (f_cal (M := M) (us2 := []) [] hn rfl trivial rfl rfl rfl (c_X11_stepsApart hst hs   hq5)) (by decide) (Nat.le_of_ble_eq_true rfl) (Or.inl rfl) ?_
      show Ev g _ _ _ _ _ _ 28 [some (x_r (16 * 3 + 0)), some (x_i a), some (x_i b)] [x_i v5] (al, ro, fl (ml M [3] [N])) _ _ _ _
      refine e_goto (pc := 28) (tgt := 32) dX0_gainOfMonk_28 (by decide) ?_
      cases hr1
      exact hjhr1
  · rw [if_pos hb] at hG
    refine e_aloadn (pc := 4) (i := 0) dX0_gainOfMonk_4 rfl rfl ?_
    refine f_geti (pc := 5) (k := 0) (u := 3) (q := 0) dX0_gainOfMonk_5 xf0_86 (sa_3_0 hs) rfl hn rfl rfl (by decide) ?_
    show Ev g _ _ _ _ _ _ 8 [some (x_r (16 * 3 + 0)), some (x_i a), some (x_i b)] [x_i (N 0 10)] (al, ro, fl (ml M [3] [N])) _ _ _ _
    refine e_ineg (pc := 8) dX0_gainOfMonk_8 ?_
    cases hG
    exact (e_ireturn rfl dX0_gainOfMonk_9 rfl)
set_option maxRecDepth 100000 in
set_option maxHeartbeats 4000000 in
theorem c_X0_gainOfGardener {g : xG} {al : List (Nat × Nat × Nat)} {ro : Nat → Nat → Option Nat} (hst : g.1.stackTraces = false) (hs : SH al ro) {M : Nat → xU} {a : Int}  {t : Int} (hG : G0_gainOfGardener a = some t) :
    Cal g yX0_gainOfGardener cX0_gainOfGardener 1 (some .int) 0 [x_i a] (al, ro, fl (ml M [] [])) 0 0 (.inl (some (x_i t))) (al, ro, fl (ml M [] [])) := by
  have hn : ([] : List Nat).Nodup := by decide
  refine cal_of_ev (plainFor_of_name (by decide)) (x_c1 rfl) (Nat.le_of_ble_eq_true rfl) hst ?_
  show Ev g _ _ _ _ _ _ 0 [some (x_i a)] [] (al, ro, fl (ml M [] [])) _ _ _ _
  rw [G0_gainOfGardener] at hG
  refine e_iloadn (pc := 0) (i := 0) dX0_gainOfGardener_0 rfl rfl ?_
  by_cases hb0 : a = 0
  · rw [if_pos hb0] at hG
    refine e_tabIn (pc := 1) (tgt := 28) dX0_gainOfGardener_1 (by omega) (by omega) (by rw [hb0]; rfl) (by decide) ?_
    refine e_iconst (pc := 28) dX0_gainOfGardener_28 (x_R rfl) ?_
    cases hG
    exact (e_ireturn rfl dX0_gainOfGardener_29 rfl)
  rw [if_neg hb0] at hG
  by_cases hb1 : a = 1
  · rw [if_pos hb1] at hG
    refine e_tabIn (pc := 1) (tgt := 30) dX0_gainOfGardener_1 (by omega) (by omega) (by rw [hb1]; rfl) (by decide) ?_
    refine e_bipush (pc := 30) dX0_gainOfGardener_30 (by decide +kernel) (x_R rfl) ?_
    cases hG
    exact (e_ireturn rfl dX0_gainOfGardener_32 rfl)
  rw [if_neg hb1] at hG
  by_cases hb2 : a = 2
  · rw [if_pos hb2] at hG
    refine e_tabIn (pc := 1) (tgt := 33) dX0_gainOfGardener_1 (by omega) (by omega) (by rw [hb2]; rfl) (by decide) ?_
    refine e_iconst (pc := 33) dX0_gainOfGardener_33 (x_R rfl) ?_
    cases hG
    exact (e_ireturn rfl dX0_gainOfGardener_34 rfl)
  rw [if_neg hb2] at hG
  refine e_tabOut (pc := 1) (tgt := 35) dX0_gainOfGardener_1 (by omega) (by decide) ?_
  refine e_iconst (pc := 35) dX0_gainOfGardener_35 (x_R rfl) ?_
  cases hG
  exact (e_ireturn rfl dX0_gainOfGardener_36 rfl)
set_option maxRecDepth 100000 in
set_option maxHeartbeats 4000000 in
theorem c_X0_restsOf {g : xG} {al : List (Nat × Nat × Nat)} {ro : Nat → Nat → Option Nat} (hst : g.1.stackTraces = false) (hs : SH al ro) {M : Nat → xU} {a : Int} {N : xU}  {t : Int} (hG : G0_restsOf a N = some t) :
    Cal g yX0_restsOf cX0_restsOf 6 (some .int) 3 [x_r (16 * 25 + 0), x_r (16 * 3 + 0), x_i a] (al, ro, fl (ml M [3] [N])) 0 0 (.inl (some (x_i t))) (al, ro, fl (ml M [3] [N])) := by
  have hn : ([3] : List Nat).Nodup := by decide
  refine cal_of_ev (plainFor_of_name (by decide)) (x_c1 rfl) (Nat.le_of_ble_eq_true rfl) hst ?_
  show Ev g _ _ _ _ _ _ 0 [some (x_r (16 * 25 + 0)), some (x_r (16 * 3 + 0)), some (x_i a), none, none, none] [] (al, ro, fl (ml M [3] [N])) _ _ _ _
  rw [G0_restsOf] at hG
  refine e_iconst (pc := 0) dX0_restsOf_0 (x_R rfl) ?_
  refine e_istoren (pc := 1) (i := 3) dX0_restsOf_1 rfl (by decide) rfl ?_
  show Ev g _ _ _ _ _ _ 2 [some (x_r (16 * 25 + 0)), some (x_r (16 * 3 + 0)), some (x_i a), some (x_i 0), none, none] [] (al, ro, fl (ml M [3] [N])) _ _ _ _
  refine e_iconst (pc := 2) dX0_restsOf_2 (x_R rfl) ?_
  refine e_istore (pc := 3) (i := 4) dX0_restsOf_3 (by decide) rfl ?_
  show Ev g _ _ _ _ _ _ 5 [some (x_r (16 * 25 + 0)), some (x_r (16 * 3 + 0)), some (x_i a), some (x_i 0), some (x_i 0), none] [] (al, ro, fl (ml M [3] [N])) _ _ _ _
  obtain ⟨v3, hl4, hG⟩ := x_bd1 hG
  have hk4 : ∀ q : Int, q = v3 → Ev g yX0_restsOf cX0_restsOf 6 (some .int) [] 3 70 [some (x_r (16 * 25 + 0)), some (x_r (16 * 3 + 0)), some (x_i a), some (x_i q), none, none] [] (al, ro, fl (ml M [3] [N])) 0 0 (.inl (some (x_i t))) (al, ro, fl (ml M [3] [N])) := by
    intro q hq
    replace hq := hq.symm
    subst hq
    refine e_iloadn (pc := 70) (i := 3) dX0_restsOf_70 rfl rfl ?_
    cases hG
    exact (e_ireturn rfl dX0_restsOf_71 rfl)
  clear hG
  refine e_whl (G0_restsOf_L5 a N) (fun z : (Int × Int) => Ev g yX0_restsOf cX0_restsOf 6 (some .int) [] 3 5 [some (x_r (16 * 25 + 0)), some (x_r (16 * 3 + 0)), some (x_i a), some (x_i z.1), some (x_i z.2), none] [] (al, ro, fl (ml M [3] [N])) 0 0 (.inl (some (x_i t))) (al, ro, fl (ml M [3] [N]))) (fun q => q = v3) ?_ xFU (0, 0) _ hl4 rfl
  intro z t4 hf4 hi4 hx4
  obtain ⟨v1, v2⟩ := z
  rw [G0_restsOf_L5] at hf4
  show Ev g _ _ _ _ _ _ 5 [some (x_r (16 * 25 + 0)), some (x_r (16 * 3 + 0)), some (x_i a), some (x_i v1), some (x_i v2), none] [] (al, ro, fl (ml M [3] [N])) _ _ _ _
  refine e_iload (pc := 5) dX0_restsOf_5 rfl ?_
  refine e_iconst (pc := 7) dX0_restsOf_7 (x_R rfl) ?_
  refine e_icmp_ge (pc := 8) (tgt := 70) dX0_restsOf_8 (by decide) (fun hb => ?_) (fun hb => ?_)
  · rw [if_pos hb] at hf4
    cases hf4
    refine e_drop (i := 4) ?_
    have hh := hk4 _ (hx4 _ rfl)
    try dsimp only at hh
    exact hh
  · rw [if_neg hb] at hf4
    refine e_aloadn (pc := 11) (i := 1) dX0_restsOf_11 rfl rfl ?_
    refine e_iloadn (pc := 12) (i := 2) dX0_restsOf_12 rfl rfl ?_
    refine e_iload (pc := 13) dX0_restsOf_13 rfl ?_
    obtain ⟨v6, hq6, hf4⟩ := x_bd1 hf4
    refine e_invS (pc := 15) (K1 := 0) (S1 := 0) (K := 0) (S := 0) (dd2 := 2) (av := [x_r (16 * 3 + 0), x_i a, x_i v2]) (st := []) dX0_restsOf_15 xmX0_80 rfl (f_cal (M := M) (us2 := [3]) [0] hn rfl (And.intro rfl trivial) rfl rfl rfl (c_X0_gainOfMonk hst hs   hq6)) (by decide) (Nat.le_of_ble_eq_true rfl) (Or.inl rfl) ?_
    show Ev g _ _ _ _ _ _ 18 [some (x_r (16 * 25 + 0)), some (x_r (16 * 3 + 0)), some (x_i a), some (x_i v1), some (x_i v2), none] [x_i v6] (al, ro, fl (ml M [3] [N])) _ _ _ _
    refine e_aloadn (pc := 18) (i := 1) dX0_restsOf_18 rfl rfl ?_
    refine e_iloadn (pc := 19) (i := 2) dX0_restsOf_19 rfl rfl ?_
    refine e_iload (pc := 20) dX0_restsOf_20 rfl ?_
    refine e_iconst (pc := 22) dX0_restsOf_22 (x_R rfl) ?_
    refine e_ixor (pc := 23) dX0_restsOf_23 ?_
    obtain ⟨v8, hq8, hf4⟩ := x_bd1 hf4
    refine e_invS (pc := 24) (K1 := 0) (S1 := 0) (K := 0) (S := 0) (dd2 := 2) (av := [x_r (16 * 3 + 0), x_i a, x_i (x_xor v2 2)]) (st := [x_i v6]) dX0_restsOf_24 xmX0_80 rfl (f_cal (M := M) (us2 := [3]) [0] hn rfl (And.intro rfl trivial) rfl rfl rfl (c_X0_gainOfMonk hst hs   hq8)) (by decide) (Nat.le_of_ble_eq_true rfl) (Or.inl rfl) ?_
    show Ev g _ _ _ _ _ _ 27 [some (x_r (16 * 25 + 0)), some (x_r (16 * 3 + 0)), some (x_i a), some (x_i v1), some (x_i v2), none] [x_i v8, x_i v6] (al, ro, fl (ml M [3] [N])) _ _ _ _
    obtain ⟨v10, hr10, hf4⟩ := x_bd1 hf4
    have hjhr10 : Ev g yX0_restsOf cX0_restsOf 6 (some .int) [] 3 35 [some (x_r (16 * 25 + 0)), some (x_r (16 * 3 + 0)), some (x_i a), some (x_i v1), some (x_i v2), none] [x_i v10] (al, ro, fl (ml M [3] [N])) 0 0 (.inl (some (x_i t))) (al, ro, fl (ml M [3] [N])) := by
      refine e_istore (pc := 35) (i := 5) dX0_restsOf_35 (by decide) rfl ?_
      show Ev g _ _ _ _ _ _ 37 [some (x_r (16 * 25 + 0)), some (x_r (16 * 3 + 0)), some (x_i a), some (x_i v1), some (x_i v2), some (x_i v10)] [] (al, ro, fl (ml M [3] [N])) _ _ _ _
      refine e_iload (pc := 37) dX0_restsOf_37 rfl ?_
      obtain ⟨v12, hr12, hf4⟩ := x_bd1 hf4
      have hjhr12 : Ev g yX0_restsOf cX0_restsOf 6 (some .int) [] 3 64 [some (x_r (16 * 25 + 0)), some (x_r (16 * 3 + 0)), some (x_i a), some (x_i v12), some (x_i v2), some (x_i v10)] [] (al, ro, fl (ml M [3] [N])) 0 0 (.inl (some (x_i t))) (al, ro, fl (ml M [3] [N])) := by
        refine e_iinc (pc := 64) dX0_restsOf_64 rfl (by decide) rfl ?_
        show Ev g _ _ _ _ _ _ 67 [some (x_r (16 * 25 + 0)), some (x_r (16 * 3 + 0)), some (x_i a), some (x_i v12), some (x_i (x_add v2 1)), some (x_i v10)] [] (al, ro, fl (ml M [3] [N])) _ _ _ _
        refine e_goto (pc := 67) (tgt := 5) dX0_restsOf_67 (by decide) ?_
        cases hf4
        refine e_drop (i := 5) ?_
        have hh := hi4 _ rfl
        try dsimp only at hh
        exact hh
      clear hf4
      refine e_if_eq (pc := 39) (tgt := 64) dX0_restsOf_39 (by decide) (fun hb => ?_) (fun hb => ?_)
      · rw [if_pos hb] at hr12
        cases hr12
        exact hjhr12
      · rw [if_neg hb] at hr12
        refine e_iload (pc := 42) dX0_restsOf_42 rfl ?_
        obtain ⟨v14, hq14, hr12⟩ := x_bd1 hr12
        refine e_invS (pc := 44) (K1 := 0) (S1 := 0) (K := 0) (S := 0) (dd2 := 0) (av := [x_i v2]) (st := []) dX0_restsOf_44 xmX0_83 rfl (f_cal (M := M) (us2 := []) [] hn rfl trivial rfl rfl rfl (c_X0_gainOfGardener hst hs   hq14)) (by decide) (Nat.le_of_ble_eq_true rfl) (Or.inl rfl) ?_
        show Ev g _ _ _ _ _ _ 47 [some (x_r (16 * 25 + 0)), some (x_r (16 * 3 + 0)), some (x_i a), some (x_i v1), some (x_i v2), some (x_i v10)] [x_i v14] (al, ro, fl (ml M [3] [N])) _ _ _ _
        refine e_iload (pc := 47) dX0_restsOf_47 rfl ?_
        refine e_iconst (pc := 49) dX0_restsOf_49 (x_R rfl) ?_
        refine e_ixor (pc := 50) dX0_restsOf_50 ?_
        obtain ⟨v16, hq16, hr12⟩ := x_bd1 hr12
        refine e_invS (pc := 51) (K1 := 0) (S1 := 0) (K := 0) (S := 0) (dd2 := 0) (av := [x_i (x_xor v2 1)]) (st := [x_i v14]) dX0_restsOf_51 xmX0_83 rfl (f_cal (M := M) (us2 := []) [] hn rfl trivial rfl rfl rfl (c_X0_gainOfGardener hst hs   hq16)) (by decide) (Nat.le_of_ble_eq_true rfl) (Or.inl rfl) ?_
        show Ev g _ _ _ _ _ _ 54 [some (x_r (16 * 25 + 0)), some (x_r (16 * 3 + 0)), some (x_i a), some (x_i v1), some (x_i v2), some (x_i v10)] [x_i v16, x_i v14] (al, ro, fl (ml M [3] [N])) _ _ _ _
        refine e_icmp_lt (pc := 54) (tgt := 64) dX0_restsOf_54 (by decide) (fun hb => ?_) (fun hb => ?_)
        · rw [if_pos hb] at hr12
          cases hr12
          exact hjhr12
        · rw [if_neg hb] at hr12
          refine e_iloadn (pc := 57) (i := 3) dX0_restsOf_57 rfl rfl ?_
          refine e_iconst (pc := 58) dX0_restsOf_58 (x_R rfl) ?_
          refine e_iload (pc := 59) dX0_restsOf_59 rfl ?_
          refine e_ishl (pc := 61) dX0_restsOf_61 ?_
          refine e_ior (pc := 62) dX0_restsOf_62 ?_
          refine e_istoren (pc := 63) (i := 3) dX0_restsOf_63 rfl (by decide) rfl ?_
          show Ev g _ _ _ _ _ _ 64 [some (x_r (16 * 25 + 0)), some (x_r (16 * 3 + 0)), some (x_i a), some (x_i (x_or v1 (x_shl 1 v2))), some (x_i v2), some (x_i v10)] [] (al, ro, fl (ml M [3] [N])) _ _ _ _
          cases hr12
          exact hjhr12
    clear hf4
    refine e_icmp_lt (pc := 27) (tgt := 34) dX0_restsOf_27 (by decide) (fun hb => ?_) (fun hb => ?_)
    · rw [if_pos hb] at hr10
      refine e_iconst (pc := 34) dX0_restsOf_34 (x_R rfl) ?_
      cases hr10
      exact hjhr10
    · rw [if_neg hb] at hr10
      refine e_iconst (pc := 30) dX0_restsOf_30 (x_R rfl) ?_
      refine e_goto (pc := 31) (tgt := 35) dX0_restsOf_31 (by decide) ?_
      cases hr10
      exact hjhr10
set_option maxRecDepth 100000 in
set_option maxHeartbeats 4000000 in
theorem c_X1_put {g : xG} {al : List (Nat × Nat × Nat)} {ro : Nat → Nat → Option Nat} (hst : g.1.stackTraces = false) (hs : SH al ro) {u : Nat} (hu : 3 ≤ u ∧ u ≤ 18) {M : Nat → xU} {a : Int} {b : Int} {c : Int} {C : xU}  {t : xU} (hG : G1_put a b c C = some t) :
    Cal g yX1_put cX1_put 5 none 0 [x_r (16 * u + 0), x_i a, x_i b, x_i c] (al, ro, fl (ml M [u] [C])) 0 0 (.inl none) (al, ro, fl (ml M [u] [t])) := by
  have hn : ([u] : List Nat).Nodup := by simp
  refine cal_of_ev (plainFor_of_name (by decide)) (x_c1 rfl) (Nat.le_of_ble_eq_true rfl) hst ?_
  show Ev g _ _ _ _ _ _ 0 [some (x_r (16 * u + 0)), some (x_i a), some (x_i b), some (x_i c), none] [] (al, ro, fl (ml M [u] [C])) _ _ _ _
  rw [G1_put] at hG
  refine e_iloadn (pc := 0) (i := 1) dX1_put_0 rfl rfl ?_
  refine e_bipush (pc := 1) dX1_put_1 (by decide +kernel) (x_R rfl) ?_
  refine e_imul (pc := 3) dX1_put_3 ?_
  refine e_iloadn (pc := 4) (i := 2) dX1_put_4 rfl rfl ?_
  refine e_iadd (pc := 5) dX1_put_5 ?_
  refine e_istore (pc := 6) (i := 4) dX1_put_6 (by decide) rfl ?_
  show Ev g _ _ _ _ _ _ 8 [some (x_r (16 * u + 0)), some (x_i a), some (x_i b), some (x_i c), some (x_i (x_add (x_mul a 7) b))] [] (al, ro, fl (ml M [u] [C])) _ _ _ _
  refine e_iload (pc := 8) dX1_put_8 rfl ?_
  obtain ⟨C1, hr1, hG⟩ := x_bd1 hG
  have hjhr1 : Ev g yX1_put cX1_put 5 none [] 0 31 [some (x_r (16 * u + 0)), some (x_i a), some (x_i b), some (x_i c), some (x_i (x_add (x_mul a 7) b))] [] (al, ro, fl (ml M [u] [C1])) 0 0 (.inl none) (al, ro, fl (ml M [u] [t])) := by
    cases hG
    exact (e_return rfl dX1_put_31)
  clear hG
  refine e_if_lt (pc := 10) (tgt := 31) dX1_put_10 (by decide) (fun hb => ?_) (fun hb => ?_)
  · rw [if_pos hb] at hr1
    cases hr1
    exact hjhr1
  · rw [if_neg hb] at hr1
    refine e_iload (pc := 13) dX1_put_13 rfl ?_
    refine e_aloadn (pc := 15) (i := 0) dX1_put_15 rfl rfl ?_
    refine f_getr (pc := 16) (u := u) (q := 0) dX1_put_16 xf1_9 (sc_a0 hs hu) rfl (sc_r0_0 hs hu) ?_
    refine e_alen_i (pc := 19) (id := 16 * u + 1) (len := 56) dX1_put_19 (sc_a1 hs hu) (by decide) ?_
    show Ev g _ _ _ _ _ _ 20 [some (x_r (16 * u + 0)), some (x_i a), some (x_i b), some (x_i c), some (x_i (x_add (x_mul a 7) b))] [x_i 56, x_i (x_add (x_mul a 7) b)] (al, ro, fl (ml M [u] [C])) _ _ _ _
    refine e_icmp_ge (pc := 20) (tgt := 31) dX1_put_20 (by decide) (fun hb => ?_) (fun hb => ?_)
    · rw [if_pos hb] at hr1
      cases hr1
      exact hjhr1
    · rw [if_neg hb] at hr1
      refine e_aloadn (pc := 23) (i := 0) dX1_put_23 rfl rfl ?_
      refine f_getr (pc := 24) (u := u) (q := 0) dX1_put_24 xf1_9 (sc_a0 hs hu) rfl (sc_r0_0 hs hu) ?_
      refine e_iload (pc := 27) dX1_put_27 rfl ?_
      refine e_iloadn (pc := 29) (i := 3) dX1_put_29 rfl rfl ?_
      obtain ⟨hc0, hr1⟩ := x_gd_some hr1
      refine f_iast (pc := 30) (k := 0) (u := u) (q := 1) (len := 56) dX1_put_30 (sc_a1 hs hu) hc0 hn rfl rfl rfl (by decide) ?_
      show Ev g _ _ _ _ _ _ 31 [some (x_r (16 * u + 0)), some (x_i a), some (x_i b), some (x_i c), some (x_i (x_add (x_mul a 7) b))] [] (al, ro, fl (ml M [u] [(x_up C 1 ((x_add (x_mul a 7) b)).toNat c)])) _ _ _ _
      cases hr1
      exact hjhr1
set_option maxRecDepth 100000 in
set_option maxHeartbeats 4000000 in
theorem c_X1_storeOf {g : xG} {al : List (Nat × Nat × Nat)} {ro : Nat → Nat → Option Nat} (hst : g.1.stackTraces = false) (hs : SH al ro) {u : Nat} (hu : 3 ≤ u ∧ u ≤ 18) {M : Nat → xU} {a : Int} {C : xU}  {t : Int} (hG : G1_storeOf a C = some t) :
    Cal g yX1_storeOf cX1_storeOf 2 (some .int) 0 [x_r (16 * u + 0), x_i a] (al, ro, fl (ml M [u] [C])) 0 0 (.inl (some (x_i t))) (al, ro, fl (ml M [u] [C])) := by
  have hn : ([u] : List Nat).Nodup := by simp
  refine cal_of_ev (plainFor_of_name (by decide)) (x_c1 rfl) (Nat.le_of_ble_eq_true rfl) hst ?_
  show Ev g _ _ _ _ _ _ 0 [some (x_r (16 * u + 0)), some (x_i a)] [] (al, ro, fl (ml M [u] [C])) _ _ _ _
  rw [G1_storeOf] at hG
  refine e_iloadn (pc := 0) (i := 1) dX1_storeOf_0 rfl rfl ?_
  obtain ⟨v1, hr1, hG⟩ := x_bd1 hG
  have hjhr1 : Ev g yX1_storeOf cX1_storeOf 2 (some .int) [] 0 23 [some (x_r (16 * u + 0)), some (x_i a)] [x_i v1] (al, ro, fl (ml M [u] [C])) 0 0 (.inl (some (x_i t))) (al, ro, fl (ml M [u] [C])) := by
    cases hG
    exact (e_ireturn rfl dX1_storeOf_23 rfl)
  clear hG
  refine e_if_lt (pc := 1) (tgt := 22) dX1_storeOf_1 (by decide) (fun hb => ?_) (fun hb => ?_)
  · rw [if_pos hb] at hr1
    refine e_iconst (pc := 22) dX1_storeOf_22 (x_R rfl) ?_
    cases hr1
    exact hjhr1
  · rw [if_neg hb] at hr1
    refine e_iloadn (pc := 4) (i := 1) dX1_storeOf_4 rfl rfl ?_
    refine e_aloadn (pc := 5) (i := 0) dX1_storeOf_5 rfl rfl ?_
    refine f_getr (pc := 6) (u := u) (q := 0) dX1_storeOf_6 xf1_15 (sc_a0 hs hu) rfl (sc_r0_1 hs hu) ?_
    refine e_alen_i (pc := 9) (id := 16 * u + 2) (len := 4) dX1_storeOf_9 (sc_a2 hs hu) (by decide) ?_
    show Ev g _ _ _ _ _ _ 10 [some (x_r (16 * u + 0)), some (x_i a)] [x_i 4, x_i a] (al, ro, fl (ml M [u] [C])) _ _ _ _
    refine e_icmp_ge (pc := 10) (tgt := 22) dX1_storeOf_10 (by decide) (fun hb => ?_) (fun hb => ?_)
    · rw [if_pos hb] at hr1
      refine e_iconst (pc := 22) dX1_storeOf_22 (x_R rfl) ?_
      cases hr1
      exact hjhr1
    · rw [if_neg hb] at hr1
      refine e_aloadn (pc := 13) (i := 0) dX1_storeOf_13 rfl rfl ?_
      refine f_getr (pc := 14) (u := u) (q := 0) dX1_storeOf_14 xf1_15 (sc_a0 hs hu) rfl (sc_r0_1 hs hu) ?_
      refine e_iloadn (pc := 17) (i := 1) dX1_storeOf_17 rfl rfl ?_
      obtain ⟨hc0, hr1⟩ := x_gd_some hr1
      refine f_iald (pc := 18) (k := 0) (u := u) (q := 2) (len := 4) dX1_storeOf_18 (sc_a2 hs hu) hc0 hn rfl rfl (by decide) ?_
      show Ev g _ _ _ _ _ _ 19 [some (x_r (16 * u + 0)), some (x_i a)] [x_i (C 2 (a).toNat)] (al, ro, fl (ml M [u] [C])) _ _ _ _
      refine e_goto (pc := 19) (tgt := 23) dX1_storeOf_19 (by decide) ?_
      cases hr1
      exact hjhr1
set_option maxRecDepth 100000 in
set_option maxHeartbeats 4000000 in
theorem c_X1_putStore {g : xG} {al : List (Nat × Nat × Nat)} {ro : Nat → Nat → Option Nat} (hst : g.1.stackTraces = false) (hs : SH al ro) {u : Nat} (hu : 3 ≤ u ∧ u ≤ 18) {M : Nat → xU} {a : Int} {b : Int} {C : xU}  {t : xU} (hG : G1_putStore a b C = some t) :
    Cal g yX1_putStore cX1_putStore 3 none 0 [x_r (16 * u + 0), x_i a, x_i b] (al, ro, fl (ml M [u] [C])) 0 0 (.inl none) (al, ro, fl (ml M [u] [t])) := by
  have hn : ([u] : List Nat).Nodup := by simp
  refine cal_of_ev (plainFor_of_name (by decide)) (x_c1 rfl) (Nat.le_of_ble_eq_true rfl) hst ?_
  show Ev g _ _ _ _ _ _ 0 [some (x_r (16 * u + 0)), some (x_i a), some (x_i b)] [] (al, ro, fl (ml M [u] [C])) _ _ _ _
  rw [G1_putStore] at hG
  refine e_iloadn (pc := 0) (i := 1) dX1_putStore_0 rfl rfl ?_
  obtain ⟨C1, hr1, hG⟩ := x_bd1 hG
  have hjhr1 : Ev g yX1_putStore cX1_putStore 3 none [] 0 20 [some (x_r (16 * u + 0)), some (x_i a), some (x_i b)] [] (al, ro, fl (ml M [u] [C1])) 0 0 (.inl none) (al, ro, fl (ml M [u] [t])) := by
    cases hG
    exact (e_return rfl dX1_putStore_20)
  clear hG
  refine e_if_lt (pc := 1) (tgt := 20) dX1_putStore_1 (by decide) (fun hb => ?_) (fun hb => ?_)
  · rw [if_pos hb] at hr1
    cases hr1
    exact hjhr1
  · rw [if_neg hb] at hr1
    refine e_iloadn (pc := 4) (i := 1) dX1_putStore_4 rfl rfl ?_
    refine e_aloadn (pc := 5) (i := 0) dX1_putStore_5 rfl rfl ?_
    refine f_getr (pc := 6) (u := u) (q := 0) dX1_putStore_6 xf1_15 (sc_a0 hs hu) rfl (sc_r0_1 hs hu) ?_
    refine e_alen_i (pc := 9) (id := 16 * u + 2) (len := 4) dX1_putStore_9 (sc_a2 hs hu) (by decide) ?_
    show Ev g _ _ _ _ _ _ 10 [some (x_r (16 * u + 0)), some (x_i a), some (x_i b)] [x_i 4, x_i a] (al, ro, fl (ml M [u] [C])) _ _ _ _
    refine e_icmp_ge (pc := 10) (tgt := 20) dX1_putStore_10 (by decide) (fun hb => ?_) (fun hb => ?_)
    · rw [if_pos hb] at hr1
      cases hr1
      exact hjhr1
    · rw [if_neg hb] at hr1
      refine e_aloadn (pc := 13) (i := 0) dX1_putStore_13 rfl rfl ?_
      refine f_getr (pc := 14) (u := u) (q := 0) dX1_putStore_14 xf1_15 (sc_a0 hs hu) rfl (sc_r0_1 hs hu) ?_
      refine e_iloadn (pc := 17) (i := 1) dX1_putStore_17 rfl rfl ?_
      refine e_iloadn (pc := 18) (i := 2) dX1_putStore_18 rfl rfl ?_
      obtain ⟨hc0, hr1⟩ := x_gd_some hr1
      refine f_iast (pc := 19) (k := 0) (u := u) (q := 2) (len := 4) dX1_putStore_19 (sc_a2 hs hu) hc0 hn rfl rfl rfl (by decide) ?_
      show Ev g _ _ _ _ _ _ 20 [some (x_r (16 * u + 0)), some (x_i a), some (x_i b)] [] (al, ro, fl (ml M [u] [(x_up C 2 (a).toNat b)])) _ _ _ _
      cases hr1
      exact hjhr1
set_option maxRecDepth 100000 in
set_option maxHeartbeats 4000000 in
theorem c_X1_addStore {g : xG} {al : List (Nat × Nat × Nat)} {ro : Nat → Nat → Option Nat} (hst : g.1.stackTraces = false) (hs : SH al ro) {u : Nat} (hu : 3 ≤ u ∧ u ≤ 18) {M : Nat → xU} {a : Int} {b : Int} {C : xU}  {t : xU} (hG : G1_addStore a b C = some t) :
    Cal g yX1_addStore cX1_addStore 3 none 1 [x_r (16 * u + 0), x_i a, x_i b] (al, ro, fl (ml M [u] [C])) 0 0 (.inl none) (al, ro, fl (ml M [u] [t])) := by
  have hn : ([u] : List Nat).Nodup := by simp
  refine cal_of_ev (plainFor_of_name (by decide)) (x_c1 rfl) (Nat.le_of_ble_eq_true rfl) hst ?_
  show Ev g _ _ _ _ _ _ 0 [some (x_r (16 * u + 0)), some (x_i a), some (x_i b)] [] (al, ro, fl (ml M [u] [C])) _ _ _ _
  rw [G1_addStore] at hG
  refine e_aloadn (pc := 0) (i := 0) dX1_addStore_0 rfl rfl ?_
  refine e_iloadn (pc := 1) (i := 1) dX1_addStore_1 rfl rfl ?_
  refine e_sipush (pc := 2) dX1_addStore_2 (by decide +kernel) (x_R rfl) ?_
  refine e_aloadn (pc := 5) (i := 0) dX1_addStore_5 rfl rfl ?_
  refine e_iloadn (pc := 6) (i := 1) dX1_addStore_6 rfl rfl ?_
  obtain ⟨v1, hq1, hG⟩ := x_bd1 hG
  refine e_invV (pc := 7) (K1 := 0) (S1 := 0) (K := 0) (S := 0) (dd2 := 0) (av := [x_i a]) (st := [x_i 999, x_i a, x_r (16 * u + 0)]) (id := 16 * u + 0) dX1_addStore_7 xmX1_61 rfl (Or.inl ⟨1, 12, TX1, (sc_a0 hs hu), rfl, by decide⟩) (f_cal (M := M) (us2 := [u]) [0] hn rfl (And.intro rfl trivial) rfl rfl rfl (c_X1_storeOf hst hs hu  hq1)) (by decide) (Nat.le_of_ble_eq_true rfl) (Or.inl rfl) ?_
  show Ev g _ _ _ _ _ _ 10 [some (x_r (16 * u + 0)), some (x_i a), some (x_i b)] [x_i v1, x_i 999, x_i a, x_r (16 * u + 0)] (al, ro, fl (ml M [u] [C])) _ _ _ _
  refine e_iloadn (pc := 10) (i := 2) dX1_addStore_10 rfl rfl ?_
  refine e_iadd (pc := 11) dX1_addStore_11 ?_
  refine e_invS (pc := 12) (K1 := 0) (S1 := 0) (K := 0) (S := 0) (dd2 := 0) (av := [x_i 999, x_i (x_add v1 b)]) (st := [x_i a, x_r (16 * u + 0)]) dX1_addStore_12 xmX1_65 rfl (p_min hst hs) (by decide) (Nat.le_of_ble_eq_true rfl) (Or.inl rfl) ?_
  show Ev g _ _ _ _ _ _ 15 [some (x_r (16 * u + 0)), some (x_i a), some (x_i b)] [x_i (min 999 (x_add v1 b)), x_i a, x_r (16 * u + 0)] (al, ro, fl (ml M [u] [C])) _ _ _ _
  obtain ⟨C3, hq3, hG⟩ := x_bd1 hG
  refine e_invV (pc := 15) (K1 := 0) (S1 := 0) (K := 0) (S := 0) (dd2 := 0) (av := [x_i a, x_i (min 999 (x_add v1 b))]) (st := []) (id := 16 * u + 0) dX1_addStore_15 xmX1_71 rfl (Or.inl ⟨1, 12, TX1, (sc_a0 hs hu), rfl, by decide⟩) (f_cal (M := M) (us2 := [u]) [0] hn rfl (And.intro rfl trivial) rfl rfl rfl (c_X1_putStore hst hs hu  hq3)) (by decide) (Nat.le_of_ble_eq_true rfl) (Or.inl rfl) ?_
  show Ev g _ _ _ _ _ _ 18 [some (x_r (16 * u + 0)), some (x_i a), some (x_i b)] [] (al, ro, fl (ml M [u] [C3])) _ _ _ _
  cases hG
  exact (e_return rfl dX1_addStore_18)
set_option maxRecDepth 100000 in
set_option maxHeartbeats 4000000 in
theorem c_X1_storeOfAll {g : xG} {al : List (Nat × Nat × Nat)} {ro : Nat → Nat → Option Nat} (hst : g.1.stackTraces = false) (hs : SH al ro) {u : Nat} (hu : 3 ≤ u ∧ u ≤ 18) {M : Nat → xU} {C : xU}  {t : Int} (hG : G1_storeOfAll C = some t) :
    Cal g yX1_storeOfAll cX1_storeOfAll 6 (some .int) 0 [x_r (16 * u + 0)] (al, ro, fl (ml M [u] [C])) 0 0 (.inl (some (x_i t))) (al, ro, fl (ml M [u] [C])) := by
  have hn : ([u] : List Nat).Nodup := by simp
  refine cal_of_ev (plainFor_of_name (by decide)) (x_c1 rfl) (Nat.le_of_ble_eq_true rfl) hst ?_
  show Ev g _ _ _ _ _ _ 0 [some (x_r (16 * u + 0)), none, none, none, none, none] [] (al, ro, fl (ml M [u] [C])) _ _ _ _
  rw [G1_storeOfAll] at hG
  refine e_iconst (pc := 0) dX1_storeOfAll_0 (x_R rfl) ?_
  refine e_istoren (pc := 1) (i := 1) dX1_storeOfAll_1 rfl (by decide) rfl ?_
  show Ev g _ _ _ _ _ _ 2 [some (x_r (16 * u + 0)), some (x_i 0), none, none, none, none] [] (al, ro, fl (ml M [u] [C])) _ _ _ _
  refine e_aloadn (pc := 2) (i := 0) dX1_storeOfAll_2 rfl rfl ?_
  refine f_getr (pc := 3) (u := u) (q := 0) dX1_storeOfAll_3 xf1_15 (sc_a0 hs hu) rfl (sc_r0_1 hs hu) ?_
  refine e_astoren (pc := 6) (i := 2) dX1_storeOfAll_6 rfl (by decide) rfl ?_
  show Ev g _ _ _ _ _ _ 7 [some (x_r (16 * u + 0)), some (x_i 0), some (x_r (16 * u + 2)), none, none, none] [] (al, ro, fl (ml M [u] [C])) _ _ _ _
  refine e_aloadn (pc := 7) (i := 2) dX1_storeOfAll_7 rfl rfl ?_
  refine e_alen_i (pc := 8) (id := 16 * u + 2) (len := 4) dX1_storeOfAll_8 (sc_a2 hs hu) (by decide) ?_
  show Ev g _ _ _ _ _ _ 9 [some (x_r (16 * u + 0)), some (x_i 0), some (x_r (16 * u + 2)), none, none, none] [x_i 4] (al, ro, fl (ml M [u] [C])) _ _ _ _
  refine e_istoren (pc := 9) (i := 3) dX1_storeOfAll_9 rfl (by decide) rfl ?_
  show Ev g _ _ _ _ _ _ 10 [some (x_r (16 * u + 0)), some (x_i 0), some (x_r (16 * u + 2)), some (x_i 4), none, none] [] (al, ro, fl (ml M [u] [C])) _ _ _ _
  refine e_iconst (pc := 10) dX1_storeOfAll_10 (x_R rfl) ?_
  refine e_istore (pc := 11) (i := 4) dX1_storeOfAll_11 (by decide) rfl ?_
  show Ev g _ _ _ _ _ _ 13 [some (x_r (16 * u + 0)), some (x_i 0), some (x_r (16 * u + 2)), some (x_i 4), some (x_i 0), none] [] (al, ro, fl (ml M [u] [C])) _ _ _ _
  obtain ⟨v3, hl4, hG⟩ := x_bd1 hG
  have hk4 : ∀ q : Int, q = v3 → Ev g yX1_storeOfAll cX1_storeOfAll 6 (some .int) [] 0 36 [some (x_r (16 * u + 0)), some (x_i q), some (x_r (16 * u + 2)), some (x_i 4), none, none] [] (al, ro, fl (ml M [u] [C])) 0 0 (.inl (some (x_i t))) (al, ro, fl (ml M [u] [C])) := by
    intro q hq
    replace hq := hq.symm
    subst hq
    refine e_iloadn (pc := 36) (i := 1) dX1_storeOfAll_36 rfl rfl ?_
    cases hG
    exact (e_ireturn rfl dX1_storeOfAll_37 rfl)
  clear hG
  refine e_whl (G1_storeOfAll_L13 C) (fun z : (Int × Int) => Ev g yX1_storeOfAll cX1_storeOfAll 6 (some .int) [] 0 13 [some (x_r (16 * u + 0)), some (x_i z.1), some (x_r (16 * u + 2)), some (x_i 4), some (x_i z.2), none] [] (al, ro, fl (ml M [u] [C])) 0 0 (.inl (some (x_i t))) (al, ro, fl (ml M [u] [C]))) (fun q => q = v3) ?_ xFU (0, 0) _ hl4 rfl
  intro z t4 hf4 hi4 hx4
  obtain ⟨v1, v2⟩ := z
  rw [G1_storeOfAll_L13] at hf4
  show Ev g _ _ _ _ _ _ 13 [some (x_r (16 * u + 0)), some (x_i v1), some (x_r (16 * u + 2)), some (x_i 4), some (x_i v2), none] [] (al, ro, fl (ml M [u] [C])) _ _ _ _
  refine e_iload (pc := 13) dX1_storeOfAll_13 rfl ?_
  refine e_iloadn (pc := 15) (i := 3) dX1_storeOfAll_15 rfl rfl ?_
  refine e_icmp_ge (pc := 16) (tgt := 36) dX1_storeOfAll_16 (by decide) (fun hb => ?_) (fun hb => ?_)
  · rw [if_pos hb] at hf4
    cases hf4
    refine e_drop (i := 4) ?_
    have hh := hk4 _ (hx4 _ rfl)
    try dsimp only at hh
    exact hh
  · rw [if_neg hb] at hf4
    refine e_aloadn (pc := 19) (i := 2) dX1_storeOfAll_19 rfl rfl ?_
    refine e_iload (pc := 20) dX1_storeOfAll_20 rfl ?_
    obtain ⟨hc0, hf4⟩ := x_gd_some hf4
    refine f_iald (pc := 22) (k := 0) (u := u) (q := 2) (len := 4) dX1_storeOfAll_22 (sc_a2 hs hu) hc0 hn rfl rfl (by decide) ?_
    show Ev g _ _ _ _ _ _ 23 [some (x_r (16 * u + 0)), some (x_i v1), some (x_r (16 * u + 2)), some (x_i 4), some (x_i v2), none] [x_i (C 2 (v2).toNat)] (al, ro, fl (ml M [u] [C])) _ _ _ _
    refine e_istore (pc := 23) (i := 5) dX1_storeOfAll_23 (by decide) rfl ?_
    show Ev g _ _ _ _ _ _ 25 [some (x_r (16 * u + 0)), some (x_i v1), some (x_r (16 * u + 2)), some (x_i 4), some (x_i v2), some (x_i (C 2 (v2).toNat))] [] (al, ro, fl (ml M [u] [C])) _ _ _ _
    refine e_iloadn (pc := 25) (i := 1) dX1_storeOfAll_25 rfl rfl ?_
    refine e_iload (pc := 26) dX1_storeOfAll_26 rfl ?_
    refine e_iadd (pc := 28) dX1_storeOfAll_28 ?_
    refine e_istoren (pc := 29) (i := 1) dX1_storeOfAll_29 rfl (by decide) rfl ?_
    show Ev g _ _ _ _ _ _ 30 [some (x_r (16 * u + 0)), some (x_i (x_add v1 (C 2 (v2).toNat))), some (x_r (16 * u + 2)), some (x_i 4), some (x_i v2), some (x_i (C 2 (v2).toNat))] [] (al, ro, fl (ml M [u] [C])) _ _ _ _
    refine e_iinc (pc := 30) dX1_storeOfAll_30 rfl (by decide) rfl ?_
    show Ev g _ _ _ _ _ _ 33 [some (x_r (16 * u + 0)), some (x_i (x_add v1 (C 2 (v2).toNat))), some (x_r (16 * u + 2)), some (x_i 4), some (x_i (x_add v2 1)), some (x_i (C 2 (v2).toNat))] [] (al, ro, fl (ml M [u] [C])) _ _ _ _
    refine e_goto (pc := 33) (tgt := 13) dX1_storeOfAll_33 (by decide) ?_
    cases hf4
    refine e_drop (i := 5) ?_
    have hh := hi4 _ rfl
    try dsimp only at hh
    exact hh
