set_option maxRecDepth 100000 in
set_option maxHeartbeats 4000000 in
theorem c_X1_eat {g : xG} {al : List (Nat × Nat × Nat)} {ro : Nat → Nat → Option Nat} (hst : g.1.stackTraces = false) (hs : SH al ro) {u : Nat} (hu : 3 ≤ u ∧ u ≤ 18) {M : Nat → xU} {a : Int} {C : xU}  {t : xU} (hG : G1_eat a C = some t) :
    Cal g yX1_eat cX1_eat 3 none 2 [x_r (16 * u + 0), x_i a] (al, ro, fl (ml M [u] [C])) 0 0 (.inl none) (al, ro, fl (ml M [u] [t])) := by
  have hn : ([u] : List Nat).Nodup := by simp
  refine cal_of_ev (plainFor_of_name (by decide)) (x_c1 rfl) (Nat.le_of_ble_eq_true rfl) hst ?_
  show Ev g _ _ _ _ _ _ 0 [some (x_r (16 * u + 0)), some (x_i a), none] [] (al, ro, fl (ml M [u] [C])) _ _ _ _
  rw [G1_eat] at hG
  refine e_aloadn (pc := 0) (i := 0) dX1_eat_0 rfl rfl ?_
  refine e_iloadn (pc := 1) (i := 1) dX1_eat_1 rfl rfl ?_
  obtain ⟨v1, hq1, hG⟩ := x_bd1 hG
  refine e_invV (pc := 2) (K1 := 0) (S1 := 0) (K := 0) (S := 0) (dd2 := 1) (av := [x_i a]) (st := []) (id := 16 * u + 0) dX1_eat_2 xmX1_122 rfl (Or.inl ⟨1, 12, TX1, (sc_a0 hs hu), rfl, by decide⟩) (f_cal (M := M) (us2 := [u]) [0] hn rfl (And.intro rfl trivial) rfl rfl rfl (c_X1_isLost hst hs hu  hq1)) (by decide) (Nat.le_of_ble_eq_true rfl) (Or.inl rfl) ?_
  show Ev g _ _ _ _ _ _ 5 [some (x_r (16 * u + 0)), some (x_i a), none] [x_i v1] (al, ro, fl (ml M [u] [C])) _ _ _ _
  refine e_if_eq (pc := 5) (tgt := 9) dX1_eat_5 (by decide) (fun hb => ?_) (fun hb => ?_)
  · rw [if_pos hb] at hG
    refine e_aloadn (pc := 9) (i := 0) dX1_eat_9 rfl rfl ?_
    refine e_iloadn (pc := 10) (i := 1) dX1_eat_10 rfl rfl ?_
    obtain ⟨v3, hq3, hG⟩ := x_bd1 hG
    refine e_invV (pc := 11) (K1 := 0) (S1 := 0) (K := 0) (S := 0) (dd2 := 1) (av := [x_i a]) (st := []) (id := 16 * u + 0) dX1_eat_11 xmX1_86 rfl (Or.inl ⟨1, 12, TX1, (sc_a0 hs hu), rfl, by decide⟩) (f_cal (M := M) (us2 := [u]) [0] hn rfl (And.intro rfl trivial) rfl rfl rfl (c_X1_walkOf hst hs hu  hq3)) (by decide) (Nat.le_of_ble_eq_true rfl) (Or.inl rfl) ?_
    show Ev g _ _ _ _ _ _ 14 [some (x_r (16 * u + 0)), some (x_i a), none] [x_i v3] (al, ro, fl (ml M [u] [C])) _ _ _ _
    refine e_istoren (pc := 14) (i := 2) dX1_eat_14 rfl (by decide) rfl ?_
    show Ev g _ _ _ _ _ _ 15 [some (x_r (16 * u + 0)), some (x_i a), some (x_i v3)] [] (al, ro, fl (ml M [u] [C])) _ _ _ _
    refine e_aloadn (pc := 15) (i := 0) dX1_eat_15 rfl rfl ?_
    refine e_iloadn (pc := 16) (i := 2) dX1_eat_16 rfl rfl ?_
    obtain ⟨v5, hq5, hG⟩ := x_bd1 hG
    refine e_invV (pc := 17) (K1 := 0) (S1 := 0) (K := 0) (S := 0) (dd2 := 0) (av := [x_i v3]) (st := []) (id := 16 * u + 0) dX1_eat_17 xmX1_61 rfl (Or.inl ⟨1, 12, TX1, (sc_a0 hs hu), rfl, by decide⟩) (f_cal (M := M) (us2 := [u]) [0] hn rfl (And.intro rfl trivial) rfl rfl rfl (c_X1_storeOf hst hs hu  hq5)) (by decide) (Nat.le_of_ble_eq_true rfl) (Or.inl rfl) ?_
    show Ev g _ _ _ _ _ _ 20 [some (x_r (16 * u + 0)), some (x_i a), some (x_i v3)] [x_i v5] (al, ro, fl (ml M [u] [C])) _ _ _ _
    obtain ⟨C7, hr7, hG⟩ := x_bd1 hG
    have hjhr7 : Ev g yX1_eat cX1_eat 3 none [] 2 61 [some (x_r (16 * u + 0)), some (x_i a), some (x_i v3)] [] (al, ro, fl (ml M [u] [C7])) 0 0 (.inl none) (al, ro, fl (ml M [u] [t])) := by
      cases hG
      exact (e_return rfl dX1_eat_61)
    clear hG
    refine e_if_le (pc := 20) (tgt := 40) dX1_eat_20 (by decide) (fun hb => ?_) (fun hb => ?_)
    · rw [if_pos hb] at hr7
      refine e_aloadn (pc := 40) (i := 0) dX1_eat_40 rfl rfl ?_
      refine e_bipush (pc := 41) dX1_eat_41 (by decide +kernel) (x_R rfl) ?_
      refine e_iloadn (pc := 43) (i := 1) dX1_eat_43 rfl rfl ?_
      refine e_bipush (pc := 44) dX1_eat_44 (by decide +kernel) (x_R rfl) ?_
      refine e_aloadn (pc := 46) (i := 0) dX1_eat_46 rfl rfl ?_
      refine e_bipush (pc := 47) dX1_eat_47 (by decide +kernel) (x_R rfl) ?_
      refine e_iloadn (pc := 49) (i := 1) dX1_eat_49 rfl rfl ?_
      obtain ⟨v9, hq9, hr7⟩ := x_bd1 hr7
      refine e_invV (pc := 50) (K1 := 0) (S1 := 0) (K := 0) (S := 0) (dd2 := 0) (av := [x_i 6, x_i a]) (st := [x_i 99, x_i a, x_i 6, x_r (16 * u + 0)]) (id := 16 * u + 0) dX1_eat_50 xmX1_79 rfl (Or.inl ⟨1, 12, TX1, (sc_a0 hs hu), rfl, by decide⟩) (f_cal (M := M) (us2 := [u]) [0] hn rfl (And.intro rfl trivial) rfl rfl rfl (c_X1_of hst hs hu  hq9)) (by decide) (Nat.le_of_ble_eq_true rfl) (Or.inl rfl) ?_
      show Ev g _ _ _ _ _ _ 53 [some (x_r (16 * u + 0)), some (x_i a), some (x_i v3)] [x_i v9, x_i 99, x_i a, x_i 6, x_r (16 * u + 0)] (al, ro, fl (ml M [u] [C])) _ _ _ _
      refine e_iconst (pc := 53) dX1_eat_53 (x_R rfl) ?_
      refine e_iadd (pc := 54) dX1_eat_54 ?_
      refine e_invS (pc := 55) (K1 := 0) (S1 := 0) (K := 0) (S := 0) (dd2 := 0) (av := [x_i 99, x_i (x_add v9 1)]) (st := [x_i a, x_i 6, x_r (16 * u + 0)]) dX1_eat_55 xmX1_65 rfl (p_min hst hs) (by decide) (Nat.le_of_ble_eq_true rfl) (Or.inl rfl) ?_
      show Ev g _ _ _ _ _ _ 58 [some (x_r (16 * u + 0)), some (x_i a), some (x_i v3)] [x_i (min 99 (x_add v9 1)), x_i a, x_i 6, x_r (16 * u + 0)] (al, ro, fl (ml M [u] [C])) _ _ _ _
      obtain ⟨C11, hq11, hr7⟩ := x_bd1 hr7
      refine e_invV (pc := 58) (K1 := 0) (S1 := 0) (K := 0) (S := 0) (dd2 := 0) (av := [x_i 6, x_i a, x_i (min 99 (x_add v9 1))]) (st := []) (id := 16 * u + 0) dX1_eat_58 xmX1_75 rfl (Or.inl ⟨1, 12, TX1, (sc_a0 hs hu), rfl, by decide⟩) (f_cal (M := M) (us2 := [u]) [0] hn rfl (And.intro rfl trivial) rfl rfl rfl (c_X1_put hst hs hu  hq11)) (by decide) (Nat.le_of_ble_eq_true rfl) (Or.inl rfl) ?_
      show Ev g _ _ _ _ _ _ 61 [some (x_r (16 * u + 0)), some (x_i a), some (x_i v3)] [] (al, ro, fl (ml M [u] [C11])) _ _ _ _
      cases hr7
      exact hjhr7
    · rw [if_neg hb] at hr7
      refine e_aloadn (pc := 23) (i := 0) dX1_eat_23 rfl rfl ?_
      refine e_iloadn (pc := 24) (i := 2) dX1_eat_24 rfl rfl ?_
      refine e_iconst (pc := 25) dX1_eat_25 (x_R rfl) ?_
      obtain ⟨C13, hq13, hr7⟩ := x_bd1 hr7
      refine e_invV (pc := 26) (K1 := 0) (S1 := 0) (K := 0) (S := 0) (dd2 := 1) (av := [x_i v3, x_i (-1)]) (st := []) (id := 16 * u + 0) dX1_eat_26 xmX1_98 rfl (Or.inl ⟨1, 12, TX1, (sc_a0 hs hu), rfl, by decide⟩) (f_cal (M := M) (us2 := [u]) [0] hn rfl (And.intro rfl trivial) rfl rfl rfl (c_X1_addStore hst hs hu  hq13)) (by decide) (Nat.le_of_ble_eq_true rfl) (Or.inl rfl) ?_
      show Ev g _ _ _ _ _ _ 29 [some (x_r (16 * u + 0)), some (x_i a), some (x_i v3)] [] (al, ro, fl (ml M [u] [C13])) _ _ _ _
      refine e_aloadn (pc := 29) (i := 0) dX1_eat_29 rfl rfl ?_
      refine e_bipush (pc := 30) dX1_eat_30 (by decide +kernel) (x_R rfl) ?_
      refine e_iloadn (pc := 32) (i := 1) dX1_eat_32 rfl rfl ?_
      refine e_iconst (pc := 33) dX1_eat_33 (x_R rfl) ?_
      obtain ⟨C15, hq15, hr7⟩ := x_bd1 hr7
      refine e_invV (pc := 34) (K1 := 0) (S1 := 0) (K := 0) (S := 0) (dd2 := 0) (av := [x_i 6, x_i a, x_i 0]) (st := []) (id := 16 * u + 0) dX1_eat_34 xmX1_75 rfl (Or.inl ⟨1, 12, TX1, (sc_a0 hs hu), rfl, by decide⟩) (f_cal (M := M) (us2 := [u]) [0] hn rfl (And.intro rfl trivial) rfl rfl rfl (c_X1_put hst hs hu  hq15)) (by decide) (Nat.le_of_ble_eq_true rfl) (Or.inl rfl) ?_
      show Ev g _ _ _ _ _ _ 37 [some (x_r (16 * u + 0)), some (x_i a), some (x_i v3)] [] (al, ro, fl (ml M [u] [C15])) _ _ _ _
      refine e_goto (pc := 37) (tgt := 61) dX1_eat_37 (by decide) ?_
      cases hr7
      exact hjhr7
  · rw [if_neg hb] at hG
    cases hG
    exact (e_return rfl dX1_eat_8)
set_option maxRecDepth 100000 in
set_option maxHeartbeats 4000000 in
theorem c_X1_holdOffice {g : xG} {al : List (Nat × Nat × Nat)} {ro : Nat → Nat → Option Nat} (hst : g.1.stackTraces = false) (hs : SH al ro) {u : Nat} (hu : 3 ≤ u ∧ u ≤ 18) {M : Nat → xU} {C : xU}  {t : (Int × xU)} (hG : G1_holdOffice C = some t) :
    Cal g yX1_holdOffice cX1_holdOffice 3 (some .int) 2 [x_r (16 * u + 0)] (al, ro, fl (ml M [u] [C])) 0 0 (.inl (some (x_i t.1))) (al, ro, fl (ml M [u] [t.2])) := by
  have hn : ([u] : List Nat).Nodup := by simp
  refine cal_of_ev (plainFor_of_name (by decide)) (x_c1 rfl) (Nat.le_of_ble_eq_true rfl) hst ?_
  show Ev g _ _ _ _ _ _ 0 [some (x_r (16 * u + 0)), none, none] [] (al, ro, fl (ml M [u] [C])) _ _ _ _
  rw [G1_holdOffice] at hG
  refine e_iconst (pc := 0) dX1_holdOffice_0 (x_R rfl) ?_
  refine e_istoren (pc := 1) (i := 1) dX1_holdOffice_1 rfl (by decide) rfl ?_
  show Ev g _ _ _ _ _ _ 2 [some (x_r (16 * u + 0)), some (x_i 0), none] [] (al, ro, fl (ml M [u] [C])) _ _ _ _
  refine e_iconst (pc := 2) dX1_holdOffice_2 (x_R rfl) ?_
  refine e_istoren (pc := 3) (i := 2) dX1_holdOffice_3 rfl (by decide) rfl ?_
  show Ev g _ _ _ _ _ _ 4 [some (x_r (16 * u + 0)), some (x_i 0), some (x_i 0)] [] (al, ro, fl (ml M [u] [C])) _ _ _ _
  obtain ⟨v4, C5, hl6, hG⟩ := x_bd2 hG
  have hk6 : ∀ q : (Int × xU), q = (v4, C5) → Ev g yX1_holdOffice cX1_holdOffice 3 (some .int) [] 2 79 [some (x_r (16 * u + 0)), some (x_i q.1), none] [] (al, ro, fl (ml M [u] [q.2])) 0 0 (.inl (some (x_i t.1))) (al, ro, fl (ml M [u] [t.2])) := by
    intro q hq
    cases hq
    refine e_iloadn (pc := 79) (i := 1) dX1_holdOffice_79 rfl rfl ?_
    cases hG
    exact (e_ireturn rfl dX1_holdOffice_80 rfl)
  clear hG
  refine e_whl G1_holdOffice_L4 (fun z : (Int × Int × xU) => Ev g yX1_holdOffice cX1_holdOffice 3 (some .int) [] 2 4 [some (x_r (16 * u + 0)), some (x_i z.1), some (x_i z.2.1)] [] (al, ro, fl (ml M [u] [z.2.2])) 0 0 (.inl (some (x_i t.1))) (al, ro, fl (ml M [u] [t.2]))) (fun q => q = (v4, C5)) ?_ xFU (0, 0, C) _ hl6 rfl
  intro z t6 hf6 hi6 hx6
  obtain ⟨v1, v2, C3⟩ := z
  rw [G1_holdOffice_L4] at hf6
  show Ev g _ _ _ _ _ _ 4 [some (x_r (16 * u + 0)), some (x_i v1), some (x_i v2)] [] (al, ro, fl (ml M [u] [C3])) _ _ _ _
  refine e_iloadn (pc := 4) (i := 2) dX1_holdOffice_4 rfl rfl ?_
  refine e_aloadn (pc := 5) (i := 0) dX1_holdOffice_5 rfl rfl ?_
  refine f_geti (pc := 6) (k := 0) (u := u) (q := 0) dX1_holdOffice_6 xf1_43 (sc_a0 hs hu) rfl hn rfl rfl (by decide) ?_
  show Ev g _ _ _ _ _ _ 9 [some (x_r (16 * u + 0)), some (x_i v1), some (x_i v2)] [x_i (C3 0 3), x_i v2] (al, ro, fl (ml M [u] [C3])) _ _ _ _
  refine e_icmp_ge (pc := 9) (tgt := 79) dX1_holdOffice_9 (by decide) (fun hb => ?_) (fun hb => ?_)
  · rw [if_pos hb] at hf6
    cases hf6
    refine e_drop (i := 2) ?_
    have hh := hk6 _ (hx6 _ rfl)
    try dsimp only at hh
    exact hh
  · rw [if_neg hb] at hf6
    refine e_aloadn (pc := 12) (i := 0) dX1_holdOffice_12 rfl rfl ?_
    refine e_iloadn (pc := 13) (i := 2) dX1_holdOffice_13 rfl rfl ?_
    refine e_aloadn (pc := 14) (i := 0) dX1_holdOffice_14 rfl rfl ?_
    refine f_geti (pc := 15) (k := 0) (u := u) (q := 0) dX1_holdOffice_15 xf1_55 (sc_a0 hs hu) rfl hn rfl rfl (by decide) ?_
    show Ev g _ _ _ _ _ _ 18 [some (x_r (16 * u + 0)), some (x_i v1), some (x_i v2)] [x_i (C3 0 7), x_i v2, x_r (16 * u + 0)] (al, ro, fl (ml M [u] [C3])) _ _ _ _
    obtain ⟨v8, hq8, hf6⟩ := x_bd1 hf6
    refine e_invV (pc := 18) (K1 := 0) (S1 := 0) (K := 0) (S := 0) (dd2 := 1) (av := [x_i v2, x_i (C3 0 7)]) (st := []) (id := 16 * u + 0) dX1_holdOffice_18 xmX1_136 rfl (Or.inl ⟨1, 12, TX1, (sc_a0 hs hu), rfl, by decide⟩) (f_cal (M := M) (us2 := [u]) [0] hn rfl (And.intro rfl trivial) rfl rfl rfl (c_X1_isAt hst hs hu  hq8)) (by decide) (Nat.le_of_ble_eq_true rfl) (Or.inl rfl) ?_
    show Ev g _ _ _ _ _ _ 21 [some (x_r (16 * u + 0)), some (x_i v1), some (x_i v2)] [x_i v8] (al, ro, fl (ml M [u] [C3])) _ _ _ _
    obtain ⟨v10, C11, hr11, hf6⟩ := x_bd2 hf6
    have hjhr11 : Ev g yX1_holdOffice cX1_holdOffice 3 (some .int) [] 2 73 [some (x_r (16 * u + 0)), some (x_i v10), some (x_i v2)] [] (al, ro, fl (ml M [u] [C11])) 0 0 (.inl (some (x_i t.1))) (al, ro, fl (ml M [u] [t.2])) := by
      refine e_iinc (pc := 73) dX1_holdOffice_73 rfl (by decide) rfl ?_
      show Ev g _ _ _ _ _ _ 76 [some (x_r (16 * u + 0)), some (x_i v10), some (x_i (x_add v2 1))] [] (al, ro, fl (ml M [u] [C11])) _ _ _ _
      refine e_goto (pc := 76) (tgt := 4) dX1_holdOffice_76 (by decide) ?_
      cases hf6
      have hh := hi6 _ rfl
      try dsimp only at hh
      exact hh
    clear hf6
    refine e_if_ne (pc := 21) (tgt := 73) dX1_holdOffice_21 (by decide) (fun hb => ?_) (fun hb => ?_)
    · rw [if_neg hb] at hr11
      cases hr11
      exact hjhr11
    · rw [if_pos hb] at hr11
      refine e_iloadn (pc := 24) (i := 1) dX1_holdOffice_24 rfl rfl ?_
      refine e_iconst (pc := 25) dX1_holdOffice_25 (x_R rfl) ?_
      refine e_iloadn (pc := 26) (i := 2) dX1_holdOffice_26 rfl rfl ?_
      refine e_ishl (pc := 27) dX1_holdOffice_27 ?_
      refine e_ior (pc := 28) dX1_holdOffice_28 ?_
      refine e_istoren (pc := 29) (i := 1) dX1_holdOffice_29 rfl (by decide) rfl ?_
      show Ev g _ _ _ _ _ _ 30 [some (x_r (16 * u + 0)), some (x_i (x_or v1 (x_shl 1 v2))), some (x_i v2)] [] (al, ro, fl (ml M [u] [C3])) _ _ _ _
      refine e_aloadn (pc := 30) (i := 0) dX1_holdOffice_30 rfl rfl ?_
      refine e_iconst (pc := 31) dX1_holdOffice_31 (x_R rfl) ?_
      refine e_iloadn (pc := 32) (i := 2) dX1_holdOffice_32 rfl rfl ?_
      refine e_sipush (pc := 33) dX1_holdOffice_33 (by decide +kernel) (x_R rfl) ?_
      refine e_aloadn (pc := 36) (i := 0) dX1_holdOffice_36 rfl rfl ?_
      refine e_iconst (pc := 37) dX1_holdOffice_37 (x_R rfl) ?_
      refine e_iloadn (pc := 38) (i := 2) dX1_holdOffice_38 rfl rfl ?_
      obtain ⟨v13, hq13, hr11⟩ := x_bd1 hr11
      refine e_invV (pc := 39) (K1 := 0) (S1 := 0) (K := 0) (S := 0) (dd2 := 0) (av := [x_i 5, x_i v2]) (st := [x_i 999, x_i v2, x_i 5, x_r (16 * u + 0)]) (id := 16 * u + 0) dX1_holdOffice_39 xmX1_79 rfl (Or.inl ⟨1, 12, TX1, (sc_a0 hs hu), rfl, by decide⟩) (f_cal (M := M) (us2 := [u]) [0] hn rfl (And.intro rfl trivial) rfl rfl rfl (c_X1_of hst hs hu  hq13)) (by decide) (Nat.le_of_ble_eq_true rfl) (Or.inl rfl) ?_
      show Ev g _ _ _ _ _ _ 42 [some (x_r (16 * u + 0)), some (x_i (x_or v1 (x_shl 1 v2))), some (x_i v2)] [x_i v13, x_i 999, x_i v2, x_i 5, x_r (16 * u + 0)] (al, ro, fl (ml M [u] [C3])) _ _ _ _
      refine e_iconst (pc := 42) dX1_holdOffice_42 (x_R rfl) ?_
      refine e_iadd (pc := 43) dX1_holdOffice_43 ?_
      refine e_invS (pc := 44) (K1 := 0) (S1 := 0) (K := 0) (S := 0) (dd2 := 0) (av := [x_i 999, x_i (x_add v13 1)]) (st := [x_i v2, x_i 5, x_r (16 * u + 0)]) dX1_holdOffice_44 xmX1_65 rfl (p_min hst hs) (by decide) (Nat.le_of_ble_eq_true rfl) (Or.inl rfl) ?_
      show Ev g _ _ _ _ _ _ 47 [some (x_r (16 * u + 0)), some (x_i (x_or v1 (x_shl 1 v2))), some (x_i v2)] [x_i (min 999 (x_add v13 1)), x_i v2, x_i 5, x_r (16 * u + 0)] (al, ro, fl (ml M [u] [C3])) _ _ _ _
      obtain ⟨C15, hq15, hr11⟩ := x_bd1 hr11
      refine e_invV (pc := 47) (K1 := 0) (S1 := 0) (K := 0) (S := 0) (dd2 := 0) (av := [x_i 5, x_i v2, x_i (min 999 (x_add v13 1))]) (st := []) (id := 16 * u + 0) dX1_holdOffice_47 xmX1_75 rfl (Or.inl ⟨1, 12, TX1, (sc_a0 hs hu), rfl, by decide⟩) (f_cal (M := M) (us2 := [u]) [0] hn rfl (And.intro rfl trivial) rfl rfl rfl (c_X1_put hst hs hu  hq15)) (by decide) (Nat.le_of_ble_eq_true rfl) (Or.inl rfl) ?_
      show Ev g _ _ _ _ _ _ 50 [some (x_r (16 * u + 0)), some (x_i (x_or v1 (x_shl 1 v2))), some (x_i v2)] [] (al, ro, fl (ml M [u] [C15])) _ _ _ _
      refine e_aloadn (pc := 50) (i := 0) dX1_holdOffice_50 rfl rfl ?_
      refine f_getr (pc := 51) (u := u) (q := 0) dX1_holdOffice_51 xf1_21 (sc_a0 hs hu) rfl (sc_r0_2 hs hu) ?_
      refine e_aloadn (pc := 54) (i := 0) dX1_holdOffice_54 rfl rfl ?_
      refine f_geti (pc := 55) (k := 0) (u := u) (q := 0) dX1_holdOffice_55 xf1_52 (sc_a0 hs hu) rfl hn rfl rfl (by decide) ?_
      show Ev g _ _ _ _ _ _ 58 [some (x_r (16 * u + 0)), some (x_i (x_or v1 (x_shl 1 v2))), some (x_i v2)] [x_i (C15 0 6), x_r (16 * u + 3)] (al, ro, fl (ml M [u] [C15])) _ _ _ _
      refine e_aloadn (pc := 58) (i := 0) dX1_holdOffice_58 rfl rfl ?_
      refine f_geti (pc := 59) (k := 0) (u := u) (q := 0) dX1_holdOffice_59 xf1_49 (sc_a0 hs hu) rfl hn rfl rfl (by decide) ?_
      show Ev g _ _ _ _ _ _ 62 [some (x_r (16 * u + 0)), some (x_i (x_or v1 (x_shl 1 v2))), some (x_i v2)] [x_i (C15 0 5), x_i (C15 0 6), x_r (16 * u + 3)] (al, ro, fl (ml M [u] [C15])) _ _ _ _
      refine e_iconst (pc := 62) dX1_holdOffice_62 (x_R rfl) ?_
      refine e_iloadn (pc := 63) (i := 2) dX1_holdOffice_63 rfl rfl ?_
      refine e_aloadn (pc := 64) (i := 0) dX1_holdOffice_64 rfl rfl ?_
      refine e_iconst (pc := 65) dX1_holdOffice_65 (x_R rfl) ?_
      refine e_iloadn (pc := 66) (i := 2) dX1_holdOffice_66 rfl rfl ?_
      obtain ⟨v17, hq17, hr11⟩ := x_bd1 hr11
      refine e_invV (pc := 67) (K1 := 0) (S1 := 0) (K := 0) (S := 0) (dd2 := 0) (av := [x_i 0, x_i v2]) (st := [x_i v2, x_i 0, x_i (C15 0 5), x_i (C15 0 6), x_r (16 * u + 3)]) (id := 16 * u + 0) dX1_holdOffice_67 xmX1_79 rfl (Or.inl ⟨1, 12, TX1, (sc_a0 hs hu), rfl, by decide⟩) (f_cal (M := M) (us2 := [u]) [0] hn rfl (And.intro rfl trivial) rfl rfl rfl (c_X1_of hst hs hu  hq17)) (by decide) (Nat.le_of_ble_eq_true rfl) (Or.inl rfl) ?_
      show Ev g _ _ _ _ _ _ 70 [some (x_r (16 * u + 0)), some (x_i (x_or v1 (x_shl 1 v2))), some (x_i v2)] [x_i v17, x_i v2, x_i 0, x_i (C15 0 5), x_i (C15 0 6), x_r (16 * u + 3)] (al, ro, fl (ml M [u] [C15])) _ _ _ _
      obtain ⟨C19, hq19, hr11⟩ := x_bd1 hr11
      refine e_invV (pc := 70) (K1 := 0) (S1 := 0) (K := 0) (S := 0) (dd2 := 1) (av := [x_i (C15 0 6), x_i (C15 0 5), x_i 0, x_i v2, x_i v17]) (st := []) (id := 16 * u + 3) dX1_holdOffice_70 xmX1_132 rfl (Or.inl ⟨4, 3, TX6, (sc_a3 hs hu), rfl, by decide⟩) (f_cal (M := M) (us2 := [u]) [0] hn rfl (And.intro rfl trivial) rfl rfl rfl (c_X6_add hst hs hu  hq19)) (by decide) (Nat.le_of_ble_eq_true rfl) (Or.inl rfl) ?_
      show Ev g _ _ _ _ _ _ 73 [some (x_r (16 * u + 0)), some (x_i (x_or v1 (x_shl 1 v2))), some (x_i v2)] [] (al, ro, fl (ml M [u] [C19])) _ _ _ _
      cases hr11
      exact hjhr11
set_option maxRecDepth 100000 in
set_option maxHeartbeats 4000000 in
theorem c_X1_harvest {g : xG} {al : List (Nat × Nat × Nat)} {ro : Nat → Nat → Option Nat} (hst : g.1.stackTraces = false) (hs : SH al ro) {u : Nat} (hu : 3 ≤ u ∧ u ≤ 18) {M : Nat → xU} {C : xU}  {t : xU} (hG : G1_harvest C = some t) :
    Cal g yX1_harvest cX1_harvest 2 none 2 [x_r (16 * u + 0)] (al, ro, fl (ml M [u] [C])) 0 0 (.inl none) (al, ro, fl (ml M [u] [t])) := by
  have hn : ([u] : List Nat).Nodup := by simp
  refine cal_of_ev (plainFor_of_name (by decide)) (x_c1 rfl) (Nat.le_of_ble_eq_true rfl) hst ?_
  show Ev g _ _ _ _ _ _ 0 [some (x_r (16 * u + 0)), none] [] (al, ro, fl (ml M [u] [C])) _ _ _ _
  rw [G1_harvest] at hG
  refine e_iconst (pc := 0) dX1_harvest_0 (x_R rfl) ?_
  refine e_istoren (pc := 1) (i := 1) dX1_harvest_1 rfl (by decide) rfl ?_
  show Ev g _ _ _ _ _ _ 2 [some (x_r (16 * u + 0)), some (x_i 0)] [] (al, ro, fl (ml M [u] [C])) _ _ _ _
  obtain ⟨C3, hl4, hG⟩ := x_bd1 hG
  have hk4 : ∀ q : xU, q = C3 → Ev g yX1_harvest cX1_harvest 2 none [] 2 30 [some (x_r (16 * u + 0)), none] [] (al, ro, fl (ml M [u] [q])) 0 0 (.inl none) (al, ro, fl (ml M [u] [t])) := by
    intro q hq
    replace hq := hq.symm
    subst hq
    cases hG
    exact (e_return rfl dX1_harvest_30)
  clear hG
  refine e_whl G1_harvest_L2 (fun z : (Int × xU) => Ev g yX1_harvest cX1_harvest 2 none [] 2 2 [some (x_r (16 * u + 0)), some (x_i z.1)] [] (al, ro, fl (ml M [u] [z.2])) 0 0 (.inl none) (al, ro, fl (ml M [u] [t]))) (fun q => q = C3) ?_ xFU (0, C) _ hl4 rfl
  intro z t4 hf4 hi4 hx4
  obtain ⟨v1, C2⟩ := z
  rw [G1_harvest_L2] at hf4
  show Ev g _ _ _ _ _ _ 2 [some (x_r (16 * u + 0)), some (x_i v1)] [] (al, ro, fl (ml M [u] [C2])) _ _ _ _
  refine e_iloadn (pc := 2) (i := 1) dX1_harvest_2 rfl rfl ?_
  refine e_iconst (pc := 3) dX1_harvest_3 (x_R rfl) ?_
  refine e_icmp_ge (pc := 4) (tgt := 30) dX1_harvest_4 (by decide) (fun hb => ?_) (fun hb => ?_)
  · rw [if_pos hb] at hf4
    cases hf4
    refine e_drop (i := 1) ?_
    have hh := hk4 _ (hx4 _ rfl)
    try dsimp only at hh
    exact hh
  · rw [if_neg hb] at hf4
    refine e_aloadn (pc := 7) (i := 0) dX1_harvest_7 rfl rfl ?_
    refine e_iloadn (pc := 8) (i := 1) dX1_harvest_8 rfl rfl ?_
    refine e_iconst (pc := 9) dX1_harvest_9 (x_R rfl) ?_
    refine e_imul (pc := 10) dX1_harvest_10 ?_
    obtain ⟨v6, hq6, hf4⟩ := x_bd1 hf4
    refine e_invV (pc := 11) (K1 := 0) (S1 := 0) (K := 0) (S := 0) (dd2 := 0) (av := [x_i (x_mul v1 4)]) (st := []) (id := 16 * u + 0) dX1_harvest_11 xmX1_140 rfl (Or.inl ⟨1, 12, TX1, (sc_a0 hs hu), rfl, by decide⟩) (f_cal (M := M) (us2 := [u]) [0] hn rfl (And.intro rfl trivial) rfl rfl rfl (c_X1_seasonOf hst hs hu  hq6)) (by decide) (Nat.le_of_ble_eq_true rfl) (Or.inl rfl) ?_
    show Ev g _ _ _ _ _ _ 14 [some (x_r (16 * u + 0)), some (x_i v1)] [x_i v6] (al, ro, fl (ml M [u] [C2])) _ _ _ _
    refine e_iconst (pc := 14) dX1_harvest_14 (x_R rfl) ?_
    obtain ⟨C8, hr8, hf4⟩ := x_bd1 hf4
    have hjhr8 : Ev g yX1_harvest cX1_harvest 2 none [] 2 24 [some (x_r (16 * u + 0)), some (x_i v1)] [] (al, ro, fl (ml M [u] [C8])) 0 0 (.inl none) (al, ro, fl (ml M [u] [t])) := by
      refine e_iinc (pc := 24) dX1_harvest_24 rfl (by decide) rfl ?_
      show Ev g _ _ _ _ _ _ 27 [some (x_r (16 * u + 0)), some (x_i (x_add v1 1))] [] (al, ro, fl (ml M [u] [C8])) _ _ _ _
      refine e_goto (pc := 27) (tgt := 2) dX1_harvest_27 (by decide) ?_
      cases hf4
      have hh := hi4 _ rfl
      try dsimp only at hh
      exact hh
    clear hf4
    refine e_icmp_ne (pc := 15) (tgt := 24) dX1_harvest_15 (by decide) (fun hb => ?_) (fun hb => ?_)
    · rw [if_neg hb] at hr8
      cases hr8
      exact hjhr8
    · rw [if_pos hb] at hr8
      refine e_aloadn (pc := 18) (i := 0) dX1_harvest_18 rfl rfl ?_
      refine e_iloadn (pc := 19) (i := 1) dX1_harvest_19 rfl rfl ?_
      refine e_iconst (pc := 20) dX1_harvest_20 (x_R rfl) ?_
      obtain ⟨C10, hq10, hr8⟩ := x_bd1 hr8
      refine e_invV (pc := 21) (K1 := 0) (S1 := 0) (K := 0) (S := 0) (dd2 := 1) (av := [x_i v1, x_i 2]) (st := []) (id := 16 * u + 0) dX1_harvest_21 xmX1_98 rfl (Or.inl ⟨1, 12, TX1, (sc_a0 hs hu), rfl, by decide⟩) (f_cal (M := M) (us2 := [u]) [0] hn rfl (And.intro rfl trivial) rfl rfl rfl (c_X1_addStore hst hs hu  hq10)) (by decide) (Nat.le_of_ble_eq_true rfl) (Or.inl rfl) ?_
      show Ev g _ _ _ _ _ _ 24 [some (x_r (16 * u + 0)), some (x_i v1)] [] (al, ro, fl (ml M [u] [C10])) _ _ _ _
      cases hr8
      exact hjhr8
set_option maxRecDepth 100000 in
set_option maxHeartbeats 4000000 in
theorem c_X1_draw {g : xG} {al : List (Nat × Nat × Nat)} {ro : Nat → Nat → Option Nat} (hst : g.1.stackTraces = false) (hs : SH al ro) {u : Nat} (hu : 3 ≤ u ∧ u ≤ 18) {M : Nat → xU} {C : xU}  {t : (Int × xU)} (hG : G1_draw C = some t) :
    Cal g yX1_draw cX1_draw 1 (some .int) 0 [x_r (16 * u + 0)] (al, ro, fl (ml M [u] [C])) 0 0 (.inl (some (x_i t.1))) (al, ro, fl (ml M [u] [t.2])) := by
  have hn : ([u] : List Nat).Nodup := by simp
  refine cal_of_ev (plainFor_of_name (by decide)) (x_c1 rfl) (Nat.le_of_ble_eq_true rfl) hst ?_
  show Ev g _ _ _ _ _ _ 0 [some (x_r (16 * u + 0))] [] (al, ro, fl (ml M [u] [C])) _ _ _ _
  rw [G1_draw] at hG
  refine e_aloadn (pc := 0) (i := 0) dX1_draw_0 rfl rfl ?_
  refine e_ldc (pc := 1) dX1_draw_1 xkX1_139 (x_R rfl) ?_
  refine e_aloadn (pc := 3) (i := 0) dX1_draw_3 rfl rfl ?_
  refine f_geti (pc := 4) (k := 0) (u := u) (q := 0) dX1_draw_4 xf1_32 (sc_a0 hs hu) rfl hn rfl rfl (by decide) ?_
  show Ev g _ _ _ _ _ _ 7 [some (x_r (16 * u + 0))] [x_i (C 0 11), x_i 1103515245, x_r (16 * u + 0)] (al, ro, fl (ml M [u] [C])) _ _ _ _
  refine e_imul (pc := 7) dX1_draw_7 ?_
  refine e_sipush (pc := 8) dX1_draw_8 (by decide +kernel) (x_R rfl) ?_
  refine e_iadd (pc := 11) dX1_draw_11 ?_
  refine f_puti (pc := 12) (k := 0) (u := u) (q := 0) dX1_draw_12 xf1_32 xw1_11 (sc_a0 hs hu) hn rfl rfl rfl (by decide) ?_
  show Ev g _ _ _ _ _ _ 15 [some (x_r (16 * u + 0))] [] (al, ro, fl (ml M [u] [(x_up C 0 11 (x_add (x_mul 1103515245 (C 0 11)) 12345))])) _ _ _ _
  refine e_aloadn (pc := 15) (i := 0) dX1_draw_15 rfl rfl ?_
  refine f_geti (pc := 16) (k := 0) (u := u) (q := 0) dX1_draw_16 xf1_32 (sc_a0 hs hu) rfl hn rfl rfl (by decide) ?_
  show Ev g _ _ _ _ _ _ 19 [some (x_r (16 * u + 0))] [x_i ((x_up C 0 11 (x_add (x_mul 1103515245 (C 0 11)) 12345)) 0 11)] (al, ro, fl (ml M [u] [(x_up C 0 11 (x_add (x_mul 1103515245 (C 0 11)) 12345))])) _ _ _ _
  refine e_bipush (pc := 19) dX1_draw_19 (by decide +kernel) (x_R rfl) ?_
  refine e_iushr (pc := 21) dX1_draw_21 ?_
  refine e_sipush (pc := 22) dX1_draw_22 (by decide +kernel) (x_R rfl) ?_
  refine e_iand (pc := 25) dX1_draw_25 ?_
  cases hG
  exact (e_ireturn rfl dX1_draw_26 rfl)
set_option maxRecDepth 100000 in
set_option maxHeartbeats 4000000 in
theorem c_X1_turnClock {g : xG} {al : List (Nat × Nat × Nat)} {ro : Nat → Nat → Option Nat} (hst : g.1.stackTraces = false) (hs : SH al ro) {u : Nat} (hu : 3 ≤ u ∧ u ≤ 18) {M : Nat → xU} {C : xU}  {t : xU} (hG : G1_turnClock C = some t) :
    Cal g yX1_turnClock cX1_turnClock 1 none 1 [x_r (16 * u + 0)] (al, ro, fl (ml M [u] [C])) 0 0 (.inl none) (al, ro, fl (ml M [u] [t])) := by
  have hn : ([u] : List Nat).Nodup := by simp
  refine cal_of_ev (plainFor_of_name (by decide)) (x_c1 rfl) (Nat.le_of_ble_eq_true rfl) hst ?_
  show Ev g _ _ _ _ _ _ 0 [some (x_r (16 * u + 0))] [] (al, ro, fl (ml M [u] [C])) _ _ _ _
  rw [G1_turnClock] at hG
  refine e_aloadn (pc := 0) (i := 0) dX1_turnClock_0 rfl rfl ?_
  refine e_dup (pc := 1) dX1_turnClock_1 rfl ?_
  refine f_geti (pc := 2) (k := 0) (u := u) (q := 0) dX1_turnClock_2 xf1_49 (sc_a0 hs hu) rfl hn rfl rfl (by decide) ?_
  show Ev g _ _ _ _ _ _ 5 [some (x_r (16 * u + 0))] [x_i (C 0 5), x_r (16 * u + 0)] (al, ro, fl (ml M [u] [C])) _ _ _ _
  refine e_iconst (pc := 5) dX1_turnClock_5 (x_R rfl) ?_
  refine e_iadd (pc := 6) dX1_turnClock_6 ?_
  refine f_puti (pc := 7) (k := 0) (u := u) (q := 0) dX1_turnClock_7 xf1_49 xw1_5 (sc_a0 hs hu) hn rfl rfl rfl (by decide) ?_
  show Ev g _ _ _ _ _ _ 10 [some (x_r (16 * u + 0))] [] (al, ro, fl (ml M [u] [(x_up C 0 5 (x_add (C 0 5) 1))])) _ _ _ _
  refine e_aloadn (pc := 10) (i := 0) dX1_turnClock_10 rfl rfl ?_
  refine f_geti (pc := 11) (k := 0) (u := u) (q := 0) dX1_turnClock_11 xf1_49 (sc_a0 hs hu) rfl hn rfl rfl (by decide) ?_
  show Ev g _ _ _ _ _ _ 14 [some (x_r (16 * u + 0))] [x_i ((x_up C 0 5 (x_add (C 0 5) 1)) 0 5)] (al, ro, fl (ml M [u] [(x_up C 0 5 (x_add (C 0 5) 1))])) _ _ _ _
  refine e_bipush (pc := 14) dX1_turnClock_14 (by decide +kernel) (x_R rfl) ?_
  obtain ⟨C1, hr1, hG⟩ := x_bd1 hG
  have hjhr1 : Ev g yX1_turnClock cX1_turnClock 1 none [] 1 40 [some (x_r (16 * u + 0))] [] (al, ro, fl (ml M [u] [C1])) 0 0 (.inl none) (al, ro, fl (ml M [u] [t])) := by
    cases hG
    exact (e_return rfl dX1_turnClock_40)
  clear hG
  refine e_icmp_lt (pc := 16) (tgt := 40) dX1_turnClock_16 (by decide) (fun hb => ?_) (fun hb => ?_)
  · rw [if_pos hb] at hr1
    cases hr1
    exact hjhr1
  · rw [if_neg hb] at hr1
    refine e_aloadn (pc := 19) (i := 0) dX1_turnClock_19 rfl rfl ?_
    refine e_iconst (pc := 20) dX1_turnClock_20 (x_R rfl) ?_
    refine f_puti (pc := 21) (k := 0) (u := u) (q := 0) dX1_turnClock_21 xf1_49 xw1_5 (sc_a0 hs hu) hn rfl rfl rfl (by decide) ?_
    show Ev g _ _ _ _ _ _ 24 [some (x_r (16 * u + 0))] [] (al, ro, fl (ml M [u] [(x_up (x_up C 0 5 (x_add (C 0 5) 1)) 0 5 0)])) _ _ _ _
    refine e_aloadn (pc := 24) (i := 0) dX1_turnClock_24 rfl rfl ?_
    refine e_sipush (pc := 25) dX1_turnClock_25 (by decide +kernel) (x_R rfl) ?_
    refine e_aloadn (pc := 28) (i := 0) dX1_turnClock_28 rfl rfl ?_
    refine f_geti (pc := 29) (k := 0) (u := u) (q := 0) dX1_turnClock_29 xf1_52 (sc_a0 hs hu) rfl hn rfl rfl (by decide) ?_
    show Ev g _ _ _ _ _ _ 32 [some (x_r (16 * u + 0))] [x_i ((x_up (x_up C 0 5 (x_add (C 0 5) 1)) 0 5 0) 0 6), x_i 9999, x_r (16 * u + 0)] (al, ro, fl (ml M [u] [(x_up (x_up C 0 5 (x_add (C 0 5) 1)) 0 5 0)])) _ _ _ _
    refine e_iconst (pc := 32) dX1_turnClock_32 (x_R rfl) ?_
    refine e_iadd (pc := 33) dX1_turnClock_33 ?_
    refine e_invS (pc := 34) (K1 := 0) (S1 := 0) (K := 0) (S := 0) (dd2 := 0) (av := [x_i 9999, x_i (x_add ((x_up (x_up C 0 5 (x_add (C 0 5) 1)) 0 5 0) 0 6) 1)]) (st := [x_r (16 * u + 0)]) dX1_turnClock_34 xmX1_65 rfl (p_min hst hs) (by decide) (Nat.le_of_ble_eq_true rfl) (Or.inl rfl) ?_
    show Ev g _ _ _ _ _ _ 37 [some (x_r (16 * u + 0))] [x_i (min 9999 (x_add ((x_up (x_up C 0 5 (x_add (C 0 5) 1)) 0 5 0) 0 6) 1)), x_r (16 * u + 0)] (al, ro, fl (ml M [u] [(x_up (x_up C 0 5 (x_add (C 0 5) 1)) 0 5 0)])) _ _ _ _
    refine f_puti (pc := 37) (k := 0) (u := u) (q := 0) dX1_turnClock_37 xf1_52 xw1_6 (sc_a0 hs hu) hn rfl rfl rfl (by decide) ?_
    show Ev g _ _ _ _ _ _ 40 [some (x_r (16 * u + 0))] [] (al, ro, fl (ml M [u] [(x_up (x_up (x_up C 0 5 (x_add (C 0 5) 1)) 0 5 0) 0 6 (min 9999 (x_add ((x_up (x_up C 0 5 (x_add (C 0 5) 1)) 0 5 0) 0 6) 1)))])) _ _ _ _
    cases hr1
    exact hjhr1
set_option maxRecDepth 100000 in
set_option maxHeartbeats 4000000 in
theorem c_X1_passHour {g : xG} {al : List (Nat × Nat × Nat)} {ro : Nat → Nat → Option Nat} (hst : g.1.stackTraces = false) (hs : SH al ro) {u : Nat} (hu : 3 ≤ u ∧ u ≤ 18) {M : Nat → xU} {a : Int} {C : xU} {La : xU}  {t : (Int × xU × xU)} (hG : G1_passHour a C La = some t) :
    Cal g yX1_passHour cX1_passHour 4 (some .int) 4 [x_r (16 * u + 0), x_r (16 * 19 + 0), x_i a] (al, ro, fl (ml M [u, 19] [C, La])) 0 0 (.inl (some (x_i t.1))) (al, ro, fl (ml M [u, 19] [t.2.1, t.2.2])) := by
  have hn : ([u, 19] : List Nat).Nodup := by simp <;> omega
  refine cal_of_ev (plainFor_of_name (by decide)) (x_c1 rfl) (Nat.le_of_ble_eq_true rfl) hst ?_
  show Ev g _ _ _ _ _ _ 0 [some (x_r (16 * u + 0)), some (x_r (16 * 19 + 0)), some (x_i a), none] [] (al, ro, fl (ml M [u, 19] [C, La])) _ _ _ _
  rw [G1_passHour] at hG
  refine e_iconst (pc := 0) dX1_passHour_0 (x_R rfl) ?_
  refine e_istoren (pc := 1) (i := 3) dX1_passHour_1 rfl (by decide) rfl ?_
  show Ev g _ _ _ _ _ _ 2 [some (x_r (16 * u + 0)), some (x_r (16 * 19 + 0)), some (x_i a), some (x_i 0)] [] (al, ro, fl (ml M [u, 19] [C, La])) _ _ _ _
  obtain ⟨C4, La5, hl6, hG⟩ := x_bd2 hG
  have hk6 : ∀ q : (xU × xU), q = (C4, La5) → Ev g yX1_passHour cX1_passHour 4 (some .int) [] 4 22 [some (x_r (16 * u + 0)), some (x_r (16 * 19 + 0)), some (x_i a), none] [] (al, ro, fl (ml M [u, 19] [q.1, q.2])) 0 0 (.inl (some (x_i t.1))) (al, ro, fl (ml M [u, 19] [t.2.1, t.2.2])) := by
    intro q hq
    cases hq
    refine e_iconst (pc := 22) dX1_passHour_22 (x_R rfl) ?_
    refine e_istoren (pc := 23) (i := 3) dX1_passHour_23 rfl (by decide) rfl ?_
    show Ev g _ _ _ _ _ _ 24 [some (x_r (16 * u + 0)), some (x_r (16 * 19 + 0)), some (x_i a), some (x_i 0)] [] (al, ro, fl (ml M [u, 19] [C4, La5])) _ _ _ _
    obtain ⟨C13, hl14, hG⟩ := x_bd1 hG
    have hk14 : ∀ q : xU, q = C13 → Ev g yX1_passHour cX1_passHour 4 (some .int) [] 4 43 [some (x_r (16 * u + 0)), some (x_r (16 * 19 + 0)), some (x_i a), none] [] (al, ro, fl (ml M [u, 19] [q, La5])) 0 0 (.inl (some (x_i t.1))) (al, ro, fl (ml M [u, 19] [t.2.1, t.2.2])) := by
      intro q hq
      replace hq := hq.symm
      subst hq
      refine e_aloadn (pc := 43) (i := 0) dX1_passHour_43 rfl rfl ?_
      refine f_geti (pc := 44) (k := 0) (u := u) (q := 0) dX1_passHour_44 xf1_49 (sc_a0 hs hu) rfl hn rfl rfl (by decide) ?_
      show Ev g _ _ _ _ _ _ 47 [some (x_r (16 * u + 0)), some (x_r (16 * 19 + 0)), some (x_i a), none] [x_i (C13 0 5)] (al, ro, fl (ml M [u, 19] [C13, La5])) _ _ _ _
      refine e_iconst (pc := 47) dX1_passHour_47 (x_R rfl) ?_
      refine e_irem (pc := 48) dX1_passHour_48 (by decide) ?_
      obtain ⟨v18, C19, hr19, hG⟩ := x_bd2 hG
      have hjhr19 : Ev g yX1_passHour cX1_passHour 4 (some .int) [] 4 60 [some (x_r (16 * u + 0)), some (x_r (16 * 19 + 0)), some (x_i a), none] [x_i v18] (al, ro, fl (ml M [u, 19] [C19, La5])) 0 0 (.inl (some (x_i t.1))) (al, ro, fl (ml M [u, 19] [t.2.1, t.2.2])) := by
        refine e_istoren (pc := 60) (i := 3) dX1_passHour_60 rfl (by decide) rfl ?_
        show Ev g _ _ _ _ _ _ 61 [some (x_r (16 * u + 0)), some (x_r (16 * 19 + 0)), some (x_i a), some (x_i v18)] [] (al, ro, fl (ml M [u, 19] [C19, La5])) _ _ _ _
        refine e_iloadn (pc := 61) (i := 2) dX1_passHour_61 rfl rfl ?_
        obtain ⟨C24, hr24, hG⟩ := x_bd1 hG
        have hjhr24 : Ev g yX1_passHour cX1_passHour 4 (some .int) [] 4 89 [some (x_r (16 * u + 0)), some (x_r (16 * 19 + 0)), some (x_i a), some (x_i v18)] [] (al, ro, fl (ml M [u, 19] [C24, La5])) 0 0 (.inl (some (x_i t.1))) (al, ro, fl (ml M [u, 19] [t.2.1, t.2.2])) := by
          refine e_aloadn (pc := 89) (i := 0) dX1_passHour_89 rfl rfl ?_
          obtain ⟨C32, hq32, hG⟩ := x_bd1 hG
          refine e_invV (pc := 90) (K1 := 0) (S1 := 0) (K := 0) (S := 0) (dd2 := 2) (av := []) (st := []) (id := 16 * u + 0) dX1_passHour_90 xmX1_116 rfl (Or.inl ⟨1, 12, TX1, (sc_a0 hs hu), rfl, by decide⟩) (f_cal (M := M) (us2 := [u]) [0] hn rfl (And.intro rfl trivial) rfl rfl rfl (c_X1_harvest hst hs hu  hq32)) (by decide) (Nat.le_of_ble_eq_true rfl) (Or.inl rfl) ?_
          show Ev g _ _ _ _ _ _ 93 [some (x_r (16 * u + 0)), some (x_r (16 * 19 + 0)), some (x_i a), some (x_i v18)] [] (al, ro, fl (ml M [u, 19] [C32, La5])) _ _ _ _
          refine e_aloadn (pc := 93) (i := 0) dX1_passHour_93 rfl rfl ?_
          obtain ⟨C34, hq34, hG⟩ := x_bd1 hG
          refine e_invV (pc := 94) (K1 := 0) (S1 := 0) (K := 0) (S := 0) (dd2 := 1) (av := []) (st := []) (id := 16 * u + 0) dX1_passHour_94 xmX1_119 rfl (Or.inl ⟨1, 12, TX1, (sc_a0 hs hu), rfl, by decide⟩) (f_cal (M := M) (us2 := [u]) [0] hn rfl (And.intro rfl trivial) rfl rfl rfl (c_X1_turnClock hst hs hu  hq34)) (by decide) (Nat.le_of_ble_eq_true rfl) (Or.inl rfl) ?_
          show Ev g _ _ _ _ _ _ 97 [some (x_r (16 * u + 0)), some (x_r (16 * 19 + 0)), some (x_i a), some (x_i v18)] [] (al, ro, fl (ml M [u, 19] [C34, La5])) _ _ _ _
          refine e_iloadn (pc := 97) (i := 3) dX1_passHour_97 rfl rfl ?_
          cases hG
          exact (e_ireturn rfl dX1_passHour_98 rfl)
        clear hG
        refine e_if_eq (pc := 62) (tgt := 89) dX1_passHour_62 (by decide) (fun hb => ?_) (fun hb => ?_)
        · rw [if_pos hb] at hr24
          cases hr24
          exact hjhr24
        · rw [if_neg hb] at hr24
          refine e_aloadn (pc := 65) (i := 0) dX1_passHour_65 rfl rfl ?_
          obtain ⟨v26, C27, hq27, hr24⟩ := x_bd2 hr24
          refine e_invV (pc := 66) (K1 := 0) (S1 := 0) (K := 0) (S := 0) (dd2 := 0) (av := []) (st := []) (id := 16 * u + 0) dX1_passHour_66 xmX1_113 rfl (Or.inl ⟨1, 12, TX1, (sc_a0 hs hu), rfl, by decide⟩) (f_cal (M := M) (us2 := [u]) [0] hn rfl (And.intro rfl trivial) rfl rfl rfl (c_X1_draw hst hs hu  hq27)) (by decide) (Nat.le_of_ble_eq_true rfl) (Or.inl rfl) ?_
          show Ev g _ _ _ _ _ _ 69 [some (x_r (16 * u + 0)), some (x_r (16 * 19 + 0)), some (x_i a), some (x_i v18)] [x_i v26] (al, ro, fl (ml M [u, 19] [C27, La5])) _ _ _ _
          refine e_bipush (pc := 69) dX1_passHour_69 (by decide +kernel) (x_R rfl) ?_
          refine e_irem (pc := 71) dX1_passHour_71 (by decide) ?_
          refine e_aloadn (pc := 72) (i := 0) dX1_passHour_72 rfl rfl ?_
          refine f_geti (pc := 73) (k := 0) (u := u) (q := 0) dX1_passHour_73 xf1_58 (sc_a0 hs hu) rfl hn rfl rfl (by decide) ?_
          show Ev g _ _ _ _ _ _ 76 [some (x_r (16 * u + 0)), some (x_r (16 * 19 + 0)), some (x_i a), some (x_i v18)] [x_i (C27 0 9), x_i (x_rem v26 100)] (al, ro, fl (ml M [u, 19] [C27, La5])) _ _ _ _
          refine e_icmp_ge (pc := 76) (tgt := 89) dX1_passHour_76 (by decide) (fun hb => ?_) (fun hb => ?_)
          · rw [if_pos hb] at hr24
            cases hr24
            exact hjhr24
          · rw [if_neg hb] at hr24
            refine e_aloadn (pc := 79) (i := 0) dX1_passHour_79 rfl rfl ?_
            refine e_aloadn (pc := 80) (i := 0) dX1_passHour_80 rfl rfl ?_
            obtain ⟨v29, C30, hq30, hr24⟩ := x_bd2 hr24
            refine e_invV (pc := 81) (K1 := 0) (S1 := 0) (K := 0) (S := 0) (dd2 := 0) (av := []) (st := [x_r (16 * u + 0)]) (id := 16 * u + 0) dX1_passHour_81 xmX1_113 rfl (Or.inl ⟨1, 12, TX1, (sc_a0 hs hu), rfl, by decide⟩) (f_cal (M := M) (us2 := [u]) [0] hn rfl (And.intro rfl trivial) rfl rfl rfl (c_X1_draw hst hs hu  hq30)) (by decide) (Nat.le_of_ble_eq_true rfl) (Or.inl rfl) ?_
            show Ev g _ _ _ _ _ _ 84 [some (x_r (16 * u + 0)), some (x_r (16 * 19 + 0)), some (x_i a), some (x_i v18)] [x_i v29, x_r (16 * u + 0)] (al, ro, fl (ml M [u, 19] [C30, La5])) _ _ _ _
            refine e_iconst (pc := 84) dX1_passHour_84 (x_R rfl) ?_
            refine e_irem (pc := 85) dX1_passHour_85 (by decide) ?_
            refine f_puti (pc := 86) (k := 0) (u := u) (q := 0) dX1_passHour_86 xf1_25 xw1_8 (sc_a0 hs hu) hn rfl rfl rfl (by decide) ?_
            show Ev g _ _ _ _ _ _ 89 [some (x_r (16 * u + 0)), some (x_r (16 * 19 + 0)), some (x_i a), some (x_i v18)] [] (al, ro, fl (ml M [u, 19] [(x_up C30 0 8 (x_rem v29 5)), La5])) _ _ _ _
            cases hr24
            exact hjhr24
      clear hG
      refine e_if_ne (pc := 49) (tgt := 59) dX1_passHour_49 (by decide) (fun hb => ?_) (fun hb => ?_)
      · rw [if_neg hb] at hr19
        refine e_iconst (pc := 59) dX1_passHour_59 (x_R rfl) ?_
        cases hr19
        exact hjhr19
      · rw [if_pos hb] at hr19
        refine e_aloadn (pc := 52) (i := 0) dX1_passHour_52 rfl rfl ?_
        obtain ⟨v21, C22, hq22, hr19⟩ := x_bd2 hr19
        refine e_invV (pc := 53) (K1 := 0) (S1 := 0) (K := 0) (S := 0) (dd2 := 2) (av := []) (st := []) (id := 16 * u + 0) dX1_passHour_53 xmX1_109 rfl (Or.inl ⟨1, 12, TX1, (sc_a0 hs hu), rfl, by decide⟩) (f_cal (M := M) (us2 := [u]) [0] hn rfl (And.intro rfl trivial) rfl rfl rfl (c_X1_holdOffice hst hs hu  hq22)) (by decide) (Nat.le_of_ble_eq_true rfl) (Or.inl rfl) ?_
        show Ev g _ _ _ _ _ _ 56 [some (x_r (16 * u + 0)), some (x_r (16 * 19 + 0)), some (x_i a), none] [x_i v21] (al, ro, fl (ml M [u, 19] [C22, La5])) _ _ _ _
        refine e_goto (pc := 56) (tgt := 60) dX1_passHour_56 (by decide) ?_
        cases hr19
        exact hjhr19
    clear hG
    refine e_whl G1_passHour_L24 (fun z : (Int × xU) => Ev g yX1_passHour cX1_passHour 4 (some .int) [] 4 24 [some (x_r (16 * u + 0)), some (x_r (16 * 19 + 0)), some (x_i a), some (x_i z.1)] [] (al, ro, fl (ml M [u, 19] [z.2, La5])) 0 0 (.inl (some (x_i t.1))) (al, ro, fl (ml M [u, 19] [t.2.1, t.2.2]))) (fun q => q = C13) ?_ xFU (0, C4) _ hl14 rfl
    intro z t14 hf14 hi14 hx14
    obtain ⟨v11, C12⟩ := z
    rw [G1_passHour_L24] at hf14
    show Ev g _ _ _ _ _ _ 24 [some (x_r (16 * u + 0)), some (x_r (16 * 19 + 0)), some (x_i a), some (x_i v11)] [] (al, ro, fl (ml M [u, 19] [C12, La5])) _ _ _ _
    refine e_iloadn (pc := 24) (i := 3) dX1_passHour_24 rfl rfl ?_
    refine e_aloadn (pc := 25) (i := 0) dX1_passHour_25 rfl rfl ?_
    refine f_geti (pc := 26) (k := 0) (u := u) (q := 0) dX1_passHour_26 xf1_43 (sc_a0 hs hu) rfl hn rfl rfl (by decide) ?_
    show Ev g _ _ _ _ _ _ 29 [some (x_r (16 * u + 0)), some (x_r (16 * 19 + 0)), some (x_i a), some (x_i v11)] [x_i (C12 0 3), x_i v11] (al, ro, fl (ml M [u, 19] [C12, La5])) _ _ _ _
    refine e_icmp_ge (pc := 29) (tgt := 43) dX1_passHour_29 (by decide) (fun hb => ?_) (fun hb => ?_)
    · rw [if_pos hb] at hf14
      cases hf14
      refine e_drop (i := 3) ?_
      have hh := hk14 _ (hx14 _ rfl)
      try dsimp only at hh
      exact hh
    · rw [if_neg hb] at hf14
      refine e_aloadn (pc := 32) (i := 0) dX1_passHour_32 rfl rfl ?_
      refine e_iloadn (pc := 33) (i := 3) dX1_passHour_33 rfl rfl ?_
      obtain ⟨C16, hq16, hf14⟩ := x_bd1 hf14
      refine e_invV (pc := 34) (K1 := 0) (S1 := 0) (K := 0) (S := 0) (dd2 := 2) (av := [x_i v11]) (st := []) (id := 16 * u + 0) dX1_passHour_34 xmX1_105 rfl (Or.inl ⟨1, 12, TX1, (sc_a0 hs hu), rfl, by decide⟩) (f_cal (M := M) (us2 := [u]) [0] hn rfl (And.intro rfl trivial) rfl rfl rfl (c_X1_eat hst hs hu  hq16)) (by decide) (Nat.le_of_ble_eq_true rfl) (Or.inl rfl) ?_
      show Ev g _ _ _ _ _ _ 37 [some (x_r (16 * u + 0)), some (x_r (16 * 19 + 0)), some (x_i a), some (x_i v11)] [] (al, ro, fl (ml M [u, 19] [C16, La5])) _ _ _ _
      refine e_iinc (pc := 37) dX1_passHour_37 rfl (by decide) rfl ?_
      show Ev g _ _ _ _ _ _ 40 [some (x_r (16 * u + 0)), some (x_r (16 * 19 + 0)), some (x_i a), some (x_i (x_add v11 1))] [] (al, ro, fl (ml M [u, 19] [C16, La5])) _ _ _ _
      refine e_goto (pc := 40) (tgt := 24) dX1_passHour_40 (by decide) ?_
      cases hf14
      have hh := hi14 _ rfl
      try dsimp only at hh
      exact hh
  clear hG
  refine e_whl G1_passHour_L2 (fun z : (Int × xU × xU) => Ev g yX1_passHour cX1_passHour 4 (some .int) [] 4 2 [some (x_r (16 * u + 0)), some (x_r (16 * 19 + 0)), some (x_i a), some (x_i z.1)] [] (al, ro, fl (ml M [u, 19] [z.2.1, z.2.2])) 0 0 (.inl (some (x_i t.1))) (al, ro, fl (ml M [u, 19] [t.2.1, t.2.2]))) (fun q => q = (C4, La5)) ?_ xFU (0, C, La) _ hl6 rfl
  intro z t6 hf6 hi6 hx6
  obtain ⟨v1, C2, La3⟩ := z
  rw [G1_passHour_L2] at hf6
  show Ev g _ _ _ _ _ _ 2 [some (x_r (16 * u + 0)), some (x_r (16 * 19 + 0)), some (x_i a), some (x_i v1)] [] (al, ro, fl (ml M [u, 19] [C2, La3])) _ _ _ _
  refine e_iloadn (pc := 2) (i := 3) dX1_passHour_2 rfl rfl ?_
  refine e_aloadn (pc := 3) (i := 0) dX1_passHour_3 rfl rfl ?_
  refine f_geti (pc := 4) (k := 0) (u := u) (q := 0) dX1_passHour_4 xf1_43 (sc_a0 hs hu) rfl hn rfl rfl (by decide) ?_
  show Ev g _ _ _ _ _ _ 7 [some (x_r (16 * u + 0)), some (x_r (16 * 19 + 0)), some (x_i a), some (x_i v1)] [x_i (C2 0 3), x_i v1] (al, ro, fl (ml M [u, 19] [C2, La3])) _ _ _ _
  refine e_icmp_ge (pc := 7) (tgt := 22) dX1_passHour_7 (by decide) (fun hb => ?_) (fun hb => ?_)
  · rw [if_pos hb] at hf6
    cases hf6
    refine e_drop (i := 3) ?_
    have hh := hk6 _ (hx6 _ rfl)
    try dsimp only at hh
    exact hh
  · rw [if_neg hb] at hf6
    refine e_aloadn (pc := 10) (i := 0) dX1_passHour_10 rfl rfl ?_
    refine e_iloadn (pc := 11) (i := 3) dX1_passHour_11 rfl rfl ?_
    refine e_aloadn (pc := 12) (i := 1) dX1_passHour_12 rfl rfl ?_
    obtain ⟨C8, La9, hq9, hf6⟩ := x_bd2 hf6
    refine e_invV (pc := 13) (K1 := 0) (S1 := 0) (K := 0) (S := 0) (dd2 := 3) (av := [x_i v1, x_r (16 * 19 + 0)]) (st := []) (id := 16 * u + 0) dX1_passHour_13 xmX1_101 rfl (Or.inl ⟨1, 12, TX1, (sc_a0 hs hu), rfl, by decide⟩) (f_cal (M := M) (us2 := [u, 19]) [0, 1] hn rfl (And.intro rfl (And.intro rfl trivial)) rfl rfl rfl (c_X1_goOn hst hs hu  hq9)) (by decide) (Nat.le_of_ble_eq_true rfl) (Or.inl rfl) ?_
    show Ev g _ _ _ _ _ _ 16 [some (x_r (16 * u + 0)), some (x_r (16 * 19 + 0)), some (x_i a), some (x_i v1)] [] (al, ro, fl (ml M [u, 19] [C8, La9])) _ _ _ _
    refine e_iinc (pc := 16) dX1_passHour_16 rfl (by decide) rfl ?_
    show Ev g _ _ _ _ _ _ 19 [some (x_r (16 * u + 0)), some (x_r (16 * 19 + 0)), some (x_i a), some (x_i (x_add v1 1))] [] (al, ro, fl (ml M [u, 19] [C8, La9])) _ _ _ _
    refine e_goto (pc := 19) (tgt := 2) dX1_passHour_19 (by decide) ?_
    cases hf6
    have hh := hi6 _ rfl
    try dsimp only at hh
    exact hh
set_option maxRecDepth 100000 in
set_option maxHeartbeats 4000000 in
theorem c_X10_isEnd {g : xG} {al : List (Nat × Nat × Nat)} {ro : Nat → Nat → Option Nat} (hst : g.1.stackTraces = false) (hs : SH al ro) {M : Nat → xU} {T : xU}  {t : Int} (hG : G10_isEnd T = some t) :
    Cal g yX10_isEnd cX10_isEnd 1 (some .boolean) 0 [x_r (16 * 2 + 0)] (al, ro, fl (ml M [2] [T])) 0 0 (.inl (some (x_i t))) (al, ro, fl (ml M [2] [T])) := by
  have hn : ([2] : List Nat).Nodup := by decide
  refine cal_of_ev (plainFor_of_name (by decide)) (x_c1 rfl) (Nat.le_of_ble_eq_true rfl) hst ?_
  show Ev g _ _ _ _ _ _ 0 [some (x_r (16 * 2 + 0))] [] (al, ro, fl (ml M [2] [T])) _ _ _ _
  rw [G10_isEnd] at hG
  refine e_aloadn (pc := 0) (i := 0) dX10_isEnd_0 rfl rfl ?_
  refine f_geti (pc := 1) (k := 0) (u := 2) (q := 0) dX10_isEnd_1 xf10_52 (sa_2_0 hs) rfl hn rfl rfl (by decide) ?_
  show Ev g _ _ _ _ _ _ 4 [some (x_r (16 * 2 + 0))] [x_i (T 0 5)] (al, ro, fl (ml M [2] [T])) _ _ _ _
  obtain ⟨v1, hr1, hG⟩ := x_bd1 hG
  have hjhr1 : Ev g yX10_isEnd cX10_isEnd 1 (some .boolean) [] 0 12 [some (x_r (16 * 2 + 0))] [x_i v1] (al, ro, fl (ml M [2] [T])) 0 0 (.inl (some (x_i t))) (al, ro, fl (ml M [2] [T])) := by
    obtain ⟨hc0, hG⟩ := x_gd_some hG
    cases hG
    exact (e_ireturn rfl dX10_isEnd_12 (x_bool hc0).1)
  clear hG
  refine e_if_ne (pc := 4) (tgt := 11) dX10_isEnd_4 (by decide) (fun hb => ?_) (fun hb => ?_)
  · rw [if_neg hb] at hr1
    refine e_iconst (pc := 11) dX10_isEnd_11 (x_R rfl) ?_
    cases hr1
    exact hjhr1
  · rw [if_pos hb] at hr1
    refine e_iconst (pc := 7) dX10_isEnd_7 (x_R rfl) ?_
    refine e_goto (pc := 8) (tgt := 12) dX10_isEnd_8 (by decide) ?_
    cases hr1
    exact hjhr1
set_option maxRecDepth 100000 in
set_option maxHeartbeats 4000000 in
theorem c_X10_startsLine {g : xG} {al : List (Nat × Nat × Nat)} {ro : Nat → Nat → Option Nat} (hst : g.1.stackTraces = false) (hs : SH al ro) {M : Nat → xU} {a : Int} {b : Int} {T : xU}  {t : (Int × xU)} (hG : G10_startsLine a b T = some t) :
    Cal g yX10_startsLine cX10_startsLine 3 (some .boolean) 3 [x_r (16 * 2 + 0), x_i a, x_i b] (al, ro, fl (ml M [2] [T])) 0 0 (.inl (some (x_i t.1))) (al, ro, fl (ml M [2] [t.2])) := by
  have hn : ([2] : List Nat).Nodup := by decide
  refine cal_of_ev (plainFor_of_name (by decide)) (x_c1 rfl) (Nat.le_of_ble_eq_true rfl) hst ?_
  show Ev g _ _ _ _ _ _ 0 [some (x_r (16 * 2 + 0)), some (x_i a), some (x_i b)] [] (al, ro, fl (ml M [2] [T])) _ _ _ _
  rw [G10_startsLine] at hG
  refine e_iloadn (pc := 0) (i := 1) dX10_startsLine_0 rfl rfl ?_
  refine e_if_ne (pc := 1) (tgt := 31) dX10_startsLine_1 (by decide) (fun hb => ?_) (fun hb => ?_)
  · rw [if_neg hb] at hG
    refine e_aloadn (pc := 31) (i := 0) dX10_startsLine_31 rfl rfl ?_
    obtain ⟨v1, hq1, hG⟩ := x_bd1 hG
    refine e_invV (pc := 32) (K1 := 0) (S1 := 0) (K := 0) (S := 0) (dd2 := 0) (av := []) (st := []) (id := 16 * 2 + 0) dX10_startsLine_32 xmX10_35 rfl (Or.inl ⟨8, 8, TX10, (sa_2_0 hs), rfl, by decide⟩) (f_cal (M := M) (us2 := [2]) [0] hn rfl (And.intro rfl trivial) rfl rfl rfl (c_X10_isEnd hst hs   hq1)) (by decide) (Nat.le_of_ble_eq_true rfl) (Or.inl rfl) ?_
    show Ev g _ _ _ _ _ _ 35 [some (x_r (16 * 2 + 0)), some (x_i a), some (x_i b)] [x_i v1] (al, ro, fl (ml M [2] [T])) _ _ _ _
    refine e_if_eq (pc := 35) (tgt := 40) dX10_startsLine_35 (by decide) (fun hb => ?_) (fun hb => ?_)
    · rw [if_pos hb] at hG
      refine e_aloadn (pc := 40) (i := 0) dX10_startsLine_40 rfl rfl ?_
      refine e_bipush (pc := 41) dX10_startsLine_41 (by decide +kernel) (x_R rfl) ?_
      obtain ⟨T3, hq3, hG⟩ := x_bd1 hG
      refine e_invV (pc := 43) (K1 := 0) (S1 := 0) (K := 0) (S := 0) (dd2 := 2) (av := [x_i 59]) (st := []) (id := 16 * 2 + 0) dX10_startsLine_43 xmX10_39 rfl (Or.inl ⟨8, 8, TX10, (sa_2_0 hs), rfl, by decide⟩) (f_cal (M := M) (us2 := [2]) [0] hn rfl (And.intro rfl trivial) rfl rfl rfl (c_X10_expectSign hst hs   hq3)) (by decide) (Nat.le_of_ble_eq_true rfl) (Or.inl rfl) ?_
      show Ev g _ _ _ _ _ _ 46 [some (x_r (16 * 2 + 0)), some (x_i a), some (x_i b)] [] (al, ro, fl (ml M [2] [T3])) _ _ _ _
      refine e_iloadn (pc := 46) (i := 1) dX10_startsLine_46 rfl rfl ?_
      refine e_iloadn (pc := 47) (i := 2) dX10_startsLine_47 rfl rfl ?_
      obtain ⟨T5, hr5, hG⟩ := x_bd1 hG
      have hjhr5 : Ev g yX10_startsLine cX10_startsLine 3 (some .boolean) [] 3 55 [some (x_r (16 * 2 + 0)), some (x_i a), some (x_i b)] [] (al, ro, fl (ml M [2] [T5])) 0 0 (.inl (some (x_i t.1))) (al, ro, fl (ml M [2] [t.2])) := by
        refine e_aloadn (pc := 55) (i := 0) dX10_startsLine_55 rfl rfl ?_
        obtain ⟨v9, hq9, hG⟩ := x_bd1 hG
        refine e_invV (pc := 56) (K1 := 0) (S1 := 0) (K := 0) (S := 0) (dd2 := 0) (av := []) (st := []) (id := 16 * 2 + 0) dX10_startsLine_56 xmX10_46 rfl (Or.inl ⟨8, 8, TX10, (sa_2_0 hs), rfl, by decide⟩) (f_cal (M := M) (us2 := [2]) [0] hn rfl (And.intro rfl trivial) rfl rfl rfl (c_X10_isRight hst hs   hq9)) (by decide) (Nat.le_of_ble_eq_true rfl) (Or.inl rfl) ?_
        show Ev g _ _ _ _ _ _ 59 [some (x_r (16 * 2 + 0)), some (x_i a), some (x_i b)] [x_i v9] (al, ro, fl (ml M [2] [T5])) _ _ _ _
        obtain ⟨hc0, hG⟩ := x_gd_some hG
        cases hG
        exact (e_ireturn rfl dX10_startsLine_59 (x_bool hc0).1)
      clear hG
      refine e_icmp_lt (pc := 48) (tgt := 55) dX10_startsLine_48 (by decide) (fun hb => ?_) (fun hb => ?_)
      · rw [if_pos hb] at hr5
        cases hr5
        exact hjhr5
      · rw [if_neg hb] at hr5
        refine e_aloadn (pc := 51) (i := 0) dX10_startsLine_51 rfl rfl ?_
        obtain ⟨T7, hq7, hr5⟩ := x_bd1 hr5
        refine e_invV (pc := 52) (K1 := 0) (S1 := 0) (K := 0) (S := 0) (dd2 := 0) (av := []) (st := []) (id := 16 * 2 + 0) dX10_startsLine_52 xmX10_43 rfl (Or.inl ⟨8, 8, TX10, (sa_2_0 hs), rfl, by decide⟩) (f_cal (M := M) (us2 := [2]) [0] hn rfl (And.intro rfl trivial) rfl rfl rfl (c_X10_refuse hst hs   hq7)) (by decide) (Nat.le_of_ble_eq_true rfl) (Or.inl rfl) ?_
        show Ev g _ _ _ _ _ _ 55 [some (x_r (16 * 2 + 0)), some (x_i a), some (x_i b)] [] (al, ro, fl (ml M [2] [T7])) _ _ _ _
        cases hr5
        exact hjhr5
    · rw [if_neg hb] at hG
      refine e_iconst (pc := 38) dX10_startsLine_38 (x_R rfl) ?_
      cases hG
      exact (e_ireturn rfl dX10_startsLine_39 (x_bool (by decide)).1)
  · rw [if_pos hb] at hG
    refine e_aloadn (pc := 4) (i := 0) dX10_startsLine_4 rfl rfl ?_
    refine e_iconst (pc := 5) dX10_startsLine_5 (x_R rfl) ?_
    refine f_puti (pc := 6) (k := 0) (u := 2) (q := 0) dX10_startsLine_6 xf10_29 xw8_4 (sa_2_0 hs) hn rfl rfl rfl (by decide) ?_
    show Ev g _ _ _ _ _ _ 9 [some (x_r (16 * 2 + 0)), some (x_i a), some (x_i b)] [] (al, ro, fl (ml M [2] [(x_up T 0 4 0)])) _ _ _ _
    refine e_aloadn (pc := 9) (i := 0) dX10_startsLine_9 rfl rfl ?_
    refine e_iconst (pc := 10) dX10_startsLine_10 (x_R rfl) ?_
    refine f_puti (pc := 11) (k := 0) (u := 2) (q := 0) dX10_startsLine_11 xf10_18 xw8_7 (sa_2_0 hs) hn rfl rfl rfl (by decide) ?_
    show Ev g _ _ _ _ _ _ 14 [some (x_r (16 * 2 + 0)), some (x_i a), some (x_i b)] [] (al, ro, fl (ml M [2] [(x_up (x_up T 0 4 0) 0 7 (-1))])) _ _ _ _
    refine e_aloadn (pc := 14) (i := 0) dX10_startsLine_14 rfl rfl ?_
    obtain ⟨T11, hq11, hG⟩ := x_bd1 hG
    refine e_invV (pc := 15) (K1 := 0) (S1 := 0) (K := 0) (S := 0) (dd2 := 0) (av := []) (st := []) (id := 16 * 2 + 0) dX10_startsLine_15 xmX10_32 rfl (Or.inl ⟨8, 8, TX10, (sa_2_0 hs), rfl, by decide⟩) (f_cal (M := M) (us2 := [2]) [0] hn rfl (And.intro rfl trivial) rfl rfl rfl (c_X10_readNext hst hs   hq11)) (by decide) (Nat.le_of_ble_eq_true rfl) (Or.inl rfl) ?_
    show Ev g _ _ _ _ _ _ 18 [some (x_r (16 * 2 + 0)), some (x_i a), some (x_i b)] [] (al, ro, fl (ml M [2] [T11])) _ _ _ _
    refine e_aloadn (pc := 18) (i := 0) dX10_startsLine_18 rfl rfl ?_
    obtain ⟨v13, hq13, hG⟩ := x_bd1 hG
    refine e_invV (pc := 19) (K1 := 0) (S1 := 0) (K := 0) (S := 0) (dd2 := 0) (av := []) (st := []) (id := 16 * 2 + 0) dX10_startsLine_19 xmX10_35 rfl (Or.inl ⟨8, 8, TX10, (sa_2_0 hs), rfl, by decide⟩) (f_cal (M := M) (us2 := [2]) [0] hn rfl (And.intro rfl trivial) rfl rfl rfl (c_X10_isEnd hst hs   hq13)) (by decide) (Nat.le_of_ble_eq_true rfl) (Or.inl rfl) ?_
    show Ev g _ _ _ _ _ _ 22 [some (x_r (16 * 2 + 0)), some (x_i a), some (x_i b)] [x_i v13] (al, ro, fl (ml M [2] [T11])) _ _ _ _
    obtain ⟨v15, hr15, hG⟩ := x_bd1 hG
    have hjhr15 : Ev g yX10_startsLine cX10_startsLine 3 (some .boolean) [] 3 30 [some (x_r (16 * 2 + 0)), some (x_i a), some (x_i b)] [x_i v15] (al, ro, fl (ml M [2] [T11])) 0 0 (.inl (some (x_i t.1))) (al, ro, fl (ml M [2] [t.2])) := by
      obtain ⟨hc0, hG⟩ := x_gd_some hG
      cases hG
      exact (e_ireturn rfl dX10_startsLine_30 (x_bool hc0).1)
    clear hG
    refine e_if_ne (pc := 22) (tgt := 29) dX10_startsLine_22 (by decide) (fun hb => ?_) (fun hb => ?_)
    · rw [if_neg hb] at hr15
      refine e_iconst (pc := 29) dX10_startsLine_29 (x_R rfl) ?_
      cases hr15
      exact hjhr15
    · rw [if_pos hb] at hr15
      refine e_iconst (pc := 25) dX10_startsLine_25 (x_R rfl) ?_
      refine e_goto (pc := 26) (tgt := 30) dX10_startsLine_26 (by decide) ?_
      cases hr15
      exact hjhr15
set_option maxRecDepth 100000 in
set_option maxHeartbeats 4000000 in
theorem c_X10_expectWord {g : xG} {al : List (Nat × Nat × Nat)} {ro : Nat → Nat → Option Nat} (hst : g.1.stackTraces = false) (hs : SH al ro) {M : Nat → xU} {w : Nat} {T : xU} (hw : w < x_nS)  {t : xU} (hG : G10_expectWord w T = some t) :
    Cal g yX10_expectWord cX10_expectWord 2 none 8 [x_r (16 * 2 + 0), x_r (x_s0 + w)] (al, ro, fl (ml M [2] [T])) 0 0 (.inl none) (al, ro, fl (ml M [2] [t])) := by
  have hn : ([2] : List Nat).Nodup := by decide
  refine cal_of_ev (plainFor_of_name (by decide)) (x_c1 rfl) (Nat.le_of_ble_eq_true rfl) hst ?_
  show Ev g _ _ _ _ _ _ 0 [some (x_r (16 * 2 + 0)), some (x_r (x_s0 + w))] [] (al, ro, fl (ml M [2] [T])) _ _ _ _
  rw [G10_expectWord] at hG
  refine e_aloadn (pc := 0) (i := 0) dX10_expectWord_0 rfl rfl ?_
  refine e_aloadn (pc := 1) (i := 1) dX10_expectWord_1 rfl rfl ?_
  obtain ⟨v1, T2, hq2, hG⟩ := x_bd2 hG
  refine e_invV (pc := 2) (K1 := 0) (S1 := 0) (K := 0) (S := 0) (dd2 := 7) (av := [x_r (x_s0 + w)]) (st := []) (id := 16 * 2 + 0) dX10_expectWord_2 xmX10_72 rfl (Or.inl ⟨8, 8, TX10, (sa_2_0 hs), rfl, by decide⟩) (f_cal (M := M) (us2 := [2]) [0] hn rfl (And.intro rfl trivial) rfl rfl rfl (c_X10_takeWord hst hs  hw hq2)) (by decide) (Nat.le_of_ble_eq_true rfl) (Or.inl rfl) ?_
  show Ev g _ _ _ _ _ _ 5 [some (x_r (16 * 2 + 0)), some (x_r (x_s0 + w))] [x_i v1] (al, ro, fl (ml M [2] [T2])) _ _ _ _
  obtain ⟨T4, hr4, hG⟩ := x_bd1 hG
  have hjhr4 : Ev g yX10_expectWord cX10_expectWord 2 none [] 8 12 [some (x_r (16 * 2 + 0)), some (x_r (x_s0 + w))] [] (al, ro, fl (ml M [2] [T4])) 0 0 (.inl none) (al, ro, fl (ml M [2] [t])) := by
    cases hG
    exact (e_return rfl dX10_expectWord_12)
  clear hG
  refine e_if_ne (pc := 5) (tgt := 12) dX10_expectWord_5 (by decide) (fun hb => ?_) (fun hb => ?_)
  · rw [if_neg hb] at hr4
    cases hr4
    exact hjhr4
  · rw [if_pos hb] at hr4
    refine e_aloadn (pc := 8) (i := 0) dX10_expectWord_8 rfl rfl ?_
    obtain ⟨T6, hq6, hr4⟩ := x_bd1 hr4
    refine e_invV (pc := 9) (K1 := 0) (S1 := 0) (K := 0) (S := 0) (dd2 := 0) (av := []) (st := []) (id := 16 * 2 + 0) dX10_expectWord_9 xmX10_43 rfl (Or.inl ⟨8, 8, TX10, (sa_2_0 hs), rfl, by decide⟩) (f_cal (M := M) (us2 := [2]) [0] hn rfl (And.intro rfl trivial) rfl rfl rfl (c_X10_refuse hst hs   hq6)) (by decide) (Nat.le_of_ble_eq_true rfl) (Or.inl rfl) ?_
    show Ev g _ _ _ _ _ _ 12 [some (x_r (16 * 2 + 0)), some (x_r (x_s0 + w))] [] (al, ro, fl (ml M [2] [T6])) _ _ _ _
    cases hr4
    exact hjhr4
set_option maxRecDepth 100000 in
set_option maxHeartbeats 4000000 in
theorem c_X10_byteAt {g : xG} {al : List (Nat × Nat × Nat)} {ro : Nat → Nat → Option Nat} (hst : g.1.stackTraces = false) (hs : SH al ro) {M : Nat → xU} {a : Int} {T : xU}  {t : Int} (hG : G10_byteAt a T = some t) :
    Cal g yX10_byteAt cX10_byteAt 2 (some .int) 0 [x_r (16 * 2 + 0), x_i a] (al, ro, fl (ml M [2] [T])) 0 0 (.inl (some (x_i t))) (al, ro, fl (ml M [2] [T])) := by
  have hn : ([2] : List Nat).Nodup := by decide
  refine cal_of_ev (plainFor_of_name (by decide)) (x_c1 rfl) (Nat.le_of_ble_eq_true rfl) hst ?_
  show Ev g _ _ _ _ _ _ 0 [some (x_r (16 * 2 + 0)), some (x_i a)] [] (al, ro, fl (ml M [2] [T])) _ _ _ _
  rw [G10_byteAt] at hG
  refine e_iloadn (pc := 0) (i := 1) dX10_byteAt_0 rfl rfl ?_
  obtain ⟨v1, hr1, hG⟩ := x_bd1 hG
  have hjhr1 : Ev g yX10_byteAt cX10_byteAt 2 (some .int) [] 0 29 [some (x_r (16 * 2 + 0)), some (x_i a)] [x_i v1] (al, ro, fl (ml M [2] [T])) 0 0 (.inl (some (x_i t))) (al, ro, fl (ml M [2] [T])) := by
    cases hG
    exact (e_ireturn rfl dX10_byteAt_29 rfl)
  clear hG
  refine e_if_lt (pc := 1) (tgt := 28) dX10_byteAt_1 (by decide) (fun hb => ?_) (fun hb => ?_)
  · rw [if_pos hb] at hr1
    refine e_iconst (pc := 28) dX10_byteAt_28 (x_R rfl) ?_
    cases hr1
    exact hjhr1
  · rw [if_neg hb] at hr1
    refine e_iloadn (pc := 4) (i := 1) dX10_byteAt_4 rfl rfl ?_
    refine e_aloadn (pc := 5) (i := 0) dX10_byteAt_5 rfl rfl ?_
    refine f_geti (pc := 6) (k := 0) (u := 2) (q := 0) dX10_byteAt_6 xf10_22 (sa_2_0 hs) rfl hn rfl rfl (by decide) ?_
    show Ev g _ _ _ _ _ _ 9 [some (x_r (16 * 2 + 0)), some (x_i a)] [x_i (T 0 2), x_i a] (al, ro, fl (ml M [2] [T])) _ _ _ _
    refine e_icmp_ge (pc := 9) (tgt := 28) dX10_byteAt_9 (by decide) (fun hb => ?_) (fun hb => ?_)
    · rw [if_pos hb] at hr1
      refine e_iconst (pc := 28) dX10_byteAt_28 (x_R rfl) ?_
      cases hr1
      exact hjhr1
    · rw [if_neg hb] at hr1
      refine e_iloadn (pc := 12) (i := 1) dX10_byteAt_12 rfl rfl ?_
      refine e_sipush (pc := 13) dX10_byteAt_13 (by decide +kernel) (x_R rfl) ?_
      refine e_icmp_ge (pc := 16) (tgt := 28) dX10_byteAt_16 (by decide) (fun hb => ?_) (fun hb => ?_)
      · rw [if_pos hb] at hr1
        refine e_iconst (pc := 28) dX10_byteAt_28 (x_R rfl) ?_
        cases hr1
        exact hjhr1
      · rw [if_neg hb] at hr1
        refine e_aloadn (pc := 19) (i := 0) dX10_byteAt_19 rfl rfl ?_
        refine f_getr (pc := 20) (u := 2) (q := 0) dX10_byteAt_20 xf10_9 (sa_2_0 hs) rfl (sr_2_0_0 hs) ?_
        refine e_iloadn (pc := 23) (i := 1) dX10_byteAt_23 rfl rfl ?_
        obtain ⟨hc0, hr1⟩ := x_gd_some hr1
        refine f_iald (pc := 24) (k := 0) (u := 2) (q := 1) (len := 400) dX10_byteAt_24 (sa_2_1 hs) hc0 hn rfl rfl (by decide) ?_
        show Ev g _ _ _ _ _ _ 25 [some (x_r (16 * 2 + 0)), some (x_i a)] [x_i (T 1 (a).toNat)] (al, ro, fl (ml M [2] [T])) _ _ _ _
        refine e_goto (pc := 25) (tgt := 29) dX10_byteAt_25 (by decide) ?_
        cases hr1
        exact hjhr1
set_option maxRecDepth 100000 in
set_option maxHeartbeats 4000000 in
theorem c_X10_takeMonths {g : xG} {al : List (Nat × Nat × Nat)} {ro : Nat → Nat → Option Nat} (hst : g.1.stackTraces = false) (hs : SH al ro) {M : Nat → xU} {T : xU}  {t : (Int × xU)} (hG : G10_takeMonths T = some t) :
    Cal g yX10_takeMonths cX10_takeMonths 4 (some .int) 1 [x_r (16 * 2 + 0)] (al, ro, fl (ml M [2] [T])) 0 0 (.inl (some (x_i t.1))) (al, ro, fl (ml M [2] [t.2])) := by
  have hn : ([2] : List Nat).Nodup := by decide
  refine cal_of_ev (plainFor_of_name (by decide)) (x_c1 rfl) (Nat.le_of_ble_eq_true rfl) hst ?_
  show Ev g _ _ _ _ _ _ 0 [some (x_r (16 * 2 + 0)), none, none, none] [] (al, ro, fl (ml M [2] [T])) _ _ _ _
  rw [G10_takeMonths] at hG
  refine e_iconst (pc := 0) dX10_takeMonths_0 (x_R rfl) ?_
  refine e_istoren (pc := 1) (i := 1) dX10_takeMonths_1 rfl (by decide) rfl ?_
  show Ev g _ _ _ _ _ _ 2 [some (x_r (16 * 2 + 0)), some (x_i 0), none, none] [] (al, ro, fl (ml M [2] [T])) _ _ _ _
  refine e_aloadn (pc := 2) (i := 0) dX10_takeMonths_2 rfl rfl ?_
  refine f_geti (pc := 3) (k := 0) (u := 2) (q := 0) dX10_takeMonths_3 xf10_52 (sa_2_0 hs) rfl hn rfl rfl (by decide) ?_
  show Ev g _ _ _ _ _ _ 6 [some (x_r (16 * 2 + 0)), some (x_i 0), none, none] [x_i (T 0 5)] (al, ro, fl (ml M [2] [T])) _ _ _ _
  refine e_iconst (pc := 6) dX10_takeMonths_6 (x_R rfl) ?_
  obtain ⟨T1, hr1, hG⟩ := x_bd1 hG
  have hjhr1 : Ev g yX10_takeMonths cX10_takeMonths 4 (some .int) [] 1 14 [some (x_r (16 * 2 + 0)), some (x_i 0), none, none] [] (al, ro, fl (ml M [2] [T1])) 0 0 (.inl (some (x_i t.1))) (al, ro, fl (ml M [2] [t.2])) := by
    refine e_aloadn (pc := 14) (i := 0) dX10_takeMonths_14 rfl rfl ?_
    refine f_geti (pc := 15) (k := 0) (u := 2) (q := 0) dX10_takeMonths_15 xf10_49 (sa_2_0 hs) rfl hn rfl rfl (by decide) ?_
    show Ev g _ _ _ _ _ _ 18 [some (x_r (16 * 2 + 0)), some (x_i 0), none, none] [x_i (T1 0 3)] (al, ro, fl (ml M [2] [T1])) _ _ _ _
    refine e_istoren (pc := 18) (i := 2) dX10_takeMonths_18 rfl (by decide) rfl ?_
    show Ev g _ _ _ _ _ _ 19 [some (x_r (16 * 2 + 0)), some (x_i 0), some (x_i (T1 0 3)), none] [] (al, ro, fl (ml M [2] [T1])) _ _ _ _
    obtain ⟨r8, hl8, hG⟩ := x_lrd hG
    have hk8 : ∀ q : Int, r8 = .inl q → Ev g yX10_takeMonths cX10_takeMonths 4 (some .int) [] 1 72 [some (x_r (16 * 2 + 0)), some (x_i q), none, none] [] (al, ro, fl (ml M [2] [T1])) 0 0 (.inl (some (x_i t.1))) (al, ro, fl (ml M [2] [t.2])) := by
      intro q hq
      subst hq
      replace hG := x_lr_l hG
      obtain ⟨v7, hqq⟩ : ∃ z, z = q := ⟨q, rfl⟩
      subst hqq
      replace hG := x_ed1 hG
      refine e_aloadn (pc := 72) (i := 0) dX10_takeMonths_72 rfl rfl ?_
      obtain ⟨T20, hq20, hG⟩ := x_bd1 hG
      refine e_invV (pc := 73) (K1 := 0) (S1 := 0) (K := 0) (S := 0) (dd2 := 0) (av := []) (st := []) (id := 16 * 2 + 0) dX10_takeMonths_73 xmX10_32 rfl (Or.inl ⟨8, 8, TX10, (sa_2_0 hs), rfl, by decide⟩) (f_cal (M := M) (us2 := [2]) [0] hn rfl (And.intro rfl trivial) rfl rfl rfl (c_X10_readNext hst hs   hq20)) (by decide) (Nat.le_of_ble_eq_true rfl) (Or.inl rfl) ?_
      show Ev g _ _ _ _ _ _ 76 [some (x_r (16 * 2 + 0)), some (x_i v7), none, none] [] (al, ro, fl (ml M [2] [T20])) _ _ _ _
      refine e_iloadn (pc := 76) (i := 1) dX10_takeMonths_76 rfl rfl ?_
      cases hG
      exact (e_ireturn rfl dX10_takeMonths_77 rfl)
    have hv8 : ∀ q : (Int × xU), r8 = .inr q → some q = some t := by
      intro q hq
      subst hq
      exact x_lr_r hG
    clear hG
    refine e_whl (G10_takeMonths_L19 T1) (fun z : (Int × Int) => Ev g yX10_takeMonths cX10_takeMonths 4 (some .int) [] 1 19 [some (x_r (16 * 2 + 0)), some (x_i z.1), some (x_i z.2), none] [] (al, ro, fl (ml M [2] [T1])) 0 0 (.inl (some (x_i t.1))) (al, ro, fl (ml M [2] [t.2]))) (fun q => q = r8) ?_ xFU (0, (T1 0 3)) _ hl8 rfl
    intro z t8 hf8 hi8 hx8
    obtain ⟨v5, v6⟩ := z
    rw [G10_takeMonths_L19] at hf8
    show Ev g _ _ _ _ _ _ 19 [some (x_r (16 * 2 + 0)), some (x_i v5), some (x_i v6), none] [] (al, ro, fl (ml M [2] [T1])) _ _ _ _
    refine e_iloadn (pc := 19) (i := 2) dX10_takeMonths_19 rfl rfl ?_
    refine e_aloadn (pc := 20) (i := 0) dX10_takeMonths_20 rfl rfl ?_
    refine f_geti (pc := 21) (k := 0) (u := 2) (q := 0) dX10_takeMonths_21 xf10_29 (sa_2_0 hs) rfl hn rfl rfl (by decide) ?_
    show Ev g _ _ _ _ _ _ 24 [some (x_r (16 * 2 + 0)), some (x_i v5), some (x_i v6), none] [x_i (T1 0 4), x_i v6] (al, ro, fl (ml M [2] [T1])) _ _ _ _
    refine e_icmp_ge (pc := 24) (tgt := 72) dX10_takeMonths_24 (by decide) (fun hb => ?_) (fun hb => ?_)
    · rw [if_pos hb] at hf8
      cases hf8
      refine e_drop (i := 2) ?_
      have hh := hk8 _ (hx8 _ rfl).symm
      try dsimp only at hh
      exact hh
    · rw [if_neg hb] at hf8
      refine e_aloadn (pc := 27) (i := 0) dX10_takeMonths_27 rfl rfl ?_
      refine e_iloadn (pc := 28) (i := 2) dX10_takeMonths_28 rfl rfl ?_
      obtain ⟨v10, hq10, hf8⟩ := x_bd1 hf8
      refine e_invV (pc := 29) (K1 := 0) (S1 := 0) (K := 0) (S := 0) (dd2 := 0) (av := [x_i v6]) (st := []) (id := 16 * 2 + 0) dX10_takeMonths_29 xmX10_85 rfl (Or.inl ⟨8, 8, TX10, (sa_2_0 hs), rfl, by decide⟩) (f_cal (M := M) (us2 := [2]) [0] hn rfl (And.intro rfl trivial) rfl rfl rfl (c_X10_byteAt hst hs   hq10)) (by decide) (Nat.le_of_ble_eq_true rfl) (Or.inl rfl) ?_
      show Ev g _ _ _ _ _ _ 32 [some (x_r (16 * 2 + 0)), some (x_i v5), some (x_i v6), none] [x_i v10] (al, ro, fl (ml M [2] [T1])) _ _ _ _
      refine e_bipush (pc := 32) dX10_takeMonths_32 (by decide +kernel) (x_R rfl) ?_
      refine e_isub (pc := 34) dX10_takeMonths_34 ?_
      refine e_istoren (pc := 35) (i := 3) dX10_takeMonths_35 rfl (by decide) rfl ?_
      show Ev g _ _ _ _ _ _ 36 [some (x_r (16 * 2 + 0)), some (x_i v5), some (x_i v6), some (x_i (x_sub v10 97))] [] (al, ro, fl (ml M [2] [T1])) _ _ _ _
      refine e_iloadn (pc := 36) (i := 3) dX10_takeMonths_36 rfl rfl ?_
      refine e_if_lt (pc := 37) (tgt := 54) dX10_takeMonths_37 (by decide) (fun hb => ?_) (fun hb => ?_)
      · rw [if_pos hb] at hf8
        refine e_aloadn (pc := 54) (i := 0) dX10_takeMonths_54 rfl rfl ?_
        obtain ⟨T12, hq12, hf8⟩ := x_bd1 hf8
        refine e_invV (pc := 55) (K1 := 0) (S1 := 0) (K := 0) (S := 0) (dd2 := 0) (av := []) (st := []) (id := 16 * 2 + 0) dX10_takeMonths_55 xmX10_43 rfl (Or.inl ⟨8, 8, TX10, (sa_2_0 hs), rfl, by decide⟩) (f_cal (M := M) (us2 := [2]) [0] hn rfl (And.intro rfl trivial) rfl rfl rfl (c_X10_refuse hst hs   hq12)) (by decide) (Nat.le_of_ble_eq_true rfl) (Or.inl rfl) ?_
        show Ev g _ _ _ _ _ _ 58 [some (x_r (16 * 2 + 0)), some (x_i v5), some (x_i v6), some (x_i (x_sub v10 97))] [] (al, ro, fl (ml M [2] [T12])) _ _ _ _
        refine e_iconst (pc := 58) dX10_takeMonths_58 (x_R rfl) ?_
        cases hf8
        have hz := hv8 _ (hx8 _ rfl).symm
        cases hz
        exact (e_ireturn rfl dX10_takeMonths_59 rfl)
      · rw [if_neg hb] at hf8
        refine e_iloadn (pc := 40) (i := 3) dX10_takeMonths_40 rfl rfl ?_
        refine e_bipush (pc := 41) dX10_takeMonths_41 (by decide +kernel) (x_R rfl) ?_
        refine e_icmp_ge (pc := 43) (tgt := 54) dX10_takeMonths_43 (by decide) (fun hb => ?_) (fun hb => ?_)
        · rw [if_pos hb] at hf8
          refine e_aloadn (pc := 54) (i := 0) dX10_takeMonths_54 rfl rfl ?_
          obtain ⟨T14, hq14, hf8⟩ := x_bd1 hf8
          refine e_invV (pc := 55) (K1 := 0) (S1 := 0) (K := 0) (S := 0) (dd2 := 0) (av := []) (st := []) (id := 16 * 2 + 0) dX10_takeMonths_55 xmX10_43 rfl (Or.inl ⟨8, 8, TX10, (sa_2_0 hs), rfl, by decide⟩) (f_cal (M := M) (us2 := [2]) [0] hn rfl (And.intro rfl trivial) rfl rfl rfl (c_X10_refuse hst hs   hq14)) (by decide) (Nat.le_of_ble_eq_true rfl) (Or.inl rfl) ?_
          show Ev g _ _ _ _ _ _ 58 [some (x_r (16 * 2 + 0)), some (x_i v5), some (x_i v6), some (x_i (x_sub v10 97))] [] (al, ro, fl (ml M [2] [T14])) _ _ _ _
          refine e_iconst (pc := 58) dX10_takeMonths_58 (x_R rfl) ?_
          cases hf8
          have hz := hv8 _ (hx8 _ rfl).symm
          cases hz
          exact (e_ireturn rfl dX10_takeMonths_59 rfl)
        · rw [if_neg hb] at hf8
          refine e_iloadn (pc := 46) (i := 1) dX10_takeMonths_46 rfl rfl ?_
          refine e_iloadn (pc := 47) (i := 3) dX10_takeMonths_47 rfl rfl ?_
          obtain ⟨v16, hq16, hf8⟩ := x_bd1 hf8
          refine e_invS (pc := 48) (K1 := 0) (S1 := 0) (K := 0) (S := 0) (dd2 := 0) (av := [x_i v5, x_i (x_sub v10 97)]) (st := []) dX10_takeMonths_48 xmX10_88 rfl (f_cal (M := M) (us2 := []) [] hn rfl trivial rfl rfl rfl (c_X11_holdsBit hst hs   hq16)) (by decide) (Nat.le_of_ble_eq_true rfl) (Or.inl rfl) ?_
          show Ev g _ _ _ _ _ _ 51 [some (x_r (16 * 2 + 0)), some (x_i v5), some (x_i v6), some (x_i (x_sub v10 97))] [x_i v16] (al, ro, fl (ml M [2] [T1])) _ _ _ _
          refine e_if_eq (pc := 51) (tgt := 60) dX10_takeMonths_51 (by decide) (fun hb => ?_) (fun hb => ?_)
          · rw [if_pos hb] at hf8
            refine e_iloadn (pc := 60) (i := 1) dX10_takeMonths_60 rfl rfl ?_
            refine e_iconst (pc := 61) dX10_takeMonths_61 (x_R rfl) ?_
            refine e_iloadn (pc := 62) (i := 3) dX10_takeMonths_62 rfl rfl ?_
            refine e_ishl (pc := 63) dX10_takeMonths_63 ?_
            refine e_ior (pc := 64) dX10_takeMonths_64 ?_
            refine e_istoren (pc := 65) (i := 1) dX10_takeMonths_65 rfl (by decide) rfl ?_
            show Ev g _ _ _ _ _ _ 66 [some (x_r (16 * 2 + 0)), some (x_i (x_or v5 (x_shl 1 (x_sub v10 97)))), some (x_i v6), some (x_i (x_sub v10 97))] [] (al, ro, fl (ml M [2] [T1])) _ _ _ _
            refine e_iinc (pc := 66) dX10_takeMonths_66 rfl (by decide) rfl ?_
            show Ev g _ _ _ _ _ _ 69 [some (x_r (16 * 2 + 0)), some (x_i (x_or v5 (x_shl 1 (x_sub v10 97)))), some (x_i (x_add v6 1)), some (x_i (x_sub v10 97))] [] (al, ro, fl (ml M [2] [T1])) _ _ _ _
            refine e_goto (pc := 69) (tgt := 19) dX10_takeMonths_69 (by decide) ?_
            cases hf8
            refine e_drop (i := 3) ?_
            have hh := hi8 _ rfl
            try dsimp only at hh
            exact hh
          · rw [if_neg hb] at hf8
            refine e_aloadn (pc := 54) (i := 0) dX10_takeMonths_54 rfl rfl ?_
            obtain ⟨T18, hq18, hf8⟩ := x_bd1 hf8
            refine e_invV (pc := 55) (K1 := 0) (S1 := 0) (K := 0) (S := 0) (dd2 := 0) (av := []) (st := []) (id := 16 * 2 + 0) dX10_takeMonths_55 xmX10_43 rfl (Or.inl ⟨8, 8, TX10, (sa_2_0 hs), rfl, by decide⟩) (f_cal (M := M) (us2 := [2]) [0] hn rfl (And.intro rfl trivial) rfl rfl rfl (c_X10_refuse hst hs   hq18)) (by decide) (Nat.le_of_ble_eq_true rfl) (Or.inl rfl) ?_
            show Ev g _ _ _ _ _ _ 58 [some (x_r (16 * 2 + 0)), some (x_i v5), some (x_i v6), some (x_i (x_sub v10 97))] [] (al, ro, fl (ml M [2] [T18])) _ _ _ _
            refine e_iconst (pc := 58) dX10_takeMonths_58 (x_R rfl) ?_
            cases hf8
            have hz := hv8 _ (hx8 _ rfl).symm
            cases hz
            exact (e_ireturn rfl dX10_takeMonths_59 rfl)
  clear hG
  refine e_icmp_eq (pc := 7) (tgt := 14) dX10_takeMonths_7 (by decide) (fun hb => ?_) (fun hb => ?_)
  · rw [if_pos hb] at hr1
    cases hr1
    exact hjhr1
  · rw [if_neg hb] at hr1
    refine e_aloadn (pc := 10) (i := 0) dX10_takeMonths_10 rfl rfl ?_
    obtain ⟨T3, hq3, hr1⟩ := x_bd1 hr1
    refine e_invV (pc := 11) (K1 := 0) (S1 := 0) (K := 0) (S := 0) (dd2 := 0) (av := []) (st := []) (id := 16 * 2 + 0) dX10_takeMonths_11 xmX10_43 rfl (Or.inl ⟨8, 8, TX10, (sa_2_0 hs), rfl, by decide⟩) (f_cal (M := M) (us2 := [2]) [0] hn rfl (And.intro rfl trivial) rfl rfl rfl (c_X10_refuse hst hs   hq3)) (by decide) (Nat.le_of_ble_eq_true rfl) (Or.inl rfl) ?_
    show Ev g _ _ _ _ _ _ 14 [some (x_r (16 * 2 + 0)), some (x_i 0), none, none] [] (al, ro, fl (ml M [2] [T3])) _ _ _ _
    cases hr1
    exact hjhr1
