set_option maxRecDepth 100000 in
set_option maxHeartbeats 4000000 in
theorem c_X6_copyFrom {g : xG} {al : List (Nat × Nat × Nat)} {ro : Nat → Nat → Option Nat} (hst : g.1.stackTraces = false) (hs : SH al ro) {u : Nat} (hu : 3 ≤ u ∧ u ≤ 18) {v : Nat} (hv : 3 ≤ v ∧ v ≤ 18) (huv : u ≠ v) {M : Nat → xU} {C : xU} {V : xU}  {t : xU} (hG : G6_copyFrom C V = some t) :
    Cal g yX6_copyFrom cX6_copyFrom 2 none 1 [x_r (16 * u + 3), x_r (16 * v + 3)] (al, ro, fl (ml M [u, v] [C, V])) 0 0 (.inl none) (al, ro, fl (ml M [u, v] [t, V])) := by
  have hn : ([u, v] : List Nat).Nodup := by simp <;> omega
  refine cal_of_ev (plainFor_of_name (by decide)) (x_c1 rfl) (Nat.le_of_ble_eq_true rfl) hst ?_
  show Ev g _ _ _ _ _ _ 0 [some (x_r (16 * u + 3)), some (x_r (16 * v + 3))] [] (al, ro, fl (ml M [u, v] [C, V])) _ _ _ _
  rw [G6_copyFrom] at hG
  refine e_aloadn (pc := 0) (i := 1) dX6_copyFrom_0 rfl rfl ?_
  refine f_getr (pc := 1) (u := v) (q := 3) dX6_copyFrom_1 xf6_11 (sc_a3 hs hv) rfl (sc_r3_0 hs hv) ?_
  refine e_aloadn (pc := 4) (i := 0) dX6_copyFrom_4 rfl rfl ?_
  refine f_getr (pc := 5) (u := u) (q := 3) dX6_copyFrom_5 xf6_11 (sc_a3 hs hu) rfl (sc_r3_0 hs hu) ?_
  refine e_invS (pc := 8) (K1 := 0) (S1 := 0) (K := 0) (S := 0) (dd2 := 0) (av := [x_r (16 * v + 4), x_r (16 * u + 4)]) (st := []) dX6_copyFrom_8 xmX6_15 rfl (p_copyRow (k := 1) (j := 0) (u := v) (q := 4) (v := u) (r := 4) (n := 60) hst (sc_a4 hs hv) (sc_a4 hs hu) hn rfl rfl rfl rfl rfl (by decide) (by decide) (by decide) (by decide)) (by decide) (Nat.le_of_ble_eq_true rfl) (Or.inl rfl) ?_
  show Ev g _ _ _ _ _ _ 11 [some (x_r (16 * u + 3)), some (x_r (16 * v + 3))] [] (al, ro, fl (ml M [u, v] [(x_cp C 4 V 4 60), V])) _ _ _ _
  refine e_aloadn (pc := 11) (i := 0) dX6_copyFrom_11 rfl rfl ?_
  refine e_aloadn (pc := 12) (i := 1) dX6_copyFrom_12 rfl rfl ?_
  refine f_geti (pc := 13) (k := 1) (u := v) (q := 3) dX6_copyFrom_13 xf6_19 (sc_a3 hs hv) rfl hn rfl rfl (by decide) ?_
  show Ev g _ _ _ _ _ _ 16 [some (x_r (16 * u + 3)), some (x_r (16 * v + 3))] [x_i (V 3 1), x_r (16 * u + 3)] (al, ro, fl (ml M [u, v] [(x_cp C 4 V 4 60), V])) _ _ _ _
  refine f_puti (pc := 16) (k := 0) (u := u) (q := 3) dX6_copyFrom_16 xf6_19 xw4_1 (sc_a3 hs hu) hn rfl rfl rfl (by decide) ?_
  show Ev g _ _ _ _ _ _ 19 [some (x_r (16 * u + 3)), some (x_r (16 * v + 3))] [] (al, ro, fl (ml M [u, v] [(x_up (x_cp C 4 V 4 60) 3 1 (V 3 1)), V])) _ _ _ _
  refine e_aloadn (pc := 19) (i := 0) dX6_copyFrom_19 rfl rfl ?_
  refine e_aloadn (pc := 20) (i := 1) dX6_copyFrom_20 rfl rfl ?_
  refine f_geti (pc := 21) (k := 1) (u := v) (q := 3) dX6_copyFrom_21 xf6_23 (sc_a3 hs hv) rfl hn rfl rfl (by decide) ?_
  show Ev g _ _ _ _ _ _ 24 [some (x_r (16 * u + 3)), some (x_r (16 * v + 3))] [x_i (V 3 2), x_r (16 * u + 3)] (al, ro, fl (ml M [u, v] [(x_up (x_cp C 4 V 4 60) 3 1 (V 3 1)), V])) _ _ _ _
  refine f_puti (pc := 24) (k := 0) (u := u) (q := 3) dX6_copyFrom_24 xf6_23 xw4_2 (sc_a3 hs hu) hn rfl rfl rfl (by decide) ?_
  show Ev g _ _ _ _ _ _ 27 [some (x_r (16 * u + 3)), some (x_r (16 * v + 3))] [] (al, ro, fl (ml M [u, v] [(x_up (x_up (x_cp C 4 V 4 60) 3 1 (V 3 1)) 3 2 (V 3 2)), V])) _ _ _ _
  cases hG
  exact (e_return rfl dX6_copyFrom_27)
set_option maxRecDepth 100000 in
set_option maxHeartbeats 4000000 in
theorem c_X1_copyFrom {g : xG} {al : List (Nat × Nat × Nat)} {ro : Nat → Nat → Option Nat} (hst : g.1.stackTraces = false) (hs : SH al ro) {u : Nat} (hu : 3 ≤ u ∧ u ≤ 18) {v : Nat} (hv : 3 ≤ v ∧ v ≤ 18) (huv : u ≠ v) {M : Nat → xU} {C : xU} {V : xU}  {t : xU} (hG : G1_copyFrom C V = some t) :
    Cal g yX1_copyFrom cX1_copyFrom 2 none 2 [x_r (16 * u + 0), x_r (16 * v + 0)] (al, ro, fl (ml M [u, v] [C, V])) 0 0 (.inl none) (al, ro, fl (ml M [u, v] [t, V])) := by
  have hn : ([u, v] : List Nat).Nodup := by simp <;> omega
  refine cal_of_ev (plainFor_of_name (by decide)) (x_c1 rfl) (Nat.le_of_ble_eq_true rfl) hst ?_
  show Ev g _ _ _ _ _ _ 0 [some (x_r (16 * u + 0)), some (x_r (16 * v + 0))] [] (al, ro, fl (ml M [u, v] [C, V])) _ _ _ _
  rw [G1_copyFrom] at hG
  refine e_aloadn (pc := 0) (i := 1) dX1_copyFrom_0 rfl rfl ?_
  refine f_getr (pc := 1) (u := v) (q := 0) dX1_copyFrom_1 xf1_9 (sc_a0 hs hv) rfl (sc_r0_0 hs hv) ?_
  refine e_aloadn (pc := 4) (i := 0) dX1_copyFrom_4 rfl rfl ?_
  refine f_getr (pc := 5) (u := u) (q := 0) dX1_copyFrom_5 xf1_9 (sc_a0 hs hu) rfl (sc_r0_0 hs hu) ?_
  refine e_invS (pc := 8) (K1 := 0) (S1 := 0) (K := 0) (S := 0) (dd2 := 0) (av := [x_r (16 * v + 1), x_r (16 * u + 1)]) (st := []) dX1_copyFrom_8 xmX1_35 rfl (p_copyRow (k := 1) (j := 0) (u := v) (q := 1) (v := u) (r := 1) (n := 56) hst (sc_a1 hs hv) (sc_a1 hs hu) hn rfl rfl rfl rfl rfl (by decide) (by decide) (by decide) (by decide)) (by decide) (Nat.le_of_ble_eq_true rfl) (Or.inl rfl) ?_
  show Ev g _ _ _ _ _ _ 11 [some (x_r (16 * u + 0)), some (x_r (16 * v + 0))] [] (al, ro, fl (ml M [u, v] [(x_cp C 1 V 1 56), V])) _ _ _ _
  refine e_aloadn (pc := 11) (i := 1) dX1_copyFrom_11 rfl rfl ?_
  refine f_getr (pc := 12) (u := v) (q := 0) dX1_copyFrom_12 xf1_15 (sc_a0 hs hv) rfl (sc_r0_1 hs hv) ?_
  refine e_aloadn (pc := 15) (i := 0) dX1_copyFrom_15 rfl rfl ?_
  refine f_getr (pc := 16) (u := u) (q := 0) dX1_copyFrom_16 xf1_15 (sc_a0 hs hu) rfl (sc_r0_1 hs hu) ?_
  refine e_invS (pc := 19) (K1 := 0) (S1 := 0) (K := 0) (S := 0) (dd2 := 0) (av := [x_r (16 * v + 2), x_r (16 * u + 2)]) (st := []) dX1_copyFrom_19 xmX1_35 rfl (p_copyRow (k := 1) (j := 0) (u := v) (q := 2) (v := u) (r := 2) (n := 4) hst (sc_a2 hs hv) (sc_a2 hs hu) hn rfl rfl rfl rfl rfl (by decide) (by decide) (by decide) (by decide)) (by decide) (Nat.le_of_ble_eq_true rfl) (Or.inl rfl) ?_
  show Ev g _ _ _ _ _ _ 22 [some (x_r (16 * u + 0)), some (x_r (16 * v + 0))] [] (al, ro, fl (ml M [u, v] [(x_cp (x_cp C 1 V 1 56) 2 V 2 4), V])) _ _ _ _
  refine e_aloadn (pc := 22) (i := 0) dX1_copyFrom_22 rfl rfl ?_
  refine f_getr (pc := 23) (u := u) (q := 0) dX1_copyFrom_23 xf1_21 (sc_a0 hs hu) rfl (sc_r0_2 hs hu) ?_
  refine e_aloadn (pc := 26) (i := 1) dX1_copyFrom_26 rfl rfl ?_
  refine f_getr (pc := 27) (u := v) (q := 0) dX1_copyFrom_27 xf1_21 (sc_a0 hs hv) rfl (sc_r0_2 hs hv) ?_
  obtain ⟨C1, hq1, hG⟩ := x_bd1 hG
  refine e_invV (pc := 30) (K1 := 0) (S1 := 0) (K := 0) (S := 0) (dd2 := 1) (av := [x_r (16 * v + 3)]) (st := []) (id := 16 * u + 3) dX1_copyFrom_30 xmX1_39 rfl (Or.inl ⟨4, 3, TX6, (sc_a3 hs hu), rfl, by decide⟩) (f_cal (M := M) (us2 := [u, v]) [0, 1] hn rfl (And.intro rfl (And.intro rfl trivial)) rfl rfl rfl (c_X6_copyFrom hst hs hu hv huv  hq1)) (by decide) (Nat.le_of_ble_eq_true rfl) (Or.inl rfl) ?_
  show Ev g _ _ _ _ _ _ 33 [some (x_r (16 * u + 0)), some (x_r (16 * v + 0))] [] (al, ro, fl (ml M [u, v] [C1, V])) _ _ _ _
  refine e_aloadn (pc := 33) (i := 0) dX1_copyFrom_33 rfl rfl ?_
  refine e_aloadn (pc := 34) (i := 1) dX1_copyFrom_34 rfl rfl ?_
  refine f_geti (pc := 35) (k := 1) (u := v) (q := 0) dX1_copyFrom_35 xf1_43 (sc_a0 hs hv) rfl hn rfl rfl (by decide) ?_
  show Ev g _ _ _ _ _ _ 38 [some (x_r (16 * u + 0)), some (x_r (16 * v + 0))] [x_i (V 0 3), x_r (16 * u + 0)] (al, ro, fl (ml M [u, v] [C1, V])) _ _ _ _
  refine f_puti (pc := 38) (k := 0) (u := u) (q := 0) dX1_copyFrom_38 xf1_43 xw1_3 (sc_a0 hs hu) hn rfl rfl rfl (by decide) ?_
  show Ev g _ _ _ _ _ _ 41 [some (x_r (16 * u + 0)), some (x_r (16 * v + 0))] [] (al, ro, fl (ml M [u, v] [(x_up C1 0 3 (V 0 3)), V])) _ _ _ _
  refine e_aloadn (pc := 41) (i := 0) dX1_copyFrom_41 rfl rfl ?_
  refine e_aloadn (pc := 42) (i := 1) dX1_copyFrom_42 rfl rfl ?_
  refine f_geti (pc := 43) (k := 1) (u := v) (q := 0) dX1_copyFrom_43 xf1_46 (sc_a0 hs hv) rfl hn rfl rfl (by decide) ?_
  show Ev g _ _ _ _ _ _ 46 [some (x_r (16 * u + 0)), some (x_r (16 * v + 0))] [x_i (V 0 4), x_r (16 * u + 0)] (al, ro, fl (ml M [u, v] [(x_up C1 0 3 (V 0 3)), V])) _ _ _ _
  refine f_puti (pc := 46) (k := 0) (u := u) (q := 0) dX1_copyFrom_46 xf1_46 xw1_4 (sc_a0 hs hu) hn rfl rfl rfl (by decide) ?_
  show Ev g _ _ _ _ _ _ 49 [some (x_r (16 * u + 0)), some (x_r (16 * v + 0))] [] (al, ro, fl (ml M [u, v] [(x_up (x_up C1 0 3 (V 0 3)) 0 4 (V 0 4)), V])) _ _ _ _
  refine e_aloadn (pc := 49) (i := 0) dX1_copyFrom_49 rfl rfl ?_
  refine e_aloadn (pc := 50) (i := 1) dX1_copyFrom_50 rfl rfl ?_
  refine f_geti (pc := 51) (k := 1) (u := v) (q := 0) dX1_copyFrom_51 xf1_49 (sc_a0 hs hv) rfl hn rfl rfl (by decide) ?_
  show Ev g _ _ _ _ _ _ 54 [some (x_r (16 * u + 0)), some (x_r (16 * v + 0))] [x_i (V 0 5), x_r (16 * u + 0)] (al, ro, fl (ml M [u, v] [(x_up (x_up C1 0 3 (V 0 3)) 0 4 (V 0 4)), V])) _ _ _ _
  refine f_puti (pc := 54) (k := 0) (u := u) (q := 0) dX1_copyFrom_54 xf1_49 xw1_5 (sc_a0 hs hu) hn rfl rfl rfl (by decide) ?_
  show Ev g _ _ _ _ _ _ 57 [some (x_r (16 * u + 0)), some (x_r (16 * v + 0))] [] (al, ro, fl (ml M [u, v] [(x_up (x_up (x_up C1 0 3 (V 0 3)) 0 4 (V 0 4)) 0 5 (V 0 5)), V])) _ _ _ _
  refine e_aloadn (pc := 57) (i := 0) dX1_copyFrom_57 rfl rfl ?_
  refine e_aloadn (pc := 58) (i := 1) dX1_copyFrom_58 rfl rfl ?_
  refine f_geti (pc := 59) (k := 1) (u := v) (q := 0) dX1_copyFrom_59 xf1_52 (sc_a0 hs hv) rfl hn rfl rfl (by decide) ?_
  show Ev g _ _ _ _ _ _ 62 [some (x_r (16 * u + 0)), some (x_r (16 * v + 0))] [x_i (V 0 6), x_r (16 * u + 0)] (al, ro, fl (ml M [u, v] [(x_up (x_up (x_up C1 0 3 (V 0 3)) 0 4 (V 0 4)) 0 5 (V 0 5)), V])) _ _ _ _
  refine f_puti (pc := 62) (k := 0) (u := u) (q := 0) dX1_copyFrom_62 xf1_52 xw1_6 (sc_a0 hs hu) hn rfl rfl rfl (by decide) ?_
  show Ev g _ _ _ _ _ _ 65 [some (x_r (16 * u + 0)), some (x_r (16 * v + 0))] [] (al, ro, fl (ml M [u, v] [(x_up (x_up (x_up (x_up C1 0 3 (V 0 3)) 0 4 (V 0 4)) 0 5 (V 0 5)) 0 6 (V 0 6)), V])) _ _ _ _
  refine e_aloadn (pc := 65) (i := 0) dX1_copyFrom_65 rfl rfl ?_
  refine e_aloadn (pc := 66) (i := 1) dX1_copyFrom_66 rfl rfl ?_
  refine f_geti (pc := 67) (k := 1) (u := v) (q := 0) dX1_copyFrom_67 xf1_55 (sc_a0 hs hv) rfl hn rfl rfl (by decide) ?_
  show Ev g _ _ _ _ _ _ 70 [some (x_r (16 * u + 0)), some (x_r (16 * v + 0))] [x_i (V 0 7), x_r (16 * u + 0)] (al, ro, fl (ml M [u, v] [(x_up (x_up (x_up (x_up C1 0 3 (V 0 3)) 0 4 (V 0 4)) 0 5 (V 0 5)) 0 6 (V 0 6)), V])) _ _ _ _
  refine f_puti (pc := 70) (k := 0) (u := u) (q := 0) dX1_copyFrom_70 xf1_55 xw1_7 (sc_a0 hs hu) hn rfl rfl rfl (by decide) ?_
  show Ev g _ _ _ _ _ _ 73 [some (x_r (16 * u + 0)), some (x_r (16 * v + 0))] [] (al, ro, fl (ml M [u, v] [(x_up (x_up (x_up (x_up (x_up C1 0 3 (V 0 3)) 0 4 (V 0 4)) 0 5 (V 0 5)) 0 6 (V 0 6)) 0 7 (V 0 7)), V])) _ _ _ _
  refine e_aloadn (pc := 73) (i := 0) dX1_copyFrom_73 rfl rfl ?_
  refine e_aloadn (pc := 74) (i := 1) dX1_copyFrom_74 rfl rfl ?_
  refine f_geti (pc := 75) (k := 1) (u := v) (q := 0) dX1_copyFrom_75 xf1_25 (sc_a0 hs hv) rfl hn rfl rfl (by decide) ?_
  show Ev g _ _ _ _ _ _ 78 [some (x_r (16 * u + 0)), some (x_r (16 * v + 0))] [x_i (V 0 8), x_r (16 * u + 0)] (al, ro, fl (ml M [u, v] [(x_up (x_up (x_up (x_up (x_up C1 0 3 (V 0 3)) 0 4 (V 0 4)) 0 5 (V 0 5)) 0 6 (V 0 6)) 0 7 (V 0 7)), V])) _ _ _ _
  refine f_puti (pc := 78) (k := 0) (u := u) (q := 0) dX1_copyFrom_78 xf1_25 xw1_8 (sc_a0 hs hu) hn rfl rfl rfl (by decide) ?_
  show Ev g _ _ _ _ _ _ 81 [some (x_r (16 * u + 0)), some (x_r (16 * v + 0))] [] (al, ro, fl (ml M [u, v] [(x_up (x_up (x_up (x_up (x_up (x_up C1 0 3 (V 0 3)) 0 4 (V 0 4)) 0 5 (V 0 5)) 0 6 (V 0 6)) 0 7 (V 0 7)) 0 8 (V 0 8)), V])) _ _ _ _
  refine e_aloadn (pc := 81) (i := 0) dX1_copyFrom_81 rfl rfl ?_
  refine e_aloadn (pc := 82) (i := 1) dX1_copyFrom_82 rfl rfl ?_
  refine f_geti (pc := 83) (k := 1) (u := v) (q := 0) dX1_copyFrom_83 xf1_58 (sc_a0 hs hv) rfl hn rfl rfl (by decide) ?_
  show Ev g _ _ _ _ _ _ 86 [some (x_r (16 * u + 0)), some (x_r (16 * v + 0))] [x_i (V 0 9), x_r (16 * u + 0)] (al, ro, fl (ml M [u, v] [(x_up (x_up (x_up (x_up (x_up (x_up C1 0 3 (V 0 3)) 0 4 (V 0 4)) 0 5 (V 0 5)) 0 6 (V 0 6)) 0 7 (V 0 7)) 0 8 (V 0 8)), V])) _ _ _ _
  refine f_puti (pc := 86) (k := 0) (u := u) (q := 0) dX1_copyFrom_86 xf1_58 xw1_9 (sc_a0 hs hu) hn rfl rfl rfl (by decide) ?_
  show Ev g _ _ _ _ _ _ 89 [some (x_r (16 * u + 0)), some (x_r (16 * v + 0))] [] (al, ro, fl (ml M [u, v] [(x_up (x_up (x_up (x_up (x_up (x_up (x_up C1 0 3 (V 0 3)) 0 4 (V 0 4)) 0 5 (V 0 5)) 0 6 (V 0 6)) 0 7 (V 0 7)) 0 8 (V 0 8)) 0 9 (V 0 9)), V])) _ _ _ _
  refine e_aloadn (pc := 89) (i := 0) dX1_copyFrom_89 rfl rfl ?_
  refine e_aloadn (pc := 90) (i := 1) dX1_copyFrom_90 rfl rfl ?_
  refine f_geti (pc := 91) (k := 1) (u := v) (q := 0) dX1_copyFrom_91 xf1_29 (sc_a0 hs hv) rfl hn rfl rfl (by decide) ?_
  show Ev g _ _ _ _ _ _ 94 [some (x_r (16 * u + 0)), some (x_r (16 * v + 0))] [x_i (V 0 10), x_r (16 * u + 0)] (al, ro, fl (ml M [u, v] [(x_up (x_up (x_up (x_up (x_up (x_up (x_up C1 0 3 (V 0 3)) 0 4 (V 0 4)) 0 5 (V 0 5)) 0 6 (V 0 6)) 0 7 (V 0 7)) 0 8 (V 0 8)) 0 9 (V 0 9)), V])) _ _ _ _
  refine f_puti (pc := 94) (k := 0) (u := u) (q := 0) dX1_copyFrom_94 xf1_29 xw1_10 (sc_a0 hs hu) hn rfl rfl rfl (by decide) ?_
  show Ev g _ _ _ _ _ _ 97 [some (x_r (16 * u + 0)), some (x_r (16 * v + 0))] [] (al, ro, fl (ml M [u, v] [(x_up (x_up (x_up (x_up (x_up (x_up (x_up (x_up C1 0 3 (V 0 3)) 0 4 (V 0 4)) 0 5 (V 0 5)) 0 6 (V 0 6)) 0 7 (V 0 7)) 0 8 (V 0 8)) 0 9 (V 0 9)) 0 10 (V 0 10)), V])) _ _ _ _
  refine e_aloadn (pc := 97) (i := 0) dX1_copyFrom_97 rfl rfl ?_
  refine e_aloadn (pc := 98) (i := 1) dX1_copyFrom_98 rfl rfl ?_
  refine f_geti (pc := 99) (k := 1) (u := v) (q := 0) dX1_copyFrom_99 xf1_32 (sc_a0 hs hv) rfl hn rfl rfl (by decide) ?_
  show Ev g _ _ _ _ _ _ 102 [some (x_r (16 * u + 0)), some (x_r (16 * v + 0))] [x_i (V 0 11), x_r (16 * u + 0)] (al, ro, fl (ml M [u, v] [(x_up (x_up (x_up (x_up (x_up (x_up (x_up (x_up C1 0 3 (V 0 3)) 0 4 (V 0 4)) 0 5 (V 0 5)) 0 6 (V 0 6)) 0 7 (V 0 7)) 0 8 (V 0 8)) 0 9 (V 0 9)) 0 10 (V 0 10)), V])) _ _ _ _
  refine f_puti (pc := 102) (k := 0) (u := u) (q := 0) dX1_copyFrom_102 xf1_32 xw1_11 (sc_a0 hs hu) hn rfl rfl rfl (by decide) ?_
  show Ev g _ _ _ _ _ _ 105 [some (x_r (16 * u + 0)), some (x_r (16 * v + 0))] [] (al, ro, fl (ml M [u, v] [(x_up (x_up (x_up (x_up (x_up (x_up (x_up (x_up (x_up C1 0 3 (V 0 3)) 0 4 (V 0 4)) 0 5 (V 0 5)) 0 6 (V 0 6)) 0 7 (V 0 7)) 0 8 (V 0 8)) 0 9 (V 0 9)) 0 10 (V 0 10)) 0 11 (V 0 11)), V])) _ _ _ _
  cases hG
  exact (e_return rfl dX1_copyFrom_105)
theorem x_cf_eq {C V : xU} : G1_copyFrom C V = some (x_cf C V) := rfl
set_option maxRecDepth 100000 in
set_option maxHeartbeats 4000000 in
theorem c_X11_remember {g : xG} {al : List (Nat × Nat × Nat)} {ro : Nat → Nat → Option Nat} (hst : g.1.stackTraces = false) (hs : SH al ro) {M : Nat → xU} {X N : xU} {A : xA} {t : (xU × xA)} (hG : G11_remember X N A = some t) :
    Cal g yX11_remember cX11_remember 2 none 3 [x_r (16 * 1 + 0)] (al, ro, fl (ml (x_ac M A) [1, 3] [X, N])) 0 0 (.inl none) (al, ro, fl (ml (x_ac M t.2) [1, 3] [t.1, N])) := by
  have hn : ([1, 3] : List Nat).Nodup := by decide
  refine cal_of_ev (plainFor_of_name (by decide)) (x_c1 rfl) (Nat.le_of_ble_eq_true rfl) hst ?_
  show Ev g _ _ _ _ _ _ 0 [some (x_r (16 * 1 + 0)), none] [] (al, ro, fl (ml (x_ac M A) [1, 3] [X, N])) _ _ _ _
  rw [G11_remember] at hG
  obtain ⟨X1, hr, hG⟩ := x_bd1 hG
  have key : Ev g yX11_remember cX11_remember 2 none [] 3 28 [some (x_r (16 * 1 + 0)), none] [] (al, ro, fl (ml (x_ac M A) [1, 3] [X1, N])) 0 0 (.inl none) (al, ro, fl (ml (x_ac M t.2) [1, 3] [t.1, N])) := by
    clear hr
    have hk := x_pl_lt X1 (X1 0 15)
    refine e_aloadn (pc := 28) (i := 0) dX11_remember_28 rfl rfl ?_
    refine e_aloadn (pc := 29) (i := 0) dX11_remember_29 rfl rfl ?_
    refine f_geti (pc := 30) (k := 0) (u := 1) (q := 0) dX11_remember_30 xf11_114 (sa_1_0 hs) rfl hn rfl rfl (by decide) ?_
    refine e_invV (pc := 33) (K1 := 0) (S1 := 0) (K := 0) (S := 0) (dd2 := 1) (av := [x_i (X1 0 15)]) (st := []) (id := 16 * 1 + 0) dX11_remember_33 xmX11_361 rfl (Or.inl ⟨9, 17, TX11, (sa_1_0 hs), rfl, by decide⟩) (p_actAt hst hs) (by decide) (Nat.le_of_ble_eq_true rfl) (Or.inl rfl) ?_
    show Ev g _ _ _ _ _ _ 36 [some (x_r (16 * 1 + 0)), none] [x_r (16 * (6 + x_pl X1 (X1 0 15)) + 0)] (al, ro, fl (ml (x_ac M A) [1, 3] [X1, N])) _ _ _ _
    change some (x_up X1 0 15 (x_add (X1 0 15) 1), x_aw A (6 + x_pl X1 (X1 0 15)) (x_cf (A (6 + x_pl X1 (X1 0 15))) N)) = some t at hG
    generalize x_pl X1 (X1 0 15) = k at hk hG ⊢
    refine e_astoren (pc := 36) (i := 1) dX11_remember_36 rfl (by decide) rfl ?_
    show Ev g _ _ _ _ _ _ 37 [some (x_r (16 * 1 + 0)), some (x_r (16 * (6 + k) + 0))] [] (al, ro, fl (ml (x_ac M A) [1, 3] [X1, N])) _ _ _ _
    refine e_aloadn (pc := 37) (i := 1) dX11_remember_37 rfl rfl ?_
    refine e_ifnull_r (pc := 38) dX11_remember_38 ?_
    refine e_aloadn (pc := 41) (i := 1) dX11_remember_41 rfl rfl ?_
    refine e_aloadn (pc := 42) (i := 0) dX11_remember_42 rfl rfl ?_
    refine f_getr (pc := 43) (u := 1) (q := 0) dX11_remember_43 xf11_19 (sa_1_0 hs) rfl (sr_1_0_1 hs) ?_
    have hu : 6 ≤ 6 + k ∧ 6 + k ≤ 17 := ⟨by omega, by omega⟩
    have hC : Cal g yX1_copyFrom cX1_copyFrom 2 none 2 [x_r (16 * (6 + k) + 0), x_r (16 * 3 + 0)] (al, ro, fl (ml (x_ac M A) [1, 3] [X1, N])) 0 0 (.inl none) (al, ro, fl (ml (x_ac M (x_aw A (6 + k) (x_cf (A (6 + k)) N))) [1, 3] [X1, N])) := by
      have q := c_X1_copyFrom (g := g) hst hs (u := 6 + k) (v := 3) ⟨by omega, by omega⟩ ⟨by decide, by decide⟩ (by omega) (M := ml (x_ac M A) [1, 3] [X1, N]) (x_cf_eq (C := A (6 + k)) (V := N))
      have e1 : ml (ml (x_ac M A) [1, 3] [X1, N]) [6 + k, 3] [A (6 + k), N] = ml (x_ac M A) [1, 3] [X1, N] := by
        show u_s (u_s _ (6 + k) (A (6 + k))) 3 N = _
        rw [u_s_id (M := ml (x_ac M A) [1, 3] [X1, N]) (x_ac_in (by decide) hu), u_s_id (ml_at (k := 1) hn rfl rfl)]
      have e2 : ml (ml (x_ac M A) [1, 3] [X1, N]) [6 + k, 3] [x_cf (A (6 + k)) N, N] = ml (x_ac M (x_aw A (6 + k) (x_cf (A (6 + k)) N))) [1, 3] [X1, N] := by
        show u_s (u_s _ (6 + k) (x_cf (A (6 + k)) N)) 3 N = _
        rw [x_ac_set (by decide) hu, u_s_id (ml_at (k := 1) hn rfl rfl)]
      rw [e1, e2] at q
      exact q
    refine e_invV (pc := 46) (K1 := 0) (S1 := 0) (K := 0) (S := 0) (dd2 := 2) (av := [x_r (16 * 3 + 0)]) (st := []) (id := 16 * (6 + k) + 0) dX11_remember_46 xmX11_92 rfl (Or.inl ⟨1, 12, TX1, (sc_a0 hs ⟨by omega, by omega⟩), rfl, by decide⟩) hC (by decide) (Nat.le_of_ble_eq_true rfl) (Or.inl rfl) ?_
    show Ev g _ _ _ _ _ _ 49 [some (x_r (16 * 1 + 0)), some (x_r (16 * (6 + k) + 0))] [] (al, ro, fl (ml (x_ac M (x_aw A (6 + k) (x_cf (A (6 + k)) N))) [1, 3] [X1, N])) _ _ _ _
    refine e_aloadn (pc := 49) (i := 0) dX11_remember_49 rfl rfl ?_
    refine e_dup (pc := 50) dX11_remember_50 rfl ?_
    refine f_geti (pc := 51) (k := 0) (u := 1) (q := 0) dX11_remember_51 xf11_114 (sa_1_0 hs) rfl hn rfl rfl (by decide) ?_
    refine e_iconst (pc := 54) dX11_remember_54 (x_R rfl) ?_
    refine e_iadd (pc := 55) dX11_remember_55 ?_
    refine f_puti (pc := 56) (k := 0) (u := 1) (q := 0) dX11_remember_56 xf11_114 xw9_15 (sa_1_0 hs) hn rfl rfl rfl (by decide) ?_
    cases hG
    exact e_return rfl dX11_remember_59
  clear hG
  refine e_aloadn (pc := 0) (i := 0) dX11_remember_0 rfl rfl ?_
  refine f_geti (pc := 1) (k := 0) (u := 1) (q := 0) dX11_remember_1 xf11_114 (sa_1_0 hs) rfl hn rfl rfl (by decide) ?_
  refine e_bipush (pc := 4) dX11_remember_4 (by decide +kernel) (x_R rfl) ?_
  refine e_icmp_lt (pc := 6) (tgt := 28) dX11_remember_6 (by decide) (fun hb => ?_) (fun hb => ?_)
  · rw [if_pos hb] at hr
    cases hr
    exact key
  · rw [if_neg hb] at hr
    refine e_aloadn (pc := 9) (i := 0) dX11_remember_9 rfl rfl ?_
    refine e_aloadn (pc := 10) (i := 0) dX11_remember_10 rfl rfl ?_
    refine f_geti (pc := 11) (k := 0) (u := 1) (q := 0) dX11_remember_11 xf11_382 (sa_1_0 hs) rfl hn rfl rfl (by decide) ?_
    refine e_iconst (pc := 14) dX11_remember_14 (x_R rfl) ?_
    refine e_iadd (pc := 15) dX11_remember_15 ?_
    refine e_bipush (pc := 16) dX11_remember_16 (by decide +kernel) (x_R rfl) ?_
    refine e_irem (pc := 18) dX11_remember_18 (by decide) ?_
    refine f_puti (pc := 19) (k := 0) (u := 1) (q := 0) dX11_remember_19 xf11_382 xw9_14 (sa_1_0 hs) hn rfl rfl rfl (by decide) ?_
    refine e_aloadn (pc := 22) (i := 0) dX11_remember_22 rfl rfl ?_
    refine e_bipush (pc := 23) dX11_remember_23 (by decide +kernel) (x_R rfl) ?_
    refine f_puti (pc := 25) (k := 0) (u := 1) (q := 0) dX11_remember_25 xf11_114 xw9_15 (sa_1_0 hs) hn rfl rfl rfl (by decide) ?_
    cases hr
    exact key
set_option maxRecDepth 100000 in
set_option maxHeartbeats 4000000 in
theorem c_X11_undo {g : xG} {al : List (Nat × Nat × Nat)} {ro : Nat → Nat → Option Nat} (hst : g.1.stackTraces = false) (hs : SH al ro) {M : Nat → xU} {X N : xU} {A : xA} {t : (Int × xU × xU)} (hG : G11_undo X N A = some t) :
    Cal g yX11_undo cX11_undo 2 (some .boolean) 3 [x_r (16 * 1 + 0)] (al, ro, fl (ml (x_ac M A) [1, 3] [X, N])) 0 0 (.inl (some (x_i t.1))) (al, ro, fl (ml (x_ac M A) [1, 3] [t.2.1, t.2.2])) := by
  have hn : ([1, 3] : List Nat).Nodup := by decide
  refine cal_of_ev (plainFor_of_name (by decide)) (x_c1 rfl) (Nat.le_of_ble_eq_true rfl) hst ?_
  show Ev g _ _ _ _ _ _ 0 [some (x_r (16 * 1 + 0)), none] [] (al, ro, fl (ml (x_ac M A) [1, 3] [X, N])) _ _ _ _
  rw [G11_undo] at hG
  refine e_aloadn (pc := 0) (i := 0) dX11_undo_0 rfl rfl ?_
  refine f_geti (pc := 1) (k := 0) (u := 1) (q := 0) dX11_undo_1 xf11_114 (sa_1_0 hs) rfl hn rfl rfl (by decide) ?_
  refine e_if_gt (pc := 4) (tgt := 9) dX11_undo_4 (by decide) (fun hb => ?_) (fun hb => ?_)
  · rw [if_pos hb] at hG
    refine e_aloadn (pc := 9) (i := 0) dX11_undo_9 rfl rfl ?_
    refine e_dup (pc := 10) dX11_undo_10 rfl ?_
    refine f_geti (pc := 11) (k := 0) (u := 1) (q := 0) dX11_undo_11 xf11_114 (sa_1_0 hs) rfl hn rfl rfl (by decide) ?_
    refine e_iconst (pc := 14) dX11_undo_14 (x_R rfl) ?_
    refine e_isub (pc := 15) dX11_undo_15 ?_
    refine f_puti (pc := 16) (k := 0) (u := 1) (q := 0) dX11_undo_16 xf11_114 xw9_15 (sa_1_0 hs) hn rfl rfl rfl (by decide) ?_
    show Ev g _ _ _ _ _ _ 19 [some (x_r (16 * 1 + 0)), none] [] (al, ro, fl (ml (x_ac M A) [1, 3] [x_up X 0 15 (x_sub (X 0 15) 1), N])) _ _ _ _
    have hX : x_pl (x_up X 0 15 (x_sub (X 0 15) 1)) ((x_up X 0 15 (x_sub (X 0 15) 1)) 0 15) = ((x_mod (x_add (X 0 14) (x_sub (X 0 15) 1)) 12).toNat) := rfl
    rw [← hX] at hG
    generalize x_up X 0 15 (x_sub (X 0 15) 1) = X1 at hG ⊢
    have hk := x_pl_lt X1 (X1 0 15)
    refine e_aloadn (pc := 19) (i := 0) dX11_undo_19 rfl rfl ?_
    refine e_aloadn (pc := 20) (i := 0) dX11_undo_20 rfl rfl ?_
    refine f_geti (pc := 21) (k := 0) (u := 1) (q := 0) dX11_undo_21 xf11_114 (sa_1_0 hs) rfl hn rfl rfl (by decide) ?_
    refine e_invV (pc := 24) (K1 := 0) (S1 := 0) (K := 0) (S := 0) (dd2 := 1) (av := [x_i (X1 0 15)]) (st := []) (id := 16 * 1 + 0) dX11_undo_24 xmX11_361 rfl (Or.inl ⟨9, 17, TX11, (sa_1_0 hs), rfl, by decide⟩) (p_actAt hst hs) (by decide) (Nat.le_of_ble_eq_true rfl) (Or.inl rfl) ?_
    show Ev g _ _ _ _ _ _ 27 [some (x_r (16 * 1 + 0)), none] [x_r (16 * (6 + x_pl X1 (X1 0 15)) + 0)] (al, ro, fl (ml (x_ac M A) [1, 3] [X1, N])) _ _ _ _
    generalize x_pl X1 (X1 0 15) = k at hk hG ⊢
    refine e_astoren (pc := 27) (i := 1) dX11_undo_27 rfl (by decide) rfl ?_
    show Ev g _ _ _ _ _ _ 28 [some (x_r (16 * 1 + 0)), some (x_r (16 * (6 + k) + 0))] [] (al, ro, fl (ml (x_ac M A) [1, 3] [X1, N])) _ _ _ _
    refine e_aloadn (pc := 28) (i := 1) dX11_undo_28 rfl rfl ?_
    refine e_ifnull_r (pc := 29) dX11_undo_29 ?_
    refine e_aloadn (pc := 32) (i := 0) dX11_undo_32 rfl rfl ?_
    refine f_getr (pc := 33) (u := 1) (q := 0) dX11_undo_33 xf11_19 (sa_1_0 hs) rfl (sr_1_0_1 hs) ?_
    refine e_aloadn (pc := 36) (i := 1) dX11_undo_36 rfl rfl ?_
    have hu : 6 ≤ 6 + k ∧ 6 + k ≤ 17 := ⟨by omega, by omega⟩
    have hC : Cal g yX1_copyFrom cX1_copyFrom 2 none 2 [x_r (16 * 3 + 0), x_r (16 * (6 + k) + 0)] (al, ro, fl (ml (x_ac M A) [1, 3] [X1, N])) 0 0 (.inl none) (al, ro, fl (ml (x_ac M A) [1, 3] [X1, x_cf N (A (6 + k))])) := by
      have q := c_X1_copyFrom (g := g) hst hs (u := 3) (v := 6 + k) ⟨by decide, by decide⟩ ⟨by omega, by omega⟩ (by omega) (M := ml (x_ac M A) [1, 3] [X1, N]) (x_cf_eq (C := N) (V := A (6 + k)))
      have e1 : ml (ml (x_ac M A) [1, 3] [X1, N]) [3, 6 + k] [N, A (6 + k)] = ml (x_ac M A) [1, 3] [X1, N] := by
        show u_s (u_s _ 3 N) (6 + k) (A (6 + k)) = _
        rw [u_s_id (M := ml (x_ac M A) [1, 3] [X1, N]) (u := 3) (S := N) (ml_at (k := 1) hn rfl rfl), u_s_id (x_ac_in (by decide) hu)]
      have e2 : ml (ml (x_ac M A) [1, 3] [X1, N]) [3, 6 + k] [x_cf N (A (6 + k)), A (6 + k)] = ml (x_ac M A) [1, 3] [X1, x_cf N (A (6 + k))] := by
        show u_s (u_s _ 3 (x_cf N (A (6 + k)))) (6 + k) (A (6 + k)) = _
        have e3 : u_s (ml (x_ac M A) [1, 3] [X1, N]) 3 (x_cf N (A (6 + k))) = ml (x_ac M A) [1, 3] [X1, x_cf N (A (6 + k))] := ml_up (k := 1) hn rfl rfl
        rw [e3, u_s_id (x_ac_in (by decide) hu)]
      rw [e1, e2] at q
      exact q
    refine e_invV (pc := 37) (K1 := 0) (S1 := 0) (K := 0) (S := 0) (dd2 := 2) (av := [x_r (16 * (6 + k) + 0)]) (st := []) (id := 16 * 3 + 0) dX11_undo_37 xmX11_92 rfl (Or.inl ⟨1, 12, TX1, (sa_3_0 hs), rfl, by decide⟩) hC (by decide) (Nat.le_of_ble_eq_true rfl) (Or.inl rfl) ?_
    show Ev g _ _ _ _ _ _ 40 [some (x_r (16 * 1 + 0)), some (x_r (16 * (6 + k) + 0))] [] (al, ro, fl (ml (x_ac M A) [1, 3] [X1, x_cf N (A (6 + k))])) _ _ _ _
    refine e_iconst (pc := 40) dX11_undo_40 (x_R rfl) ?_
    cases hG
    exact e_ireturn rfl dX11_undo_41 (x_bool (by decide)).1
  · rw [if_neg hb] at hG
    refine e_iconst (pc := 7) dX11_undo_7 (x_R rfl) ?_
    cases hG
    exact e_ireturn rfl dX11_undo_8 (x_bool (by decide)).1
set_option maxRecDepth 100000 in
set_option maxHeartbeats 4000000 in
theorem c_X12_letter {g : xG} {al : List (Nat × Nat × Nat)} {ro : Nat → Nat → Option Nat} (hst : g.1.stackTraces = false) (hs : SH al ro) {M : Nat → xU} {a : Int} {S : xU}  {t : Int} (hG : G12_letter a S = some t) :
    Cal g yX12_letter cX12_letter 2 (some .int) 0 [x_r (16 * 32 + 0), x_i a] (al, ro, fl (ml M [32] [S])) 0 0 (.inl (some (x_i t))) (al, ro, fl (ml M [32] [S])) := by
  have hn : ([32] : List Nat).Nodup := by decide
  refine cal_of_ev (plainFor_of_name (by decide)) (x_c1 rfl) (Nat.le_of_ble_eq_true rfl) hst ?_
  show Ev g _ _ _ _ _ _ 0 [some (x_r (16 * 32 + 0)), some (x_i a)] [] (al, ro, fl (ml M [32] [S])) _ _ _ _
  rw [G12_letter] at hG
  refine e_aloadn (pc := 0) (i := 0) dX12_letter_0 rfl rfl ?_
  refine f_geti (pc := 1) (k := 0) (u := 32) (q := 0) dX12_letter_1 xf12_79 (sa_32_0 hs) rfl hn rfl rfl (by decide) ?_
  show Ev g _ _ _ _ _ _ 4 [some (x_r (16 * 32 + 0)), some (x_i a)] [x_i (S 0 9)] (al, ro, fl (ml M [32] [S])) _ _ _ _
  refine e_iconst (pc := 4) dX12_letter_4 (x_R rfl) ?_
  obtain ⟨v1, hr1, hG⟩ := x_bd1 hG
  have hjhr1 : Ev g yX12_letter cX12_letter 2 (some .int) [] 0 28 [some (x_r (16 * 32 + 0)), some (x_i a)] [x_i v1] (al, ro, fl (ml M [32] [S])) 0 0 (.inl (some (x_i t))) (al, ro, fl (ml M [32] [S])) := by
    cases hG
    exact (e_ireturn rfl dX12_letter_28 rfl)
  clear hG
  refine e_icmp_ne (pc := 5) (tgt := 17) dX12_letter_5 (by decide) (fun hb => ?_) (fun hb => ?_)
  · rw [if_neg hb] at hr1
    refine e_aloadn (pc := 17) (i := 0) dX12_letter_17 rfl rfl ?_
    refine f_getr (pc := 18) (u := 32) (q := 0) dX12_letter_18 xf12_7 (sa_32_0 hs) rfl (sr_32_0_1 hs) ?_
    refine e_aloadn (pc := 21) (i := 0) dX12_letter_21 rfl rfl ?_
    refine f_geti (pc := 22) (k := 0) (u := 32) (q := 0) dX12_letter_22 xf12_79 (sa_32_0 hs) rfl hn rfl rfl (by decide) ?_
    show Ev g _ _ _ _ _ _ 25 [some (x_r (16 * 32 + 0)), some (x_i a)] [x_i (S 0 9), x_r (16 * 32 + 1)] (al, ro, fl (ml M [32] [S])) _ _ _ _
    refine e_iloadn (pc := 25) (i := 1) dX12_letter_25 rfl rfl ?_
    refine e_iadd (pc := 26) dX12_letter_26 ?_
    obtain ⟨hc0, hr1⟩ := x_gd_some hr1
    refine f_iald (pc := 27) (k := 0) (u := 32) (q := 1) (len := 772) dX12_letter_27 (sa_32_1 hs) hc0 hn rfl rfl (by decide) ?_
    show Ev g _ _ _ _ _ _ 28 [some (x_r (16 * 32 + 0)), some (x_i a)] [x_i (S 1 ((x_add (S 0 9) a)).toNat)] (al, ro, fl (ml M [32] [S])) _ _ _ _
    cases hr1
    exact hjhr1
  · rw [if_pos hb] at hr1
    refine e_aloadn (pc := 8) (i := 0) dX12_letter_8 rfl rfl ?_
    refine f_getr (pc := 9) (u := 32) (q := 0) dX12_letter_9 xf12_22 (sa_32_0 hs) rfl (sr_32_0_7 hs) ?_
    refine e_iloadn (pc := 12) (i := 1) dX12_letter_12 rfl rfl ?_
    obtain ⟨hc0, hr1⟩ := x_gd_some hr1
    refine f_iald (pc := 13) (k := 0) (u := 32) (q := 5) (len := 400) dX12_letter_13 (sa_32_5 hs) hc0 hn rfl rfl (by decide) ?_
    show Ev g _ _ _ _ _ _ 14 [some (x_r (16 * 32 + 0)), some (x_i a)] [x_i (S 5 (a).toNat)] (al, ro, fl (ml M [32] [S])) _ _ _ _
    refine e_goto (pc := 14) (tgt := 28) dX12_letter_14 (by decide) ?_
    cases hr1
    exact hjhr1
set_option maxRecDepth 100000 in
set_option maxHeartbeats 4000000 in
theorem c_X12_skip {g : xG} {al : List (Nat × Nat × Nat)} {ro : Nat → Nat → Option Nat} (hst : g.1.stackTraces = false) (hs : SH al ro) {M : Nat → xU} {S : xU}  {t : xU} (hG : G12_skip S = some t) :
    Cal g yX12_skip cX12_skip 1 none 1 [x_r (16 * 32 + 0)] (al, ro, fl (ml M [32] [S])) 0 0 (.inl none) (al, ro, fl (ml M [32] [t])) := by
  have hn : ([32] : List Nat).Nodup := by decide
  refine cal_of_ev (plainFor_of_name (by decide)) (x_c1 rfl) (Nat.le_of_ble_eq_true rfl) hst ?_
  show Ev g _ _ _ _ _ _ 0 [some (x_r (16 * 32 + 0))] [] (al, ro, fl (ml M [32] [S])) _ _ _ _
  rw [G12_skip] at hG
  obtain ⟨S2, hl3, hG⟩ := x_bd1 hG
  have hk3 : ∀ q : xU, q = S2 → Ev g yX12_skip cX12_skip 1 none [] 1 37 [some (x_r (16 * 32 + 0))] [] (al, ro, fl (ml M [32] [q])) 0 0 (.inl none) (al, ro, fl (ml M [32] [t])) := by
    intro q hq
    replace hq := hq.symm
    subst hq
    cases hG
    exact (e_return rfl dX12_skip_37)
  clear hG
  refine e_whl G12_skip_L0 (fun z : xU => Ev g yX12_skip cX12_skip 1 none [] 1 0 [some (x_r (16 * 32 + 0))] [] (al, ro, fl (ml M [32] [z])) 0 0 (.inl none) (al, ro, fl (ml M [32] [t]))) (fun q => q = S2) ?_ xFU S _ hl3 rfl
  intro z t3 hf3 hi3 hx3
  obtain ⟨S1, hzz⟩ : ∃ y, y = z := ⟨z, rfl⟩
  subst hzz
  rw [G12_skip_L0] at hf3
  show Ev g _ _ _ _ _ _ 0 [some (x_r (16 * 32 + 0))] [] (al, ro, fl (ml M [32] [S1])) _ _ _ _
  refine e_aloadn (pc := 0) (i := 0) dX12_skip_0 rfl rfl ?_
  refine f_geti (pc := 1) (k := 0) (u := 32) (q := 0) dX12_skip_1 xf12_82 (sa_32_0 hs) rfl hn rfl rfl (by decide) ?_
  show Ev g _ _ _ _ _ _ 4 [some (x_r (16 * 32 + 0))] [x_i (S1 0 11)] (al, ro, fl (ml M [32] [S1])) _ _ _ _
  refine e_aloadn (pc := 4) (i := 0) dX12_skip_4 rfl rfl ?_
  refine f_geti (pc := 5) (k := 0) (u := 32) (q := 0) dX12_skip_5 xf12_85 (sa_32_0 hs) rfl hn rfl rfl (by decide) ?_
  show Ev g _ _ _ _ _ _ 8 [some (x_r (16 * 32 + 0))] [x_i (S1 0 10), x_i (S1 0 11)] (al, ro, fl (ml M [32] [S1])) _ _ _ _
  refine e_icmp_ge (pc := 8) (tgt := 37) dX12_skip_8 (by decide) (fun hb => ?_) (fun hb => ?_)
  · rw [if_pos hb] at hf3
    cases hf3
    have hh := hk3 _ (hx3 _ rfl)
    try dsimp only at hh
    exact hh
  · rw [if_neg hb] at hf3
    refine e_aloadn (pc := 11) (i := 0) dX12_skip_11 rfl rfl ?_
    refine e_aloadn (pc := 12) (i := 0) dX12_skip_12 rfl rfl ?_
    refine f_geti (pc := 13) (k := 0) (u := 32) (q := 0) dX12_skip_13 xf12_82 (sa_32_0 hs) rfl hn rfl rfl (by decide) ?_
    show Ev g _ _ _ _ _ _ 16 [some (x_r (16 * 32 + 0))] [x_i (S1 0 11), x_r (16 * 32 + 0)] (al, ro, fl (ml M [32] [S1])) _ _ _ _
    obtain ⟨v5, hq5, hf3⟩ := x_bd1 hf3
    refine e_invV (pc := 16) (K1 := 0) (S1 := 0) (K := 0) (S := 0) (dd2 := 0) (av := [x_i (S1 0 11)]) (st := []) (id := 16 * 32 + 0) dX12_skip_16 xmX12_88 rfl (Or.inl ⟨10, 27, TX12, (sa_32_0 hs), rfl, by decide⟩) (f_cal (M := M) (us2 := [32]) [0] hn rfl (And.intro rfl trivial) rfl rfl rfl (c_X12_letter hst hs   hq5)) (by decide) (Nat.le_of_ble_eq_true rfl) (Or.inl rfl) ?_
    show Ev g _ _ _ _ _ _ 19 [some (x_r (16 * 32 + 0))] [x_i v5] (al, ro, fl (ml M [32] [S1])) _ _ _ _
    refine e_bipush (pc := 19) dX12_skip_19 (by decide +kernel) (x_R rfl) ?_
    refine e_icmp_ne (pc := 21) (tgt := 37) dX12_skip_21 (by decide) (fun hb => ?_) (fun hb => ?_)
    · rw [if_neg hb] at hf3
      cases hf3
      have hh := hk3 _ (hx3 _ rfl)
      try dsimp only at hh
      exact hh
    · rw [if_pos hb] at hf3
      refine e_aloadn (pc := 24) (i := 0) dX12_skip_24 rfl rfl ?_
      refine e_dup (pc := 25) dX12_skip_25 rfl ?_
      refine f_geti (pc := 26) (k := 0) (u := 32) (q := 0) dX12_skip_26 xf12_82 (sa_32_0 hs) rfl hn rfl rfl (by decide) ?_
      show Ev g _ _ _ _ _ _ 29 [some (x_r (16 * 32 + 0))] [x_i (S1 0 11), x_r (16 * 32 + 0)] (al, ro, fl (ml M [32] [S1])) _ _ _ _
      refine e_iconst (pc := 29) dX12_skip_29 (x_R rfl) ?_
      refine e_iadd (pc := 30) dX12_skip_30 ?_
      refine f_puti (pc := 31) (k := 0) (u := 32) (q := 0) dX12_skip_31 xf12_82 xw10_11 (sa_32_0 hs) hn rfl rfl rfl (by decide) ?_
      show Ev g _ _ _ _ _ _ 34 [some (x_r (16 * 32 + 0))] [] (al, ro, fl (ml M [32] [(x_up S1 0 11 (x_add (S1 0 11) 1))])) _ _ _ _
      refine e_goto (pc := 34) (tgt := 0) dX12_skip_34 (by decide) ?_
      cases hf3
      have hh := hi3 _ rfl
      try dsimp only at hh
      exact hh
set_option maxRecDepth 100000 in
set_option maxHeartbeats 4000000 in
theorem c_X12_here {g : xG} {al : List (Nat × Nat × Nat)} {ro : Nat → Nat → Option Nat} (hst : g.1.stackTraces = false) (hs : SH al ro) {M : Nat → xU} {S : xU}  {t : (Int × xU)} (hG : G12_here S = some t) :
    Cal g yX12_here cX12_here 1 (some .int) 2 [x_r (16 * 32 + 0)] (al, ro, fl (ml M [32] [S])) 0 0 (.inl (some (x_i t.1))) (al, ro, fl (ml M [32] [t.2])) := by
  have hn : ([32] : List Nat).Nodup := by decide
  refine cal_of_ev (plainFor_of_name (by decide)) (x_c1 rfl) (Nat.le_of_ble_eq_true rfl) hst ?_
  show Ev g _ _ _ _ _ _ 0 [some (x_r (16 * 32 + 0))] [] (al, ro, fl (ml M [32] [S])) _ _ _ _
  rw [G12_here] at hG
  refine e_aloadn (pc := 0) (i := 0) dX12_here_0 rfl rfl ?_
  obtain ⟨S1, hq1, hG⟩ := x_bd1 hG
  refine e_invV (pc := 1) (K1 := 0) (S1 := 0) (K := 0) (S := 0) (dd2 := 1) (av := []) (st := []) (id := 16 * 32 + 0) dX12_here_1 xmX12_92 rfl (Or.inl ⟨10, 27, TX12, (sa_32_0 hs), rfl, by decide⟩) (f_cal (M := M) (us2 := [32]) [0] hn rfl (And.intro rfl trivial) rfl rfl rfl (c_X12_skip hst hs   hq1)) (by decide) (Nat.le_of_ble_eq_true rfl) (Or.inl rfl) ?_
  show Ev g _ _ _ _ _ _ 4 [some (x_r (16 * 32 + 0))] [] (al, ro, fl (ml M [32] [S1])) _ _ _ _
  refine e_aloadn (pc := 4) (i := 0) dX12_here_4 rfl rfl ?_
  refine f_geti (pc := 5) (k := 0) (u := 32) (q := 0) dX12_here_5 xf12_82 (sa_32_0 hs) rfl hn rfl rfl (by decide) ?_
  show Ev g _ _ _ _ _ _ 8 [some (x_r (16 * 32 + 0))] [x_i (S1 0 11)] (al, ro, fl (ml M [32] [S1])) _ _ _ _
  cases hG
  exact (e_ireturn rfl dX12_here_8 rfl)
set_option maxRecDepth 100000 in
set_option maxHeartbeats 4000000 in
theorem c_X12_isIn {g : xG} {al : List (Nat × Nat × Nat)} {ro : Nat → Nat → Option Nat} (hst : g.1.stackTraces = false) (hs : SH al ro) {M : Nat → xU} {a : Int} {b : Int} {c : Int}  {t : Int} (hG : G12_isIn a b c = some t) :
    Cal g yX12_isIn cX12_isIn 3 (some .boolean) 0 [x_i a, x_i b, x_i c] (al, ro, fl (ml M [] [])) 0 0 (.inl (some (x_i t))) (al, ro, fl (ml M [] [])) := by
  have hn : ([] : List Nat).Nodup := by decide
  refine cal_of_ev (plainFor_of_name (by decide)) (x_c1 rfl) (Nat.le_of_ble_eq_true rfl) hst ?_
  show Ev g _ _ _ _ _ _ 0 [some (x_i a), some (x_i b), some (x_i c)] [] (al, ro, fl (ml M [] [])) _ _ _ _
  rw [G12_isIn] at hG
  refine e_iloadn (pc := 0) (i := 0) dX12_isIn_0 rfl rfl ?_
  refine e_iloadn (pc := 1) (i := 1) dX12_isIn_1 rfl rfl ?_
  obtain ⟨v1, hr1, hG⟩ := x_bd1 hG
  have hjhr1 : Ev g yX12_isIn cX12_isIn 3 (some .boolean) [] 0 15 [some (x_i a), some (x_i b), some (x_i c)] [x_i v1] (al, ro, fl (ml M [] [])) 0 0 (.inl (some (x_i t))) (al, ro, fl (ml M [] [])) := by
    obtain ⟨hc0, hG⟩ := x_gd_some hG
    cases hG
    exact (e_ireturn rfl dX12_isIn_15 (x_bool hc0).1)
  clear hG
  refine e_icmp_lt (pc := 2) (tgt := 14) dX12_isIn_2 (by decide) (fun hb => ?_) (fun hb => ?_)
  · rw [if_pos hb] at hr1
    refine e_iconst (pc := 14) dX12_isIn_14 (x_R rfl) ?_
    cases hr1
    exact hjhr1
  · rw [if_neg hb] at hr1
    refine e_iloadn (pc := 5) (i := 0) dX12_isIn_5 rfl rfl ?_
    refine e_iloadn (pc := 6) (i := 2) dX12_isIn_6 rfl rfl ?_
    refine e_icmp_gt (pc := 7) (tgt := 14) dX12_isIn_7 (by decide) (fun hb => ?_) (fun hb => ?_)
    · rw [if_pos hb] at hr1
      refine e_iconst (pc := 14) dX12_isIn_14 (x_R rfl) ?_
      cases hr1
      exact hjhr1
    · rw [if_neg hb] at hr1
      refine e_iconst (pc := 10) dX12_isIn_10 (x_R rfl) ?_
      refine e_goto (pc := 11) (tgt := 15) dX12_isIn_11 (by decide) ?_
      cases hr1
      exact hjhr1
set_option maxRecDepth 100000 in
set_option maxHeartbeats 4000000 in
theorem c_X12_has {g : xG} {al : List (Nat × Nat × Nat)} {ro : Nat → Nat → Option Nat} (hst : g.1.stackTraces = false) (hs : SH al ro) {M : Nat → xU} {w : Nat} {S : xU} (hw : w < x_nS)  {t : (Int × xU)} (hG : G12_has w S = some t) :
    Cal g yX12_has cX12_has 4 (some .boolean) 6 [x_r (16 * 32 + 0), x_r (x_s0 + w)] (al, ro, fl (ml M [32] [S])) 0 0 (.inl (some (x_i t.1))) (al, ro, fl (ml M [32] [t.2])) := by
  have hn : ([32] : List Nat).Nodup := by decide
  refine cal_of_ev (plainFor_of_name (by decide)) (x_c1 rfl) (Nat.le_of_ble_eq_true rfl) hst ?_
  show Ev g _ _ _ _ _ _ 0 [some (x_r (16 * 32 + 0)), some (x_r (x_s0 + w)), none, none] [] (al, ro, fl (ml M [32] [S])) _ _ _ _
  rw [G12_has] at hG
  refine e_aloadn (pc := 0) (i := 0) dX12_has_0 rfl rfl ?_
  obtain ⟨S1, hq1, hG⟩ := x_bd1 hG
  refine e_invV (pc := 1) (K1 := 0) (S1 := 0) (K := 0) (S := 0) (dd2 := 1) (av := []) (st := []) (id := 16 * 32 + 0) dX12_has_1 xmX12_92 rfl (Or.inl ⟨10, 27, TX12, (sa_32_0 hs), rfl, by decide⟩) (f_cal (M := M) (us2 := [32]) [0] hn rfl (And.intro rfl trivial) rfl rfl rfl (c_X12_skip hst hs   hq1)) (by decide) (Nat.le_of_ble_eq_true rfl) (Or.inl rfl) ?_
  show Ev g _ _ _ _ _ _ 4 [some (x_r (16 * 32 + 0)), some (x_r (x_s0 + w)), none, none] [] (al, ro, fl (ml M [32] [S1])) _ _ _ _
  refine e_aloadn (pc := 4) (i := 0) dX12_has_4 rfl rfl ?_
  refine f_geti (pc := 5) (k := 0) (u := 32) (q := 0) dX12_has_5 xf12_82 (sa_32_0 hs) rfl hn rfl rfl (by decide) ?_
  show Ev g _ _ _ _ _ _ 8 [some (x_r (16 * 32 + 0)), some (x_r (x_s0 + w)), none, none] [x_i (S1 0 11)] (al, ro, fl (ml M [32] [S1])) _ _ _ _
  refine e_istoren (pc := 8) (i := 2) dX12_has_8 rfl (by decide) rfl ?_
  show Ev g _ _ _ _ _ _ 9 [some (x_r (16 * 32 + 0)), some (x_r (x_s0 + w)), some (x_i (S1 0 11)), none] [] (al, ro, fl (ml M [32] [S1])) _ _ _ _
  obtain ⟨v4, hl5, hG⟩ := x_bd1 hG
  have hk5 : ∀ q : Int, q = v4 → Ev g yX12_has cX12_has 4 (some .boolean) [] 6 38 [some (x_r (16 * 32 + 0)), some (x_r (x_s0 + w)), some (x_i q), none] [] (al, ro, fl (ml M [32] [S1])) 0 0 (.inl (some (x_i t.1))) (al, ro, fl (ml M [32] [t.2])) := by
    intro q hq
    replace hq := hq.symm
    subst hq
    refine e_iloadn (pc := 38) (i := 2) dX12_has_38 rfl rfl ?_
    refine e_aloadn (pc := 39) (i := 0) dX12_has_39 rfl rfl ?_
    refine f_geti (pc := 40) (k := 0) (u := 32) (q := 0) dX12_has_40 xf12_82 (sa_32_0 hs) rfl hn rfl rfl (by decide) ?_
    show Ev g _ _ _ _ _ _ 43 [some (x_r (16 * 32 + 0)), some (x_r (x_s0 + w)), some (x_i v4), none] [x_i (S1 0 11), x_i v4] (al, ro, fl (ml M [32] [S1])) _ _ _ _
    refine e_isub (pc := 43) dX12_has_43 ?_
    refine e_aloadn (pc := 44) (i := 1) dX12_has_44 rfl rfl ?_
    refine e_invV (pc := 45) (K1 := 0) (S1 := 0) (K := 0) (S := 0) (dd2 := 5) (av := []) (st := [x_i (x_sub v4 (S1 0 11))]) (id := x_s0 + w) dX12_has_45 xmX12_95 rfl (Or.inr ⟨w, hw, rfl, rfl⟩) (p_length hst hs hw) (by decide) (Nat.le_of_ble_eq_true rfl) (Or.inl rfl) ?_
    show Ev g _ _ _ _ _ _ 48 [some (x_r (16 * 32 + 0)), some (x_r (x_s0 + w)), some (x_i v4), none] [x_i ((x_sl.getD w 0 : Nat) : Int), x_i (x_sub v4 (S1 0 11))] (al, ro, fl (ml M [32] [S1])) _ _ _ _
    refine e_icmp_eq (pc := 48) (tgt := 53) dX12_has_48 (by decide) (fun hb => ?_) (fun hb => ?_)
    · rw [if_pos hb] at hG
      refine e_iconst (pc := 53) dX12_has_53 (x_R rfl) ?_
      refine e_istoren (pc := 54) (i := 3) dX12_has_54 rfl (by decide) rfl ?_
      show Ev g _ _ _ _ _ _ 55 [some (x_r (16 * 32 + 0)), some (x_r (x_s0 + w)), some (x_i v4), some (x_i 0)] [] (al, ro, fl (ml M [32] [S1])) _ _ _ _
      obtain ⟨r12, hl12, hG⟩ := x_lrd hG
      have hk12 : ∀ q : Unit, r12 = .inl q → Ev g yX12_has cX12_has 4 (some .boolean) [] 6 89 [some (x_r (16 * 32 + 0)), some (x_r (x_s0 + w)), some (x_i v4), none] [] (al, ro, fl (ml M [32] [S1])) 0 0 (.inl (some (x_i t.1))) (al, ro, fl (ml M [32] [t.2])) := by
        intro q hq
        subst hq
        replace hG := x_lr_l hG
        replace hG := x_ed1 hG
        refine e_aloadn (pc := 89) (i := 0) dX12_has_89 rfl rfl ?_
        refine e_iloadn (pc := 90) (i := 2) dX12_has_90 rfl rfl ?_
        refine f_puti (pc := 91) (k := 0) (u := 32) (q := 0) dX12_has_91 xf12_82 xw10_11 (sa_32_0 hs) hn rfl rfl rfl (by decide) ?_
        show Ev g _ _ _ _ _ _ 94 [some (x_r (16 * 32 + 0)), some (x_r (x_s0 + w)), some (x_i v4), none] [] (al, ro, fl (ml M [32] [(x_up S1 0 11 v4)])) _ _ _ _
        refine e_iconst (pc := 94) dX12_has_94 (x_R rfl) ?_
        cases hG
        exact (e_ireturn rfl dX12_has_95 (x_bool (by decide)).1)
      have hv12 : ∀ q : (Int × xU), r12 = .inr q → some q = some t := by
        intro q hq
        subst hq
        exact x_lr_r hG
      clear hG
      refine e_whl (G12_has_L55 w S1) (fun z : Int => Ev g yX12_has cX12_has 4 (some .boolean) [] 6 55 [some (x_r (16 * 32 + 0)), some (x_r (x_s0 + w)), some (x_i v4), some (x_i z)] [] (al, ro, fl (ml M [32] [S1])) 0 0 (.inl (some (x_i t.1))) (al, ro, fl (ml M [32] [t.2]))) (fun q => q = r12) ?_ xFU 0 _ hl12 rfl
      intro z t12 hf12 hi12 hx12
      obtain ⟨v11, hzz⟩ : ∃ y, y = z := ⟨z, rfl⟩
      subst hzz
      rw [G12_has_L55] at hf12
      show Ev g _ _ _ _ _ _ 55 [some (x_r (16 * 32 + 0)), some (x_r (x_s0 + w)), some (x_i v4), some (x_i v11)] [] (al, ro, fl (ml M [32] [S1])) _ _ _ _
      refine e_iloadn (pc := 55) (i := 3) dX12_has_55 rfl rfl ?_
      refine e_aloadn (pc := 56) (i := 1) dX12_has_56 rfl rfl ?_
      refine e_invV (pc := 57) (K1 := 0) (S1 := 0) (K := 0) (S := 0) (dd2 := 5) (av := []) (st := [x_i v11]) (id := x_s0 + w) dX12_has_57 xmX12_95 rfl (Or.inr ⟨w, hw, rfl, rfl⟩) (p_length hst hs hw) (by decide) (Nat.le_of_ble_eq_true rfl) (Or.inl rfl) ?_
      show Ev g _ _ _ _ _ _ 60 [some (x_r (16 * 32 + 0)), some (x_r (x_s0 + w)), some (x_i v4), some (x_i v11)] [x_i ((x_sl.getD w 0 : Nat) : Int), x_i v11] (al, ro, fl (ml M [32] [S1])) _ _ _ _
      refine e_icmp_ge (pc := 60) (tgt := 89) dX12_has_60 (by decide) (fun hb => ?_) (fun hb => ?_)
      · rw [if_pos hb] at hf12
        cases hf12
        refine e_drop (i := 3) ?_
        have hh := hk12 _ (hx12 _ rfl).symm
        try dsimp only at hh
        exact hh
      · rw [if_neg hb] at hf12
        refine e_aloadn (pc := 63) (i := 0) dX12_has_63 rfl rfl ?_
        refine e_aloadn (pc := 64) (i := 0) dX12_has_64 rfl rfl ?_
        refine f_geti (pc := 65) (k := 0) (u := 32) (q := 0) dX12_has_65 xf12_82 (sa_32_0 hs) rfl hn rfl rfl (by decide) ?_
        show Ev g _ _ _ _ _ _ 68 [some (x_r (16 * 32 + 0)), some (x_r (x_s0 + w)), some (x_i v4), some (x_i v11)] [x_i (S1 0 11), x_r (16 * 32 + 0)] (al, ro, fl (ml M [32] [S1])) _ _ _ _
        refine e_iloadn (pc := 68) (i := 3) dX12_has_68 rfl rfl ?_
        refine e_iadd (pc := 69) dX12_has_69 ?_
        obtain ⟨v14, hq14, hf12⟩ := x_bd1 hf12
        refine e_invV (pc := 70) (K1 := 0) (S1 := 0) (K := 0) (S := 0) (dd2 := 0) (av := [x_i (x_add (S1 0 11) v11)]) (st := []) (id := 16 * 32 + 0) dX12_has_70 xmX12_88 rfl (Or.inl ⟨10, 27, TX12, (sa_32_0 hs), rfl, by decide⟩) (f_cal (M := M) (us2 := [32]) [0] hn rfl (And.intro rfl trivial) rfl rfl rfl (c_X12_letter hst hs   hq14)) (by decide) (Nat.le_of_ble_eq_true rfl) (Or.inl rfl) ?_
        show Ev g _ _ _ _ _ _ 73 [some (x_r (16 * 32 + 0)), some (x_r (x_s0 + w)), some (x_i v4), some (x_i v11)] [x_i v14] (al, ro, fl (ml M [32] [S1])) _ _ _ _
        refine e_aloadn (pc := 73) (i := 1) dX12_has_73 rfl rfl ?_
        refine e_iloadn (pc := 74) (i := 3) dX12_has_74 rfl rfl ?_
        obtain ⟨hc0, hf12⟩ := x_gd_some hf12
        refine e_invV (pc := 75) (K1 := 0) (S1 := 0) (K := 0) (S := 0) (dd2 := 5) (av := [x_i v11]) (st := [x_i v14]) (id := x_s0 + w) dX12_has_75 xmX12_101 rfl (Or.inr ⟨w, hw, rfl, rfl⟩) (p_charAt hst hs hw hc0) (by decide) (Nat.le_of_ble_eq_true rfl) (Or.inl rfl) ?_
        show Ev g _ _ _ _ _ _ 78 [some (x_r (16 * 32 + 0)), some (x_r (x_s0 + w)), some (x_i v4), some (x_i v11)] [x_i (x_ch w v11), x_i v14] (al, ro, fl (ml M [32] [S1])) _ _ _ _
        refine e_icmp_eq (pc := 78) (tgt := 83) dX12_has_78 (by decide) (fun hb => ?_) (fun hb => ?_)
        · rw [if_pos hb] at hf12
          refine e_iinc (pc := 83) dX12_has_83 rfl (by decide) rfl ?_
          show Ev g _ _ _ _ _ _ 86 [some (x_r (16 * 32 + 0)), some (x_r (x_s0 + w)), some (x_i v4), some (x_i (x_add v11 1))] [] (al, ro, fl (ml M [32] [S1])) _ _ _ _
          refine e_goto (pc := 86) (tgt := 55) dX12_has_86 (by decide) ?_
          cases hf12
          have hh := hi12 _ rfl
          try dsimp only at hh
          exact hh
        · rw [if_neg hb] at hf12
          refine e_iconst (pc := 81) dX12_has_81 (x_R rfl) ?_
          cases hf12
          have hz := hv12 _ (hx12 _ rfl).symm
          cases hz
          exact (e_ireturn rfl dX12_has_82 (x_bool (by decide)).1)
    · rw [if_neg hb] at hG
      refine e_iconst (pc := 51) dX12_has_51 (x_R rfl) ?_
      cases hG
      exact (e_ireturn rfl dX12_has_52 (x_bool (by decide)).1)
  clear hG
  refine e_whl (G12_has_L9 S1) (fun z : Int => Ev g yX12_has cX12_has 4 (some .boolean) [] 6 9 [some (x_r (16 * 32 + 0)), some (x_r (x_s0 + w)), some (x_i z), none] [] (al, ro, fl (ml M [32] [S1])) 0 0 (.inl (some (x_i t.1))) (al, ro, fl (ml M [32] [t.2]))) (fun q => q = v4) ?_ xFU (S1 0 11) _ hl5 rfl
  intro z t5 hf5 hi5 hx5
  obtain ⟨v3, hzz⟩ : ∃ y, y = z := ⟨z, rfl⟩
  subst hzz
  rw [G12_has_L9] at hf5
  show Ev g _ _ _ _ _ _ 9 [some (x_r (16 * 32 + 0)), some (x_r (x_s0 + w)), some (x_i v3), none] [] (al, ro, fl (ml M [32] [S1])) _ _ _ _
  refine e_iloadn (pc := 9) (i := 2) dX12_has_9 rfl rfl ?_
  refine e_aloadn (pc := 10) (i := 0) dX12_has_10 rfl rfl ?_
  refine f_geti (pc := 11) (k := 0) (u := 32) (q := 0) dX12_has_11 xf12_85 (sa_32_0 hs) rfl hn rfl rfl (by decide) ?_
  show Ev g _ _ _ _ _ _ 14 [some (x_r (16 * 32 + 0)), some (x_r (x_s0 + w)), some (x_i v3), none] [x_i (S1 0 10), x_i v3] (al, ro, fl (ml M [32] [S1])) _ _ _ _
  refine e_icmp_ge (pc := 14) (tgt := 38) dX12_has_14 (by decide) (fun hb => ?_) (fun hb => ?_)
  · rw [if_pos hb] at hf5
    cases hf5
    have hh := hk5 _ (hx5 _ rfl)
    try dsimp only at hh
    exact hh
  · rw [if_neg hb] at hf5
    refine e_aloadn (pc := 17) (i := 0) dX12_has_17 rfl rfl ?_
    refine e_iloadn (pc := 18) (i := 2) dX12_has_18 rfl rfl ?_
    obtain ⟨v7, hq7, hf5⟩ := x_bd1 hf5
    refine e_invV (pc := 19) (K1 := 0) (S1 := 0) (K := 0) (S := 0) (dd2 := 0) (av := [x_i v3]) (st := []) (id := 16 * 32 + 0) dX12_has_19 xmX12_88 rfl (Or.inl ⟨10, 27, TX12, (sa_32_0 hs), rfl, by decide⟩) (f_cal (M := M) (us2 := [32]) [0] hn rfl (And.intro rfl trivial) rfl rfl rfl (c_X12_letter hst hs   hq7)) (by decide) (Nat.le_of_ble_eq_true rfl) (Or.inl rfl) ?_
    show Ev g _ _ _ _ _ _ 22 [some (x_r (16 * 32 + 0)), some (x_r (x_s0 + w)), some (x_i v3), none] [x_i v7] (al, ro, fl (ml M [32] [S1])) _ _ _ _
    refine e_bipush (pc := 22) dX12_has_22 (by decide +kernel) (x_R rfl) ?_
    refine e_bipush (pc := 24) dX12_has_24 (by decide +kernel) (x_R rfl) ?_
    obtain ⟨v9, hq9, hf5⟩ := x_bd1 hf5
    refine e_invS (pc := 26) (K1 := 0) (S1 := 0) (K := 0) (S := 0) (dd2 := 0) (av := [x_i v7, x_i 97, x_i 122]) (st := []) dX12_has_26 xmX12_61 rfl (f_cal (M := M) (us2 := []) [] hn rfl trivial rfl rfl rfl (c_X12_isIn hst hs   hq9)) (by decide) (Nat.le_of_ble_eq_true rfl) (Or.inl rfl) ?_
    show Ev g _ _ _ _ _ _ 29 [some (x_r (16 * 32 + 0)), some (x_r (x_s0 + w)), some (x_i v3), none] [x_i v9] (al, ro, fl (ml M [32] [S1])) _ _ _ _
    refine e_if_eq (pc := 29) (tgt := 38) dX12_has_29 (by decide) (fun hb => ?_) (fun hb => ?_)
    · rw [if_pos hb] at hf5
      cases hf5
      have hh := hk5 _ (hx5 _ rfl)
      try dsimp only at hh
      exact hh
    · rw [if_neg hb] at hf5
      refine e_iinc (pc := 32) dX12_has_32 rfl (by decide) rfl ?_
      show Ev g _ _ _ _ _ _ 35 [some (x_r (16 * 32 + 0)), some (x_r (x_s0 + w)), some (x_i (x_add v3 1)), none] [] (al, ro, fl (ml M [32] [S1])) _ _ _ _
      refine e_goto (pc := 35) (tgt := 9) dX12_has_35 (by decide) ?_
      cases hf5
      have hh := hi5 _ rfl
      try dsimp only at hh
      exact hh
set_option maxRecDepth 100000 in
set_option maxHeartbeats 4000000 in
theorem c_X12_isSign {g : xG} {al : List (Nat × Nat × Nat)} {ro : Nat → Nat → Option Nat} (hst : g.1.stackTraces = false) (hs : SH al ro) {M : Nat → xU} {a : Int} {S : xU}  {t : (Int × xU)} (hG : G12_isSign a S = some t) :
    Cal g yX12_isSign cX12_isSign 2 (some .boolean) 2 [x_r (16 * 32 + 0), x_i a] (al, ro, fl (ml M [32] [S])) 0 0 (.inl (some (x_i t.1))) (al, ro, fl (ml M [32] [t.2])) := by
  have hn : ([32] : List Nat).Nodup := by decide
  refine cal_of_ev (plainFor_of_name (by decide)) (x_c1 rfl) (Nat.le_of_ble_eq_true rfl) hst ?_
  show Ev g _ _ _ _ _ _ 0 [some (x_r (16 * 32 + 0)), some (x_i a)] [] (al, ro, fl (ml M [32] [S])) _ _ _ _
  rw [G12_isSign] at hG
  refine e_aloadn (pc := 0) (i := 0) dX12_isSign_0 rfl rfl ?_
  obtain ⟨S1, hq1, hG⟩ := x_bd1 hG
  refine e_invV (pc := 1) (K1 := 0) (S1 := 0) (K := 0) (S := 0) (dd2 := 1) (av := []) (st := []) (id := 16 * 32 + 0) dX12_isSign_1 xmX12_92 rfl (Or.inl ⟨10, 27, TX12, (sa_32_0 hs), rfl, by decide⟩) (f_cal (M := M) (us2 := [32]) [0] hn rfl (And.intro rfl trivial) rfl rfl rfl (c_X12_skip hst hs   hq1)) (by decide) (Nat.le_of_ble_eq_true rfl) (Or.inl rfl) ?_
  show Ev g _ _ _ _ _ _ 4 [some (x_r (16 * 32 + 0)), some (x_i a)] [] (al, ro, fl (ml M [32] [S1])) _ _ _ _
  refine e_aloadn (pc := 4) (i := 0) dX12_isSign_4 rfl rfl ?_
  refine f_geti (pc := 5) (k := 0) (u := 32) (q := 0) dX12_isSign_5 xf12_82 (sa_32_0 hs) rfl hn rfl rfl (by decide) ?_
  show Ev g _ _ _ _ _ _ 8 [some (x_r (16 * 32 + 0)), some (x_i a)] [x_i (S1 0 11)] (al, ro, fl (ml M [32] [S1])) _ _ _ _
  refine e_aloadn (pc := 8) (i := 0) dX12_isSign_8 rfl rfl ?_
  refine f_geti (pc := 9) (k := 0) (u := 32) (q := 0) dX12_isSign_9 xf12_85 (sa_32_0 hs) rfl hn rfl rfl (by decide) ?_
  show Ev g _ _ _ _ _ _ 12 [some (x_r (16 * 32 + 0)), some (x_i a)] [x_i (S1 0 10), x_i (S1 0 11)] (al, ro, fl (ml M [32] [S1])) _ _ _ _
  obtain ⟨v3, hr3, hG⟩ := x_bd1 hG
  have hjhr3 : Ev g yX12_isSign cX12_isSign 2 (some .boolean) [] 2 32 [some (x_r (16 * 32 + 0)), some (x_i a)] [x_i v3] (al, ro, fl (ml M [32] [S1])) 0 0 (.inl (some (x_i t.1))) (al, ro, fl (ml M [32] [t.2])) := by
    obtain ⟨hc0, hG⟩ := x_gd_some hG
    cases hG
    exact (e_ireturn rfl dX12_isSign_32 (x_bool hc0).1)
  clear hG
  refine e_icmp_ge (pc := 12) (tgt := 31) dX12_isSign_12 (by decide) (fun hb => ?_) (fun hb => ?_)
  · rw [if_pos hb] at hr3
    refine e_iconst (pc := 31) dX12_isSign_31 (x_R rfl) ?_
    cases hr3
    exact hjhr3
  · rw [if_neg hb] at hr3
    refine e_aloadn (pc := 15) (i := 0) dX12_isSign_15 rfl rfl ?_
    refine e_aloadn (pc := 16) (i := 0) dX12_isSign_16 rfl rfl ?_
    refine f_geti (pc := 17) (k := 0) (u := 32) (q := 0) dX12_isSign_17 xf12_82 (sa_32_0 hs) rfl hn rfl rfl (by decide) ?_
    show Ev g _ _ _ _ _ _ 20 [some (x_r (16 * 32 + 0)), some (x_i a)] [x_i (S1 0 11), x_r (16 * 32 + 0)] (al, ro, fl (ml M [32] [S1])) _ _ _ _
    obtain ⟨v5, hq5, hr3⟩ := x_bd1 hr3
    refine e_invV (pc := 20) (K1 := 0) (S1 := 0) (K := 0) (S := 0) (dd2 := 0) (av := [x_i (S1 0 11)]) (st := []) (id := 16 * 32 + 0) dX12_isSign_20 xmX12_88 rfl (Or.inl ⟨10, 27, TX12, (sa_32_0 hs), rfl, by decide⟩) (f_cal (M := M) (us2 := [32]) [0] hn rfl (And.intro rfl trivial) rfl rfl rfl (c_X12_letter hst hs   hq5)) (by decide) (Nat.le_of_ble_eq_true rfl) (Or.inl rfl) ?_
    show Ev g _ _ _ _ _ _ 23 [some (x_r (16 * 32 + 0)), some (x_i a)] [x_i v5] (al, ro, fl (ml M [32] [S1])) _ _ _ _
    refine e_iloadn (pc := 23) (i := 1) dX12_isSign_23 rfl rfl ?_
    refine e_icmp_ne (pc := 24) (tgt := 31) dX12_isSign_24 (by decide) (fun hb => ?_) (fun hb => ?_)
    · rw [if_neg hb] at hr3
      refine e_iconst (pc := 31) dX12_isSign_31 (x_R rfl) ?_
      cases hr3
      exact hjhr3
    · rw [if_pos hb] at hr3
      refine e_iconst (pc := 27) dX12_isSign_27 (x_R rfl) ?_
      refine e_goto (pc := 28) (tgt := 32) dX12_isSign_28 (by decide) ?_
      cases hr3
      exact hjhr3
set_option maxRecDepth 100000 in
set_option maxHeartbeats 4000000 in
theorem c_X12_wrong {g : xG} {al : List (Nat × Nat × Nat)} {ro : Nat → Nat → Option Nat} (hst : g.1.stackTraces = false) (hs : SH al ro) {M : Nat → xU} {a : Int} {S : xU}  {t : xU} (hG : G12_wrong a S = some t) :
    Cal g yX12_wrong cX12_wrong 2 none 0 [x_r (16 * 32 + 0), x_i a] (al, ro, fl (ml M [32] [S])) 0 0 (.inl none) (al, ro, fl (ml M [32] [t])) := by
  have hn : ([32] : List Nat).Nodup := by decide
  refine cal_of_ev (plainFor_of_name (by decide)) (x_c1 rfl) (Nat.le_of_ble_eq_true rfl) hst ?_
  show Ev g _ _ _ _ _ _ 0 [some (x_r (16 * 32 + 0)), some (x_i a)] [] (al, ro, fl (ml M [32] [S])) _ _ _ _
  rw [G12_wrong] at hG
  refine e_aloadn (pc := 0) (i := 0) dX12_wrong_0 rfl rfl ?_
  refine f_geti (pc := 1) (k := 0) (u := 32) (q := 0) dX12_wrong_1 xf12_25 (sa_32_0 hs) rfl hn rfl rfl (by decide) ?_
  show Ev g _ _ _ _ _ _ 4 [some (x_r (16 * 32 + 0)), some (x_i a)] [x_i (S 0 12)] (al, ro, fl (ml M [32] [S])) _ _ _ _
  refine e_iconst (pc := 4) dX12_wrong_4 (x_R rfl) ?_
  obtain ⟨S1, hr1, hG⟩ := x_bd1 hG
  have hjhr1 : Ev g yX12_wrong cX12_wrong 2 none [] 0 13 [some (x_r (16 * 32 + 0)), some (x_i a)] [] (al, ro, fl (ml M [32] [S1])) 0 0 (.inl none) (al, ro, fl (ml M [32] [t])) := by
    cases hG
    exact (e_return rfl dX12_wrong_13)
  clear hG
  refine e_icmp_ne (pc := 5) (tgt := 13) dX12_wrong_5 (by decide) (fun hb => ?_) (fun hb => ?_)
  · rw [if_neg hb] at hr1
    cases hr1
    exact hjhr1
  · rw [if_pos hb] at hr1
    refine e_aloadn (pc := 8) (i := 0) dX12_wrong_8 rfl rfl ?_
    refine e_iloadn (pc := 9) (i := 1) dX12_wrong_9 rfl rfl ?_
    refine f_puti (pc := 10) (k := 0) (u := 32) (q := 0) dX12_wrong_10 xf12_25 xw10_12 (sa_32_0 hs) hn rfl rfl rfl (by decide) ?_
    show Ev g _ _ _ _ _ _ 13 [some (x_r (16 * 32 + 0)), some (x_i a)] [] (al, ro, fl (ml M [32] [(x_up S 0 12 a)])) _ _ _ _
    cases hr1
    exact hjhr1
