set_option maxRecDepth 100000 in
set_option maxHeartbeats 4000000 in
theorem c_X1_isAt {g : xG} {al : List (Nat × Nat × Nat)} {ro : Nat → Nat → Option Nat} (hst : g.1.stackTraces = false) (hs : SH al ro) {u : Nat} (hu : 3 ≤ u ∧ u ≤ 18) {M : Nat → xU} {a : Int} {b : Int} {C : xU}  {t : Int} (hG : G1_isAt a b C = some t) :
    Cal g yX1_isAt cX1_isAt 3 (some .boolean) 1 [x_r (16 * u + 0), x_i a, x_i b] (al, ro, fl (ml M [u] [C])) 0 0 (.inl (some (x_i t))) (al, ro, fl (ml M [u] [C])) := by
  have hn : ([u] : List Nat).Nodup := by simp
  refine cal_of_ev (plainFor_of_name (by decide)) (x_c1 rfl) (Nat.le_of_ble_eq_true rfl) hst ?_
  show Ev g _ _ _ _ _ _ 0 [some (x_r (16 * u + 0)), some (x_i a), some (x_i b)] [] (al, ro, fl (ml M [u] [C])) _ _ _ _
  rw [G1_isAt] at hG
  refine e_aloadn (pc := 0) (i := 0) dX1_isAt_0 rfl rfl ?_
  refine e_iconst (pc := 1) dX1_isAt_1 (x_R rfl) ?_
  refine e_iloadn (pc := 2) (i := 1) dX1_isAt_2 rfl rfl ?_
  obtain ⟨v1, hq1, hG⟩ := x_bd1 hG
  refine e_invV (pc := 3) (K1 := 0) (S1 := 0) (K := 0) (S := 0) (dd2 := 0) (av := [x_i 4, x_i a]) (st := []) (id := 16 * u + 0) dX1_isAt_3 xmX1_79 rfl (Or.inl ⟨1, 12, TX1, (sc_a0 hs hu), rfl, by decide⟩) (f_cal (M := M) (us2 := [u]) [0] hn rfl (And.intro rfl trivial) rfl rfl rfl (c_X1_of hst hs hu  hq1)) (by decide) (Nat.le_of_ble_eq_true rfl) (Or.inl rfl) ?_
  show Ev g _ _ _ _ _ _ 6 [some (x_r (16 * u + 0)), some (x_i a), some (x_i b)] [x_i v1] (al, ro, fl (ml M [u] [C])) _ _ _ _
  obtain ⟨v3, hr3, hG⟩ := x_bd1 hG
  have hjhr3 : Ev g yX1_isAt cX1_isAt 3 (some .boolean) [] 1 24 [some (x_r (16 * u + 0)), some (x_i a), some (x_i b)] [x_i v3] (al, ro, fl (ml M [u] [C])) 0 0 (.inl (some (x_i t))) (al, ro, fl (ml M [u] [C])) := by
    obtain ⟨hc0, hG⟩ := x_gd_some hG
    cases hG
    exact (e_ireturn rfl dX1_isAt_24 (x_bool hc0).1)
  clear hG
  refine e_if_ne (pc := 6) (tgt := 23) dX1_isAt_6 (by decide) (fun hb => ?_) (fun hb => ?_)
  · rw [if_neg hb] at hr3
    refine e_iconst (pc := 23) dX1_isAt_23 (x_R rfl) ?_
    cases hr3
    exact hjhr3
  · rw [if_pos hb] at hr3
    refine e_aloadn (pc := 9) (i := 0) dX1_isAt_9 rfl rfl ?_
    refine e_iconst (pc := 10) dX1_isAt_10 (x_R rfl) ?_
    refine e_iloadn (pc := 11) (i := 1) dX1_isAt_11 rfl rfl ?_
    obtain ⟨v5, hq5, hr3⟩ := x_bd1 hr3
    refine e_invV (pc := 12) (K1 := 0) (S1 := 0) (K := 0) (S := 0) (dd2 := 0) (av := [x_i 0, x_i a]) (st := []) (id := 16 * u + 0) dX1_isAt_12 xmX1_79 rfl (Or.inl ⟨1, 12, TX1, (sc_a0 hs hu), rfl, by decide⟩) (f_cal (M := M) (us2 := [u]) [0] hn rfl (And.intro rfl trivial) rfl rfl rfl (c_X1_of hst hs hu  hq5)) (by decide) (Nat.le_of_ble_eq_true rfl) (Or.inl rfl) ?_
    show Ev g _ _ _ _ _ _ 15 [some (x_r (16 * u + 0)), some (x_i a), some (x_i b)] [x_i v5] (al, ro, fl (ml M [u] [C])) _ _ _ _
    refine e_iloadn (pc := 15) (i := 2) dX1_isAt_15 rfl rfl ?_
    refine e_icmp_ne (pc := 16) (tgt := 23) dX1_isAt_16 (by decide) (fun hb => ?_) (fun hb => ?_)
    · rw [if_neg hb] at hr3
      refine e_iconst (pc := 23) dX1_isAt_23 (x_R rfl) ?_
      cases hr3
      exact hjhr3
    · rw [if_pos hb] at hr3
      refine e_iconst (pc := 19) dX1_isAt_19 (x_R rfl) ?_
      refine e_goto (pc := 20) (tgt := 24) dX1_isAt_20 (by decide) ?_
      cases hr3
      exact hjhr3
set_option maxRecDepth 100000 in
set_option maxHeartbeats 4000000 in
theorem c_X1_doesLike {g : xG} {al : List (Nat × Nat × Nat)} {ro : Nat → Nat → Option Nat} (hst : g.1.stackTraces = false) (hs : SH al ro) {u : Nat} (hu : 3 ≤ u ∧ u ≤ 18) {M : Nat → xU} {a : Int} {b : Int} {C : xU}  {t : Int} (hG : G1_doesLike a b C = some t) :
    Cal g yX1_doesLike cX1_doesLike 3 (some .boolean) 1 [x_r (16 * u + 0), x_i a, x_i b] (al, ro, fl (ml M [u] [C])) 0 0 (.inl (some (x_i t))) (al, ro, fl (ml M [u] [C])) := by
  have hn : ([u] : List Nat).Nodup := by simp
  refine cal_of_ev (plainFor_of_name (by decide)) (x_c1 rfl) (Nat.le_of_ble_eq_true rfl) hst ?_
  show Ev g _ _ _ _ _ _ 0 [some (x_r (16 * u + 0)), some (x_i a), some (x_i b)] [] (al, ro, fl (ml M [u] [C])) _ _ _ _
  rw [G1_doesLike] at hG
  refine e_aloadn (pc := 0) (i := 0) dX1_doesLike_0 rfl rfl ?_
  refine e_iconst (pc := 1) dX1_doesLike_1 (x_R rfl) ?_
  refine e_iloadn (pc := 2) (i := 1) dX1_doesLike_2 rfl rfl ?_
  obtain ⟨v1, hq1, hG⟩ := x_bd1 hG
  refine e_invV (pc := 3) (K1 := 0) (S1 := 0) (K := 0) (S := 0) (dd2 := 0) (av := [x_i 3, x_i a]) (st := []) (id := 16 * u + 0) dX1_doesLike_3 xmX1_79 rfl (Or.inl ⟨1, 12, TX1, (sc_a0 hs hu), rfl, by decide⟩) (f_cal (M := M) (us2 := [u]) [0] hn rfl (And.intro rfl trivial) rfl rfl rfl (c_X1_of hst hs hu  hq1)) (by decide) (Nat.le_of_ble_eq_true rfl) (Or.inl rfl) ?_
  show Ev g _ _ _ _ _ _ 6 [some (x_r (16 * u + 0)), some (x_i a), some (x_i b)] [x_i v1] (al, ro, fl (ml M [u] [C])) _ _ _ _
  refine e_iloadn (pc := 6) (i := 2) dX1_doesLike_6 rfl rfl ?_
  obtain ⟨v3, hq3, hG⟩ := x_bd1 hG
  refine e_invS (pc := 7) (K1 := 0) (S1 := 0) (K := 0) (S := 0) (dd2 := 0) (av := [x_i v1, x_i b]) (st := []) dX1_doesLike_7 xmX1_82 rfl (f_cal (M := M) (us2 := []) [] hn rfl trivial rfl rfl rfl (c_X11_holdsBit hst hs   hq3)) (by decide) (Nat.le_of_ble_eq_true rfl) (Or.inl rfl) ?_
  show Ev g _ _ _ _ _ _ 10 [some (x_r (16 * u + 0)), some (x_i a), some (x_i b)] [x_i v3] (al, ro, fl (ml M [u] [C])) _ _ _ _
  obtain ⟨hc0, hG⟩ := x_gd_some hG
  cases hG
  exact (e_ireturn rfl dX1_doesLike_10 (x_bool hc0).1)
set_option maxRecDepth 100000 in
set_option maxHeartbeats 4000000 in
theorem c_X1_walkOf {g : xG} {al : List (Nat × Nat × Nat)} {ro : Nat → Nat → Option Nat} (hst : g.1.stackTraces = false) (hs : SH al ro) {u : Nat} (hu : 3 ≤ u ∧ u ≤ 18) {M : Nat → xU} {a : Int} {C : xU}  {t : Int} (hG : G1_walkOf a C = some t) :
    Cal g yX1_walkOf cX1_walkOf 2 (some .int) 1 [x_r (16 * u + 0), x_i a] (al, ro, fl (ml M [u] [C])) 0 0 (.inl (some (x_i t))) (al, ro, fl (ml M [u] [C])) := by
  have hn : ([u] : List Nat).Nodup := by simp
  refine cal_of_ev (plainFor_of_name (by decide)) (x_c1 rfl) (Nat.le_of_ble_eq_true rfl) hst ?_
  show Ev g _ _ _ _ _ _ 0 [some (x_r (16 * u + 0)), some (x_i a)] [] (al, ro, fl (ml M [u] [C])) _ _ _ _
  rw [G1_walkOf] at hG
  refine e_aloadn (pc := 0) (i := 0) dX1_walkOf_0 rfl rfl ?_
  refine e_iconst (pc := 1) dX1_walkOf_1 (x_R rfl) ?_
  refine e_iloadn (pc := 2) (i := 1) dX1_walkOf_2 rfl rfl ?_
  obtain ⟨v1, hq1, hG⟩ := x_bd1 hG
  refine e_invV (pc := 3) (K1 := 0) (S1 := 0) (K := 0) (S := 0) (dd2 := 0) (av := [x_i 0, x_i a]) (st := []) (id := 16 * u + 0) dX1_walkOf_3 xmX1_79 rfl (Or.inl ⟨1, 12, TX1, (sc_a0 hs hu), rfl, by decide⟩) (f_cal (M := M) (us2 := [u]) [0] hn rfl (And.intro rfl trivial) rfl rfl rfl (c_X1_of hst hs hu  hq1)) (by decide) (Nat.le_of_ble_eq_true rfl) (Or.inl rfl) ?_
  show Ev g _ _ _ _ _ _ 6 [some (x_r (16 * u + 0)), some (x_i a)] [x_i v1] (al, ro, fl (ml M [u] [C])) _ _ _ _
  refine e_iconst (pc := 6) dX1_walkOf_6 (x_R rfl) ?_
  refine e_idiv (pc := 7) dX1_walkOf_7 (by decide) ?_
  cases hG
  exact (e_ireturn rfl dX1_walkOf_8 rfl)
set_option maxRecDepth 100000 in
set_option maxHeartbeats 4000000 in
theorem c_X1_monksIn {g : xG} {al : List (Nat × Nat × Nat)} {ro : Nat → Nat → Option Nat} (hst : g.1.stackTraces = false) (hs : SH al ro) {u : Nat} (hu : 3 ≤ u ∧ u ≤ 18) {M : Nat → xU} {a : Int} {C : xU}  {t : Int} (hG : G1_monksIn a C = some t) :
    Cal g yX1_monksIn cX1_monksIn 4 (some .int) 2 [x_r (16 * u + 0), x_i a] (al, ro, fl (ml M [u] [C])) 0 0 (.inl (some (x_i t))) (al, ro, fl (ml M [u] [C])) := by
  have hn : ([u] : List Nat).Nodup := by simp
  refine cal_of_ev (plainFor_of_name (by decide)) (x_c1 rfl) (Nat.le_of_ble_eq_true rfl) hst ?_
  show Ev g _ _ _ _ _ _ 0 [some (x_r (16 * u + 0)), some (x_i a), none, none] [] (al, ro, fl (ml M [u] [C])) _ _ _ _
  rw [G1_monksIn] at hG
  refine e_iconst (pc := 0) dX1_monksIn_0 (x_R rfl) ?_
  refine e_istoren (pc := 1) (i := 2) dX1_monksIn_1 rfl (by decide) rfl ?_
  show Ev g _ _ _ _ _ _ 2 [some (x_r (16 * u + 0)), some (x_i a), some (x_i 0), none] [] (al, ro, fl (ml M [u] [C])) _ _ _ _
  refine e_iconst (pc := 2) dX1_monksIn_2 (x_R rfl) ?_
  refine e_istoren (pc := 3) (i := 3) dX1_monksIn_3 rfl (by decide) rfl ?_
  show Ev g _ _ _ _ _ _ 4 [some (x_r (16 * u + 0)), some (x_i a), some (x_i 0), some (x_i 0)] [] (al, ro, fl (ml M [u] [C])) _ _ _ _
  obtain ⟨v3, hl4, hG⟩ := x_bd1 hG
  have hk4 : ∀ q : Int, q = v3 → Ev g yX1_monksIn cX1_monksIn 4 (some .int) [] 2 30 [some (x_r (16 * u + 0)), some (x_i a), some (x_i q), none] [] (al, ro, fl (ml M [u] [C])) 0 0 (.inl (some (x_i t))) (al, ro, fl (ml M [u] [C])) := by
    intro q hq
    replace hq := hq.symm
    subst hq
    refine e_iloadn (pc := 30) (i := 2) dX1_monksIn_30 rfl rfl ?_
    cases hG
    exact (e_ireturn rfl dX1_monksIn_31 rfl)
  clear hG
  refine e_whl (G1_monksIn_L4 a C) (fun z : (Int × Int) => Ev g yX1_monksIn cX1_monksIn 4 (some .int) [] 2 4 [some (x_r (16 * u + 0)), some (x_i a), some (x_i z.1), some (x_i z.2)] [] (al, ro, fl (ml M [u] [C])) 0 0 (.inl (some (x_i t))) (al, ro, fl (ml M [u] [C]))) (fun q => q = v3) ?_ xFU (0, 0) _ hl4 rfl
  intro z t4 hf4 hi4 hx4
  obtain ⟨v1, v2⟩ := z
  rw [G1_monksIn_L4] at hf4
  show Ev g _ _ _ _ _ _ 4 [some (x_r (16 * u + 0)), some (x_i a), some (x_i v1), some (x_i v2)] [] (al, ro, fl (ml M [u] [C])) _ _ _ _
  refine e_iloadn (pc := 4) (i := 3) dX1_monksIn_4 rfl rfl ?_
  refine e_aloadn (pc := 5) (i := 0) dX1_monksIn_5 rfl rfl ?_
  refine f_geti (pc := 6) (k := 0) (u := u) (q := 0) dX1_monksIn_6 xf1_43 (sc_a0 hs hu) rfl hn rfl rfl (by decide) ?_
  show Ev g _ _ _ _ _ _ 9 [some (x_r (16 * u + 0)), some (x_i a), some (x_i v1), some (x_i v2)] [x_i (C 0 3), x_i v2] (al, ro, fl (ml M [u] [C])) _ _ _ _
  refine e_icmp_ge (pc := 9) (tgt := 30) dX1_monksIn_9 (by decide) (fun hb => ?_) (fun hb => ?_)
  · rw [if_pos hb] at hf4
    cases hf4
    refine e_drop (i := 3) ?_
    exact hk4 _ (hx4 _ rfl)
  · rw [if_neg hb] at hf4
    refine e_aloadn (pc := 12) (i := 0) dX1_monksIn_12 rfl rfl ?_
    refine e_iloadn (pc := 13) (i := 3) dX1_monksIn_13 rfl rfl ?_
    obtain ⟨v6, hq6, hf4⟩ := x_bd1 hf4
    refine e_invV (pc := 14) (K1 := 0) (S1 := 0) (K := 0) (S := 0) (dd2 := 1) (av := [x_i v2]) (st := []) (id := 16 * u + 0) dX1_monksIn_14 xmX1_86 rfl (Or.inl ⟨1, 12, TX1, (sc_a0 hs hu), rfl, by decide⟩) (f_cal (M := M) (us2 := [u]) [0] hn rfl (And.intro rfl trivial) rfl rfl rfl (c_X1_walkOf hst hs hu  hq6)) (by decide) (Nat.le_of_ble_eq_true rfl) (Or.inl rfl) ?_
    show Ev g _ _ _ _ _ _ 17 [some (x_r (16 * u + 0)), some (x_i a), some (x_i v1), some (x_i v2)] [x_i v6] (al, ro, fl (ml M [u] [C])) _ _ _ _
    refine e_iloadn (pc := 17) (i := 1) dX1_monksIn_17 rfl rfl ?_
    obtain ⟨v8, hr8, hf4⟩ := x_bd1 hf4
    have hjhr8 : Ev g yX1_monksIn cX1_monksIn 4 (some .int) [] 2 24 [some (x_r (16 * u + 0)), some (x_i a), some (x_i v8), some (x_i v2)] [] (al, ro, fl (ml M [u] [C])) 0 0 (.inl (some (x_i t))) (al, ro, fl (ml M [u] [C])) := by
      refine e_iinc (pc := 24) dX1_monksIn_24 rfl (by decide) rfl ?_
      show Ev g _ _ _ _ _ _ 27 [some (x_r (16 * u + 0)), some (x_i a), some (x_i v8), some (x_i (x_add v2 1))] [] (al, ro, fl (ml M [u] [C])) _ _ _ _
      refine e_goto (pc := 27) (tgt := 4) dX1_monksIn_27 (by decide) ?_
      cases hf4
      exact hi4 _ rfl
    clear hf4
    refine e_icmp_ne (pc := 18) (tgt := 24) dX1_monksIn_18 (by decide) (fun hb => ?_) (fun hb => ?_)
    · rw [if_neg hb] at hr8
      cases hr8
      exact hjhr8
    · rw [if_pos hb] at hr8
      refine e_iinc (pc := 21) dX1_monksIn_21 rfl (by decide) rfl ?_
      show Ev g _ _ _ _ _ _ 24 [some (x_r (16 * u + 0)), some (x_i a), some (x_i (x_add v1 1)), some (x_i v2)] [] (al, ro, fl (ml M [u] [C])) _ _ _ _
      cases hr8
      exact hjhr8
set_option maxRecDepth 100000 in
set_option maxHeartbeats 4000000 in
theorem c_X1_seasonOf {g : xG} {al : List (Nat × Nat × Nat)} {ro : Nat → Nat → Option Nat} (hst : g.1.stackTraces = false) (hs : SH al ro) {u : Nat} (hu : 3 ≤ u ∧ u ≤ 18) {M : Nat → xU} {a : Int} {C : xU}  {t : Int} (hG : G1_seasonOf a C = some t) :
    Cal g yX1_seasonOf cX1_seasonOf 2 (some .int) 0 [x_r (16 * u + 0), x_i a] (al, ro, fl (ml M [u] [C])) 0 0 (.inl (some (x_i t))) (al, ro, fl (ml M [u] [C])) := by
  have hn : ([u] : List Nat).Nodup := by simp
  refine cal_of_ev (plainFor_of_name (by decide)) (x_c1 rfl) (Nat.le_of_ble_eq_true rfl) hst ?_
  show Ev g _ _ _ _ _ _ 0 [some (x_r (16 * u + 0)), some (x_i a)] [] (al, ro, fl (ml M [u] [C])) _ _ _ _
  rw [G1_seasonOf] at hG
  refine e_aloadn (pc := 0) (i := 0) dX1_seasonOf_0 rfl rfl ?_
  refine f_geti (pc := 1) (k := 0) (u := u) (q := 0) dX1_seasonOf_1 xf1_25 (sc_a0 hs hu) rfl hn rfl rfl (by decide) ?_
  show Ev g _ _ _ _ _ _ 4 [some (x_r (16 * u + 0)), some (x_i a)] [x_i (C 0 8)] (al, ro, fl (ml M [u] [C])) _ _ _ _
  refine e_iconst (pc := 4) dX1_seasonOf_4 (x_R rfl) ?_
  obtain ⟨v1, hr1, hG⟩ := x_bd1 hG
  have hjhr1 : Ev g yX1_seasonOf cX1_seasonOf 2 (some .int) [] 0 18 [some (x_r (16 * u + 0)), some (x_i a)] [x_i v1] (al, ro, fl (ml M [u] [C])) 0 0 (.inl (some (x_i t))) (al, ro, fl (ml M [u] [C])) := by
    cases hG
    exact (e_ireturn rfl dX1_seasonOf_18 rfl)
  clear hG
  refine e_icmp_ne (pc := 5) (tgt := 14) dX1_seasonOf_5 (by decide) (fun hb => ?_) (fun hb => ?_)
  · rw [if_neg hb] at hr1
    refine e_aloadn (pc := 14) (i := 0) dX1_seasonOf_14 rfl rfl ?_
    refine f_geti (pc := 15) (k := 0) (u := u) (q := 0) dX1_seasonOf_15 xf1_25 (sc_a0 hs hu) rfl hn rfl rfl (by decide) ?_
    show Ev g _ _ _ _ _ _ 18 [some (x_r (16 * u + 0)), some (x_i a)] [x_i (C 0 8)] (al, ro, fl (ml M [u] [C])) _ _ _ _
    cases hr1
    exact hjhr1
  · rw [if_pos hb] at hr1
    refine e_iloadn (pc := 8) (i := 1) dX1_seasonOf_8 rfl rfl ?_
    refine e_iconst (pc := 9) dX1_seasonOf_9 (x_R rfl) ?_
    refine e_idiv (pc := 10) dX1_seasonOf_10 (by decide) ?_
    refine e_goto (pc := 11) (tgt := 18) dX1_seasonOf_11 (by decide) ?_
    cases hr1
    exact hjhr1
set_option maxRecDepth 100000 in
set_option maxHeartbeats 4000000 in
theorem c_X1_lagOf {g : xG} {al : List (Nat × Nat × Nat)} {ro : Nat → Nat → Option Nat} (hst : g.1.stackTraces = false) (hs : SH al ro) {u : Nat} (hu : 3 ≤ u ∧ u ≤ 18) {M : Nat → xU} {a : Int} {C : xU}  {t : Int} (hG : G1_lagOf a C = some t) :
    Cal g yX1_lagOf cX1_lagOf 3 (some .int) 2 [x_r (16 * u + 0), x_i a] (al, ro, fl (ml M [u] [C])) 0 0 (.inl (some (x_i t))) (al, ro, fl (ml M [u] [C])) := by
  have hn : ([u] : List Nat).Nodup := by simp
  refine cal_of_ev (plainFor_of_name (by decide)) (x_c1 rfl) (Nat.le_of_ble_eq_true rfl) hst ?_
  show Ev g _ _ _ _ _ _ 0 [some (x_r (16 * u + 0)), some (x_i a), none] [] (al, ro, fl (ml M [u] [C])) _ _ _ _
  rw [G1_lagOf] at hG
  refine e_aloadn (pc := 0) (i := 0) dX1_lagOf_0 rfl rfl ?_
  refine e_iconst (pc := 1) dX1_lagOf_1 (x_R rfl) ?_
  obtain ⟨v1, hq1, hG⟩ := x_bd1 hG
  refine e_invV (pc := 2) (K1 := 0) (S1 := 0) (K := 0) (S := 0) (dd2 := 1) (av := [x_i 5]) (st := []) (id := 16 * u + 0) dX1_lagOf_2 xmX1_89 rfl (Or.inl ⟨1, 12, TX1, (sc_a0 hs hu), rfl, by decide⟩) (f_cal (M := M) (us2 := [u]) [0] hn rfl (And.intro rfl trivial) rfl rfl rfl (c_X1_sumOf hst hs hu  hq1)) (by decide) (Nat.le_of_ble_eq_true rfl) (Or.inl rfl) ?_
  show Ev g _ _ _ _ _ _ 5 [some (x_r (16 * u + 0)), some (x_i a), none] [x_i v1] (al, ro, fl (ml M [u] [C])) _ _ _ _
  refine e_istoren (pc := 5) (i := 2) dX1_lagOf_5 rfl (by decide) rfl ?_
  show Ev g _ _ _ _ _ _ 6 [some (x_r (16 * u + 0)), some (x_i a), some (x_i v1)] [] (al, ro, fl (ml M [u] [C])) _ _ _ _
  refine e_iloadn (pc := 6) (i := 2) dX1_lagOf_6 rfl rfl ?_
  obtain ⟨v3, hr3, hG⟩ := x_bd1 hG
  have hjhr3 : Ev g yX1_lagOf cX1_lagOf 3 (some .int) [] 2 25 [some (x_r (16 * u + 0)), some (x_i a), some (x_i v1)] [x_i v3] (al, ro, fl (ml M [u] [C])) 0 0 (.inl (some (x_i t))) (al, ro, fl (ml M [u] [C])) := by
    cases hG
    exact (e_ireturn rfl dX1_lagOf_25 rfl)
  clear hG
  refine e_if_ne (pc := 7) (tgt := 14) dX1_lagOf_7 (by decide) (fun hb => ?_) (fun hb => ?_)
  · rw [if_neg hb] at hr3
    refine e_bipush (pc := 14) dX1_lagOf_14 (by decide +kernel) (x_R rfl) ?_
    refine e_aloadn (pc := 16) (i := 0) dX1_lagOf_16 rfl rfl ?_
    refine e_iconst (pc := 17) dX1_lagOf_17 (x_R rfl) ?_
    refine e_iloadn (pc := 18) (i := 1) dX1_lagOf_18 rfl rfl ?_
    obtain ⟨v5, hq5, hr3⟩ := x_bd1 hr3
    refine e_invV (pc := 19) (K1 := 0) (S1 := 0) (K := 0) (S := 0) (dd2 := 0) (av := [x_i 5, x_i a]) (st := [x_i 100]) (id := 16 * u + 0) dX1_lagOf_19 xmX1_79 rfl (Or.inl ⟨1, 12, TX1, (sc_a0 hs hu), rfl, by decide⟩) (f_cal (M := M) (us2 := [u]) [0] hn rfl (And.intro rfl trivial) rfl rfl rfl (c_X1_of hst hs hu  hq5)) (by decide) (Nat.le_of_ble_eq_true rfl) (Or.inl rfl) ?_
    show Ev g _ _ _ _ _ _ 22 [some (x_r (16 * u + 0)), some (x_i a), some (x_i v1)] [x_i v5, x_i 100] (al, ro, fl (ml M [u] [C])) _ _ _ _
    refine e_imul (pc := 22) dX1_lagOf_22 ?_
    refine e_iloadn (pc := 23) (i := 2) dX1_lagOf_23 rfl rfl ?_
    obtain ⟨hc0, hr3⟩ := x_gd_some hr3
    refine e_idiv (pc := 24) dX1_lagOf_24 hc0 ?_
    cases hr3
    exact hjhr3
  · rw [if_pos hb] at hr3
    refine e_iconst (pc := 10) dX1_lagOf_10 (x_R rfl) ?_
    refine e_goto (pc := 11) (tgt := 25) dX1_lagOf_11 (by decide) ?_
    cases hr3
    exact hjhr3
set_option maxRecDepth 100000 in
set_option maxHeartbeats 4000000 in
theorem c_X1_farOf {g : xG} {al : List (Nat × Nat × Nat)} {ro : Nat → Nat → Option Nat} (hst : g.1.stackTraces = false) (hs : SH al ro) {u : Nat} (hu : 3 ≤ u ∧ u ≤ 18) {M : Nat → xU} {a : Int} {b : Int} {C : xU}  {t : Int} (hG : G1_farOf a b C = some t) :
    Cal g yX1_farOf cX1_farOf 4 (some .int) 2 [x_r (16 * u + 0), x_i a, x_i b] (al, ro, fl (ml M [u] [C])) 0 0 (.inl (some (x_i t))) (al, ro, fl (ml M [u] [C])) := by
  have hn : ([u] : List Nat).Nodup := by simp
  refine cal_of_ev (plainFor_of_name (by decide)) (x_c1 rfl) (Nat.le_of_ble_eq_true rfl) hst ?_
  show Ev g _ _ _ _ _ _ 0 [some (x_r (16 * u + 0)), some (x_i a), some (x_i b), none] [] (al, ro, fl (ml M [u] [C])) _ _ _ _
  rw [G1_farOf] at hG
  refine e_iloadn (pc := 0) (i := 1) dX1_farOf_0 rfl rfl ?_
  refine e_iloadn (pc := 1) (i := 2) dX1_farOf_1 rfl rfl ?_
  obtain ⟨v1, hq1, hG⟩ := x_bd1 hG
  refine e_invS (pc := 2) (K1 := 0) (S1 := 0) (K := 0) (S := 0) (dd2 := 1) (av := [x_i a, x_i b]) (st := []) dX1_farOf_2 xmX1_92 rfl (f_cal (M := M) (us2 := []) [] hn rfl trivial rfl rfl rfl (c_X11_stepsApart hst hs   hq1)) (by decide) (Nat.le_of_ble_eq_true rfl) (Or.inl rfl) ?_
  show Ev g _ _ _ _ _ _ 5 [some (x_r (16 * u + 0)), some (x_i a), some (x_i b), none] [x_i v1] (al, ro, fl (ml M [u] [C])) _ _ _ _
  refine e_istoren (pc := 5) (i := 3) dX1_farOf_5 rfl (by decide) rfl ?_
  show Ev g _ _ _ _ _ _ 6 [some (x_r (16 * u + 0)), some (x_i a), some (x_i b), some (x_i v1)] [] (al, ro, fl (ml M [u] [C])) _ _ _ _
  refine e_iloadn (pc := 6) (i := 3) dX1_farOf_6 rfl rfl ?_
  refine e_iconst (pc := 7) dX1_farOf_7 (x_R rfl) ?_
  refine e_aloadn (pc := 8) (i := 0) dX1_farOf_8 rfl rfl ?_
  refine f_geti (pc := 9) (k := 0) (u := u) (q := 0) dX1_farOf_9 xf1_29 (sc_a0 hs hu) rfl hn rfl rfl (by decide) ?_
  show Ev g _ _ _ _ _ _ 12 [some (x_r (16 * u + 0)), some (x_i a), some (x_i b), some (x_i v1)] [x_i (C 0 10), x_i 1, x_i v1] (al, ro, fl (ml M [u] [C])) _ _ _ _
  refine e_invS (pc := 12) (K1 := 0) (S1 := 0) (K := 0) (S := 0) (dd2 := 0) (av := [x_i 1, x_i (C 0 10)]) (st := [x_i v1]) dX1_farOf_12 xmX1_95 rfl (p_max hst hs) (by decide) (Nat.le_of_ble_eq_true rfl) (Or.inl rfl) ?_
  show Ev g _ _ _ _ _ _ 15 [some (x_r (16 * u + 0)), some (x_i a), some (x_i b), some (x_i v1)] [x_i (max 1 (C 0 10)), x_i v1] (al, ro, fl (ml M [u] [C])) _ _ _ _
  refine e_bipush (pc := 15) dX1_farOf_15 (by decide +kernel) (x_R rfl) ?_
  refine e_iadd (pc := 17) dX1_farOf_17 ?_
  refine e_iloadn (pc := 18) (i := 3) dX1_farOf_18 rfl rfl ?_
  refine e_isub (pc := 19) dX1_farOf_19 ?_
  refine e_invS (pc := 20) (K1 := 0) (S1 := 0) (K := 0) (S := 0) (dd2 := 0) (av := [x_i v1, x_i (x_sub (x_add (max 1 (C 0 10)) 8) v1)]) (st := []) dX1_farOf_20 xmX1_65 rfl (p_min hst hs) (by decide) (Nat.le_of_ble_eq_true rfl) (Or.inl rfl) ?_
  show Ev g _ _ _ _ _ _ 23 [some (x_r (16 * u + 0)), some (x_i a), some (x_i b), some (x_i v1)] [x_i (min v1 (x_sub (x_add (max 1 (C 0 10)) 8) v1))] (al, ro, fl (ml M [u] [C])) _ _ _ _
  cases hG
  exact (e_ireturn rfl dX1_farOf_23 rfl)
set_option maxRecDepth 100000 in
set_option maxHeartbeats 4000000 in
theorem c_X1_shareOut {g : xG} {al : List (Nat × Nat × Nat)} {ro : Nat → Nat → Option Nat} (hst : g.1.stackTraces = false) (hs : SH al ro) {u : Nat} (hu : 3 ≤ u ∧ u ≤ 18) {M : Nat → xU} {a : Int} {C : xU}  {t : xU} (hG : G1_shareOut a C = some t) :
    Cal g yX1_shareOut cX1_shareOut 5 none 2 [x_r (16 * u + 0), x_i a] (al, ro, fl (ml M [u] [C])) 0 0 (.inl none) (al, ro, fl (ml M [u] [t])) := by
  have hn : ([u] : List Nat).Nodup := by simp
  refine cal_of_ev (plainFor_of_name (by decide)) (x_c1 rfl) (Nat.le_of_ble_eq_true rfl) hst ?_
  show Ev g _ _ _ _ _ _ 0 [some (x_r (16 * u + 0)), some (x_i a), none, none, none] [] (al, ro, fl (ml M [u] [C])) _ _ _ _
  rw [G1_shareOut] at hG
  refine e_iconst (pc := 0) dX1_shareOut_0 (x_R rfl) ?_
  refine e_istoren (pc := 1) (i := 2) dX1_shareOut_1 rfl (by decide) rfl ?_
  show Ev g _ _ _ _ _ _ 2 [some (x_r (16 * u + 0)), some (x_i a), some (x_i 0), none, none] [] (al, ro, fl (ml M [u] [C])) _ _ _ _
  obtain ⟨C3, hl4, hG⟩ := x_bd1 hG
  have hk4 : ∀ q : xU, q = C3 → Ev g yX1_shareOut cX1_shareOut 5 none [] 2 53 [some (x_r (16 * u + 0)), some (x_i a), none, none, none] [] (al, ro, fl (ml M [u] [q])) 0 0 (.inl none) (al, ro, fl (ml M [u] [t])) := by
    intro q hq
    replace hq := hq.symm
    subst hq
    cases hG
    exact (e_return rfl dX1_shareOut_53)
  clear hG
  refine e_whl (G1_shareOut_L2 a) (fun z : (Int × xU) => Ev g yX1_shareOut cX1_shareOut 5 none [] 2 2 [some (x_r (16 * u + 0)), some (x_i a), some (x_i z.1), none, none] [] (al, ro, fl (ml M [u] [z.2])) 0 0 (.inl none) (al, ro, fl (ml M [u] [t]))) (fun q => q = C3) ?_ xFU (0, C) _ hl4 rfl
  intro z t4 hf4 hi4 hx4
  obtain ⟨v1, C2⟩ := z
  rw [G1_shareOut_L2] at hf4
  show Ev g _ _ _ _ _ _ 2 [some (x_r (16 * u + 0)), some (x_i a), some (x_i v1), none, none] [] (al, ro, fl (ml M [u] [C2])) _ _ _ _
  refine e_iloadn (pc := 2) (i := 2) dX1_shareOut_2 rfl rfl ?_
  refine e_iloadn (pc := 3) (i := 1) dX1_shareOut_3 rfl rfl ?_
  refine e_icmp_ge (pc := 4) (tgt := 53) dX1_shareOut_4 (by decide) (fun hb => ?_) (fun hb => ?_)
  · rw [if_pos hb] at hf4
    cases hf4
    refine e_drop (i := 2) ?_
    exact hk4 _ (hx4 _ rfl)
  · rw [if_neg hb] at hf4
    refine e_iconst (pc := 7) dX1_shareOut_7 (x_R rfl) ?_
    refine e_istoren (pc := 8) (i := 3) dX1_shareOut_8 rfl (by decide) rfl ?_
    show Ev g _ _ _ _ _ _ 9 [some (x_r (16 * u + 0)), some (x_i a), some (x_i v1), some (x_i 0), none] [] (al, ro, fl (ml M [u] [C2])) _ _ _ _
    refine e_iconst (pc := 9) dX1_shareOut_9 (x_R rfl) ?_
    refine e_istore (pc := 10) (i := 4) dX1_shareOut_10 (by decide) rfl ?_
    show Ev g _ _ _ _ _ _ 12 [some (x_r (16 * u + 0)), some (x_i a), some (x_i v1), some (x_i 0), some (x_i 1)] [] (al, ro, fl (ml M [u] [C2])) _ _ _ _
    obtain ⟨v8, hl9, hf4⟩ := x_bd1 hf4
    have hk9 : ∀ q : Int, q = v8 → Ev g yX1_shareOut cX1_shareOut 5 none [] 2 41 [some (x_r (16 * u + 0)), some (x_i a), some (x_i v1), some (x_i q), none] [] (al, ro, fl (ml M [u] [C2])) 0 0 (.inl none) (al, ro, fl (ml M [u] [t])) := by
      intro q hq
      replace hq := hq.symm
      subst hq
      refine e_aloadn (pc := 41) (i := 0) dX1_shareOut_41 rfl rfl ?_
      refine e_iloadn (pc := 42) (i := 3) dX1_shareOut_42 rfl rfl ?_
      refine e_iconst (pc := 43) dX1_shareOut_43 (x_R rfl) ?_
      obtain ⟨C17, hq17, hf4⟩ := x_bd1 hf4
      refine e_invV (pc := 44) (K1 := 0) (S1 := 0) (K := 0) (S := 0) (dd2 := 1) (av := [x_i v8, x_i 1]) (st := []) (id := 16 * u + 0) dX1_shareOut_44 xmX1_98 rfl (Or.inl ⟨1, 12, TX1, (sc_a0 hs hu), rfl, by decide⟩) (f_cal (M := M) (us2 := [u]) [0] hn rfl (And.intro rfl trivial) rfl rfl rfl (c_X1_addStore hst hs hu  hq17)) (by decide) (Nat.le_of_ble_eq_true rfl) (Or.inl rfl) ?_
      show Ev g _ _ _ _ _ _ 47 [some (x_r (16 * u + 0)), some (x_i a), some (x_i v1), some (x_i v8), none] [] (al, ro, fl (ml M [u] [C17])) _ _ _ _
      refine e_iinc (pc := 47) dX1_shareOut_47 rfl (by decide) rfl ?_
      show Ev g _ _ _ _ _ _ 50 [some (x_r (16 * u + 0)), some (x_i a), some (x_i (x_add v1 1)), some (x_i v8), none] [] (al, ro, fl (ml M [u] [C17])) _ _ _ _
      refine e_goto (pc := 50) (tgt := 2) dX1_shareOut_50 (by decide) ?_
      cases hf4
      refine e_drop (i := 3) ?_
      exact hi4 _ rfl
    clear hf4
    refine e_whl (G1_shareOut_L12 C2) (fun z : (Int × Int) => Ev g yX1_shareOut cX1_shareOut 5 none [] 2 12 [some (x_r (16 * u + 0)), some (x_i a), some (x_i v1), some (x_i z.1), some (x_i z.2)] [] (al, ro, fl (ml M [u] [C2])) 0 0 (.inl none) (al, ro, fl (ml M [u] [t]))) (fun q => q = v8) ?_ xFU (0, 1) _ hl9 rfl
    intro z t9 hf9 hi9 hx9
    obtain ⟨v6, v7⟩ := z
    rw [G1_shareOut_L12] at hf9
    show Ev g _ _ _ _ _ _ 12 [some (x_r (16 * u + 0)), some (x_i a), some (x_i v1), some (x_i v6), some (x_i v7)] [] (al, ro, fl (ml M [u] [C2])) _ _ _ _
    refine e_iload (pc := 12) dX1_shareOut_12 rfl ?_
    refine e_iconst (pc := 14) dX1_shareOut_14 (x_R rfl) ?_
    refine e_icmp_ge (pc := 15) (tgt := 41) dX1_shareOut_15 (by decide) (fun hb => ?_) (fun hb => ?_)
    · rw [if_pos hb] at hf9
      cases hf9
      refine e_drop (i := 4) ?_
      exact hk9 _ (hx9 _ rfl)
    · rw [if_neg hb] at hf9
      refine e_aloadn (pc := 18) (i := 0) dX1_shareOut_18 rfl rfl ?_
      refine e_iload (pc := 19) dX1_shareOut_19 rfl ?_
      obtain ⟨v11, hq11, hf9⟩ := x_bd1 hf9
      refine e_invV (pc := 21) (K1 := 0) (S1 := 0) (K := 0) (S := 0) (dd2 := 0) (av := [x_i v7]) (st := []) (id := 16 * u + 0) dX1_shareOut_21 xmX1_61 rfl (Or.inl ⟨1, 12, TX1, (sc_a0 hs hu), rfl, by decide⟩) (f_cal (M := M) (us2 := [u]) [0] hn rfl (And.intro rfl trivial) rfl rfl rfl (c_X1_storeOf hst hs hu  hq11)) (by decide) (Nat.le_of_ble_eq_true rfl) (Or.inl rfl) ?_
      show Ev g _ _ _ _ _ _ 24 [some (x_r (16 * u + 0)), some (x_i a), some (x_i v1), some (x_i v6), some (x_i v7)] [x_i v11] (al, ro, fl (ml M [u] [C2])) _ _ _ _
      refine e_aloadn (pc := 24) (i := 0) dX1_shareOut_24 rfl rfl ?_
      refine e_iloadn (pc := 25) (i := 3) dX1_shareOut_25 rfl rfl ?_
      obtain ⟨v13, hq13, hf9⟩ := x_bd1 hf9
      refine e_invV (pc := 26) (K1 := 0) (S1 := 0) (K := 0) (S := 0) (dd2 := 0) (av := [x_i v6]) (st := [x_i v11]) (id := 16 * u + 0) dX1_shareOut_26 xmX1_61 rfl (Or.inl ⟨1, 12, TX1, (sc_a0 hs hu), rfl, by decide⟩) (f_cal (M := M) (us2 := [u]) [0] hn rfl (And.intro rfl trivial) rfl rfl rfl (c_X1_storeOf hst hs hu  hq13)) (by decide) (Nat.le_of_ble_eq_true rfl) (Or.inl rfl) ?_
      show Ev g _ _ _ _ _ _ 29 [some (x_r (16 * u + 0)), some (x_i a), some (x_i v1), some (x_i v6), some (x_i v7)] [x_i v13, x_i v11] (al, ro, fl (ml M [u] [C2])) _ _ _ _
      obtain ⟨v15, hr15, hf9⟩ := x_bd1 hf9
      have hjhr15 : Ev g yX1_shareOut cX1_shareOut 5 none [] 2 35 [some (x_r (16 * u + 0)), some (x_i a), some (x_i v1), some (x_i v15), some (x_i v7)] [] (al, ro, fl (ml M [u] [C2])) 0 0 (.inl none) (al, ro, fl (ml M [u] [t])) := by
        refine e_iinc (pc := 35) dX1_shareOut_35 rfl (by decide) rfl ?_
        show Ev g _ _ _ _ _ _ 38 [some (x_r (16 * u + 0)), some (x_i a), some (x_i v1), some (x_i v15), some (x_i (x_add v7 1))] [] (al, ro, fl (ml M [u] [C2])) _ _ _ _
        refine e_goto (pc := 38) (tgt := 12) dX1_shareOut_38 (by decide) ?_
        cases hf9
        exact hi9 _ rfl
      clear hf9
      refine e_icmp_ge (pc := 29) (tgt := 35) dX1_shareOut_29 (by decide) (fun hb => ?_) (fun hb => ?_)
      · rw [if_pos hb] at hr15
        cases hr15
        exact hjhr15
      · rw [if_neg hb] at hr15
        refine e_iload (pc := 32) dX1_shareOut_32 rfl ?_
        refine e_istoren (pc := 34) (i := 3) dX1_shareOut_34 rfl (by decide) rfl ?_
        show Ev g _ _ _ _ _ _ 35 [some (x_r (16 * u + 0)), some (x_i a), some (x_i v1), some (x_i v7), some (x_i v7)] [] (al, ro, fl (ml M [u] [C2])) _ _ _ _
        cases hr15
        exact hjhr15
set_option maxRecDepth 100000 in
set_option maxHeartbeats 4000000 in
theorem c_X4_lookAt {g : xG} {al : List (Nat × Nat × Nat)} {ro : Nat → Nat → Option Nat} (hst : g.1.stackTraces = false) (hs : SH al ro) {u : Nat} (hu : 3 ≤ u ∧ u ≤ 18) {M : Nat → xU} {a : Int} {C : xU} {La : xU}  {t : xU} (hG : G4_lookAt a C La = some t) :
    Cal g yX4_lookAt cX4_lookAt 3 none 1 [x_r (16 * 19 + 0), x_r (16 * u + 0), x_i a] (al, ro, fl (ml M [u, 19] [C, La])) 0 0 (.inl none) (al, ro, fl (ml M [u, 19] [C, t])) := by
  have hn : ([u, 19] : List Nat).Nodup := by simp <;> omega
  refine cal_of_ev (plainFor_of_name (by decide)) (x_c1 rfl) (Nat.le_of_ble_eq_true rfl) hst ?_
  show Ev g _ _ _ _ _ _ 0 [some (x_r (16 * 19 + 0)), some (x_r (16 * u + 0)), some (x_i a)] [] (al, ro, fl (ml M [u, 19] [C, La])) _ _ _ _
  rw [G4_lookAt] at hG
  refine e_aloadn (pc := 0) (i := 0) dX4_lookAt_0 rfl rfl ?_
  refine f_getr (pc := 1) (u := 19) (q := 0) dX4_lookAt_1 xf4_24 (sa_19_0 hs) rfl (sr_19_0_4 hs) ?_
  refine e_iconst (pc := 4) dX4_lookAt_4 (x_R rfl) ?_
  refine e_iloadn (pc := 5) (i := 2) dX4_lookAt_5 rfl rfl ?_
  refine f_iast (pc := 6) (k := 1) (u := 19) (q := 5) (len := 8) dX4_lookAt_6 (sa_19_5 hs) (by decide) hn rfl rfl rfl (by decide) ?_
  show Ev g _ _ _ _ _ _ 7 [some (x_r (16 * 19 + 0)), some (x_r (16 * u + 0)), some (x_i a)] [] (al, ro, fl (ml M [u, 19] [C, (x_up La 5 0 a)])) _ _ _ _
  refine e_aloadn (pc := 7) (i := 0) dX4_lookAt_7 rfl rfl ?_
  refine f_getr (pc := 8) (u := 19) (q := 0) dX4_lookAt_8 xf4_24 (sa_19_0 hs) rfl (sr_19_0_4 hs) ?_
  refine e_iconst (pc := 11) dX4_lookAt_11 (x_R rfl) ?_
  refine e_aloadn (pc := 12) (i := 1) dX4_lookAt_12 rfl rfl ?_
  refine e_iconst (pc := 13) dX4_lookAt_13 (x_R rfl) ?_
  refine e_iloadn (pc := 14) (i := 2) dX4_lookAt_14 rfl rfl ?_
  obtain ⟨v1, hq1, hG⟩ := x_bd1 hG
  refine e_invV (pc := 15) (K1 := 0) (S1 := 0) (K := 0) (S := 0) (dd2 := 0) (av := [x_i 0, x_i a]) (st := [x_i 1, x_r (16 * 19 + 5)]) (id := 16 * u + 0) dX4_lookAt_15 xmX4_38 rfl (Or.inl ⟨1, 12, TX1, (sc_a0 hs hu), rfl, by decide⟩) (f_cal (M := M) (us2 := [u]) [0] hn rfl (And.intro rfl trivial) rfl rfl rfl (c_X1_of hst hs hu  hq1)) (by decide) (Nat.le_of_ble_eq_true rfl) (Or.inl rfl) ?_
  show Ev g _ _ _ _ _ _ 18 [some (x_r (16 * 19 + 0)), some (x_r (16 * u + 0)), some (x_i a)] [x_i v1, x_i 1, x_r (16 * 19 + 5)] (al, ro, fl (ml M [u, 19] [C, (x_up La 5 0 a)])) _ _ _ _
  refine f_iast (pc := 18) (k := 1) (u := 19) (q := 5) (len := 8) dX4_lookAt_18 (sa_19_5 hs) (by decide) hn rfl rfl rfl (by decide) ?_
  show Ev g _ _ _ _ _ _ 19 [some (x_r (16 * 19 + 0)), some (x_r (16 * u + 0)), some (x_i a)] [] (al, ro, fl (ml M [u, 19] [C, (x_up (x_up La 5 0 a) 5 1 v1)])) _ _ _ _
  refine e_aloadn (pc := 19) (i := 0) dX4_lookAt_19 rfl rfl ?_
  refine f_getr (pc := 20) (u := 19) (q := 0) dX4_lookAt_20 xf4_24 (sa_19_0 hs) rfl (sr_19_0_4 hs) ?_
  refine e_iconst (pc := 23) dX4_lookAt_23 (x_R rfl) ?_
  refine e_aloadn (pc := 24) (i := 1) dX4_lookAt_24 rfl rfl ?_
  refine e_iconst (pc := 25) dX4_lookAt_25 (x_R rfl) ?_
  refine e_iloadn (pc := 26) (i := 2) dX4_lookAt_26 rfl rfl ?_
  obtain ⟨v3, hq3, hG⟩ := x_bd1 hG
  refine e_invV (pc := 27) (K1 := 0) (S1 := 0) (K := 0) (S := 0) (dd2 := 0) (av := [x_i 1, x_i a]) (st := [x_i 2, x_r (16 * 19 + 5)]) (id := 16 * u + 0) dX4_lookAt_27 xmX4_38 rfl (Or.inl ⟨1, 12, TX1, (sc_a0 hs hu), rfl, by decide⟩) (f_cal (M := M) (us2 := [u]) [0] hn rfl (And.intro rfl trivial) rfl rfl rfl (c_X1_of hst hs hu  hq3)) (by decide) (Nat.le_of_ble_eq_true rfl) (Or.inl rfl) ?_
  show Ev g _ _ _ _ _ _ 30 [some (x_r (16 * 19 + 0)), some (x_r (16 * u + 0)), some (x_i a)] [x_i v3, x_i 2, x_r (16 * 19 + 5)] (al, ro, fl (ml M [u, 19] [C, (x_up (x_up La 5 0 a) 5 1 v1)])) _ _ _ _
  refine f_iast (pc := 30) (k := 1) (u := 19) (q := 5) (len := 8) dX4_lookAt_30 (sa_19_5 hs) (by decide) hn rfl rfl rfl (by decide) ?_
  show Ev g _ _ _ _ _ _ 31 [some (x_r (16 * 19 + 0)), some (x_r (16 * u + 0)), some (x_i a)] [] (al, ro, fl (ml M [u, 19] [C, (x_up (x_up (x_up La 5 0 a) 5 1 v1) 5 2 v3)])) _ _ _ _
  refine e_aloadn (pc := 31) (i := 0) dX4_lookAt_31 rfl rfl ?_
  refine f_getr (pc := 32) (u := 19) (q := 0) dX4_lookAt_32 xf4_24 (sa_19_0 hs) rfl (sr_19_0_4 hs) ?_
  refine e_iconst (pc := 35) dX4_lookAt_35 (x_R rfl) ?_
  refine e_aloadn (pc := 36) (i := 1) dX4_lookAt_36 rfl rfl ?_
  refine e_aloadn (pc := 37) (i := 1) dX4_lookAt_37 rfl rfl ?_
  refine e_iconst (pc := 38) dX4_lookAt_38 (x_R rfl) ?_
  refine e_iloadn (pc := 39) (i := 2) dX4_lookAt_39 rfl rfl ?_
  obtain ⟨v5, hq5, hG⟩ := x_bd1 hG
  refine e_invV (pc := 40) (K1 := 0) (S1 := 0) (K := 0) (S := 0) (dd2 := 0) (av := [x_i 0, x_i a]) (st := [x_r (16 * u + 0), x_i 3, x_r (16 * 19 + 5)]) (id := 16 * u + 0) dX4_lookAt_40 xmX4_38 rfl (Or.inl ⟨1, 12, TX1, (sc_a0 hs hu), rfl, by decide⟩) (f_cal (M := M) (us2 := [u]) [0] hn rfl (And.intro rfl trivial) rfl rfl rfl (c_X1_of hst hs hu  hq5)) (by decide) (Nat.le_of_ble_eq_true rfl) (Or.inl rfl) ?_
  show Ev g _ _ _ _ _ _ 43 [some (x_r (16 * 19 + 0)), some (x_r (16 * u + 0)), some (x_i a)] [x_i v5, x_r (16 * u + 0), x_i 3, x_r (16 * 19 + 5)] (al, ro, fl (ml M [u, 19] [C, (x_up (x_up (x_up La 5 0 a) 5 1 v1) 5 2 v3)])) _ _ _ _
  obtain ⟨v7, hq7, hG⟩ := x_bd1 hG
  refine e_invV (pc := 43) (K1 := 0) (S1 := 0) (K := 0) (S := 0) (dd2 := 0) (av := [x_i v5]) (st := [x_i 3, x_r (16 * 19 + 5)]) (id := 16 * u + 0) dX4_lookAt_43 xmX4_44 rfl (Or.inl ⟨1, 12, TX1, (sc_a0 hs hu), rfl, by decide⟩) (f_cal (M := M) (us2 := [u]) [0] hn rfl (And.intro rfl trivial) rfl rfl rfl (c_X1_seasonOf hst hs hu  hq7)) (by decide) (Nat.le_of_ble_eq_true rfl) (Or.inl rfl) ?_
  show Ev g _ _ _ _ _ _ 46 [some (x_r (16 * 19 + 0)), some (x_r (16 * u + 0)), some (x_i a)] [x_i v7, x_i 3, x_r (16 * 19 + 5)] (al, ro, fl (ml M [u, 19] [C, (x_up (x_up (x_up La 5 0 a) 5 1 v1) 5 2 v3)])) _ _ _ _
  refine f_iast (pc := 46) (k := 1) (u := 19) (q := 5) (len := 8) dX4_lookAt_46 (sa_19_5 hs) (by decide) hn rfl rfl rfl (by decide) ?_
  show Ev g _ _ _ _ _ _ 47 [some (x_r (16 * 19 + 0)), some (x_r (16 * u + 0)), some (x_i a)] [] (al, ro, fl (ml M [u, 19] [C, (x_up (x_up (x_up (x_up La 5 0 a) 5 1 v1) 5 2 v3) 5 3 v7)])) _ _ _ _
  refine e_aloadn (pc := 47) (i := 0) dX4_lookAt_47 rfl rfl ?_
  refine f_getr (pc := 48) (u := 19) (q := 0) dX4_lookAt_48 xf4_24 (sa_19_0 hs) rfl (sr_19_0_4 hs) ?_
  refine e_iconst (pc := 51) dX4_lookAt_51 (x_R rfl) ?_
  refine e_aloadn (pc := 52) (i := 1) dX4_lookAt_52 rfl rfl ?_
  refine e_iconst (pc := 53) dX4_lookAt_53 (x_R rfl) ?_
  refine e_iloadn (pc := 54) (i := 2) dX4_lookAt_54 rfl rfl ?_
  obtain ⟨v9, hq9, hG⟩ := x_bd1 hG
  refine e_invV (pc := 55) (K1 := 0) (S1 := 0) (K := 0) (S := 0) (dd2 := 0) (av := [x_i 5, x_i a]) (st := [x_i 4, x_r (16 * 19 + 5)]) (id := 16 * u + 0) dX4_lookAt_55 xmX4_38 rfl (Or.inl ⟨1, 12, TX1, (sc_a0 hs hu), rfl, by decide⟩) (f_cal (M := M) (us2 := [u]) [0] hn rfl (And.intro rfl trivial) rfl rfl rfl (c_X1_of hst hs hu  hq9)) (by decide) (Nat.le_of_ble_eq_true rfl) (Or.inl rfl) ?_
  show Ev g _ _ _ _ _ _ 58 [some (x_r (16 * 19 + 0)), some (x_r (16 * u + 0)), some (x_i a)] [x_i v9, x_i 4, x_r (16 * 19 + 5)] (al, ro, fl (ml M [u, 19] [C, (x_up (x_up (x_up (x_up La 5 0 a) 5 1 v1) 5 2 v3) 5 3 v7)])) _ _ _ _
  refine f_iast (pc := 58) (k := 1) (u := 19) (q := 5) (len := 8) dX4_lookAt_58 (sa_19_5 hs) (by decide) hn rfl rfl rfl (by decide) ?_
  show Ev g _ _ _ _ _ _ 59 [some (x_r (16 * 19 + 0)), some (x_r (16 * u + 0)), some (x_i a)] [] (al, ro, fl (ml M [u, 19] [C, (x_up (x_up (x_up (x_up (x_up La 5 0 a) 5 1 v1) 5 2 v3) 5 3 v7) 5 4 v9)])) _ _ _ _
  refine e_aloadn (pc := 59) (i := 0) dX4_lookAt_59 rfl rfl ?_
  refine f_getr (pc := 60) (u := 19) (q := 0) dX4_lookAt_60 xf4_24 (sa_19_0 hs) rfl (sr_19_0_4 hs) ?_
  refine e_iconst (pc := 63) dX4_lookAt_63 (x_R rfl) ?_
  refine e_aloadn (pc := 64) (i := 1) dX4_lookAt_64 rfl rfl ?_
  refine f_geti (pc := 65) (k := 0) (u := u) (q := 0) dX4_lookAt_65 xf4_64 (sc_a0 hs hu) rfl hn rfl rfl (by decide) ?_
  show Ev g _ _ _ _ _ _ 68 [some (x_r (16 * 19 + 0)), some (x_r (16 * u + 0)), some (x_i a)] [x_i (C 0 5), x_i 5, x_r (16 * 19 + 5)] (al, ro, fl (ml M [u, 19] [C, (x_up (x_up (x_up (x_up (x_up La 5 0 a) 5 1 v1) 5 2 v3) 5 3 v7) 5 4 v9)])) _ _ _ _
  refine f_iast (pc := 68) (k := 1) (u := 19) (q := 5) (len := 8) dX4_lookAt_68 (sa_19_5 hs) (by decide) hn rfl rfl rfl (by decide) ?_
  show Ev g _ _ _ _ _ _ 69 [some (x_r (16 * 19 + 0)), some (x_r (16 * u + 0)), some (x_i a)] [] (al, ro, fl (ml M [u, 19] [C, (x_up (x_up (x_up (x_up (x_up (x_up La 5 0 a) 5 1 v1) 5 2 v3) 5 3 v7) 5 4 v9) 5 5 (C 0 5))])) _ _ _ _
  refine e_aloadn (pc := 69) (i := 0) dX4_lookAt_69 rfl rfl ?_
  refine f_getr (pc := 70) (u := 19) (q := 0) dX4_lookAt_70 xf4_24 (sa_19_0 hs) rfl (sr_19_0_4 hs) ?_
  refine e_bipush (pc := 73) dX4_lookAt_73 (by decide +kernel) (x_R rfl) ?_
  refine e_aloadn (pc := 75) (i := 1) dX4_lookAt_75 rfl rfl ?_
  refine e_iconst (pc := 76) dX4_lookAt_76 (x_R rfl) ?_
  refine e_iloadn (pc := 77) (i := 2) dX4_lookAt_77 rfl rfl ?_
  obtain ⟨v11, hq11, hG⟩ := x_bd1 hG
  refine e_invV (pc := 78) (K1 := 0) (S1 := 0) (K := 0) (S := 0) (dd2 := 0) (av := [x_i 2, x_i a]) (st := [x_i 6, x_r (16 * 19 + 5)]) (id := 16 * u + 0) dX4_lookAt_78 xmX4_38 rfl (Or.inl ⟨1, 12, TX1, (sc_a0 hs hu), rfl, by decide⟩) (f_cal (M := M) (us2 := [u]) [0] hn rfl (And.intro rfl trivial) rfl rfl rfl (c_X1_of hst hs hu  hq11)) (by decide) (Nat.le_of_ble_eq_true rfl) (Or.inl rfl) ?_
  show Ev g _ _ _ _ _ _ 81 [some (x_r (16 * 19 + 0)), some (x_r (16 * u + 0)), some (x_i a)] [x_i v11, x_i 6, x_r (16 * 19 + 5)] (al, ro, fl (ml M [u, 19] [C, (x_up (x_up (x_up (x_up (x_up (x_up La 5 0 a) 5 1 v1) 5 2 v3) 5 3 v7) 5 4 v9) 5 5 (C 0 5))])) _ _ _ _
  refine f_iast (pc := 81) (k := 1) (u := 19) (q := 5) (len := 8) dX4_lookAt_81 (sa_19_5 hs) (by decide) hn rfl rfl rfl (by decide) ?_
  show Ev g _ _ _ _ _ _ 82 [some (x_r (16 * 19 + 0)), some (x_r (16 * u + 0)), some (x_i a)] [] (al, ro, fl (ml M [u, 19] [C, (x_up (x_up (x_up (x_up (x_up (x_up (x_up La 5 0 a) 5 1 v1) 5 2 v3) 5 3 v7) 5 4 v9) 5 5 (C 0 5)) 5 6 v11)])) _ _ _ _
  refine e_aloadn (pc := 82) (i := 0) dX4_lookAt_82 rfl rfl ?_
  refine f_getr (pc := 83) (u := 19) (q := 0) dX4_lookAt_83 xf4_24 (sa_19_0 hs) rfl (sr_19_0_4 hs) ?_
  refine e_bipush (pc := 86) dX4_lookAt_86 (by decide +kernel) (x_R rfl) ?_
  refine e_aloadn (pc := 88) (i := 1) dX4_lookAt_88 rfl rfl ?_
  refine e_bipush (pc := 89) dX4_lookAt_89 (by decide +kernel) (x_R rfl) ?_
  refine e_iloadn (pc := 91) (i := 2) dX4_lookAt_91 rfl rfl ?_
  obtain ⟨v13, hq13, hG⟩ := x_bd1 hG
  refine e_invV (pc := 92) (K1 := 0) (S1 := 0) (K := 0) (S := 0) (dd2 := 0) (av := [x_i 6, x_i a]) (st := [x_i 7, x_r (16 * 19 + 5)]) (id := 16 * u + 0) dX4_lookAt_92 xmX4_38 rfl (Or.inl ⟨1, 12, TX1, (sc_a0 hs hu), rfl, by decide⟩) (f_cal (M := M) (us2 := [u]) [0] hn rfl (And.intro rfl trivial) rfl rfl rfl (c_X1_of hst hs hu  hq13)) (by decide) (Nat.le_of_ble_eq_true rfl) (Or.inl rfl) ?_
  show Ev g _ _ _ _ _ _ 95 [some (x_r (16 * 19 + 0)), some (x_r (16 * u + 0)), some (x_i a)] [x_i v13, x_i 7, x_r (16 * 19 + 5)] (al, ro, fl (ml M [u, 19] [C, (x_up (x_up (x_up (x_up (x_up (x_up (x_up La 5 0 a) 5 1 v1) 5 2 v3) 5 3 v7) 5 4 v9) 5 5 (C 0 5)) 5 6 v11)])) _ _ _ _
  refine f_iast (pc := 95) (k := 1) (u := 19) (q := 5) (len := 8) dX4_lookAt_95 (sa_19_5 hs) (by decide) hn rfl rfl rfl (by decide) ?_
  show Ev g _ _ _ _ _ _ 96 [some (x_r (16 * 19 + 0)), some (x_r (16 * u + 0)), some (x_i a)] [] (al, ro, fl (ml M [u, 19] [C, (x_up (x_up (x_up (x_up (x_up (x_up (x_up (x_up La 5 0 a) 5 1 v1) 5 2 v3) 5 3 v7) 5 4 v9) 5 5 (C 0 5)) 5 6 v11) 5 7 v13)])) _ _ _ _
  cases hG
  exact (e_return rfl dX4_lookAt_96)
set_option maxRecDepth 100000 in
set_option maxHeartbeats 4000000 in
theorem c_X4_holds {g : xG} {al : List (Nat × Nat × Nat)} {ro : Nat → Nat → Option Nat} (hst : g.1.stackTraces = false) (hs : SH al ro) {M : Nat → xU} {a : Int} {b : Int} {La : xU}  {t : Int} (hG : G4_holds a b La = some t) :
    Cal g yX4_holds cX4_holds 8 (some .boolean) 0 [x_r (16 * 19 + 0), x_i a, x_i b] (al, ro, fl (ml M [19] [La])) 0 0 (.inl (some (x_i t))) (al, ro, fl (ml M [19] [La])) := by
  have hn : ([19] : List Nat).Nodup := by decide
  refine cal_of_ev (plainFor_of_name (by decide)) (x_c1 rfl) (Nat.le_of_ble_eq_true rfl) hst ?_
  show Ev g _ _ _ _ _ _ 0 [some (x_r (16 * 19 + 0)), some (x_i a), some (x_i b), none, none, none, none, none] [] (al, ro, fl (ml M [19] [La])) _ _ _ _
  rw [G4_holds] at hG
  refine e_iconst (pc := 0) dX4_holds_0 (x_R rfl) ?_
  refine e_istoren (pc := 1) (i := 3) dX4_holds_1 rfl (by decide) rfl ?_
  show Ev g _ _ _ _ _ _ 2 [some (x_r (16 * 19 + 0)), some (x_i a), some (x_i b), some (x_i 1), none, none, none, none] [] (al, ro, fl (ml M [19] [La])) _ _ _ _
  refine e_iconst (pc := 2) dX4_holds_2 (x_R rfl) ?_
  refine e_istore (pc := 3) (i := 4) dX4_holds_3 (by decide) rfl ?_
  show Ev g _ _ _ _ _ _ 5 [some (x_r (16 * 19 + 0)), some (x_i a), some (x_i b), some (x_i 1), some (x_i 0), none, none, none] [] (al, ro, fl (ml M [19] [La])) _ _ _ _
  refine e_iconst (pc := 5) dX4_holds_5 (x_R rfl) ?_
  refine e_istore (pc := 6) (i := 5) dX4_holds_6 (by decide) rfl ?_
  show Ev g _ _ _ _ _ _ 8 [some (x_r (16 * 19 + 0)), some (x_i a), some (x_i b), some (x_i 1), some (x_i 0), some (x_i 0), none, none] [] (al, ro, fl (ml M [19] [La])) _ _ _ _
  refine e_iloadn (pc := 8) (i := 1) dX4_holds_8 rfl rfl ?_
  refine e_istore (pc := 9) (i := 6) dX4_holds_9 (by decide) rfl ?_
  show Ev g _ _ _ _ _ _ 11 [some (x_r (16 * 19 + 0)), some (x_i a), some (x_i b), some (x_i 1), some (x_i 0), some (x_i 0), some (x_i a), none] [] (al, ro, fl (ml M [19] [La])) _ _ _ _
  obtain ⟨v5, hl6, hG⟩ := x_bd1 hG
  have hk6 : ∀ q : Int, q = v5 → Ev g yX4_holds cX4_holds 8 (some .boolean) [] 0 281 [some (x_r (16 * 19 + 0)), some (x_i a), some (x_i b), some (x_i q), none, none, none, none] [] (al, ro, fl (ml M [19] [La])) 0 0 (.inl (some (x_i t))) (al, ro, fl (ml M [19] [La])) := by
    intro q hq
    replace hq := hq.symm
    subst hq
    refine e_iloadn (pc := 281) (i := 3) dX4_holds_281 rfl rfl ?_
    refine e_iconst (pc := 282) dX4_holds_282 (x_R rfl) ?_
    refine e_iand (pc := 283) dX4_holds_283 ?_
    obtain ⟨v22, hr22, hG⟩ := x_bd1 hG
    have hjhr22 : Ev g yX4_holds cX4_holds 8 (some .boolean) [] 0 292 [some (x_r (16 * 19 + 0)), some (x_i a), some (x_i b), some (x_i v5), none, none, none, none] [x_i v22] (al, ro, fl (ml M [19] [La])) 0 0 (.inl (some (x_i t))) (al, ro, fl (ml M [19] [La])) := by
      obtain ⟨hc0, hG⟩ := x_gd_some hG
      cases hG
      exact (e_ireturn rfl dX4_holds_292 (x_bool hc0).1)
    clear hG
    refine e_if_eq (pc := 284) (tgt := 291) dX4_holds_284 (by decide) (fun hb => ?_) (fun hb => ?_)
    · rw [if_pos hb] at hr22
      refine e_iconst (pc := 291) dX4_holds_291 (x_R rfl) ?_
      cases hr22
      exact hjhr22
    · rw [if_neg hb] at hr22
      refine e_iconst (pc := 287) dX4_holds_287 (x_R rfl) ?_
      refine e_goto (pc := 288) (tgt := 292) dX4_holds_288 (by decide) ?_
      cases hr22
      exact hjhr22
  clear hG
  refine e_whl (G4_holds_L11 b La) (fun z : (Int × Int × Int × Int) => Ev g yX4_holds cX4_holds 8 (some .boolean) [] 0 11 [some (x_r (16 * 19 + 0)), some (x_i a), some (x_i b), some (x_i z.1), some (x_i z.2.1), some (x_i z.2.2.1), some (x_i z.2.2.2), none] [] (al, ro, fl (ml M [19] [La])) 0 0 (.inl (some (x_i t))) (al, ro, fl (ml M [19] [La]))) (fun q => q = v5) ?_ xFU (1, 0, 0, a) _ hl6 rfl
  intro z t6 hf6 hi6 hx6
  obtain ⟨v1, v2, v3, v4⟩ := z
  rw [G4_holds_L11] at hf6
  show Ev g _ _ _ _ _ _ 11 [some (x_r (16 * 19 + 0)), some (x_i a), some (x_i b), some (x_i v1), some (x_i v2), some (x_i v3), some (x_i v4), none] [] (al, ro, fl (ml M [19] [La])) _ _ _ _
  refine e_iload (pc := 11) dX4_holds_11 rfl ?_
  refine e_if_lt (pc := 13) (tgt := 281) dX4_holds_13 (by decide) (fun hb => ?_) (fun hb => ?_)
  · rw [if_pos hb] at hf6
    cases hf6
    refine e_drop (i := 4) ?_
    refine e_drop (i := 5) ?_
    refine e_drop (i := 6) ?_
    exact hk6 _ (hx6 _ rfl)
  · rw [if_neg hb] at hf6
    refine e_iload (pc := 16) dX4_holds_16 rfl ?_
    refine e_iloadn (pc := 18) (i := 2) dX4_holds_18 rfl rfl ?_
    refine e_icmp_ge (pc := 19) (tgt := 281) dX4_holds_19 (by decide) (fun hb => ?_) (fun hb => ?_)
    · rw [if_pos hb] at hf6
      cases hf6
      refine e_drop (i := 4) ?_
      refine e_drop (i := 5) ?_
      refine e_drop (i := 6) ?_
      exact hk6 _ (hx6 _ rfl)
    · rw [if_neg hb] at hf6
      refine e_iload (pc := 22) dX4_holds_22 rfl ?_
      refine e_aloadn (pc := 24) (i := 0) dX4_holds_24 rfl rfl ?_
      refine f_getr (pc := 25) (u := 19) (q := 0) dX4_holds_25 xf4_21 (sa_19_0 hs) rfl (sr_19_0_3 hs) ?_
      refine e_alen_i (pc := 28) (id := 16 * 19 + 4) (len := 400) dX4_holds_28 (sa_19_4 hs) (by decide) ?_
      show Ev g _ _ _ _ _ _ 29 [some (x_r (16 * 19 + 0)), some (x_i a), some (x_i b), some (x_i v1), some (x_i v2), some (x_i v3), some (x_i v4), none] [x_i 400, x_i v4] (al, ro, fl (ml M [19] [La])) _ _ _ _
      refine e_icmp_ge (pc := 29) (tgt := 281) dX4_holds_29 (by decide) (fun hb => ?_) (fun hb => ?_)
      · rw [if_pos hb] at hf6
        cases hf6
        refine e_drop (i := 4) ?_
        refine e_drop (i := 5) ?_
        refine e_drop (i := 6) ?_
        exact hk6 _ (hx6 _ rfl)
      · rw [if_neg hb] at hf6
        refine e_aloadn (pc := 32) (i := 0) dX4_holds_32 rfl rfl ?_
        refine f_getr (pc := 33) (u := 19) (q := 0) dX4_holds_33 xf4_21 (sa_19_0 hs) rfl (sr_19_0_3 hs) ?_
        refine e_iload (pc := 36) dX4_holds_36 rfl ?_
        obtain ⟨hc0, hf6⟩ := x_gd_some hf6
        refine f_iald (pc := 38) (k := 0) (u := 19) (q := 4) (len := 400) dX4_holds_38 (sa_19_4 hs) hc0 hn rfl rfl (by decide) ?_
        show Ev g _ _ _ _ _ _ 39 [some (x_r (16 * 19 + 0)), some (x_i a), some (x_i b), some (x_i v1), some (x_i v2), some (x_i v3), some (x_i v4), none] [x_i (La 4 (v4).toNat)] (al, ro, fl (ml M [19] [La])) _ _ _ _
        refine e_iconst (pc := 39) dX4_holds_39 (x_R rfl) ?_
        refine e_ishr (pc := 40) dX4_holds_40 ?_
        refine e_istore (pc := 41) (i := 7) dX4_holds_41 (by decide) rfl ?_
        show Ev g _ _ _ _ _ _ 43 [some (x_r (16 * 19 + 0)), some (x_i a), some (x_i b), some (x_i v1), some (x_i v2), some (x_i v3), some (x_i v4), some (x_i (x_shr (La 4 (v4).toNat) 4))] [] (al, ro, fl (ml M [19] [La])) _ _ _ _
        refine e_aloadn (pc := 43) (i := 0) dX4_holds_43 rfl rfl ?_
        refine f_getr (pc := 44) (u := 19) (q := 0) dX4_holds_44 xf4_21 (sa_19_0 hs) rfl (sr_19_0_3 hs) ?_
        refine e_iload (pc := 47) dX4_holds_47 rfl ?_
        obtain ⟨hc0, hf6⟩ := x_gd_some hf6
        refine f_iald (pc := 49) (k := 0) (u := 19) (q := 4) (len := 400) dX4_holds_49 (sa_19_4 hs) hc0 hn rfl rfl (by decide) ?_
        show Ev g _ _ _ _ _ _ 50 [some (x_r (16 * 19 + 0)), some (x_i a), some (x_i b), some (x_i v1), some (x_i v2), some (x_i v3), some (x_i v4), some (x_i (x_shr (La 4 (v4).toNat) 4))] [x_i (La 4 (v4).toNat)] (al, ro, fl (ml M [19] [La])) _ _ _ _
        refine e_bipush (pc := 50) dX4_holds_50 (by decide +kernel) (x_R rfl) ?_
        refine e_iand (pc := 52) dX4_holds_52 ?_
        obtain ⟨v8, v9, v10, hr10, hf6⟩ := x_bd3 hf6
        have hjhr10 : Ev g yX4_holds cX4_holds 8 (some .boolean) [] 0 275 [some (x_r (16 * 19 + 0)), some (x_i a), some (x_i b), some (x_i v8), some (x_i v9), some (x_i v10), some (x_i v4), some (x_i (x_shr (La 4 (v4).toNat) 4))] [] (al, ro, fl (ml M [19] [La])) 0 0 (.inl (some (x_i t))) (al, ro, fl (ml M [19] [La])) := by
          refine e_iinc (pc := 275) dX4_holds_275 rfl (by decide) rfl ?_
          show Ev g _ _ _ _ _ _ 278 [some (x_r (16 * 19 + 0)), some (x_i a), some (x_i b), some (x_i v8), some (x_i v9), some (x_i v10), some (x_i (x_add v4 1)), some (x_i (x_shr (La 4 (v4).toNat) 4))] [] (al, ro, fl (ml M [19] [La])) _ _ _ _
          refine e_goto (pc := 278) (tgt := 11) dX4_holds_278 (by decide) ?_
          cases hf6
          refine e_drop (i := 7) ?_
          exact hi6 _ rfl
        clear hf6
        by_cases hb0 : (x_and (La 4 (v4).toNat) 15) = 0
        · rw [if_pos hb0] at hr10
          refine e_tabIn (pc := 53) (tgt := 104) dX4_holds_53 (by omega) (by omega) (by rw [hb0]; rfl) (by decide) ?_
          refine e_iload (pc := 104) dX4_holds_104 rfl ?_
          refine e_iload (pc := 106) dX4_holds_106 rfl ?_
          refine e_iadd (pc := 108) dX4_holds_108 ?_
          refine e_istore (pc := 109) (i := 4) dX4_holds_109 (by decide) rfl ?_
          show Ev g _ _ _ _ _ _ 111 [some (x_r (16 * 19 + 0)), some (x_i a), some (x_i b), some (x_i v1), some (x_i (x_add v2 (x_shr (La 4 (v4).toNat) 4))), some (x_i v3), some (x_i v4), some (x_i (x_shr (La 4 (v4).toNat) 4))] [] (al, ro, fl (ml M [19] [La])) _ _ _ _
          refine e_goto (pc := 111) (tgt := 275) dX4_holds_111 (by decide) ?_
          cases hr10
          exact hjhr10
        rw [if_neg hb0] at hr10
        by_cases hb1 : (x_and (La 4 (v4).toNat) 15) = 1
        · rw [if_pos hb1] at hr10
          refine e_tabIn (pc := 53) (tgt := 114) dX4_holds_53 (by omega) (by omega) (by rw [hb1]; rfl) (by decide) ?_
          refine e_iload (pc := 114) dX4_holds_114 rfl ?_
          refine e_iload (pc := 116) dX4_holds_116 rfl ?_
          obtain ⟨v12, hr12, hr10⟩ := x_bd1 hr10
          have hjhr12 : Ev g yX4_holds cX4_holds 8 (some .boolean) [] 0 139 [some (x_r (16 * 19 + 0)), some (x_i a), some (x_i b), some (x_i v1), some (x_i v2), some (x_i v3), some (x_i v4), some (x_i (x_shr (La 4 (v4).toNat) 4))] [x_i v12, x_i v2] (al, ro, fl (ml M [19] [La])) 0 0 (.inl (some (x_i t))) (al, ro, fl (ml M [19] [La])) := by
            refine e_iadd (pc := 139) dX4_holds_139 ?_
            refine e_istore (pc := 140) (i := 4) dX4_holds_140 (by decide) rfl ?_
            show Ev g _ _ _ _ _ _ 142 [some (x_r (16 * 19 + 0)), some (x_i a), some (x_i b), some (x_i v1), some (x_i (x_add v2 v12)), some (x_i v3), some (x_i v4), some (x_i (x_shr (La 4 (v4).toNat) 4))] [] (al, ro, fl (ml M [19] [La])) _ _ _ _
            refine e_goto (pc := 142) (tgt := 275) dX4_holds_142 (by decide) ?_
            cases hr10
            exact hjhr10
          clear hr10
          refine e_if_lt (pc := 118) (tgt := 138) dX4_holds_118 (by decide) (fun hb => ?_) (fun hb => ?_)
          · rw [if_pos hb] at hr12
            refine e_iconst (pc := 138) dX4_holds_138 (x_R rfl) ?_
            cases hr12
            exact hjhr12
          · rw [if_neg hb] at hr12
            refine e_iload (pc := 121) dX4_holds_121 rfl ?_
            refine e_bipush (pc := 123) dX4_holds_123 (by decide +kernel) (x_R rfl) ?_
            refine e_icmp_ge (pc := 125) (tgt := 138) dX4_holds_125 (by decide) (fun hb => ?_) (fun hb => ?_)
            · rw [if_pos hb] at hr12
              refine e_iconst (pc := 138) dX4_holds_138 (x_R rfl) ?_
              cases hr12
              exact hjhr12
            · rw [if_neg hb] at hr12
              refine e_aloadn (pc := 128) (i := 0) dX4_holds_128 rfl rfl ?_
              refine f_getr (pc := 129) (u := 19) (q := 0) dX4_holds_129 xf4_24 (sa_19_0 hs) rfl (sr_19_0_4 hs) ?_
              refine e_iload (pc := 132) dX4_holds_132 rfl ?_
              obtain ⟨hc0, hr12⟩ := x_gd_some hr12
              refine f_iald (pc := 134) (k := 0) (u := 19) (q := 5) (len := 8) dX4_holds_134 (sa_19_5 hs) hc0 hn rfl rfl (by decide) ?_
              show Ev g _ _ _ _ _ _ 135 [some (x_r (16 * 19 + 0)), some (x_i a), some (x_i b), some (x_i v1), some (x_i v2), some (x_i v3), some (x_i v4), some (x_i (x_shr (La 4 (v4).toNat) 4))] [x_i (La 5 ((x_shr (La 4 (v4).toNat) 4)).toNat), x_i v2] (al, ro, fl (ml M [19] [La])) _ _ _ _
              refine e_goto (pc := 135) (tgt := 139) dX4_holds_135 (by decide) ?_
              cases hr12
              exact hjhr12
        rw [if_neg hb1] at hr10
        by_cases hb2 : (x_and (La 4 (v4).toNat) 15) = 2
        · rw [if_pos hb2] at hr10
          refine e_tabIn (pc := 53) (tgt := 145) dX4_holds_53 (by omega) (by omega) (by rw [hb2]; rfl) (by decide) ?_
          refine e_iload (pc := 145) dX4_holds_145 rfl ?_
          refine e_istore (pc := 147) (i := 5) dX4_holds_147 (by decide) rfl ?_
          show Ev g _ _ _ _ _ _ 149 [some (x_r (16 * 19 + 0)), some (x_i a), some (x_i b), some (x_i v1), some (x_i v2), some (x_i v2), some (x_i v4), some (x_i (x_shr (La 4 (v4).toNat) 4))] [] (al, ro, fl (ml M [19] [La])) _ _ _ _
          refine e_iconst (pc := 149) dX4_holds_149 (x_R rfl) ?_
          refine e_istore (pc := 150) (i := 4) dX4_holds_150 (by decide) rfl ?_
          show Ev g _ _ _ _ _ _ 152 [some (x_r (16 * 19 + 0)), some (x_i a), some (x_i b), some (x_i v1), some (x_i 0), some (x_i v2), some (x_i v4), some (x_i (x_shr (La 4 (v4).toNat) 4))] [] (al, ro, fl (ml M [19] [La])) _ _ _ _
          refine e_goto (pc := 152) (tgt := 275) dX4_holds_152 (by decide) ?_
          cases hr10
          exact hjhr10
        rw [if_neg hb2] at hr10
        by_cases hb3 : (x_and (La 4 (v4).toNat) 15) = 3
        · rw [if_pos hb3] at hr10
          refine e_tabIn (pc := 53) (tgt := 155) dX4_holds_53 (by omega) (by omega) (by rw [hb3]; rfl) (by decide) ?_
          refine e_iloadn (pc := 155) (i := 3) dX4_holds_155 rfl rfl ?_
          refine e_iconst (pc := 156) dX4_holds_156 (x_R rfl) ?_
          refine e_ishl (pc := 157) dX4_holds_157 ?_
          refine e_iload (pc := 158) dX4_holds_158 rfl ?_
          refine e_iload (pc := 160) dX4_holds_160 rfl ?_
          obtain ⟨v14, hr14, hr10⟩ := x_bd1 hr10
          have hjhr14 : Ev g yX4_holds cX4_holds 8 (some .boolean) [] 0 170 [some (x_r (16 * 19 + 0)), some (x_i a), some (x_i b), some (x_i v1), some (x_i v2), some (x_i v3), some (x_i v4), some (x_i (x_shr (La 4 (v4).toNat) 4))] [x_i v14, x_i (x_shl v1 1)] (al, ro, fl (ml M [19] [La])) 0 0 (.inl (some (x_i t))) (al, ro, fl (ml M [19] [La])) := by
            refine e_ior (pc := 170) dX4_holds_170 ?_
            refine e_istoren (pc := 171) (i := 3) dX4_holds_171 rfl (by decide) rfl ?_
            show Ev g _ _ _ _ _ _ 172 [some (x_r (16 * 19 + 0)), some (x_i a), some (x_i b), some (x_i (x_or (x_shl v1 1) v14)), some (x_i v2), some (x_i v3), some (x_i v4), some (x_i (x_shr (La 4 (v4).toNat) 4))] [] (al, ro, fl (ml M [19] [La])) _ _ _ _
            refine e_iconst (pc := 172) dX4_holds_172 (x_R rfl) ?_
            refine e_istore (pc := 173) (i := 4) dX4_holds_173 (by decide) rfl ?_
            show Ev g _ _ _ _ _ _ 175 [some (x_r (16 * 19 + 0)), some (x_i a), some (x_i b), some (x_i (x_or (x_shl v1 1) v14)), some (x_i 0), some (x_i v3), some (x_i v4), some (x_i (x_shr (La 4 (v4).toNat) 4))] [] (al, ro, fl (ml M [19] [La])) _ _ _ _
            refine e_goto (pc := 175) (tgt := 275) dX4_holds_175 (by decide) ?_
            cases hr10
            exact hjhr10
          clear hr10
          refine e_icmp_ge (pc := 162) (tgt := 169) dX4_holds_162 (by decide) (fun hb => ?_) (fun hb => ?_)
          · rw [if_pos hb] at hr14
            refine e_iconst (pc := 169) dX4_holds_169 (x_R rfl) ?_
            cases hr14
            exact hjhr14
          · rw [if_neg hb] at hr14
            refine e_iconst (pc := 165) dX4_holds_165 (x_R rfl) ?_
            refine e_goto (pc := 166) (tgt := 170) dX4_holds_166 (by decide) ?_
            cases hr14
            exact hjhr14
        rw [if_neg hb3] at hr10
        by_cases hb4 : (x_and (La 4 (v4).toNat) 15) = 4
        · rw [if_pos hb4] at hr10
          refine e_tabIn (pc := 53) (tgt := 178) dX4_holds_53 (by omega) (by omega) (by rw [hb4]; rfl) (by decide) ?_
          refine e_iloadn (pc := 178) (i := 3) dX4_holds_178 rfl rfl ?_
          refine e_iconst (pc := 179) dX4_holds_179 (x_R rfl) ?_
          refine e_ishl (pc := 180) dX4_holds_180 ?_
          refine e_iload (pc := 181) dX4_holds_181 rfl ?_
          refine e_iload (pc := 183) dX4_holds_183 rfl ?_
          obtain ⟨v16, hr16, hr10⟩ := x_bd1 hr10
          have hjhr16 : Ev g yX4_holds cX4_holds 8 (some .boolean) [] 0 193 [some (x_r (16 * 19 + 0)), some (x_i a), some (x_i b), some (x_i v1), some (x_i v2), some (x_i v3), some (x_i v4), some (x_i (x_shr (La 4 (v4).toNat) 4))] [x_i v16, x_i (x_shl v1 1)] (al, ro, fl (ml M [19] [La])) 0 0 (.inl (some (x_i t))) (al, ro, fl (ml M [19] [La])) := by
            refine e_ior (pc := 193) dX4_holds_193 ?_
            refine e_istoren (pc := 194) (i := 3) dX4_holds_194 rfl (by decide) rfl ?_
            show Ev g _ _ _ _ _ _ 195 [some (x_r (16 * 19 + 0)), some (x_i a), some (x_i b), some (x_i (x_or (x_shl v1 1) v16)), some (x_i v2), some (x_i v3), some (x_i v4), some (x_i (x_shr (La 4 (v4).toNat) 4))] [] (al, ro, fl (ml M [19] [La])) _ _ _ _
            refine e_iconst (pc := 195) dX4_holds_195 (x_R rfl) ?_
            refine e_istore (pc := 196) (i := 4) dX4_holds_196 (by decide) rfl ?_
            show Ev g _ _ _ _ _ _ 198 [some (x_r (16 * 19 + 0)), some (x_i a), some (x_i b), some (x_i (x_or (x_shl v1 1) v16)), some (x_i 0), some (x_i v3), some (x_i v4), some (x_i (x_shr (La 4 (v4).toNat) 4))] [] (al, ro, fl (ml M [19] [La])) _ _ _ _
            refine e_goto (pc := 198) (tgt := 275) dX4_holds_198 (by decide) ?_
            cases hr10
            exact hjhr10
          clear hr10
          refine e_icmp_le (pc := 185) (tgt := 192) dX4_holds_185 (by decide) (fun hb => ?_) (fun hb => ?_)
          · rw [if_pos hb] at hr16
            refine e_iconst (pc := 192) dX4_holds_192 (x_R rfl) ?_
            cases hr16
            exact hjhr16
          · rw [if_neg hb] at hr16
            refine e_iconst (pc := 188) dX4_holds_188 (x_R rfl) ?_
            refine e_goto (pc := 189) (tgt := 193) dX4_holds_189 (by decide) ?_
            cases hr16
            exact hjhr16
        rw [if_neg hb4] at hr10
        by_cases hb5 : (x_and (La 4 (v4).toNat) 15) = 5
        · rw [if_pos hb5] at hr10
          refine e_tabIn (pc := 53) (tgt := 201) dX4_holds_53 (by omega) (by omega) (by rw [hb5]; rfl) (by decide) ?_
          refine e_iloadn (pc := 201) (i := 3) dX4_holds_201 rfl rfl ?_
          refine e_iconst (pc := 202) dX4_holds_202 (x_R rfl) ?_
          refine e_ishl (pc := 203) dX4_holds_203 ?_
          refine e_aloadn (pc := 204) (i := 0) dX4_holds_204 rfl rfl ?_
          refine f_getr (pc := 205) (u := 19) (q := 0) dX4_holds_205 xf4_24 (sa_19_0 hs) rfl (sr_19_0_4 hs) ?_
          refine e_iconst (pc := 208) dX4_holds_208 (x_R rfl) ?_
          refine f_iald (pc := 209) (k := 0) (u := 19) (q := 5) (len := 8) dX4_holds_209 (sa_19_5 hs) (by decide) hn rfl rfl (by decide) ?_
          show Ev g _ _ _ _ _ _ 210 [some (x_r (16 * 19 + 0)), some (x_i a), some (x_i b), some (x_i v1), some (x_i v2), some (x_i v3), some (x_i v4), some (x_i (x_shr (La 4 (v4).toNat) 4))] [x_i (La 5 1), x_i (x_shl v1 1)] (al, ro, fl (ml M [19] [La])) _ _ _ _
          refine e_iconst (pc := 210) dX4_holds_210 (x_R rfl) ?_
          refine e_irem (pc := 211) dX4_holds_211 (by decide) ?_
          obtain ⟨v18, hr18, hr10⟩ := x_bd1 hr10
          have hjhr18 : Ev g yX4_holds cX4_holds 8 (some .boolean) [] 0 220 [some (x_r (16 * 19 + 0)), some (x_i a), some (x_i b), some (x_i v1), some (x_i v2), some (x_i v3), some (x_i v4), some (x_i (x_shr (La 4 (v4).toNat) 4))] [x_i v18, x_i (x_shl v1 1)] (al, ro, fl (ml M [19] [La])) 0 0 (.inl (some (x_i t))) (al, ro, fl (ml M [19] [La])) := by
            refine e_ior (pc := 220) dX4_holds_220 ?_
            refine e_istoren (pc := 221) (i := 3) dX4_holds_221 rfl (by decide) rfl ?_
            show Ev g _ _ _ _ _ _ 222 [some (x_r (16 * 19 + 0)), some (x_i a), some (x_i b), some (x_i (x_or (x_shl v1 1) v18)), some (x_i v2), some (x_i v3), some (x_i v4), some (x_i (x_shr (La 4 (v4).toNat) 4))] [] (al, ro, fl (ml M [19] [La])) _ _ _ _
            refine e_goto (pc := 222) (tgt := 275) dX4_holds_222 (by decide) ?_
            cases hr10
            exact hjhr10
          clear hr10
          refine e_if_ne (pc := 212) (tgt := 219) dX4_holds_212 (by decide) (fun hb => ?_) (fun hb => ?_)
          · rw [if_neg hb] at hr18
            refine e_iconst (pc := 219) dX4_holds_219 (x_R rfl) ?_
            cases hr18
            exact hjhr18
          · rw [if_pos hb] at hr18
            refine e_iconst (pc := 215) dX4_holds_215 (x_R rfl) ?_
            refine e_goto (pc := 216) (tgt := 220) dX4_holds_216 (by decide) ?_
            cases hr18
            exact hjhr18
        rw [if_neg hb5] at hr10
        by_cases hb6 : (x_and (La 4 (v4).toNat) 15) = 6
        · rw [if_pos hb6] at hr10
          refine e_tabIn (pc := 53) (tgt := 225) dX4_holds_53 (by omega) (by omega) (by rw [hb6]; rfl) (by decide) ?_
          refine e_iloadn (pc := 225) (i := 3) dX4_holds_225 rfl rfl ?_
          refine e_iconst (pc := 226) dX4_holds_226 (x_R rfl) ?_
          refine e_ishl (pc := 227) dX4_holds_227 ?_
          refine e_aloadn (pc := 228) (i := 0) dX4_holds_228 rfl rfl ?_
          refine f_getr (pc := 229) (u := 19) (q := 0) dX4_holds_229 xf4_24 (sa_19_0 hs) rfl (sr_19_0_4 hs) ?_
          refine e_bipush (pc := 232) dX4_holds_232 (by decide +kernel) (x_R rfl) ?_
          refine f_iald (pc := 234) (k := 0) (u := 19) (q := 5) (len := 8) dX4_holds_234 (sa_19_5 hs) (by decide) hn rfl rfl (by decide) ?_
          show Ev g _ _ _ _ _ _ 235 [some (x_r (16 * 19 + 0)), some (x_i a), some (x_i b), some (x_i v1), some (x_i v2), some (x_i v3), some (x_i v4), some (x_i (x_shr (La 4 (v4).toNat) 4))] [x_i (La 5 7), x_i (x_shl v1 1)] (al, ro, fl (ml M [19] [La])) _ _ _ _
          obtain ⟨v20, hr20, hr10⟩ := x_bd1 hr10
          have hjhr20 : Ev g yX4_holds cX4_holds 8 (some .boolean) [] 0 243 [some (x_r (16 * 19 + 0)), some (x_i a), some (x_i b), some (x_i v1), some (x_i v2), some (x_i v3), some (x_i v4), some (x_i (x_shr (La 4 (v4).toNat) 4))] [x_i v20, x_i (x_shl v1 1)] (al, ro, fl (ml M [19] [La])) 0 0 (.inl (some (x_i t))) (al, ro, fl (ml M [19] [La])) := by
            refine e_ior (pc := 243) dX4_holds_243 ?_
            refine e_istoren (pc := 244) (i := 3) dX4_holds_244 rfl (by decide) rfl ?_
            show Ev g _ _ _ _ _ _ 245 [some (x_r (16 * 19 + 0)), some (x_i a), some (x_i b), some (x_i (x_or (x_shl v1 1) v20)), some (x_i v2), some (x_i v3), some (x_i v4), some (x_i (x_shr (La 4 (v4).toNat) 4))] [] (al, ro, fl (ml M [19] [La])) _ _ _ _
            refine e_goto (pc := 245) (tgt := 275) dX4_holds_245 (by decide) ?_
            cases hr10
            exact hjhr10
          clear hr10
          refine e_if_le (pc := 235) (tgt := 242) dX4_holds_235 (by decide) (fun hb => ?_) (fun hb => ?_)
          · rw [if_pos hb] at hr20
            refine e_iconst (pc := 242) dX4_holds_242 (x_R rfl) ?_
            cases hr20
            exact hjhr20
          · rw [if_neg hb] at hr20
            refine e_iconst (pc := 238) dX4_holds_238 (x_R rfl) ?_
            refine e_goto (pc := 239) (tgt := 243) dX4_holds_239 (by decide) ?_
            cases hr20
            exact hjhr20
        rw [if_neg hb6] at hr10
        by_cases hb7 : (x_and (La 4 (v4).toNat) 15) = 7
        · rw [if_pos hb7] at hr10
          refine e_tabIn (pc := 53) (tgt := 248) dX4_holds_53 (by omega) (by omega) (by rw [hb7]; rfl) (by decide) ?_
          refine e_iloadn (pc := 248) (i := 3) dX4_holds_248 rfl rfl ?_
          refine e_iconst (pc := 249) dX4_holds_249 (x_R rfl) ?_
          refine e_ixor (pc := 250) dX4_holds_250 ?_
          refine e_istoren (pc := 251) (i := 3) dX4_holds_251 rfl (by decide) rfl ?_
          show Ev g _ _ _ _ _ _ 252 [some (x_r (16 * 19 + 0)), some (x_i a), some (x_i b), some (x_i (x_xor v1 1)), some (x_i v2), some (x_i v3), some (x_i v4), some (x_i (x_shr (La 4 (v4).toNat) 4))] [] (al, ro, fl (ml M [19] [La])) _ _ _ _
          refine e_goto (pc := 252) (tgt := 275) dX4_holds_252 (by decide) ?_
          cases hr10
          exact hjhr10
        rw [if_neg hb7] at hr10
        by_cases hb8 : (x_and (La 4 (v4).toNat) 15) = 8
        · rw [if_pos hb8] at hr10
          refine e_tabIn (pc := 53) (tgt := 255) dX4_holds_53 (by omega) (by omega) (by rw [hb8]; rfl) (by decide) ?_
          refine e_iloadn (pc := 255) (i := 3) dX4_holds_255 rfl rfl ?_
          refine e_iconst (pc := 256) dX4_holds_256 (x_R rfl) ?_
          refine e_ishr (pc := 257) dX4_holds_257 ?_
          refine e_iloadn (pc := 258) (i := 3) dX4_holds_258 rfl rfl ?_
          refine e_bipush (pc := 259) dX4_holds_259 (by decide +kernel) (x_R rfl) ?_
          refine e_ior (pc := 261) dX4_holds_261 ?_
          refine e_iand (pc := 262) dX4_holds_262 ?_
          refine e_istoren (pc := 263) (i := 3) dX4_holds_263 rfl (by decide) rfl ?_
          show Ev g _ _ _ _ _ _ 264 [some (x_r (16 * 19 + 0)), some (x_i a), some (x_i b), some (x_i (x_and (x_shr v1 1) (x_or v1 (-2)))), some (x_i v2), some (x_i v3), some (x_i v4), some (x_i (x_shr (La 4 (v4).toNat) 4))] [] (al, ro, fl (ml M [19] [La])) _ _ _ _
          refine e_goto (pc := 264) (tgt := 275) dX4_holds_264 (by decide) ?_
          cases hr10
          exact hjhr10
        rw [if_neg hb8] at hr10
        refine e_tabOut (pc := 53) (tgt := 267) dX4_holds_53 (by omega) (by decide) ?_
        refine e_iloadn (pc := 267) (i := 3) dX4_holds_267 rfl rfl ?_
        refine e_iconst (pc := 268) dX4_holds_268 (x_R rfl) ?_
        refine e_ishr (pc := 269) dX4_holds_269 ?_
        refine e_iloadn (pc := 270) (i := 3) dX4_holds_270 rfl rfl ?_
        refine e_iconst (pc := 271) dX4_holds_271 (x_R rfl) ?_
        refine e_iand (pc := 272) dX4_holds_272 ?_
        refine e_ior (pc := 273) dX4_holds_273 ?_
        refine e_istoren (pc := 274) (i := 3) dX4_holds_274 rfl (by decide) rfl ?_
        show Ev g _ _ _ _ _ _ 275 [some (x_r (16 * 19 + 0)), some (x_i a), some (x_i b), some (x_i (x_or (x_shr v1 1) (x_and v1 1))), some (x_i v2), some (x_i v3), some (x_i v4), some (x_i (x_shr (La 4 (v4).toNat) 4))] [] (al, ro, fl (ml M [19] [La])) _ _ _ _
        cases hr10
        exact hjhr10
