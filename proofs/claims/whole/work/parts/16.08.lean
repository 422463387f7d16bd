set_option maxRecDepth 100000 in
set_option maxHeartbeats 4000000 in
theorem c_X1_addMonk {g : xG} {al : List (Nat × Nat × Nat)} {ro : Nat → Nat → Option Nat} (hst : g.1.stackTraces = false) (hs : SH al ro) {u : Nat} (hu : 3 ≤ u ∧ u ≤ 18) {M : Nat → xU} {a : Int} {b : Int} {c : Int} {d : Int} {C : xU}  {t : xU} (hG : G1_addMonk a b c d C = some t) :
    Cal g yX1_addMonk cX1_addMonk 5 none 1 [x_r (16 * u + 0), x_i a, x_i b, x_i c, x_i d] (al, ro, fl (ml M [u] [C])) 0 0 (.inl none) (al, ro, fl (ml M [u] [t])) := by
  have hn : ([u] : List Nat).Nodup := by simp
  refine cal_of_ev (plainFor_of_name (by decide)) (x_c1 rfl) (Nat.le_of_ble_eq_true rfl) hst ?_
  show Ev g _ _ _ _ _ _ 0 [some (x_r (16 * u + 0)), some (x_i a), some (x_i b), some (x_i c), some (x_i d)] [] (al, ro, fl (ml M [u] [C])) _ _ _ _
  rw [G1_addMonk] at hG
  refine e_aloadn (pc := 0) (i := 0) dX1_addMonk_0 rfl rfl ?_
  refine f_geti (pc := 1) (k := 0) (u := u) (q := 0) dX1_addMonk_1 xf1_43 (sc_a0 hs hu) rfl hn rfl rfl (by decide) ?_
  show Ev g _ _ _ _ _ _ 4 [some (x_r (16 * u + 0)), some (x_i a), some (x_i b), some (x_i c), some (x_i d)] [x_i (C 0 3)] (al, ro, fl (ml M [u] [C])) _ _ _ _
  refine e_bipush (pc := 4) dX1_addMonk_4 (by decide +kernel) (x_R rfl) ?_
  obtain ⟨C1, hr1, hG⟩ := x_bd1 hG
  have hjhr1 : Ev g yX1_addMonk cX1_addMonk 5 none [] 1 60 [some (x_r (16 * u + 0)), some (x_i a), some (x_i b), some (x_i c), some (x_i d)] [] (al, ro, fl (ml M [u] [C1])) 0 0 (.inl none) (al, ro, fl (ml M [u] [t])) := by
    cases hG
    exact (e_return rfl dX1_addMonk_60)
  clear hG
  refine e_icmp_ge (pc := 6) (tgt := 60) dX1_addMonk_6 (by decide) (fun hb => ?_) (fun hb => ?_)
  · rw [if_pos hb] at hr1
    cases hr1
    exact hjhr1
  · rw [if_neg hb] at hr1
    refine e_aloadn (pc := 9) (i := 0) dX1_addMonk_9 rfl rfl ?_
    refine e_iconst (pc := 10) dX1_addMonk_10 (x_R rfl) ?_
    refine e_aloadn (pc := 11) (i := 0) dX1_addMonk_11 rfl rfl ?_
    refine f_geti (pc := 12) (k := 0) (u := u) (q := 0) dX1_addMonk_12 xf1_43 (sc_a0 hs hu) rfl hn rfl rfl (by decide) ?_
    show Ev g _ _ _ _ _ _ 15 [some (x_r (16 * u + 0)), some (x_i a), some (x_i b), some (x_i c), some (x_i d)] [x_i (C 0 3), x_i 0, x_r (16 * u + 0)] (al, ro, fl (ml M [u] [C])) _ _ _ _
    refine e_iloadn (pc := 15) (i := 1) dX1_addMonk_15 rfl rfl ?_
    obtain ⟨C3, hq3, hr1⟩ := x_bd1 hr1
    refine e_invV (pc := 16) (K1 := 0) (S1 := 0) (K := 0) (S := 0) (dd2 := 0) (av := [x_i 0, x_i (C 0 3), x_i a]) (st := []) (id := 16 * u + 0) dX1_addMonk_16 xmX1_75 rfl (Or.inl ⟨1, 12, TX1, (sc_a0 hs hu), rfl, by decide⟩) (f_cal (M := M) (us2 := [u]) [0] hn rfl (And.intro rfl trivial) rfl rfl rfl (c_X1_put hst hs hu  hq3)) (by decide) (Nat.le_of_ble_eq_true rfl) (Or.inl rfl) ?_
    show Ev g _ _ _ _ _ _ 19 [some (x_r (16 * u + 0)), some (x_i a), some (x_i b), some (x_i c), some (x_i d)] [] (al, ro, fl (ml M [u] [C3])) _ _ _ _
    refine e_aloadn (pc := 19) (i := 0) dX1_addMonk_19 rfl rfl ?_
    refine e_iconst (pc := 20) dX1_addMonk_20 (x_R rfl) ?_
    refine e_aloadn (pc := 21) (i := 0) dX1_addMonk_21 rfl rfl ?_
    refine f_geti (pc := 22) (k := 0) (u := u) (q := 0) dX1_addMonk_22 xf1_43 (sc_a0 hs hu) rfl hn rfl rfl (by decide) ?_
    show Ev g _ _ _ _ _ _ 25 [some (x_r (16 * u + 0)), some (x_i a), some (x_i b), some (x_i c), some (x_i d)] [x_i (C3 0 3), x_i 2, x_r (16 * u + 0)] (al, ro, fl (ml M [u] [C3])) _ _ _ _
    refine e_iloadn (pc := 25) (i := 2) dX1_addMonk_25 rfl rfl ?_
    obtain ⟨C5, hq5, hr1⟩ := x_bd1 hr1
    refine e_invV (pc := 26) (K1 := 0) (S1 := 0) (K := 0) (S := 0) (dd2 := 0) (av := [x_i 2, x_i (C3 0 3), x_i b]) (st := []) (id := 16 * u + 0) dX1_addMonk_26 xmX1_75 rfl (Or.inl ⟨1, 12, TX1, (sc_a0 hs hu), rfl, by decide⟩) (f_cal (M := M) (us2 := [u]) [0] hn rfl (And.intro rfl trivial) rfl rfl rfl (c_X1_put hst hs hu  hq5)) (by decide) (Nat.le_of_ble_eq_true rfl) (Or.inl rfl) ?_
    show Ev g _ _ _ _ _ _ 29 [some (x_r (16 * u + 0)), some (x_i a), some (x_i b), some (x_i c), some (x_i d)] [] (al, ro, fl (ml M [u] [C5])) _ _ _ _
    refine e_aloadn (pc := 29) (i := 0) dX1_addMonk_29 rfl rfl ?_
    refine e_iconst (pc := 30) dX1_addMonk_30 (x_R rfl) ?_
    refine e_aloadn (pc := 31) (i := 0) dX1_addMonk_31 rfl rfl ?_
    refine f_geti (pc := 32) (k := 0) (u := u) (q := 0) dX1_addMonk_32 xf1_43 (sc_a0 hs hu) rfl hn rfl rfl (by decide) ?_
    show Ev g _ _ _ _ _ _ 35 [some (x_r (16 * u + 0)), some (x_i a), some (x_i b), some (x_i c), some (x_i d)] [x_i (C5 0 3), x_i 1, x_r (16 * u + 0)] (al, ro, fl (ml M [u] [C5])) _ _ _ _
    refine e_iloadn (pc := 35) (i := 3) dX1_addMonk_35 rfl rfl ?_
    obtain ⟨C7, hq7, hr1⟩ := x_bd1 hr1
    refine e_invV (pc := 36) (K1 := 0) (S1 := 0) (K := 0) (S := 0) (dd2 := 0) (av := [x_i 1, x_i (C5 0 3), x_i c]) (st := []) (id := 16 * u + 0) dX1_addMonk_36 xmX1_75 rfl (Or.inl ⟨1, 12, TX1, (sc_a0 hs hu), rfl, by decide⟩) (f_cal (M := M) (us2 := [u]) [0] hn rfl (And.intro rfl trivial) rfl rfl rfl (c_X1_put hst hs hu  hq7)) (by decide) (Nat.le_of_ble_eq_true rfl) (Or.inl rfl) ?_
    show Ev g _ _ _ _ _ _ 39 [some (x_r (16 * u + 0)), some (x_i a), some (x_i b), some (x_i c), some (x_i d)] [] (al, ro, fl (ml M [u] [C7])) _ _ _ _
    refine e_aloadn (pc := 39) (i := 0) dX1_addMonk_39 rfl rfl ?_
    refine e_iconst (pc := 40) dX1_addMonk_40 (x_R rfl) ?_
    refine e_aloadn (pc := 41) (i := 0) dX1_addMonk_41 rfl rfl ?_
    refine f_geti (pc := 42) (k := 0) (u := u) (q := 0) dX1_addMonk_42 xf1_43 (sc_a0 hs hu) rfl hn rfl rfl (by decide) ?_
    show Ev g _ _ _ _ _ _ 45 [some (x_r (16 * u + 0)), some (x_i a), some (x_i b), some (x_i c), some (x_i d)] [x_i (C7 0 3), x_i 3, x_r (16 * u + 0)] (al, ro, fl (ml M [u] [C7])) _ _ _ _
    refine e_iload (pc := 45) dX1_addMonk_45 rfl ?_
    obtain ⟨C9, hq9, hr1⟩ := x_bd1 hr1
    refine e_invV (pc := 47) (K1 := 0) (S1 := 0) (K := 0) (S := 0) (dd2 := 0) (av := [x_i 3, x_i (C7 0 3), x_i d]) (st := []) (id := 16 * u + 0) dX1_addMonk_47 xmX1_75 rfl (Or.inl ⟨1, 12, TX1, (sc_a0 hs hu), rfl, by decide⟩) (f_cal (M := M) (us2 := [u]) [0] hn rfl (And.intro rfl trivial) rfl rfl rfl (c_X1_put hst hs hu  hq9)) (by decide) (Nat.le_of_ble_eq_true rfl) (Or.inl rfl) ?_
    show Ev g _ _ _ _ _ _ 50 [some (x_r (16 * u + 0)), some (x_i a), some (x_i b), some (x_i c), some (x_i d)] [] (al, ro, fl (ml M [u] [C9])) _ _ _ _
    refine e_aloadn (pc := 50) (i := 0) dX1_addMonk_50 rfl rfl ?_
    refine e_dup (pc := 51) dX1_addMonk_51 rfl ?_
    refine f_geti (pc := 52) (k := 0) (u := u) (q := 0) dX1_addMonk_52 xf1_43 (sc_a0 hs hu) rfl hn rfl rfl (by decide) ?_
    show Ev g _ _ _ _ _ _ 55 [some (x_r (16 * u + 0)), some (x_i a), some (x_i b), some (x_i c), some (x_i d)] [x_i (C9 0 3), x_r (16 * u + 0)] (al, ro, fl (ml M [u] [C9])) _ _ _ _
    refine e_iconst (pc := 55) dX1_addMonk_55 (x_R rfl) ?_
    refine e_iadd (pc := 56) dX1_addMonk_56 ?_
    refine f_puti (pc := 57) (k := 0) (u := u) (q := 0) dX1_addMonk_57 xf1_43 xw1_3 (sc_a0 hs hu) hn rfl rfl rfl (by decide) ?_
    show Ev g _ _ _ _ _ _ 60 [some (x_r (16 * u + 0)), some (x_i a), some (x_i b), some (x_i c), some (x_i d)] [] (al, ro, fl (ml M [u] [(x_up C9 0 3 (x_add (C9 0 3) 1))])) _ _ _ _
    cases hr1
    exact hjhr1
set_option maxRecDepth 100000 in
set_option maxHeartbeats 4000000 in
theorem c_X1_hasStall {g : xG} {al : List (Nat × Nat × Nat)} {ro : Nat → Nat → Option Nat} (hst : g.1.stackTraces = false) (hs : SH al ro) {u : Nat} (hu : 3 ≤ u ∧ u ≤ 18) {M : Nat → xU} {a : Int} {C : xU}  {t : Int} (hG : G1_hasStall a C = some t) :
    Cal g yX1_hasStall cX1_hasStall 3 (some .boolean) 1 [x_r (16 * u + 0), x_i a] (al, ro, fl (ml M [u] [C])) 0 0 (.inl (some (x_i t))) (al, ro, fl (ml M [u] [C])) := by
  have hn : ([u] : List Nat).Nodup := by simp
  refine cal_of_ev (plainFor_of_name (by decide)) (x_c1 rfl) (Nat.le_of_ble_eq_true rfl) hst ?_
  show Ev g _ _ _ _ _ _ 0 [some (x_r (16 * u + 0)), some (x_i a), none] [] (al, ro, fl (ml M [u] [C])) _ _ _ _
  rw [G1_hasStall] at hG
  refine e_iconst (pc := 0) dX1_hasStall_0 (x_R rfl) ?_
  refine e_istoren (pc := 1) (i := 2) dX1_hasStall_1 rfl (by decide) rfl ?_
  show Ev g _ _ _ _ _ _ 2 [some (x_r (16 * u + 0)), some (x_i a), some (x_i 0)] [] (al, ro, fl (ml M [u] [C])) _ _ _ _
  obtain ⟨r2, hl2, hG⟩ := x_lrd hG
  have hk2 : ∀ q : Unit, r2 = .inl q → Ev g yX1_hasStall cX1_hasStall 3 (some .boolean) [] 1 28 [some (x_r (16 * u + 0)), some (x_i a), none] [] (al, ro, fl (ml M [u] [C])) 0 0 (.inl (some (x_i t))) (al, ro, fl (ml M [u] [C])) := by
    intro q hq
    subst hq
    replace hG := x_lr_l hG
    replace hG := x_ed1 hG
    refine e_iconst (pc := 28) dX1_hasStall_28 (x_R rfl) ?_
    cases hG
    exact (e_ireturn rfl dX1_hasStall_29 (x_bool (by decide)).1)
  have hv2 : ∀ q : Int, r2 = .inr q → some q = some t := by
    intro q hq
    subst hq
    exact x_lr_r hG
  clear hG
  refine e_whl (G1_hasStall_L2 a C) (fun z : Int => Ev g yX1_hasStall cX1_hasStall 3 (some .boolean) [] 1 2 [some (x_r (16 * u + 0)), some (x_i a), some (x_i z)] [] (al, ro, fl (ml M [u] [C])) 0 0 (.inl (some (x_i t))) (al, ro, fl (ml M [u] [C]))) (fun q => q = r2) ?_ xFU 0 _ hl2 rfl
  intro z t2 hf2 hi2 hx2
  obtain ⟨v1, hzz⟩ : ∃ y, y = z := ⟨z, rfl⟩
  subst hzz
  rw [G1_hasStall_L2] at hf2
  show Ev g _ _ _ _ _ _ 2 [some (x_r (16 * u + 0)), some (x_i a), some (x_i v1)] [] (al, ro, fl (ml M [u] [C])) _ _ _ _
  refine e_iloadn (pc := 2) (i := 2) dX1_hasStall_2 rfl rfl ?_
  refine e_aloadn (pc := 3) (i := 0) dX1_hasStall_3 rfl rfl ?_
  refine f_geti (pc := 4) (k := 0) (u := u) (q := 0) dX1_hasStall_4 xf1_43 (sc_a0 hs hu) rfl hn rfl rfl (by decide) ?_
  show Ev g _ _ _ _ _ _ 7 [some (x_r (16 * u + 0)), some (x_i a), some (x_i v1)] [x_i (C 0 3), x_i v1] (al, ro, fl (ml M [u] [C])) _ _ _ _
  refine e_icmp_ge (pc := 7) (tgt := 28) dX1_hasStall_7 (by decide) (fun hb => ?_) (fun hb => ?_)
  · rw [if_pos hb] at hf2
    cases hf2
    refine e_drop (i := 2) ?_
    have hh := hk2 _ (hx2 _ rfl).symm
    try dsimp only at hh
    exact hh
  · rw [if_neg hb] at hf2
    refine e_aloadn (pc := 10) (i := 0) dX1_hasStall_10 rfl rfl ?_
    refine e_iconst (pc := 11) dX1_hasStall_11 (x_R rfl) ?_
    refine e_iloadn (pc := 12) (i := 2) dX1_hasStall_12 rfl rfl ?_
    obtain ⟨v4, hq4, hf2⟩ := x_bd1 hf2
    refine e_invV (pc := 13) (K1 := 0) (S1 := 0) (K := 0) (S := 0) (dd2 := 0) (av := [x_i 2, x_i v1]) (st := []) (id := 16 * u + 0) dX1_hasStall_13 xmX1_79 rfl (Or.inl ⟨1, 12, TX1, (sc_a0 hs hu), rfl, by decide⟩) (f_cal (M := M) (us2 := [u]) [0] hn rfl (And.intro rfl trivial) rfl rfl rfl (c_X1_of hst hs hu  hq4)) (by decide) (Nat.le_of_ble_eq_true rfl) (Or.inl rfl) ?_
    show Ev g _ _ _ _ _ _ 16 [some (x_r (16 * u + 0)), some (x_i a), some (x_i v1)] [x_i v4] (al, ro, fl (ml M [u] [C])) _ _ _ _
    refine e_iloadn (pc := 16) (i := 1) dX1_hasStall_16 rfl rfl ?_
    refine e_icmp_ne (pc := 17) (tgt := 22) dX1_hasStall_17 (by decide) (fun hb => ?_) (fun hb => ?_)
    · rw [if_neg hb] at hf2
      refine e_iinc (pc := 22) dX1_hasStall_22 rfl (by decide) rfl ?_
      show Ev g _ _ _ _ _ _ 25 [some (x_r (16 * u + 0)), some (x_i a), some (x_i (x_add v1 1))] [] (al, ro, fl (ml M [u] [C])) _ _ _ _
      refine e_goto (pc := 25) (tgt := 2) dX1_hasStall_25 (by decide) ?_
      cases hf2
      have hh := hi2 _ rfl
      try dsimp only at hh
      exact hh
    · rw [if_pos hb] at hf2
      refine e_iconst (pc := 20) dX1_hasStall_20 (x_R rfl) ?_
      cases hf2
      have hz := hv2 _ (hx2 _ rfl).symm
      cases hz
      exact (e_ireturn rfl dX1_hasStall_21 (x_bool (by decide)).1)
set_option maxRecDepth 100000 in
set_option maxHeartbeats 4000000 in
theorem c_X1_isAt {g : xG} {al : List (Nat × Nat × Nat)} {ro : Nat → Nat → Option Nat} (hst : g.1.stackTraces = false) (hs : SH al ro) {u : Nat} (hu : 3 ≤ u ∧ u ≤ 18) {M : Nat → xU} {a : Int} {b : Int} {C : xU}  {t : Int} (hG : G1_isAt a b C = some t) :
    Cal g yX1_isAt cX1_isAt 3 (some .boolean) 1 [x_r (16 * u + 0), x_i a, x_i b] (al, ro, fl (ml M [u] [C])) 0 0 (.inl (some (x_i t))) (al, ro, fl (ml M [u] [C])) := by
  have hn : ([u] : List Nat).Nodup := by simp
  refine cal_of_ev (plainFor_of_name (by decide)) (x_c1 rfl) (Nat.le_of_ble_eq_true rfl) hst ?_
  show Ev g _ _ _ _ _ _ 0 [some (x_r (16 * u + 0)), some (x_i a), some (x_i b)] [] (al, ro, fl (ml M [u] [C])) _ _ _ _
  rw [G1_isAt] at hG
  refine e_aloadn (pc := 0) (i := 0) dX1_isAt_0 rfl rfl ?_
  refine e_iconst (pc := 1) dX1_isAt_1 (x_R rfl) ?_
  refine e_iloadn (pc := 2) (i := 1) dX1_isAt_2 rfl rfl ?_
  obtain ⟨v1, hq1, hG⟩ := x_bd1 hG
  refine e_invV (pc := 3) (K1 := 0) (S1 := 0) (K := 0) (S := 0) (dd2 := 0) (av := [x_i 4, x_i a]) (st := []) (id := 16 * u + 0) dX1_isAt_3 xmX1_79 rfl (Or.inl ⟨1, 12, TX1, (sc_a0 hs hu), rfl, by decide⟩) (f_cal (M := M) (us2 := [u]) [0] hn rfl (And.intro rfl trivial) rfl rfl rfl (c_X1_of hst hs hu  hq1)) (by decide) (Nat.le_of_ble_eq_true rfl) (Or.inl rfl) ?_
  show Ev g _ _ _ _ _ _ 6 [some (x_r (16 * u + 0)), some (x_i a), some (x_i b)] [x_i v1] (al, ro, fl (ml M [u] [C])) _ _ _ _
  obtain ⟨v3, hr3, hG⟩ := x_bd1 hG
  have hjhr3 : Ev g yX1_isAt cX1_isAt 3 (some .boolean) [] 1 24 [some (x_r (16 * u + 0)), some (x_i a), some (x_i b)] [x_i v3] (al, ro, fl (ml M [u] [C])) 0 0 (.inl (some (x_i t))) (al, ro, fl (ml M [u] [C])) := by
    obtain ⟨hc0, hG⟩ := x_gd_some hG
    cases hG
    exact (e_ireturn rfl dX1_isAt_24 (x_bool hc0).1)
  clear hG
  refine e_if_ne (pc := 6) (tgt := 23) dX1_isAt_6 (by decide) (fun hb => ?_) (fun hb => ?_)
  · rw [if_neg hb] at hr3
    refine e_iconst (pc := 23) dX1_isAt_23 (x_R rfl) ?_
    cases hr3
    exact hjhr3
  · rw [if_pos hb] at hr3
    refine e_aloadn (pc := 9) (i := 0) dX1_isAt_9 rfl rfl ?_
    refine e_iconst (pc := 10) dX1_isAt_10 (x_R rfl) ?_
    refine e_iloadn (pc := 11) (i := 1) dX1_isAt_11 rfl rfl ?_
    obtain ⟨v5, hq5, hr3⟩ := x_bd1 hr3
    refine e_invV (pc := 12) (K1 := 0) (S1 := 0) (K := 0) (S := 0) (dd2 := 0) (av := [x_i 0, x_i a]) (st := []) (id := 16 * u + 0) dX1_isAt_12 xmX1_79 rfl (Or.inl ⟨1, 12, TX1, (sc_a0 hs hu), rfl, by decide⟩) (f_cal (M := M) (us2 := [u]) [0] hn rfl (And.intro rfl trivial) rfl rfl rfl (c_X1_of hst hs hu  hq5)) (by decide) (Nat.le_of_ble_eq_true rfl) (Or.inl rfl) ?_
    show Ev g _ _ _ _ _ _ 15 [some (x_r (16 * u + 0)), some (x_i a), some (x_i b)] [x_i v5] (al, ro, fl (ml M [u] [C])) _ _ _ _
    refine e_iloadn (pc := 15) (i := 2) dX1_isAt_15 rfl rfl ?_
    refine e_icmp_ne (pc := 16) (tgt := 23) dX1_isAt_16 (by decide) (fun hb => ?_) (fun hb => ?_)
    · rw [if_neg hb] at hr3
      refine e_iconst (pc := 23) dX1_isAt_23 (x_R rfl) ?_
      cases hr3
      exact hjhr3
    · rw [if_pos hb] at hr3
      refine e_iconst (pc := 19) dX1_isAt_19 (x_R rfl) ?_
      refine e_goto (pc := 20) (tgt := 24) dX1_isAt_20 (by decide) ?_
      cases hr3
      exact hjhr3
set_option maxRecDepth 100000 in
set_option maxHeartbeats 4000000 in
theorem c_X1_doesLike {g : xG} {al : List (Nat × Nat × Nat)} {ro : Nat → Nat → Option Nat} (hst : g.1.stackTraces = false) (hs : SH al ro) {u : Nat} (hu : 3 ≤ u ∧ u ≤ 18) {M : Nat → xU} {a : Int} {b : Int} {C : xU}  {t : Int} (hG : G1_doesLike a b C = some t) :
    Cal g yX1_doesLike cX1_doesLike 3 (some .boolean) 1 [x_r (16 * u + 0), x_i a, x_i b] (al, ro, fl (ml M [u] [C])) 0 0 (.inl (some (x_i t))) (al, ro, fl (ml M [u] [C])) := by
  have hn : ([u] : List Nat).Nodup := by simp
  refine cal_of_ev (plainFor_of_name (by decide)) (x_c1 rfl) (Nat.le_of_ble_eq_true rfl) hst ?_
  show Ev g _ _ _ _ _ _ 0 [some (x_r (16 * u + 0)), some (x_i a), some (x_i b)] [] (al, ro, fl (ml M [u] [C])) _ _ _ _
  rw [G1_doesLike] at hG
  refine e_aloadn (pc := 0) (i := 0) dX1_doesLike_0 rfl rfl ?_
  refine e_iconst (pc := 1) dX1_doesLike_1 (x_R rfl) ?_
  refine e_iloadn (pc := 2) (i := 1) dX1_doesLike_2 rfl rfl ?_
  obtain ⟨v1, hq1, hG⟩ := x_bd1 hG
  refine e_invV (pc := 3) (K1 := 0) (S1 := 0) (K := 0) (S := 0) (dd2 := 0) (av := [x_i 3, x_i a]) (st := []) (id := 16 * u + 0) dX1_doesLike_3 xmX1_79 rfl (Or.inl ⟨1, 12, TX1, (sc_a0 hs hu), rfl, by decide⟩) (f_cal (M := M) (us2 := [u]) [0] hn rfl (And.intro rfl trivial) rfl rfl rfl (c_X1_of hst hs hu  hq1)) (by decide) (Nat.le_of_ble_eq_true rfl) (Or.inl rfl) ?_
  show Ev g _ _ _ _ _ _ 6 [some (x_r (16 * u + 0)), some (x_i a), some (x_i b)] [x_i v1] (al, ro, fl (ml M [u] [C])) _ _ _ _
  refine e_iloadn (pc := 6) (i := 2) dX1_doesLike_6 rfl rfl ?_
  obtain ⟨v3, hq3, hG⟩ := x_bd1 hG
  refine e_invS (pc := 7) (K1 := 0) (S1 := 0) (K := 0) (S := 0) (dd2 := 0) (av := [x_i v1, x_i b]) (st := []) dX1_doesLike_7 xmX1_82 rfl (f_cal (M := M) (us2 := []) [] hn rfl trivial rfl rfl rfl (c_X11_holdsBit hst hs   hq3)) (by decide) (Nat.le_of_ble_eq_true rfl) (Or.inl rfl) ?_
  show Ev g _ _ _ _ _ _ 10 [some (x_r (16 * u + 0)), some (x_i a), some (x_i b)] [x_i v3] (al, ro, fl (ml M [u] [C])) _ _ _ _
  obtain ⟨hc0, hG⟩ := x_gd_some hG
  cases hG
  exact (e_ireturn rfl dX1_doesLike_10 (x_bool hc0).1)
set_option maxRecDepth 100000 in
set_option maxHeartbeats 4000000 in
theorem c_X1_walkOf {g : xG} {al : List (Nat × Nat × Nat)} {ro : Nat → Nat → Option Nat} (hst : g.1.stackTraces = false) (hs : SH al ro) {u : Nat} (hu : 3 ≤ u ∧ u ≤ 18) {M : Nat → xU} {a : Int} {C : xU}  {t : Int} (hG : G1_walkOf a C = some t) :
    Cal g yX1_walkOf cX1_walkOf 2 (some .int) 1 [x_r (16 * u + 0), x_i a] (al, ro, fl (ml M [u] [C])) 0 0 (.inl (some (x_i t))) (al, ro, fl (ml M [u] [C])) := by
  have hn : ([u] : List Nat).Nodup := by simp
  refine cal_of_ev (plainFor_of_name (by decide)) (x_c1 rfl) (Nat.le_of_ble_eq_true rfl) hst ?_
  show Ev g _ _ _ _ _ _ 0 [some (x_r (16 * u + 0)), some (x_i a)] [] (al, ro, fl (ml M [u] [C])) _ _ _ _
  rw [G1_walkOf] at hG
  refine e_aloadn (pc := 0) (i := 0) dX1_walkOf_0 rfl rfl ?_
  refine e_iconst (pc := 1) dX1_walkOf_1 (x_R rfl) ?_
  refine e_iloadn (pc := 2) (i := 1) dX1_walkOf_2 rfl rfl ?_
  obtain ⟨v1, hq1, hG⟩ := x_bd1 hG
  refine e_invV (pc := 3) (K1 := 0) (S1 := 0) (K := 0) (S := 0) (dd2 := 0) (av := [x_i 0, x_i a]) (st := []) (id := 16 * u + 0) dX1_walkOf_3 xmX1_79 rfl (Or.inl ⟨1, 12, TX1, (sc_a0 hs hu), rfl, by decide⟩) (f_cal (M := M) (us2 := [u]) [0] hn rfl (And.intro rfl trivial) rfl rfl rfl (c_X1_of hst hs hu  hq1)) (by decide) (Nat.le_of_ble_eq_true rfl) (Or.inl rfl) ?_
  show Ev g _ _ _ _ _ _ 6 [some (x_r (16 * u + 0)), some (x_i a)] [x_i v1] (al, ro, fl (ml M [u] [C])) _ _ _ _
  refine e_iconst (pc := 6) dX1_walkOf_6 (x_R rfl) ?_
  refine e_idiv (pc := 7) dX1_walkOf_7 (by decide) ?_
  cases hG
  exact (e_ireturn rfl dX1_walkOf_8 rfl)
set_option maxRecDepth 100000 in
set_option maxHeartbeats 4000000 in
theorem c_X1_monksIn {g : xG} {al : List (Nat × Nat × Nat)} {ro : Nat → Nat → Option Nat} (hst : g.1.stackTraces = false) (hs : SH al ro) {u : Nat} (hu : 3 ≤ u ∧ u ≤ 18) {M : Nat → xU} {a : Int} {C : xU}  {t : Int} (hG : G1_monksIn a C = some t) :
    Cal g yX1_monksIn cX1_monksIn 4 (some .int) 2 [x_r (16 * u + 0), x_i a] (al, ro, fl (ml M [u] [C])) 0 0 (.inl (some (x_i t))) (al, ro, fl (ml M [u] [C])) := by
  have hn : ([u] : List Nat).Nodup := by simp
  refine cal_of_ev (plainFor_of_name (by decide)) (x_c1 rfl) (Nat.le_of_ble_eq_true rfl) hst ?_
  show Ev g _ _ _ _ _ _ 0 [some (x_r (16 * u + 0)), some (x_i a), none, none] [] (al, ro, fl (ml M [u] [C])) _ _ _ _
  rw [G1_monksIn] at hG
  refine e_iconst (pc := 0) dX1_monksIn_0 (x_R rfl) ?_
  refine e_istoren (pc := 1) (i := 2) dX1_monksIn_1 rfl (by decide) rfl ?_
  show Ev g _ _ _ _ _ _ 2 [some (x_r (16 * u + 0)), some (x_i a), some (x_i 0), none] [] (al, ro, fl (ml M [u] [C])) _ _ _ _
  refine e_iconst (pc := 2) dX1_monksIn_2 (x_R rfl) ?_
  refine e_istoren (pc := 3) (i := 3) dX1_monksIn_3 rfl (by decide) rfl ?_
  show Ev g _ _ _ _ _ _ 4 [some (x_r (16 * u + 0)), some (x_i a), some (x_i 0), some (x_i 0)] [] (al, ro, fl (ml M [u] [C])) _ _ _ _
  obtain ⟨v3, hl4, hG⟩ := x_bd1 hG
  have hk4 : ∀ q : Int, q = v3 → Ev g yX1_monksIn cX1_monksIn 4 (some .int) [] 2 30 [some (x_r (16 * u + 0)), some (x_i a), some (x_i q), none] [] (al, ro, fl (ml M [u] [C])) 0 0 (.inl (some (x_i t))) (al, ro, fl (ml M [u] [C])) := by
    intro q hq
    replace hq := hq.symm
    subst hq
    refine e_iloadn (pc := 30) (i := 2) dX1_monksIn_30 rfl rfl ?_
    cases hG
    exact (e_ireturn rfl dX1_monksIn_31 rfl)
  clear hG
  refine e_whl (G1_monksIn_L4 a C) (fun z : (Int × Int) => Ev g yX1_monksIn cX1_monksIn 4 (some .int) [] 2 4 [some (x_r (16 * u + 0)), some (x_i a), some (x_i z.1), some (x_i z.2)] [] (al, ro, fl (ml M [u] [C])) 0 0 (.inl (some (x_i t))) (al, ro, fl (ml M [u] [C]))) (fun q => q = v3) ?_ xFU (0, 0) _ hl4 rfl
  intro z t4 hf4 hi4 hx4
  obtain ⟨v1, v2⟩ := z
  rw [G1_monksIn_L4] at hf4
  show Ev g _ _ _ _ _ _ 4 [some (x_r (16 * u + 0)), some (x_i a), some (x_i v1), some (x_i v2)] [] (al, ro, fl (ml M [u] [C])) _ _ _ _
  refine e_iloadn (pc := 4) (i := 3) dX1_monksIn_4 rfl rfl ?_
  refine e_aloadn (pc := 5) (i := 0) dX1_monksIn_5 rfl rfl ?_
  refine f_geti (pc := 6) (k := 0) (u := u) (q := 0) dX1_monksIn_6 xf1_43 (sc_a0 hs hu) rfl hn rfl rfl (by decide) ?_
  show Ev g _ _ _ _ _ _ 9 [some (x_r (16 * u + 0)), some (x_i a), some (x_i v1), some (x_i v2)] [x_i (C 0 3), x_i v2] (al, ro, fl (ml M [u] [C])) _ _ _ _
  refine e_icmp_ge (pc := 9) (tgt := 30) dX1_monksIn_9 (by decide) (fun hb => ?_) (fun hb => ?_)
  · rw [if_pos hb] at hf4
    cases hf4
    refine e_drop (i := 3) ?_
    have hh := hk4 _ (hx4 _ rfl)
    try dsimp only at hh
    exact hh
  · rw [if_neg hb] at hf4
    refine e_aloadn (pc := 12) (i := 0) dX1_monksIn_12 rfl rfl ?_
    refine e_iloadn (pc := 13) (i := 3) dX1_monksIn_13 rfl rfl ?_
    obtain ⟨v6, hq6, hf4⟩ := x_bd1 hf4
    refine e_invV (pc := 14) (K1 := 0) (S1 := 0) (K := 0) (S := 0) (dd2 := 1) (av := [x_i v2]) (st := []) (id := 16 * u + 0) dX1_monksIn_14 xmX1_86 rfl (Or.inl ⟨1, 12, TX1, (sc_a0 hs hu), rfl, by decide⟩) (f_cal (M := M) (us2 := [u]) [0] hn rfl (And.intro rfl trivial) rfl rfl rfl (c_X1_walkOf hst hs hu  hq6)) (by decide) (Nat.le_of_ble_eq_true rfl) (Or.inl rfl) ?_
    show Ev g _ _ _ _ _ _ 17 [some (x_r (16 * u + 0)), some (x_i a), some (x_i v1), some (x_i v2)] [x_i v6] (al, ro, fl (ml M [u] [C])) _ _ _ _
    refine e_iloadn (pc := 17) (i := 1) dX1_monksIn_17 rfl rfl ?_
    obtain ⟨v8, hr8, hf4⟩ := x_bd1 hf4
    have hjhr8 : Ev g yX1_monksIn cX1_monksIn 4 (some .int) [] 2 24 [some (x_r (16 * u + 0)), some (x_i a), some (x_i v8), some (x_i v2)] [] (al, ro, fl (ml M [u] [C])) 0 0 (.inl (some (x_i t))) (al, ro, fl (ml M [u] [C])) := by
      refine e_iinc (pc := 24) dX1_monksIn_24 rfl (by decide) rfl ?_
      show Ev g _ _ _ _ _ _ 27 [some (x_r (16 * u + 0)), some (x_i a), some (x_i v8), some (x_i (x_add v2 1))] [] (al, ro, fl (ml M [u] [C])) _ _ _ _
      refine e_goto (pc := 27) (tgt := 4) dX1_monksIn_27 (by decide) ?_
      cases hf4
      have hh := hi4 _ rfl
      try dsimp only at hh
      exact hh
    clear hf4
    refine e_icmp_ne (pc := 18) (tgt := 24) dX1_monksIn_18 (by decide) (fun hb => ?_) (fun hb => ?_)
    · rw [if_neg hb] at hr8
      cases hr8
      exact hjhr8
    · rw [if_pos hb] at hr8
      refine e_iinc (pc := 21) dX1_monksIn_21 rfl (by decide) rfl ?_
      show Ev g _ _ _ _ _ _ 24 [some (x_r (16 * u + 0)), some (x_i a), some (x_i (x_add v1 1)), some (x_i v2)] [] (al, ro, fl (ml M [u] [C])) _ _ _ _
      cases hr8
      exact hjhr8
set_option maxRecDepth 100000 in
set_option maxHeartbeats 4000000 in
theorem c_X1_seasonOf {g : xG} {al : List (Nat × Nat × Nat)} {ro : Nat → Nat → Option Nat} (hst : g.1.stackTraces = false) (hs : SH al ro) {u : Nat} (hu : 3 ≤ u ∧ u ≤ 18) {M : Nat → xU} {a : Int} {C : xU}  {t : Int} (hG : G1_seasonOf a C = some t) :
    Cal g yX1_seasonOf cX1_seasonOf 2 (some .int) 0 [x_r (16 * u + 0), x_i a] (al, ro, fl (ml M [u] [C])) 0 0 (.inl (some (x_i t))) (al, ro, fl (ml M [u] [C])) := by
  have hn : ([u] : List Nat).Nodup := by simp
  refine cal_of_ev (plainFor_of_name (by decide)) (x_c1 rfl) (Nat.le_of_ble_eq_true rfl) hst ?_
  show Ev g _ _ _ _ _ _ 0 [some (x_r (16 * u + 0)), some (x_i a)] [] (al, ro, fl (ml M [u] [C])) _ _ _ _
  rw [G1_seasonOf] at hG
  refine e_aloadn (pc := 0) (i := 0) dX1_seasonOf_0 rfl rfl ?_
  refine f_geti (pc := 1) (k := 0) (u := u) (q := 0) dX1_seasonOf_1 xf1_25 (sc_a0 hs hu) rfl hn rfl rfl (by decide) ?_
  show Ev g _ _ _ _ _ _ 4 [some (x_r (16 * u + 0)), some (x_i a)] [x_i (C 0 8)] (al, ro, fl (ml M [u] [C])) _ _ _ _
  refine e_iconst (pc := 4) dX1_seasonOf_4 (x_R rfl) ?_
  obtain ⟨v1, hr1, hG⟩ := x_bd1 hG
  have hjhr1 : Ev g yX1_seasonOf cX1_seasonOf 2 (some .int) [] 0 18 [some (x_r (16 * u + 0)), some (x_i a)] [x_i v1] (al, ro, fl (ml M [u] [C])) 0 0 (.inl (some (x_i t))) (al, ro, fl (ml M [u] [C])) := by
    cases hG
    exact (e_ireturn rfl dX1_seasonOf_18 rfl)
  clear hG
  refine e_icmp_ne (pc := 5) (tgt := 14) dX1_seasonOf_5 (by decide) (fun hb => ?_) (fun hb => ?_)
  · rw [if_neg hb] at hr1
    refine e_aloadn (pc := 14) (i := 0) dX1_seasonOf_14 rfl rfl ?_
    refine f_geti (pc := 15) (k := 0) (u := u) (q := 0) dX1_seasonOf_15 xf1_25 (sc_a0 hs hu) rfl hn rfl rfl (by decide) ?_
    show Ev g _ _ _ _ _ _ 18 [some (x_r (16 * u + 0)), some (x_i a)] [x_i (C 0 8)] (al, ro, fl (ml M [u] [C])) _ _ _ _
    cases hr1
    exact hjhr1
  · rw [if_pos hb] at hr1
    refine e_iloadn (pc := 8) (i := 1) dX1_seasonOf_8 rfl rfl ?_
    refine e_iconst (pc := 9) dX1_seasonOf_9 (x_R rfl) ?_
    refine e_idiv (pc := 10) dX1_seasonOf_10 (by decide) ?_
    refine e_goto (pc := 11) (tgt := 18) dX1_seasonOf_11 (by decide) ?_
    cases hr1
    exact hjhr1
set_option maxRecDepth 100000 in
set_option maxHeartbeats 4000000 in
theorem c_X1_lagOf {g : xG} {al : List (Nat × Nat × Nat)} {ro : Nat → Nat → Option Nat} (hst : g.1.stackTraces = false) (hs : SH al ro) {u : Nat} (hu : 3 ≤ u ∧ u ≤ 18) {M : Nat → xU} {a : Int} {C : xU}  {t : Int} (hG : G1_lagOf a C = some t) :
    Cal g yX1_lagOf cX1_lagOf 3 (some .int) 2 [x_r (16 * u + 0), x_i a] (al, ro, fl (ml M [u] [C])) 0 0 (.inl (some (x_i t))) (al, ro, fl (ml M [u] [C])) := by
  have hn : ([u] : List Nat).Nodup := by simp
  refine cal_of_ev (plainFor_of_name (by decide)) (x_c1 rfl) (Nat.le_of_ble_eq_true rfl) hst ?_
  show Ev g _ _ _ _ _ _ 0 [some (x_r (16 * u + 0)), some (x_i a), none] [] (al, ro, fl (ml M [u] [C])) _ _ _ _
  rw [G1_lagOf] at hG
  refine e_aloadn (pc := 0) (i := 0) dX1_lagOf_0 rfl rfl ?_
  refine e_iconst (pc := 1) dX1_lagOf_1 (x_R rfl) ?_
  obtain ⟨v1, hq1, hG⟩ := x_bd1 hG
  refine e_invV (pc := 2) (K1 := 0) (S1 := 0) (K := 0) (S := 0) (dd2 := 1) (av := [x_i 5]) (st := []) (id := 16 * u + 0) dX1_lagOf_2 xmX1_89 rfl (Or.inl ⟨1, 12, TX1, (sc_a0 hs hu), rfl, by decide⟩) (f_cal (M := M) (us2 := [u]) [0] hn rfl (And.intro rfl trivial) rfl rfl rfl (c_X1_sumOf hst hs hu  hq1)) (by decide) (Nat.le_of_ble_eq_true rfl) (Or.inl rfl) ?_
  show Ev g _ _ _ _ _ _ 5 [some (x_r (16 * u + 0)), some (x_i a), none] [x_i v1] (al, ro, fl (ml M [u] [C])) _ _ _ _
  refine e_istoren (pc := 5) (i := 2) dX1_lagOf_5 rfl (by decide) rfl ?_
  show Ev g _ _ _ _ _ _ 6 [some (x_r (16 * u + 0)), some (x_i a), some (x_i v1)] [] (al, ro, fl (ml M [u] [C])) _ _ _ _
  refine e_iloadn (pc := 6) (i := 2) dX1_lagOf_6 rfl rfl ?_
  obtain ⟨v3, hr3, hG⟩ := x_bd1 hG
  have hjhr3 : Ev g yX1_lagOf cX1_lagOf 3 (some .int) [] 2 25 [some (x_r (16 * u + 0)), some (x_i a), some (x_i v1)] [x_i v3] (al, ro, fl (ml M [u] [C])) 0 0 (.inl (some (x_i t))) (al, ro, fl (ml M [u] [C])) := by
    cases hG
    exact (e_ireturn rfl dX1_lagOf_25 rfl)
  clear hG
  refine e_if_ne (pc := 7) (tgt := 14) dX1_lagOf_7 (by decide) (fun hb => ?_) (fun hb => ?_)
  · rw [if_neg hb] at hr3
    refine e_bipush (pc := 14) dX1_lagOf_14 (by decide +kernel) (x_R rfl) ?_
    refine e_aloadn (pc := 16) (i := 0) dX1_lagOf_16 rfl rfl ?_
    refine e_iconst (pc := 17) dX1_lagOf_17 (x_R rfl) ?_
    refine e_iloadn (pc := 18) (i := 1) dX1_lagOf_18 rfl rfl ?_
    obtain ⟨v5, hq5, hr3⟩ := x_bd1 hr3
    refine e_invV (pc := 19) (K1 := 0) (S1 := 0) (K := 0) (S := 0) (dd2 := 0) (av := [x_i 5, x_i a]) (st := [x_i 100]) (id := 16 * u + 0) dX1_lagOf_19 xmX1_79 rfl (Or.inl ⟨1, 12, TX1, (sc_a0 hs hu), rfl, by decide⟩) (f_cal (M := M) (us2 := [u]) [0] hn rfl (And.intro rfl trivial) rfl rfl rfl (c_X1_of hst hs hu  hq5)) (by decide) (Nat.le_of_ble_eq_true rfl) (Or.inl rfl) ?_
    show Ev g _ _ _ _ _ _ 22 [some (x_r (16 * u + 0)), some (x_i a), some (x_i v1)] [x_i v5, x_i 100] (al, ro, fl (ml M [u] [C])) _ _ _ _
    refine e_imul (pc := 22) dX1_lagOf_22 ?_
    refine e_iloadn (pc := 23) (i := 2) dX1_lagOf_23 rfl rfl ?_
    obtain ⟨hc0, hr3⟩ := x_gd_some hr3
    refine e_idiv (pc := 24) dX1_lagOf_24 hc0 ?_
    cases hr3
    exact hjhr3
  · rw [if_pos hb] at hr3
    refine e_iconst (pc := 10) dX1_lagOf_10 (x_R rfl) ?_
    refine e_goto (pc := 11) (tgt := 25) dX1_lagOf_11 (by decide) ?_
    cases hr3
    exact hjhr3
set_option maxRecDepth 100000 in
set_option maxHeartbeats 4000000 in
theorem c_X1_farOf {g : xG} {al : List (Nat × Nat × Nat)} {ro : Nat → Nat → Option Nat} (hst : g.1.stackTraces = false) (hs : SH al ro) {u : Nat} (hu : 3 ≤ u ∧ u ≤ 18) {M : Nat → xU} {a : Int} {b : Int} {C : xU}  {t : Int} (hG : G1_farOf a b C = some t) :
    Cal g yX1_farOf cX1_farOf 4 (some .int) 2 [x_r (16 * u + 0), x_i a, x_i b] (al, ro, fl (ml M [u] [C])) 0 0 (.inl (some (x_i t))) (al, ro, fl (ml M [u] [C])) := by
  have hn : ([u] : List Nat).Nodup := by simp
  refine cal_of_ev (plainFor_of_name (by decide)) (x_c1 rfl) (Nat.le_of_ble_eq_true rfl) hst ?_
  show Ev g _ _ _ _ _ _ 0 [some (x_r (16 * u + 0)), some (x_i a), some (x_i b), none] [] (al, ro, fl (ml M [u] [C])) _ _ _ _
  rw [G1_farOf] at hG
  refine e_iloadn (pc := 0) (i := 1) dX1_farOf_0 rfl rfl ?_
  refine e_iloadn (pc := 1) (i := 2) dX1_farOf_1 rfl rfl ?_
  obtain ⟨v1, hq1, hG⟩ := x_bd1 hG
  refine e_invS (pc := 2) (K1 := 0) (S1 := 0) (K := 0) (S := 0) (dd2 := 1) (av := [x_i a, x_i b]) (st := []) dX1_farOf_2 xmX1_92 rfl (f_cal (M := M) (us2 := []) [] hn rfl trivial rfl rfl rfl (c_X11_stepsApart hst hs   hq1)) (by decide) (Nat.le_of_ble_eq_true rfl) (Or.inl rfl) ?_
  show Ev g _ _ _ _ _ _ 5 [some (x_r (16 * u + 0)), some (x_i a), some (x_i b), none] [x_i v1] (al, ro, fl (ml M [u] [C])) _ _ _ _
  refine e_istoren (pc := 5) (i := 3) dX1_farOf_5 rfl (by decide) rfl ?_
  show Ev g _ _ _ _ _ _ 6 [some (x_r (16 * u + 0)), some (x_i a), some (x_i b), some (x_i v1)] [] (al, ro, fl (ml M [u] [C])) _ _ _ _
  refine e_iloadn (pc := 6) (i := 3) dX1_farOf_6 rfl rfl ?_
  refine e_iconst (pc := 7) dX1_farOf_7 (x_R rfl) ?_
  refine e_aloadn (pc := 8) (i := 0) dX1_farOf_8 rfl rfl ?_
  refine f_geti (pc := 9) (k := 0) (u := u) (q := 0) dX1_farOf_9 xf1_29 (sc_a0 hs hu) rfl hn rfl rfl (by decide) ?_
  show Ev g _ _ _ _ _ _ 12 [some (x_r (16 * u + 0)), some (x_i a), some (x_i b), some (x_i v1)] [x_i (C 0 10), x_i 1, x_i v1] (al, ro, fl (ml M [u] [C])) _ _ _ _
  refine e_invS (pc := 12) (K1 := 0) (S1 := 0) (K := 0) (S := 0) (dd2 := 0) (av := [x_i 1, x_i (C 0 10)]) (st := [x_i v1]) dX1_farOf_12 xmX1_95 rfl (p_max hst hs) (by decide) (Nat.le_of_ble_eq_true rfl) (Or.inl rfl) ?_
  show Ev g _ _ _ _ _ _ 15 [some (x_r (16 * u + 0)), some (x_i a), some (x_i b), some (x_i v1)] [x_i (max 1 (C 0 10)), x_i v1] (al, ro, fl (ml M [u] [C])) _ _ _ _
  refine e_bipush (pc := 15) dX1_farOf_15 (by decide +kernel) (x_R rfl) ?_
  refine e_iadd (pc := 17) dX1_farOf_17 ?_
  refine e_iloadn (pc := 18) (i := 3) dX1_farOf_18 rfl rfl ?_
  refine e_isub (pc := 19) dX1_farOf_19 ?_
  refine e_invS (pc := 20) (K1 := 0) (S1 := 0) (K := 0) (S := 0) (dd2 := 0) (av := [x_i v1, x_i (x_sub (x_add (max 1 (C 0 10)) 8) v1)]) (st := []) dX1_farOf_20 xmX1_65 rfl (p_min hst hs) (by decide) (Nat.le_of_ble_eq_true rfl) (Or.inl rfl) ?_
  show Ev g _ _ _ _ _ _ 23 [some (x_r (16 * u + 0)), some (x_i a), some (x_i b), some (x_i v1)] [x_i (min v1 (x_sub (x_add (max 1 (C 0 10)) 8) v1))] (al, ro, fl (ml M [u] [C])) _ _ _ _
  cases hG
  exact (e_ireturn rfl dX1_farOf_23 rfl)
set_option maxRecDepth 100000 in
set_option maxHeartbeats 4000000 in
theorem c_X1_shareOut {g : xG} {al : List (Nat × Nat × Nat)} {ro : Nat → Nat → Option Nat} (hst : g.1.stackTraces = false) (hs : SH al ro) {u : Nat} (hu : 3 ≤ u ∧ u ≤ 18) {M : Nat → xU} {a : Int} {C : xU}  {t : xU} (hG : G1_shareOut a C = some t) :
    Cal g yX1_shareOut cX1_shareOut 5 none 2 [x_r (16 * u + 0), x_i a] (al, ro, fl (ml M [u] [C])) 0 0 (.inl none) (al, ro, fl (ml M [u] [t])) := by
  have hn : ([u] : List Nat).Nodup := by simp
  refine cal_of_ev (plainFor_of_name (by decide)) (x_c1 rfl) (Nat.le_of_ble_eq_true rfl) hst ?_
  show Ev g _ _ _ _ _ _ 0 [some (x_r (16 * u + 0)), some (x_i a), none, none, none] [] (al, ro, fl (ml M [u] [C])) _ _ _ _
  rw [G1_shareOut] at hG
  refine e_iconst (pc := 0) dX1_shareOut_0 (x_R rfl) ?_
  refine e_istoren (pc := 1) (i := 2) dX1_shareOut_1 rfl (by decide) rfl ?_
  show Ev g _ _ _ _ _ _ 2 [some (x_r (16 * u + 0)), some (x_i a), some (x_i 0), none, none] [] (al, ro, fl (ml M [u] [C])) _ _ _ _
  obtain ⟨C3, hl4, hG⟩ := x_bd1 hG
  have hk4 : ∀ q : xU, q = C3 → Ev g yX1_shareOut cX1_shareOut 5 none [] 2 53 [some (x_r (16 * u + 0)), some (x_i a), none, none, none] [] (al, ro, fl (ml M [u] [q])) 0 0 (.inl none) (al, ro, fl (ml M [u] [t])) := by
    intro q hq
    replace hq := hq.symm
    subst hq
    cases hG
    exact (e_return rfl dX1_shareOut_53)
  clear hG
  refine e_whl (G1_shareOut_L2 a) (fun z : (Int × xU) => Ev g yX1_shareOut cX1_shareOut 5 none [] 2 2 [some (x_r (16 * u + 0)), some (x_i a), some (x_i z.1), none, none] [] (al, ro, fl (ml M [u] [z.2])) 0 0 (.inl none) (al, ro, fl (ml M [u] [t]))) (fun q => q = C3) ?_ xFU (0, C) _ hl4 rfl
  intro z t4 hf4 hi4 hx4
  obtain ⟨v1, C2⟩ := z
  rw [G1_shareOut_L2] at hf4
  show Ev g _ _ _ _ _ _ 2 [some (x_r (16 * u + 0)), some (x_i a), some (x_i v1), none, none] [] (al, ro, fl (ml M [u] [C2])) _ _ _ _
  refine e_iloadn (pc := 2) (i := 2) dX1_shareOut_2 rfl rfl ?_
  refine e_iloadn (pc := 3) (i := 1) dX1_shareOut_3 rfl rfl ?_
  refine e_icmp_ge (pc := 4) (tgt := 53) dX1_shareOut_4 (by decide) (fun hb => ?_) (fun hb => ?_)
  · rw [if_pos hb] at hf4
    cases hf4
    refine e_drop (i := 2) ?_
    have hh := hk4 _ (hx4 _ rfl)
    try dsimp only at hh
    exact hh
  · rw [if_neg hb] at hf4
    refine e_iconst (pc := 7) dX1_shareOut_7 (x_R rfl) ?_
    refine e_istoren (pc := 8) (i := 3) dX1_shareOut_8 rfl (by decide) rfl ?_
    show Ev g _ _ _ _ _ _ 9 [some (x_r (16 * u + 0)), some (x_i a), some (x_i v1), some (x_i 0), none] [] (al, ro, fl (ml M [u] [C2])) _ _ _ _
    refine e_iconst (pc := 9) dX1_shareOut_9 (x_R rfl) ?_
    refine e_istore (pc := 10) (i := 4) dX1_shareOut_10 (by decide) rfl ?_
    show Ev g _ _ _ _ _ _ 12 [some (x_r (16 * u + 0)), some (x_i a), some (x_i v1), some (x_i 0), some (x_i 1)] [] (al, ro, fl (ml M [u] [C2])) _ _ _ _
    obtain ⟨v8, hl9, hf4⟩ := x_bd1 hf4
    have hk9 : ∀ q : Int, q = v8 → Ev g yX1_shareOut cX1_shareOut 5 none [] 2 41 [some (x_r (16 * u + 0)), some (x_i a), some (x_i v1), some (x_i q), none] [] (al, ro, fl (ml M [u] [C2])) 0 0 (.inl none) (al, ro, fl (ml M [u] [t])) := by
      intro q hq
      replace hq := hq.symm
      subst hq
      refine e_aloadn (pc := 41) (i := 0) dX1_shareOut_41 rfl rfl ?_
      refine e_iloadn (pc := 42) (i := 3) dX1_shareOut_42 rfl rfl ?_
      refine e_iconst (pc := 43) dX1_shareOut_43 (x_R rfl) ?_
      obtain ⟨C17, hq17, hf4⟩ := x_bd1 hf4
      refine e_invV (pc := 44) (K1 := 0) (S1 := 0) (K := 0) (S := 0) (dd2 := 1) (av := [x_i v8, x_i 1]) (st := []) (id := 16 * u + 0) dX1_shareOut_44 xmX1_98 rfl (Or.inl ⟨1, 12, TX1, (sc_a0 hs hu), rfl, by decide⟩) (f_cal (M := M) (us2 := [u]) [0] hn rfl (And.intro rfl trivial) rfl rfl rfl (c_X1_addStore hst hs hu  hq17)) (by decide) (Nat.le_of_ble_eq_true rfl) (Or.inl rfl) ?_
      show Ev g _ _ _ _ _ _ 47 [some (x_r (16 * u + 0)), some (x_i a), some (x_i v1), some (x_i v8), none] [] (al, ro, fl (ml M [u] [C17])) _ _ _ _
      refine e_iinc (pc := 47) dX1_shareOut_47 rfl (by decide) rfl ?_
      show Ev g _ _ _ _ _ _ 50 [some (x_r (16 * u + 0)), some (x_i a), some (x_i (x_add v1 1)), some (x_i v8), none] [] (al, ro, fl (ml M [u] [C17])) _ _ _ _
      refine e_goto (pc := 50) (tgt := 2) dX1_shareOut_50 (by decide) ?_
      cases hf4
      refine e_drop (i := 3) ?_
      have hh := hi4 _ rfl
      try dsimp only at hh
      exact hh
    clear hf4
    refine e_whl (G1_shareOut_L12 C2) (fun z : (Int × Int) => Ev g yX1_shareOut cX1_shareOut 5 none [] 2 12 [some (x_r (16 * u + 0)), some (x_i a), some (x_i v1), some (x_i z.1), some (x_i z.2)] [] (al, ro, fl (ml M [u] [C2])) 0 0 (.inl none) (al, ro, fl (ml M [u] [t]))) (fun q => q = v8) ?_ xFU (0, 1) _ hl9 rfl
    intro z t9 hf9 hi9 hx9
    obtain ⟨v6, v7⟩ := z
    rw [G1_shareOut_L12] at hf9
    show Ev g _ _ _ _ _ _ 12 [some (x_r (16 * u + 0)), some (x_i a), some (x_i v1), some (x_i v6), some (x_i v7)] [] (al, ro, fl (ml M [u] [C2])) _ _ _ _
    refine e_iload (pc := 12) dX1_shareOut_12 rfl ?_
    refine e_iconst (pc := 14) dX1_shareOut_14 (x_R rfl) ?_
    refine e_icmp_ge (pc := 15) (tgt := 41) dX1_shareOut_15 (by decide) (fun hb => ?_) (fun hb => ?_)
    · rw [if_pos hb] at hf9
      cases hf9
      refine e_drop (i := 4) ?_
      have hh := hk9 _ (hx9 _ rfl)
      try dsimp only at hh
      exact hh
    · rw [if_neg hb] at hf9
      refine e_aloadn (pc := 18) (i := 0) dX1_shareOut_18 rfl rfl ?_
      refine e_iload (pc := 19) dX1_shareOut_19 rfl ?_
      obtain ⟨v11, hq11, hf9⟩ := x_bd1 hf9
      refine e_invV (pc := 21) (K1 := 0) (S1 := 0) (K := 0) (S := 0) (dd2 := 0) (av := [x_i v7]) (st := []) (id := 16 * u + 0) dX1_shareOut_21 xmX1_61 rfl (Or.inl ⟨1, 12, TX1, (sc_a0 hs hu), rfl, by decide⟩) (f_cal (M := M) (us2 := [u]) [0] hn rfl (And.intro rfl trivial) rfl rfl rfl (c_X1_storeOf hst hs hu  hq11)) (by decide) (Nat.le_of_ble_eq_true rfl) (Or.inl rfl) ?_
      show Ev g _ _ _ _ _ _ 24 [some (x_r (16 * u + 0)), some (x_i a), some (x_i v1), some (x_i v6), some (x_i v7)] [x_i v11] (al, ro, fl (ml M [u] [C2])) _ _ _ _
      refine e_aloadn (pc := 24) (i := 0) dX1_shareOut_24 rfl rfl ?_
      refine e_iloadn (pc := 25) (i := 3) dX1_shareOut_25 rfl rfl ?_
      obtain ⟨v13, hq13, hf9⟩ := x_bd1 hf9
      refine e_invV (pc := 26) (K1 := 0) (S1 := 0) (K := 0) (S := 0) (dd2 := 0) (av := [x_i v6]) (st := [x_i v11]) (id := 16 * u + 0) dX1_shareOut_26 xmX1_61 rfl (Or.inl ⟨1, 12, TX1, (sc_a0 hs hu), rfl, by decide⟩) (f_cal (M := M) (us2 := [u]) [0] hn rfl (And.intro rfl trivial) rfl rfl rfl (c_X1_storeOf hst hs hu  hq13)) (by decide) (Nat.le_of_ble_eq_true rfl) (Or.inl rfl) ?_
      show Ev g _ _ _ _ _ _ 29 [some (x_r (16 * u + 0)), some (x_i a), some (x_i v1), some (x_i v6), some (x_i v7)] [x_i v13, x_i v11] (al, ro, fl (ml M [u] [C2])) _ _ _ _
      obtain ⟨v15, hr15, hf9⟩ := x_bd1 hf9
      have hjhr15 : Ev g yX1_shareOut cX1_shareOut 5 none [] 2 35 [some (x_r (16 * u + 0)), some (x_i a), some (x_i v1), some (x_i v15), some (x_i v7)] [] (al, ro, fl (ml M [u] [C2])) 0 0 (.inl none) (al, ro, fl (ml M [u] [t])) := by
        refine e_iinc (pc := 35) dX1_shareOut_35 rfl (by decide) rfl ?_
        show Ev g _ _ _ _ _ _ 38 [some (x_r (16 * u + 0)), some (x_i a), some (x_i v1), some (x_i v15), some (x_i (x_add v7 1))] [] (al, ro, fl (ml M [u] [C2])) _ _ _ _
        refine e_goto (pc := 38) (tgt := 12) dX1_shareOut_38 (by decide) ?_
        cases hf9
        have hh := hi9 _ rfl
        try dsimp only at hh
        exact hh
      clear hf9
      refine e_icmp_ge (pc := 29) (tgt := 35) dX1_shareOut_29 (by decide) (fun hb => ?_) (fun hb => ?_)
      · rw [if_pos hb] at hr15
        cases hr15
        exact hjhr15
      · rw [if_neg hb] at hr15
        refine e_iload (pc := 32) dX1_shareOut_32 rfl ?_
        refine e_istoren (pc := 34) (i := 3) dX1_shareOut_34 rfl (by decide) rfl ?_
        show Ev g _ _ _ _ _ _ 35 [some (x_r (16 * u + 0)), some (x_i a), some (x_i v1), some (x_i v7), some (x_i v7)] [] (al, ro, fl (ml M [u] [C2])) _ _ _ _
        cases hr15
        exact hjhr15
set_option maxRecDepth 100000 in
set_option maxHeartbeats 4000000 in
theorem c_X4_lookAt {g : xG} {al : List (Nat × Nat × Nat)} {ro : Nat → Nat → Option Nat} (hst : g.1.stackTraces = false) (hs : SH al ro) {u : Nat} (hu : 3 ≤ u ∧ u ≤ 18) {M : Nat → xU} {a : Int} {C : xU} {La : xU}  {t : xU} (hG : G4_lookAt a C La = some t) :
    Cal g yX4_lookAt cX4_lookAt 3 none 1 [x_r (16 * 19 + 0), x_r (16 * u + 0), x_i a] (al, ro, fl (ml M [u, 19] [C, La])) 0 0 (.inl none) (al, ro, fl (ml M [u, 19] [C, t])) := by
  have hn : ([u, 19] : List Nat).Nodup := by simp <;> omega
  refine cal_of_ev (plainFor_of_name (by decide)) (x_c1 rfl) (Nat.le_of_ble_eq_true rfl) hst ?_
  show Ev g _ _ _ _ _ _ 0 [some (x_r (16 * 19 + 0)), some (x_r (16 * u + 0)), some (x_i a)] [] (al, ro, fl (ml M [u, 19] [C, La])) _ _ _ _
  rw [G4_lookAt] at hG
  refine e_aloadn (pc := 0) (i := 0) dX4_lookAt_0 rfl rfl ?_
  refine f_getr (pc := 1) (u := 19) (q := 0) dX4_lookAt_1 xf4_24 (sa_19_0 hs) rfl (sr_19_0_4 hs) ?_
  refine e_iconst (pc := 4) dX4_lookAt_4 (x_R rfl) ?_
  refine e_iloadn (pc := 5) (i := 2) dX4_lookAt_5 rfl rfl ?_
  refine f_iast (pc := 6) (k := 1) (u := 19) (q := 5) (len := 8) dX4_lookAt_6 (sa_19_5 hs) (by decide) hn rfl rfl rfl (by decide) ?_
  show Ev g _ _ _ _ _ _ 7 [some (x_r (16 * 19 + 0)), some (x_r (16 * u + 0)), some (x_i a)] [] (al, ro, fl (ml M [u, 19] [C, (x_up La 5 0 a)])) _ _ _ _
  refine e_aloadn (pc := 7) (i := 0) dX4_lookAt_7 rfl rfl ?_
  refine f_getr (pc := 8) (u := 19) (q := 0) dX4_lookAt_8 xf4_24 (sa_19_0 hs) rfl (sr_19_0_4 hs) ?_
  refine e_iconst (pc := 11) dX4_lookAt_11 (x_R rfl) ?_
  refine e_aloadn (pc := 12) (i := 1) dX4_lookAt_12 rfl rfl ?_
  refine e_iconst (pc := 13) dX4_lookAt_13 (x_R rfl) ?_
  refine e_iloadn (pc := 14) (i := 2) dX4_lookAt_14 rfl rfl ?_
  obtain ⟨v1, hq1, hG⟩ := x_bd1 hG
  refine e_invV (pc := 15) (K1 := 0) (S1 := 0) (K := 0) (S := 0) (dd2 := 0) (av := [x_i 0, x_i a]) (st := [x_i 1, x_r (16 * 19 + 5)]) (id := 16 * u + 0) dX4_lookAt_15 xmX4_38 rfl (Or.inl ⟨1, 12, TX1, (sc_a0 hs hu), rfl, by decide⟩) (f_cal (M := M) (us2 := [u]) [0] hn rfl (And.intro rfl trivial) rfl rfl rfl (c_X1_of hst hs hu  hq1)) (by decide) (Nat.le_of_ble_eq_true rfl) (Or.inl rfl) ?_
  show Ev g _ _ _ _ _ _ 18 [some (x_r (16 * 19 + 0)), some (x_r (16 * u + 0)), some (x_i a)] [x_i v1, x_i 1, x_r (16 * 19 + 5)] (al, ro, fl (ml M [u, 19] [C, (x_up La 5 0 a)])) _ _ _ _
  refine f_iast (pc := 18) (k := 1) (u := 19) (q := 5) (len := 8) dX4_lookAt_18 (sa_19_5 hs) (by decide) hn rfl rfl rfl (by decide) ?_
  show Ev g _ _ _ _ _ _ 19 [some (x_r (16 * 19 + 0)), some (x_r (16 * u + 0)), some (x_i a)] [] (al, ro, fl (ml M [u, 19] [C, (x_up (x_up La 5 0 a) 5 1 v1)])) _ _ _ _
  refine e_aloadn (pc := 19) (i := 0) dX4_lookAt_19 rfl rfl ?_
  refine f_getr (pc := 20) (u := 19) (q := 0) dX4_lookAt_20 xf4_24 (sa_19_0 hs) rfl (sr_19_0_4 hs) ?_
  refine e_iconst (pc := 23) dX4_lookAt_23 (x_R rfl) ?_
  refine e_aloadn (pc := 24) (i := 1) dX4_lookAt_24 rfl rfl ?_
  refine e_iconst (pc := 25) dX4_lookAt_25 (x_R rfl) ?_
  refine e_iloadn (pc := 26) (i := 2) dX4_lookAt_26 rfl rfl ?_
  obtain ⟨v3, hq3, hG⟩ := x_bd1 hG
  refine e_invV (pc := 27) (K1 := 0) (S1 := 0) (K := 0) (S := 0) (dd2 := 0) (av := [x_i 1, x_i a]) (st := [x_i 2, x_r (16 * 19 + 5)]) (id := 16 * u + 0) dX4_lookAt_27 xmX4_38 rfl (Or.inl ⟨1, 12, TX1, (sc_a0 hs hu), rfl, by decide⟩) (f_cal (M := M) (us2 := [u]) [0] hn rfl (And.intro rfl trivial) rfl rfl rfl (c_X1_of hst hs hu  hq3)) (by decide) (Nat.le_of_ble_eq_true rfl) (Or.inl rfl) ?_
  show Ev g _ _ _ _ _ _ 30 [some (x_r (16 * 19 + 0)), some (x_r (16 * u + 0)), some (x_i a)] [x_i v3, x_i 2, x_r (16 * 19 + 5)] (al, ro, fl (ml M [u, 19] [C, (x_up (x_up La 5 0 a) 5 1 v1)])) _ _ _ _
  refine f_iast (pc := 30) (k := 1) (u := 19) (q := 5) (len := 8) dX4_lookAt_30 (sa_19_5 hs) (by decide) hn rfl rfl rfl (by decide) ?_
  show Ev g _ _ _ _ _ _ 31 [some (x_r (16 * 19 + 0)), some (x_r (16 * u + 0)), some (x_i a)] [] (al, ro, fl (ml M [u, 19] [C, (x_up (x_up (x_up La 5 0 a) 5 1 v1) 5 2 v3)])) _ _ _ _
  refine e_aloadn (pc := 31) (i := 0) dX4_lookAt_31 rfl rfl ?_
  refine f_getr (pc := 32) (u := 19) (q := 0) dX4_lookAt_32 xf4_24 (sa_19_0 hs) rfl (sr_19_0_4 hs) ?_
  refine e_iconst (pc := 35) dX4_lookAt_35 (x_R rfl) ?_
  refine e_aloadn (pc := 36) (i := 1) dX4_lookAt_36 rfl rfl ?_
  refine e_aloadn (pc := 37) (i := 1) dX4_lookAt_37 rfl rfl ?_
  refine e_iconst (pc := 38) dX4_lookAt_38 (x_R rfl) ?_
  refine e_iloadn (pc := 39) (i := 2) dX4_lookAt_39 rfl rfl ?_
  obtain ⟨v5, hq5, hG⟩ := x_bd1 hG
  refine e_invV (pc := 40) (K1 := 0) (S1 := 0) (K := 0) (S := 0) (dd2 := 0) (av := [x_i 0, x_i a]) (st := [x_r (16 * u + 0), x_i 3, x_r (16 * 19 + 5)]) (id := 16 * u + 0) dX4_lookAt_40 xmX4_38 rfl (Or.inl ⟨1, 12, TX1, (sc_a0 hs hu), rfl, by decide⟩) (f_cal (M := M) (us2 := [u]) [0] hn rfl (And.intro rfl trivial) rfl rfl rfl (c_X1_of hst hs hu  hq5)) (by decide) (Nat.le_of_ble_eq_true rfl) (Or.inl rfl) ?_
  show Ev g _ _ _ _ _ _ 43 [some (x_r (16 * 19 + 0)), some (x_r (16 * u + 0)), some (x_i a)] [x_i v5, x_r (16 * u + 0), x_i 3, x_r (16 * 19 + 5)] (al, ro, fl (ml M [u, 19] [C, (x_up (x_up (x_up La 5 0 a) 5 1 v1) 5 2 v3)])) _ _ _ _
  obtain ⟨v7, hq7, hG⟩ := x_bd1 hG
  refine e_invV (pc := 43) (K1 := 0) (S1 := 0) (K := 0) (S := 0) (dd2 := 0) (av := [x_i v5]) (st := [x_i 3, x_r (16 * 19 + 5)]) (id := 16 * u + 0) dX4_lookAt_43 xmX4_44 rfl (Or.inl ⟨1, 12, TX1, (sc_a0 hs hu), rfl, by decide⟩) (f_cal (M := M) (us2 := [u]) [0] hn rfl (And.intro rfl trivial) rfl rfl rfl (c_X1_seasonOf hst hs hu  hq7)) (by decide) (Nat.le_of_ble_eq_true rfl) (Or.inl rfl) ?_
  show Ev g _ _ _ _ _ _ 46 [some (x_r (16 * 19 + 0)), some (x_r (16 * u + 0)), some (x_i a)] [x_i v7, x_i 3, x_r (16 * 19 + 5)] (al, ro, fl (ml M [u, 19] [C, (x_up (x_up (x_up La 5 0 a) 5 1 v1) 5 2 v3)])) _ _ _ _
  refine f_iast (pc := 46) (k := 1) (u := 19) (q := 5) (len := 8) dX4_lookAt_46 (sa_19_5 hs) (by decide) hn rfl rfl rfl (by decide) ?_
  show Ev g _ _ _ _ _ _ 47 [some (x_r (16 * 19 + 0)), some (x_r (16 * u + 0)), some (x_i a)] [] (al, ro, fl (ml M [u, 19] [C, (x_up (x_up (x_up (x_up La 5 0 a) 5 1 v1) 5 2 v3) 5 3 v7)])) _ _ _ _
  refine e_aloadn (pc := 47) (i := 0) dX4_lookAt_47 rfl rfl ?_
  refine f_getr (pc := 48) (u := 19) (q := 0) dX4_lookAt_48 xf4_24 (sa_19_0 hs) rfl (sr_19_0_4 hs) ?_
  refine e_iconst (pc := 51) dX4_lookAt_51 (x_R rfl) ?_
  refine e_aloadn (pc := 52) (i := 1) dX4_lookAt_52 rfl rfl ?_
  refine e_iconst (pc := 53) dX4_lookAt_53 (x_R rfl) ?_
  refine e_iloadn (pc := 54) (i := 2) dX4_lookAt_54 rfl rfl ?_
  obtain ⟨v9, hq9, hG⟩ := x_bd1 hG
  refine e_invV (pc := 55) (K1 := 0) (S1 := 0) (K := 0) (S := 0) (dd2 := 0) (av := [x_i 5, x_i a]) (st := [x_i 4, x_r (16 * 19 + 5)]) (id := 16 * u + 0) dX4_lookAt_55 xmX4_38 rfl (Or.inl ⟨1, 12, TX1, (sc_a0 hs hu), rfl, by decide⟩) (f_cal (M := M) (us2 := [u]) [0] hn rfl (And.intro rfl trivial) rfl rfl rfl (c_X1_of hst hs hu  hq9)) (by decide) (Nat.le_of_ble_eq_true rfl) (Or.inl rfl) ?_
  show Ev g _ _ _ _ _ _ 58 [some (x_r (16 * 19 + 0)), some (x_r (16 * u + 0)), some (x_i a)] [x_i v9, x_i 4, x_r (16 * 19 + 5)] (al, ro, fl (ml M [u, 19] [C, (x_up (x_up (x_up (x_up La 5 0 a) 5 1 v1) 5 2 v3) 5 3 v7)])) _ _ _ _
  refine f_iast (pc := 58) (k := 1) (u := 19) (q := 5) (len := 8) dX4_lookAt_58 (sa_19_5 hs) (by decide) hn rfl rfl rfl (by decide) ?_
  show Ev g _ _ _ _ _ _ 59 [some (x_r (16 * 19 + 0)), some (x_r (16 * u + 0)), some (x_i a)] [] (al, ro, fl (ml M [u, 19] [C, (x_up (x_up (x_up (x_up (x_up La 5 0 a) 5 1 v1) 5 2 v3) 5 3 v7) 5 4 v9)])) _ _ _ _
  refine e_aloadn (pc := 59) (i := 0) dX4_lookAt_59 rfl rfl ?_
  refine f_getr (pc := 60) (u := 19) (q := 0) dX4_lookAt_60 xf4_24 (sa_19_0 hs) rfl (sr_19_0_4 hs) ?_
  refine e_iconst (pc := 63) dX4_lookAt_63 (x_R rfl) ?_
  refine e_aloadn (pc := 64) (i := 1) dX4_lookAt_64 rfl rfl ?_
  refine f_geti (pc := 65) (k := 0) (u := u) (q := 0) dX4_lookAt_65 xf4_64 (sc_a0 hs hu) rfl hn rfl rfl (by decide) ?_
  show Ev g _ _ _ _ _ _ 68 [some (x_r (16 * 19 + 0)), some (x_r (16 * u + 0)), some (x_i a)] [x_i (C 0 5), x_i 5, x_r (16 * 19 + 5)] (al, ro, fl (ml M [u, 19] [C, (x_up (x_up (x_up (x_up (x_up La 5 0 a) 5 1 v1) 5 2 v3) 5 3 v7) 5 4 v9)])) _ _ _ _
  refine f_iast (pc := 68) (k := 1) (u := 19) (q := 5) (len := 8) dX4_lookAt_68 (sa_19_5 hs) (by decide) hn rfl rfl rfl (by decide) ?_
  show Ev g _ _ _ _ _ _ 69 [some (x_r (16 * 19 + 0)), some (x_r (16 * u + 0)), some (x_i a)] [] (al, ro, fl (ml M [u, 19] [C, (x_up (x_up (x_up (x_up (x_up (x_up La 5 0 a) 5 1 v1) 5 2 v3) 5 3 v7) 5 4 v9) 5 5 (C 0 5))])) _ _ _ _
  refine e_aloadn (pc := 69) (i := 0) dX4_lookAt_69 rfl rfl ?_
  refine f_getr (pc := 70) (u := 19) (q := 0) dX4_lookAt_70 xf4_24 (sa_19_0 hs) rfl (sr_19_0_4 hs) ?_
  refine e_bipush (pc := 73) dX4_lookAt_73 (by decide +kernel) (x_R rfl) ?_
  refine e_aloadn (pc := 75) (i := 1) dX4_lookAt_75 rfl rfl ?_
  refine e_iconst (pc := 76) dX4_lookAt_76 (x_R rfl) ?_
  refine e_iloadn (pc := 77) (i := 2) dX4_lookAt_77 rfl rfl ?_
  obtain ⟨v11, hq11, hG⟩ := x_bd1 hG
  refine e_invV (pc := 78) (K1 := 0) (S1 := 0) (K := 0) (S := 0) (dd2 := 0) (av := [x_i 2, x_i a]) (st := [x_i 6, x_r (16 * 19 + 5)]) (id := 16 * u + 0) dX4_lookAt_78 xmX4_38 rfl (Or.inl ⟨1, 12, TX1, (sc_a0 hs hu), rfl, by decide⟩) (f_cal (M := M) (us2 := [u]) [0] hn rfl (And.intro rfl trivial) rfl rfl rfl (c_X1_of hst hs hu  hq11)) (by decide) (Nat.le_of_ble_eq_true rfl) (Or.inl rfl) ?_
  show Ev g _ _ _ _ _ _ 81 [some (x_r (16 * 19 + 0)), some (x_r (16 * u + 0)), some (x_i a)] [x_i v11, x_i 6, x_r (16 * 19 + 5)] (al, ro, fl (ml M [u, 19] [C, (x_up (x_up (x_up (x_up (x_up (x_up La 5 0 a) 5 1 v1) 5 2 v3) 5 3 v7) 5 4 v9) 5 5 (C 0 5))])) _ _ _ _
  refine f_iast (pc := 81) (k := 1) (u := 19) (q := 5) (len := 8) dX4_lookAt_81 (sa_19_5 hs) (by decide) hn rfl rfl rfl (by decide) ?_
  show Ev g _ _ _ _ _ _ 82 [some (x_r (16 * 19 + 0)), some (x_r (16 * u + 0)), some (x_i a)] [] (al, ro, fl (ml M [u, 19] [C, (x_up (x_up (x_up (x_up (x_up (x_up (x_up La 5 0 a) 5 1 v1) 5 2 v3) 5 3 v7) 5 4 v9) 5 5 (C 0 5)) 5 6 v11)])) _ _ _ _
  refine e_aloadn (pc := 82) (i := 0) dX4_lookAt_82 rfl rfl ?_
  refine f_getr (pc := 83) (u := 19) (q := 0) dX4_lookAt_83 xf4_24 (sa_19_0 hs) rfl (sr_19_0_4 hs) ?_
  refine e_bipush (pc := 86) dX4_lookAt_86 (by decide +kernel) (x_R rfl) ?_
  refine e_aloadn (pc := 88) (i := 1) dX4_lookAt_88 rfl rfl ?_
  refine e_bipush (pc := 89) dX4_lookAt_89 (by decide +kernel) (x_R rfl) ?_
  refine e_iloadn (pc := 91) (i := 2) dX4_lookAt_91 rfl rfl ?_
  obtain ⟨v13, hq13, hG⟩ := x_bd1 hG
  refine e_invV (pc := 92) (K1 := 0) (S1 := 0) (K := 0) (S := 0) (dd2 := 0) (av := [x_i 6, x_i a]) (st := [x_i 7, x_r (16 * 19 + 5)]) (id := 16 * u + 0) dX4_lookAt_92 xmX4_38 rfl (Or.inl ⟨1, 12, TX1, (sc_a0 hs hu), rfl, by decide⟩) (f_cal (M := M) (us2 := [u]) [0] hn rfl (And.intro rfl trivial) rfl rfl rfl (c_X1_of hst hs hu  hq13)) (by decide) (Nat.le_of_ble_eq_true rfl) (Or.inl rfl) ?_
  show Ev g _ _ _ _ _ _ 95 [some (x_r (16 * 19 + 0)), some (x_r (16 * u + 0)), some (x_i a)] [x_i v13, x_i 7, x_r (16 * 19 + 5)] (al, ro, fl (ml M [u, 19] [C, (x_up (x_up (x_up (x_up (x_up (x_up (x_up La 5 0 a) 5 1 v1) 5 2 v3) 5 3 v7) 5 4 v9) 5 5 (C 0 5)) 5 6 v11)])) _ _ _ _
  refine f_iast (pc := 95) (k := 1) (u := 19) (q := 5) (len := 8) dX4_lookAt_95 (sa_19_5 hs) (by decide) hn rfl rfl rfl (by decide) ?_
  show Ev g _ _ _ _ _ _ 96 [some (x_r (16 * 19 + 0)), some (x_r (16 * u + 0)), some (x_i a)] [] (al, ro, fl (ml M [u, 19] [C, (x_up (x_up (x_up (x_up (x_up (x_up (x_up (x_up La 5 0 a) 5 1 v1) 5 2 v3) 5 3 v7) 5 4 v9) 5 5 (C 0 5)) 5 6 v11) 5 7 v13)])) _ _ _ _
  cases hG
  exact (e_return rfl dX4_lookAt_96)
