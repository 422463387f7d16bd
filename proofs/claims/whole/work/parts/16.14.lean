set_option maxRecDepth 100000 in
set_option maxHeartbeats 4000000 in
theorem c_X6_latestFlagOf {g : xG} {al : List (Nat × Nat × Nat)} {ro : Nat → Nat → Option Nat} (hst : g.1.stackTraces = false) (hs : SH al ro) {u : Nat} (hu : 3 ≤ u ∧ u ≤ 18) {M : Nat → xU} {a : Int} {C : xU}  {t : Int} (hG : G6_latestFlagOf a C = some t) :
    Cal g yX6_latestFlagOf cX6_latestFlagOf 3 (some .int) 2 [x_r (16 * u + 3), x_i a] (al, ro, fl (ml M [u] [C])) 0 0 (.inl (some (x_i t))) (al, ro, fl (ml M [u] [C])) := by
  have hn : ([u] : List Nat).Nodup := by simp
  refine cal_of_ev (plainFor_of_name (by decide)) (x_c1 rfl) (Nat.le_of_ble_eq_true rfl) hst ?_
  show Ev g _ _ _ _ _ _ 0 [some (x_r (16 * u + 3)), some (x_i a), none] [] (al, ro, fl (ml M [u] [C])) _ _ _ _
  rw [G6_latestFlagOf] at hG
  refine e_iconst (pc := 0) dX6_latestFlagOf_0 (x_R rfl) ?_
  refine e_istoren (pc := 1) (i := 2) dX6_latestFlagOf_1 rfl (by decide) rfl ?_
  show Ev g _ _ _ _ _ _ 2 [some (x_r (16 * u + 3)), some (x_i a), some (x_i 0)] [] (al, ro, fl (ml M [u] [C])) _ _ _ _
  obtain ⟨r2, hl2, hG⟩ := x_lrd hG
  have hk2 : ∀ q : Unit, r2 = .inl q → Ev g yX6_latestFlagOf cX6_latestFlagOf 3 (some .int) [] 2 33 [some (x_r (16 * u + 3)), some (x_i a), none] [] (al, ro, fl (ml M [u] [C])) 0 0 (.inl (some (x_i t))) (al, ro, fl (ml M [u] [C])) := by
    intro q hq
    subst hq
    replace hG := x_lr_l hG
    replace hG := x_ed1 hG
    refine e_iconst (pc := 33) dX6_latestFlagOf_33 (x_R rfl) ?_
    cases hG
    exact (e_ireturn rfl dX6_latestFlagOf_34 rfl)
  have hv2 : ∀ q : Int, r2 = .inr q → some q = some t := by
    intro q hq
    subst hq
    exact x_lr_r hG
  clear hG
  refine e_whl (G6_latestFlagOf_L2 a C) (fun z : Int => Ev g yX6_latestFlagOf cX6_latestFlagOf 3 (some .int) [] 2 2 [some (x_r (16 * u + 3)), some (x_i a), some (x_i z)] [] (al, ro, fl (ml M [u] [C])) 0 0 (.inl (some (x_i t))) (al, ro, fl (ml M [u] [C]))) (fun q => q = r2) ?_ xFU 0 _ hl2 rfl
  intro z t2 hf2 hi2 hx2
  obtain ⟨v1, hzz⟩ : ∃ y, y = z := ⟨z, rfl⟩
  subst hzz
  rw [G6_latestFlagOf_L2] at hf2
  show Ev g _ _ _ _ _ _ 2 [some (x_r (16 * u + 3)), some (x_i a), some (x_i v1)] [] (al, ro, fl (ml M [u] [C])) _ _ _ _
  refine e_iloadn (pc := 2) (i := 2) dX6_latestFlagOf_2 rfl rfl ?_
  refine e_aloadn (pc := 3) (i := 0) dX6_latestFlagOf_3 rfl rfl ?_
  refine f_geti (pc := 4) (k := 0) (u := u) (q := 3) dX6_latestFlagOf_4 xf6_19 (sc_a3 hs hu) rfl hn rfl rfl (by decide) ?_
  show Ev g _ _ _ _ _ _ 7 [some (x_r (16 * u + 3)), some (x_i a), some (x_i v1)] [x_i (C 3 1), x_i v1] (al, ro, fl (ml M [u] [C])) _ _ _ _
  refine e_icmp_ge (pc := 7) (tgt := 33) dX6_latestFlagOf_7 (by decide) (fun hb => ?_) (fun hb => ?_)
  · rw [if_pos hb] at hf2
    cases hf2
    refine e_drop (i := 2) ?_
    have hh := hk2 _ (hx2 _ rfl).symm
    try dsimp only at hh
    exact hh
  · rw [if_neg hb] at hf2
    refine e_aloadn (pc := 10) (i := 0) dX6_latestFlagOf_10 rfl rfl ?_
    refine e_iloadn (pc := 11) (i := 2) dX6_latestFlagOf_11 rfl rfl ?_
    refine e_iconst (pc := 12) dX6_latestFlagOf_12 (x_R rfl) ?_
    obtain ⟨v4, hq4, hf2⟩ := x_bd1 hf2
    refine e_invV (pc := 13) (K1 := 0) (S1 := 0) (K := 0) (S := 0) (dd2 := 1) (av := [x_i v1, x_i 3]) (st := []) (id := 16 * u + 3) dX6_latestFlagOf_13 xmX6_35 rfl (Or.inl ⟨4, 3, TX6, (sc_a3 hs hu), rfl, by decide⟩) (f_cal (M := M) (us2 := [u]) [0] hn rfl (And.intro rfl trivial) rfl rfl rfl (c_X6_told hst hs hu  hq4)) (by decide) (Nat.le_of_ble_eq_true rfl) (Or.inl rfl) ?_
    show Ev g _ _ _ _ _ _ 16 [some (x_r (16 * u + 3)), some (x_i a), some (x_i v1)] [x_i v4] (al, ro, fl (ml M [u] [C])) _ _ _ _
    refine e_iloadn (pc := 16) (i := 1) dX6_latestFlagOf_16 rfl rfl ?_
    refine e_icmp_ne (pc := 17) (tgt := 27) dX6_latestFlagOf_17 (by decide) (fun hb => ?_) (fun hb => ?_)
    · rw [if_neg hb] at hf2
      refine e_iinc (pc := 27) dX6_latestFlagOf_27 rfl (by decide) rfl ?_
      show Ev g _ _ _ _ _ _ 30 [some (x_r (16 * u + 3)), some (x_i a), some (x_i (x_add v1 1))] [] (al, ro, fl (ml M [u] [C])) _ _ _ _
      refine e_goto (pc := 30) (tgt := 2) dX6_latestFlagOf_30 (by decide) ?_
      cases hf2
      have hh := hi2 _ rfl
      try dsimp only at hh
      exact hh
    · rw [if_pos hb] at hf2
      refine e_aloadn (pc := 20) (i := 0) dX6_latestFlagOf_20 rfl rfl ?_
      refine e_iloadn (pc := 21) (i := 2) dX6_latestFlagOf_21 rfl rfl ?_
      refine e_iconst (pc := 22) dX6_latestFlagOf_22 (x_R rfl) ?_
      obtain ⟨v6, hq6, hf2⟩ := x_bd1 hf2
      refine e_invV (pc := 23) (K1 := 0) (S1 := 0) (K := 0) (S := 0) (dd2 := 1) (av := [x_i v1, x_i 4]) (st := []) (id := 16 * u + 3) dX6_latestFlagOf_23 xmX6_35 rfl (Or.inl ⟨4, 3, TX6, (sc_a3 hs hu), rfl, by decide⟩) (f_cal (M := M) (us2 := [u]) [0] hn rfl (And.intro rfl trivial) rfl rfl rfl (c_X6_told hst hs hu  hq6)) (by decide) (Nat.le_of_ble_eq_true rfl) (Or.inl rfl) ?_
      show Ev g _ _ _ _ _ _ 26 [some (x_r (16 * u + 3)), some (x_i a), some (x_i v1)] [x_i v6] (al, ro, fl (ml M [u] [C])) _ _ _ _
      cases hf2
      have hz := hv2 _ (hx2 _ rfl).symm
      cases hz
      exact (e_ireturn rfl dX6_latestFlagOf_26 rfl)
set_option maxRecDepth 100000 in
set_option maxHeartbeats 4000000 in
theorem c_X7_answerOf {g : xG} {al : List (Nat × Nat × Nat)} {ro : Nat → Nat → Option Nat} (hst : g.1.stackTraces = false) (hs : SH al ro) {M : Nat → xU} {a : Int} {b : Int} {Ri : xU}  {t : Int} (hG : G7_answerOf a b Ri = some t) :
    Cal g yX7_answerOf cX7_answerOf 3 (some .int) 0 [x_r (16 * 24 + 0), x_i a, x_i b] (al, ro, fl (ml M [24] [Ri])) 0 0 (.inl (some (x_i t))) (al, ro, fl (ml M [24] [Ri])) := by
  have hn : ([24] : List Nat).Nodup := by decide
  refine cal_of_ev (plainFor_of_name (by decide)) (x_c1 rfl) (Nat.le_of_ble_eq_true rfl) hst ?_
  show Ev g _ _ _ _ _ _ 0 [some (x_r (16 * 24 + 0)), some (x_i a), some (x_i b)] [] (al, ro, fl (ml M [24] [Ri])) _ _ _ _
  rw [G7_answerOf] at hG
  refine e_aloadn (pc := 0) (i := 0) dX7_answerOf_0 rfl rfl ?_
  refine f_geti (pc := 1) (k := 0) (u := 24) (q := 0) dX7_answerOf_1 xf7_22 (sa_24_0 hs) rfl hn rfl rfl (by decide) ?_
  show Ev g _ _ _ _ _ _ 4 [some (x_r (16 * 24 + 0)), some (x_i a), some (x_i b)] [x_i (Ri 0 4)] (al, ro, fl (ml M [24] [Ri])) _ _ _ _
  refine e_if_eq (pc := 4) (tgt := 34) dX7_answerOf_4 (by decide) (fun hb => ?_) (fun hb => ?_)
  · rw [if_pos hb] at hG
    refine e_iloadn (pc := 34) (i := 1) dX7_answerOf_34 rfl rfl ?_
    refine e_iconst (pc := 35) dX7_answerOf_35 (x_R rfl) ?_
    refine e_idiv (pc := 36) dX7_answerOf_36 (by decide) ?_
    refine e_iloadn (pc := 37) (i := 2) dX7_answerOf_37 rfl rfl ?_
    refine e_imul (pc := 38) dX7_answerOf_38 ?_
    refine e_iloadn (pc := 39) (i := 1) dX7_answerOf_39 rfl rfl ?_
    refine e_iconst (pc := 40) dX7_answerOf_40 (x_R rfl) ?_
    refine e_irem (pc := 41) dX7_answerOf_41 (by decide) ?_
    refine e_iadd (pc := 42) dX7_answerOf_42 ?_
    refine e_iconst (pc := 43) dX7_answerOf_43 (x_R rfl) ?_
    refine e_irem (pc := 44) dX7_answerOf_44 (by decide) ?_
    cases hG
    exact (e_ireturn rfl dX7_answerOf_45 rfl)
  · rw [if_neg hb] at hG
    refine e_iloadn (pc := 7) (i := 1) dX7_answerOf_7 rfl rfl ?_
    refine e_bipush (pc := 8) dX7_answerOf_8 (by decide +kernel) (x_R rfl) ?_
    refine e_idiv (pc := 10) dX7_answerOf_10 (by decide) ?_
    refine e_iloadn (pc := 11) (i := 2) dX7_answerOf_11 rfl rfl ?_
    refine e_iloadn (pc := 12) (i := 1) dX7_answerOf_12 rfl rfl ?_
    refine e_bipush (pc := 13) dX7_answerOf_13 (by decide +kernel) (x_R rfl) ?_
    refine e_irem (pc := 15) dX7_answerOf_15 (by decide) ?_
    refine e_imul (pc := 16) dX7_answerOf_16 ?_
    refine e_iadd (pc := 17) dX7_answerOf_17 ?_
    refine e_bipush (pc := 18) dX7_answerOf_18 (by decide +kernel) (x_R rfl) ?_
    refine e_irem (pc := 20) dX7_answerOf_20 (by decide) ?_
    refine e_aloadn (pc := 21) (i := 0) dX7_answerOf_21 rfl rfl ?_
    refine f_geti (pc := 22) (k := 0) (u := 24) (q := 0) dX7_answerOf_22 xf7_26 (sa_24_0 hs) rfl hn rfl rfl (by decide) ?_
    show Ev g _ _ _ _ _ _ 25 [some (x_r (16 * 24 + 0)), some (x_i a), some (x_i b)] [x_i (Ri 0 5), x_i (x_rem (x_add (x_div a 9) (x_mul b (x_rem a 9))) 16)] (al, ro, fl (ml M [24] [Ri])) _ _ _ _
    obtain ⟨v1, hr1, hG⟩ := x_bd1 hG
    have hjhr1 : Ev g yX7_answerOf cX7_answerOf 3 (some .int) [] 0 33 [some (x_r (16 * 24 + 0)), some (x_i a), some (x_i b)] [x_i v1] (al, ro, fl (ml M [24] [Ri])) 0 0 (.inl (some (x_i t))) (al, ro, fl (ml M [24] [Ri])) := by
      cases hG
      exact (e_ireturn rfl dX7_answerOf_33 rfl)
    clear hG
    refine e_icmp_ne (pc := 25) (tgt := 32) dX7_answerOf_25 (by decide) (fun hb => ?_) (fun hb => ?_)
    · rw [if_neg hb] at hr1
      refine e_iconst (pc := 32) dX7_answerOf_32 (x_R rfl) ?_
      cases hr1
      exact hjhr1
    · rw [if_pos hb] at hr1
      refine e_iconst (pc := 28) dX7_answerOf_28 (x_R rfl) ?_
      refine e_goto (pc := 29) (tgt := 33) dX7_answerOf_29 (by decide) ?_
      cases hr1
      exact hjhr1
set_option maxRecDepth 100000 in
set_option maxHeartbeats 4000000 in
theorem c_X7_doesFit {g : xG} {al : List (Nat × Nat × Nat)} {ro : Nat → Nat → Option Nat} (hst : g.1.stackTraces = false) (hs : SH al ro) {M : Nat → xU} {a : Int} {Ri : xU}  {t : Int} (hG : G7_doesFit a Ri = some t) :
    Cal g yX7_doesFit cX7_doesFit 3 (some .boolean) 1 [x_r (16 * 24 + 0), x_i a] (al, ro, fl (ml M [24] [Ri])) 0 0 (.inl (some (x_i t))) (al, ro, fl (ml M [24] [Ri])) := by
  have hn : ([24] : List Nat).Nodup := by decide
  refine cal_of_ev (plainFor_of_name (by decide)) (x_c1 rfl) (Nat.le_of_ble_eq_true rfl) hst ?_
  show Ev g _ _ _ _ _ _ 0 [some (x_r (16 * 24 + 0)), some (x_i a), none] [] (al, ro, fl (ml M [24] [Ri])) _ _ _ _
  rw [G7_doesFit] at hG
  refine e_iconst (pc := 0) dX7_doesFit_0 (x_R rfl) ?_
  refine e_istoren (pc := 1) (i := 2) dX7_doesFit_1 rfl (by decide) rfl ?_
  show Ev g _ _ _ _ _ _ 2 [some (x_r (16 * 24 + 0)), some (x_i a), some (x_i 0)] [] (al, ro, fl (ml M [24] [Ri])) _ _ _ _
  obtain ⟨r2, hl2, hG⟩ := x_lrd hG
  have hk2 : ∀ q : Unit, r2 = .inl q → Ev g yX7_doesFit cX7_doesFit 3 (some .boolean) [] 1 50 [some (x_r (16 * 24 + 0)), some (x_i a), none] [] (al, ro, fl (ml M [24] [Ri])) 0 0 (.inl (some (x_i t))) (al, ro, fl (ml M [24] [Ri])) := by
    intro q hq
    subst hq
    replace hG := x_lr_l hG
    replace hG := x_ed1 hG
    refine e_iconst (pc := 50) dX7_doesFit_50 (x_R rfl) ?_
    cases hG
    exact (e_ireturn rfl dX7_doesFit_51 (x_bool (by decide)).1)
  have hv2 : ∀ q : Int, r2 = .inr q → some q = some t := by
    intro q hq
    subst hq
    exact x_lr_r hG
  clear hG
  refine e_whl (G7_doesFit_L2 a Ri) (fun z : Int => Ev g yX7_doesFit cX7_doesFit 3 (some .boolean) [] 1 2 [some (x_r (16 * 24 + 0)), some (x_i a), some (x_i z)] [] (al, ro, fl (ml M [24] [Ri])) 0 0 (.inl (some (x_i t))) (al, ro, fl (ml M [24] [Ri]))) (fun q => q = r2) ?_ xFU 0 _ hl2 rfl
  intro z t2 hf2 hi2 hx2
  obtain ⟨v1, hzz⟩ : ∃ y, y = z := ⟨z, rfl⟩
  subst hzz
  rw [G7_doesFit_L2] at hf2
  show Ev g _ _ _ _ _ _ 2 [some (x_r (16 * 24 + 0)), some (x_i a), some (x_i v1)] [] (al, ro, fl (ml M [24] [Ri])) _ _ _ _
  refine e_iloadn (pc := 2) (i := 2) dX7_doesFit_2 rfl rfl ?_
  refine e_iconst (pc := 3) dX7_doesFit_3 (x_R rfl) ?_
  refine e_iadd (pc := 4) dX7_doesFit_4 ?_
  refine e_aloadn (pc := 5) (i := 0) dX7_doesFit_5 rfl rfl ?_
  refine f_geti (pc := 6) (k := 0) (u := 24) (q := 0) dX7_doesFit_6 xf7_37 (sa_24_0 hs) rfl hn rfl rfl (by decide) ?_
  show Ev g _ _ _ _ _ _ 9 [some (x_r (16 * 24 + 0)), some (x_i a), some (x_i v1)] [x_i (Ri 0 3), x_i (x_add v1 1)] (al, ro, fl (ml M [24] [Ri])) _ _ _ _
  refine e_icmp_ge (pc := 9) (tgt := 50) dX7_doesFit_9 (by decide) (fun hb => ?_) (fun hb => ?_)
  · rw [if_pos hb] at hf2
    cases hf2
    refine e_drop (i := 2) ?_
    have hh := hk2 _ (hx2 _ rfl).symm
    try dsimp only at hh
    exact hh
  · rw [if_neg hb] at hf2
    refine e_iloadn (pc := 12) (i := 2) dX7_doesFit_12 rfl rfl ?_
    refine e_iconst (pc := 13) dX7_doesFit_13 (x_R rfl) ?_
    refine e_iadd (pc := 14) dX7_doesFit_14 ?_
    refine e_bipush (pc := 15) dX7_doesFit_15 (by decide +kernel) (x_R rfl) ?_
    refine e_icmp_ge (pc := 17) (tgt := 50) dX7_doesFit_17 (by decide) (fun hb => ?_) (fun hb => ?_)
    · rw [if_pos hb] at hf2
      cases hf2
      refine e_drop (i := 2) ?_
      have hh := hk2 _ (hx2 _ rfl).symm
      try dsimp only at hh
      exact hh
    · rw [if_neg hb] at hf2
      refine e_aloadn (pc := 20) (i := 0) dX7_doesFit_20 rfl rfl ?_
      refine e_iloadn (pc := 21) (i := 1) dX7_doesFit_21 rfl rfl ?_
      refine e_aloadn (pc := 22) (i := 0) dX7_doesFit_22 rfl rfl ?_
      refine f_getr (pc := 23) (u := 24) (q := 0) dX7_doesFit_23 xf7_11 (sa_24_0 hs) rfl (sr_24_0_0 hs) ?_
      refine e_iloadn (pc := 26) (i := 2) dX7_doesFit_26 rfl rfl ?_
      obtain ⟨hc0, hf2⟩ := x_gd_some hf2
      refine f_iald (pc := 27) (k := 0) (u := 24) (q := 1) (len := 40) dX7_doesFit_27 (sa_24_1 hs) hc0 hn rfl rfl (by decide) ?_
      show Ev g _ _ _ _ _ _ 28 [some (x_r (16 * 24 + 0)), some (x_i a), some (x_i v1)] [x_i (Ri 1 (v1).toNat), x_i a, x_r (16 * 24 + 0)] (al, ro, fl (ml M [24] [Ri])) _ _ _ _
      obtain ⟨v4, hq4, hf2⟩ := x_bd1 hf2
      refine e_invV (pc := 28) (K1 := 0) (S1 := 0) (K := 0) (S := 0) (dd2 := 0) (av := [x_i a, x_i (Ri 1 (v1).toNat)]) (st := []) (id := 16 * 24 + 0) dX7_doesFit_28 xmX7_57 rfl (Or.inl ⟨5, 8, TX7, (sa_24_0 hs), rfl, by decide⟩) (f_cal (M := M) (us2 := [24]) [0] hn rfl (And.intro rfl trivial) rfl rfl rfl (c_X7_answerOf hst hs   hq4)) (by decide) (Nat.le_of_ble_eq_true rfl) (Or.inl rfl) ?_
      show Ev g _ _ _ _ _ _ 31 [some (x_r (16 * 24 + 0)), some (x_i a), some (x_i v1)] [x_i v4] (al, ro, fl (ml M [24] [Ri])) _ _ _ _
      refine e_aloadn (pc := 31) (i := 0) dX7_doesFit_31 rfl rfl ?_
      refine f_getr (pc := 32) (u := 24) (q := 0) dX7_doesFit_32 xf7_11 (sa_24_0 hs) rfl (sr_24_0_0 hs) ?_
      refine e_iloadn (pc := 35) (i := 2) dX7_doesFit_35 rfl rfl ?_
      refine e_iconst (pc := 36) dX7_doesFit_36 (x_R rfl) ?_
      refine e_iadd (pc := 37) dX7_doesFit_37 ?_
      obtain ⟨hc0, hf2⟩ := x_gd_some hf2
      refine f_iald (pc := 38) (k := 0) (u := 24) (q := 1) (len := 40) dX7_doesFit_38 (sa_24_1 hs) hc0 hn rfl rfl (by decide) ?_
      show Ev g _ _ _ _ _ _ 39 [some (x_r (16 * 24 + 0)), some (x_i a), some (x_i v1)] [x_i (Ri 1 ((x_add v1 1)).toNat), x_i v4] (al, ro, fl (ml M [24] [Ri])) _ _ _ _
      refine e_icmp_eq (pc := 39) (tgt := 44) dX7_doesFit_39 (by decide) (fun hb => ?_) (fun hb => ?_)
      · rw [if_pos hb] at hf2
        refine e_iinc (pc := 44) dX7_doesFit_44 rfl (by decide) rfl ?_
        show Ev g _ _ _ _ _ _ 47 [some (x_r (16 * 24 + 0)), some (x_i a), some (x_i (x_add v1 2))] [] (al, ro, fl (ml M [24] [Ri])) _ _ _ _
        refine e_goto (pc := 47) (tgt := 2) dX7_doesFit_47 (by decide) ?_
        cases hf2
        have hh := hi2 _ rfl
        try dsimp only at hh
        exact hh
      · rw [if_neg hb] at hf2
        refine e_iconst (pc := 42) dX7_doesFit_42 (x_R rfl) ?_
        cases hf2
        have hz := hv2 _ (hx2 _ rfl).symm
        cases hz
        exact (e_ireturn rfl dX7_doesFit_43 (x_bool (by decide)).1)
set_option maxRecDepth 100000 in
set_option maxHeartbeats 4000000 in
theorem c_X7_findFitting {g : xG} {al : List (Nat × Nat × Nat)} {ro : Nat → Nat → Option Nat} (hst : g.1.stackTraces = false) (hs : SH al ro) {M : Nat → xU} {Ri : xU}  {t : xU} (hG : G7_findFitting Ri = some t) :
    Cal g yX7_findFitting cX7_findFitting 2 none 2 [x_r (16 * 24 + 0)] (al, ro, fl (ml M [24] [Ri])) 0 0 (.inl none) (al, ro, fl (ml M [24] [t])) := by
  have hn : ([24] : List Nat).Nodup := by decide
  refine cal_of_ev (plainFor_of_name (by decide)) (x_c1 rfl) (Nat.le_of_ble_eq_true rfl) hst ?_
  show Ev g _ _ _ _ _ _ 0 [some (x_r (16 * 24 + 0)), none] [] (al, ro, fl (ml M [24] [Ri])) _ _ _ _
  rw [G7_findFitting] at hG
  refine e_aloadn (pc := 0) (i := 0) dX7_findFitting_0 rfl rfl ?_
  refine e_iconst (pc := 1) dX7_findFitting_1 (x_R rfl) ?_
  refine f_puti (pc := 2) (k := 0) (u := 24) (q := 0) dX7_findFitting_2 xf7_50 xw5_7 (sa_24_0 hs) hn rfl rfl rfl (by decide) ?_
  show Ev g _ _ _ _ _ _ 5 [some (x_r (16 * 24 + 0)), none] [] (al, ro, fl (ml M [24] [(x_up Ri 0 7 0)])) _ _ _ _
  refine e_iconst (pc := 5) dX7_findFitting_5 (x_R rfl) ?_
  refine e_istoren (pc := 6) (i := 1) dX7_findFitting_6 rfl (by decide) rfl ?_
  show Ev g _ _ _ _ _ _ 7 [some (x_r (16 * 24 + 0)), some (x_i 0)] [] (al, ro, fl (ml M [24] [(x_up Ri 0 7 0)])) _ _ _ _
  obtain ⟨Ri3, hl4, hG⟩ := x_bd1 hG
  have hk4 : ∀ q : xU, q = Ri3 → Ev g yX7_findFitting cX7_findFitting 2 none [] 2 58 [some (x_r (16 * 24 + 0)), none] [] (al, ro, fl (ml M [24] [q])) 0 0 (.inl none) (al, ro, fl (ml M [24] [t])) := by
    intro q hq
    replace hq := hq.symm
    subst hq
    cases hG
    exact (e_return rfl dX7_findFitting_58)
  clear hG
  refine e_whl G7_findFitting_L7 (fun z : (Int × xU) => Ev g yX7_findFitting cX7_findFitting 2 none [] 2 7 [some (x_r (16 * 24 + 0)), some (x_i z.1)] [] (al, ro, fl (ml M [24] [z.2])) 0 0 (.inl none) (al, ro, fl (ml M [24] [t]))) (fun q => q = Ri3) ?_ xFU (0, (x_up Ri 0 7 0)) _ hl4 rfl
  intro z t4 hf4 hi4 hx4
  obtain ⟨v1, Ri2⟩ := z
  rw [G7_findFitting_L7] at hf4
  show Ev g _ _ _ _ _ _ 7 [some (x_r (16 * 24 + 0)), some (x_i v1)] [] (al, ro, fl (ml M [24] [Ri2])) _ _ _ _
  refine e_iloadn (pc := 7) (i := 1) dX7_findFitting_7 rfl rfl ?_
  refine e_aloadn (pc := 8) (i := 0) dX7_findFitting_8 rfl rfl ?_
  refine f_geti (pc := 9) (k := 0) (u := 24) (q := 0) dX7_findFitting_9 xf7_30 (sa_24_0 hs) rfl hn rfl rfl (by decide) ?_
  show Ev g _ _ _ _ _ _ 12 [some (x_r (16 * 24 + 0)), some (x_i v1)] [x_i (Ri2 0 6), x_i v1] (al, ro, fl (ml M [24] [Ri2])) _ _ _ _
  refine e_icmp_ge (pc := 12) (tgt := 58) dX7_findFitting_12 (by decide) (fun hb => ?_) (fun hb => ?_)
  · rw [if_pos hb] at hf4
    cases hf4
    refine e_drop (i := 1) ?_
    have hh := hk4 _ (hx4 _ rfl)
    try dsimp only at hh
    exact hh
  · rw [if_neg hb] at hf4
    refine e_iloadn (pc := 15) (i := 1) dX7_findFitting_15 rfl rfl ?_
    refine e_sipush (pc := 16) dX7_findFitting_16 (by decide +kernel) (x_R rfl) ?_
    refine e_icmp_ge (pc := 19) (tgt := 58) dX7_findFitting_19 (by decide) (fun hb => ?_) (fun hb => ?_)
    · rw [if_pos hb] at hf4
      cases hf4
      refine e_drop (i := 1) ?_
      have hh := hk4 _ (hx4 _ rfl)
      try dsimp only at hh
      exact hh
    · rw [if_neg hb] at hf4
      refine e_aloadn (pc := 22) (i := 0) dX7_findFitting_22 rfl rfl ?_
      refine f_getr (pc := 23) (u := 24) (q := 0) dX7_findFitting_23 xf7_15 (sa_24_0 hs) rfl (sr_24_0_1 hs) ?_
      refine e_iloadn (pc := 26) (i := 1) dX7_findFitting_26 rfl rfl ?_
      refine e_aloadn (pc := 27) (i := 0) dX7_findFitting_27 rfl rfl ?_
      refine e_iloadn (pc := 28) (i := 1) dX7_findFitting_28 rfl rfl ?_
      obtain ⟨v6, hq6, hf4⟩ := x_bd1 hf4
      refine e_invV (pc := 29) (K1 := 0) (S1 := 0) (K := 0) (S := 0) (dd2 := 1) (av := [x_i v1]) (st := [x_i v1, x_r (16 * 24 + 2)]) (id := 16 * 24 + 0) dX7_findFitting_29 xmX7_53 rfl (Or.inl ⟨5, 8, TX7, (sa_24_0 hs), rfl, by decide⟩) (f_cal (M := M) (us2 := [24]) [0] hn rfl (And.intro rfl trivial) rfl rfl rfl (c_X7_doesFit hst hs   hq6)) (by decide) (Nat.le_of_ble_eq_true rfl) (Or.inl rfl) ?_
      show Ev g _ _ _ _ _ _ 32 [some (x_r (16 * 24 + 0)), some (x_i v1)] [x_i v6, x_i v1, x_r (16 * 24 + 2)] (al, ro, fl (ml M [24] [Ri2])) _ _ _ _
      obtain ⟨hc0, hf4⟩ := x_gd_some hf4
      obtain ⟨hc1, hf4⟩ := x_gd_some hf4
      refine f_zast (pc := 32) (k := 0) (u := 24) (q := 2) (len := 144) dX7_findFitting_32 (sa_24_2 hs) hc0 hc1 hn rfl rfl rfl (by decide) ?_
      show Ev g _ _ _ _ _ _ 33 [some (x_r (16 * 24 + 0)), some (x_i v1)] [] (al, ro, fl (ml M [24] [(x_up Ri2 2 (v1).toNat v6)])) _ _ _ _
      refine e_aloadn (pc := 33) (i := 0) dX7_findFitting_33 rfl rfl ?_
      refine f_getr (pc := 34) (u := 24) (q := 0) dX7_findFitting_34 xf7_15 (sa_24_0 hs) rfl (sr_24_0_1 hs) ?_
      refine e_iloadn (pc := 37) (i := 1) dX7_findFitting_37 rfl rfl ?_
      obtain ⟨hc0, hf4⟩ := x_gd_some hf4
      refine f_zald (pc := 38) (k := 0) (u := 24) (q := 2) (len := 144) dX7_findFitting_38 (sa_24_2 hs) hc0 hn rfl rfl (by decide) ?_
      show Ev g _ _ _ _ _ _ 39 [some (x_r (16 * 24 + 0)), some (x_i v1)] [x_i ((x_up Ri2 2 (v1).toNat v6) 2 (v1).toNat)] (al, ro, fl (ml M [24] [(x_up Ri2 2 (v1).toNat v6)])) _ _ _ _
      obtain ⟨Ri8, hr8, hf4⟩ := x_bd1 hf4
      have hjhr8 : Ev g yX7_findFitting cX7_findFitting 2 none [] 2 52 [some (x_r (16 * 24 + 0)), some (x_i v1)] [] (al, ro, fl (ml M [24] [Ri8])) 0 0 (.inl none) (al, ro, fl (ml M [24] [t])) := by
        refine e_iinc (pc := 52) dX7_findFitting_52 rfl (by decide) rfl ?_
        show Ev g _ _ _ _ _ _ 55 [some (x_r (16 * 24 + 0)), some (x_i (x_add v1 1))] [] (al, ro, fl (ml M [24] [Ri8])) _ _ _ _
        refine e_goto (pc := 55) (tgt := 7) dX7_findFitting_55 (by decide) ?_
        cases hf4
        have hh := hi4 _ rfl
        try dsimp only at hh
        exact hh
      clear hf4
      refine e_if_eq (pc := 39) (tgt := 52) dX7_findFitting_39 (by decide) (fun hb => ?_) (fun hb => ?_)
      · rw [if_pos hb] at hr8
        cases hr8
        exact hjhr8
      · rw [if_neg hb] at hr8
        refine e_aloadn (pc := 42) (i := 0) dX7_findFitting_42 rfl rfl ?_
        refine e_dup (pc := 43) dX7_findFitting_43 rfl ?_
        refine f_geti (pc := 44) (k := 0) (u := 24) (q := 0) dX7_findFitting_44 xf7_50 (sa_24_0 hs) rfl hn rfl rfl (by decide) ?_
        show Ev g _ _ _ _ _ _ 47 [some (x_r (16 * 24 + 0)), some (x_i v1)] [x_i ((x_up Ri2 2 (v1).toNat v6) 0 7), x_r (16 * 24 + 0)] (al, ro, fl (ml M [24] [(x_up Ri2 2 (v1).toNat v6)])) _ _ _ _
        refine e_iconst (pc := 47) dX7_findFitting_47 (x_R rfl) ?_
        refine e_iadd (pc := 48) dX7_findFitting_48 ?_
        refine f_puti (pc := 49) (k := 0) (u := 24) (q := 0) dX7_findFitting_49 xf7_50 xw5_7 (sa_24_0 hs) hn rfl rfl rfl (by decide) ?_
        show Ev g _ _ _ _ _ _ 52 [some (x_r (16 * 24 + 0)), some (x_i v1)] [] (al, ro, fl (ml M [24] [(x_up (x_up Ri2 2 (v1).toNat v6) 0 7 (x_add ((x_up Ri2 2 (v1).toNat v6) 0 7) 1))])) _ _ _ _
        cases hr8
        exact hjhr8
set_option maxRecDepth 100000 in
set_option maxHeartbeats 4000000 in
theorem c_X7_readRows {g : xG} {al : List (Nat × Nat × Nat)} {ro : Nat → Nat → Option Nat} (hst : g.1.stackTraces = false) (hs : SH al ro) {M : Nat → xU} {a : Int} {T : xU} {Ri : xU}  {t : (Int × xU)} (hG : G7_readRows a T Ri = some t) :
    Cal g yX7_readRows cX7_readRows 4 (some .boolean) 3 [x_r (16 * 24 + 0), x_r (16 * 2 + 0), x_i a] (al, ro, fl (ml M [2, 24] [T, Ri])) 0 0 (.inl (some (x_i t.1))) (al, ro, fl (ml M [2, 24] [T, t.2])) := by
  have hn : ([2, 24] : List Nat).Nodup := by decide
  refine cal_of_ev (plainFor_of_name (by decide)) (x_c1 rfl) (Nat.le_of_ble_eq_true rfl) hst ?_
  show Ev g _ _ _ _ _ _ 0 [some (x_r (16 * 24 + 0)), some (x_r (16 * 2 + 0)), some (x_i a), none] [] (al, ro, fl (ml M [2, 24] [T, Ri])) _ _ _ _
  rw [G7_readRows] at hG
  refine e_aloadn (pc := 0) (i := 0) dX7_readRows_0 rfl rfl ?_
  refine e_iconst (pc := 1) dX7_readRows_1 (x_R rfl) ?_
  refine f_puti (pc := 2) (k := 1) (u := 24) (q := 0) dX7_readRows_2 xf7_37 xw5_3 (sa_24_0 hs) hn rfl rfl rfl (by decide) ?_
  show Ev g _ _ _ _ _ _ 5 [some (x_r (16 * 24 + 0)), some (x_r (16 * 2 + 0)), some (x_i a), none] [] (al, ro, fl (ml M [2, 24] [T, (x_up Ri 0 3 0)])) _ _ _ _
  refine e_aloadn (pc := 5) (i := 1) dX7_readRows_5 rfl rfl ?_
  refine f_geti (pc := 6) (k := 0) (u := 2) (q := 0) dX7_readRows_6 xf7_40 (sa_2_0 hs) rfl hn rfl rfl (by decide) ?_
  show Ev g _ _ _ _ _ _ 9 [some (x_r (16 * 24 + 0)), some (x_r (16 * 2 + 0)), some (x_i a), none] [x_i (T 0 2)] (al, ro, fl (ml M [2, 24] [T, (x_up Ri 0 3 0)])) _ _ _ _
  refine e_bipush (pc := 9) dX7_readRows_9 (by decide +kernel) (x_R rfl) ?_
  refine e_icmp_gt (pc := 11) (tgt := 23) dX7_readRows_11 (by decide) (fun hb => ?_) (fun hb => ?_)
  · rw [if_pos hb] at hG
    refine e_iconst (pc := 23) dX7_readRows_23 (x_R rfl) ?_
    cases hG
    exact (e_ireturn rfl dX7_readRows_24 (x_bool (by decide)).1)
  · rw [if_neg hb] at hG
    refine e_aloadn (pc := 14) (i := 1) dX7_readRows_14 rfl rfl ?_
    refine f_geti (pc := 15) (k := 0) (u := 2) (q := 0) dX7_readRows_15 xf7_40 (sa_2_0 hs) rfl hn rfl rfl (by decide) ?_
    show Ev g _ _ _ _ _ _ 18 [some (x_r (16 * 24 + 0)), some (x_r (16 * 2 + 0)), some (x_i a), none] [x_i (T 0 2)] (al, ro, fl (ml M [2, 24] [T, (x_up Ri 0 3 0)])) _ _ _ _
    refine e_iconst (pc := 18) dX7_readRows_18 (x_R rfl) ?_
    refine e_irem (pc := 19) dX7_readRows_19 (by decide) ?_
    refine e_if_eq (pc := 20) (tgt := 25) dX7_readRows_20 (by decide) (fun hb => ?_) (fun hb => ?_)
    · rw [if_pos hb] at hG
      refine e_iconst (pc := 25) dX7_readRows_25 (x_R rfl) ?_
      refine e_istoren (pc := 26) (i := 3) dX7_readRows_26 rfl (by decide) rfl ?_
      show Ev g _ _ _ _ _ _ 27 [some (x_r (16 * 24 + 0)), some (x_r (16 * 2 + 0)), some (x_i a), some (x_i 0)] [] (al, ro, fl (ml M [2, 24] [T, (x_up Ri 0 3 0)])) _ _ _ _
      obtain ⟨r4, hl4, hG⟩ := x_lrd hG
      have hk4 : ∀ q : xU, r4 = .inl q → Ev g yX7_readRows cX7_readRows 4 (some .boolean) [] 3 100 [some (x_r (16 * 24 + 0)), some (x_r (16 * 2 + 0)), some (x_i a), none] [] (al, ro, fl (ml M [2, 24] [T, q])) 0 0 (.inl (some (x_i t.1))) (al, ro, fl (ml M [2, 24] [T, t.2])) := by
        intro q hq
        subst hq
        replace hG := x_lr_l hG
        obtain ⟨Ri3, hqq⟩ : ∃ z, z = q := ⟨q, rfl⟩
        subst hqq
        replace hG := x_ed1 hG
        refine e_aloadn (pc := 100) (i := 0) dX7_readRows_100 rfl rfl ?_
        obtain ⟨Ri10, hq10, hG⟩ := x_bd1 hG
        refine e_invV (pc := 101) (K1 := 0) (S1 := 0) (K := 0) (S := 0) (dd2 := 2) (av := []) (st := []) (id := 16 * 24 + 0) dX7_readRows_101 xmX7_47 rfl (Or.inl ⟨5, 8, TX7, (sa_24_0 hs), rfl, by decide⟩) (f_cal (M := M) (us2 := [24]) [1] hn rfl (And.intro rfl trivial) rfl rfl rfl (c_X7_findFitting hst hs   hq10)) (by decide) (Nat.le_of_ble_eq_true rfl) (Or.inl rfl) ?_
        show Ev g _ _ _ _ _ _ 104 [some (x_r (16 * 24 + 0)), some (x_r (16 * 2 + 0)), some (x_i a), none] [] (al, ro, fl (ml M [2, 24] [T, Ri10])) _ _ _ _
        refine e_iconst (pc := 104) dX7_readRows_104 (x_R rfl) ?_
        cases hG
        exact (e_ireturn rfl dX7_readRows_105 (x_bool (by decide)).1)
      have hv4 : ∀ q : (Int × xU), r4 = .inr q → some q = some t := by
        intro q hq
        subst hq
        exact x_lr_r hG
      clear hG
      refine e_whl (G7_readRows_L27 a T) (fun z : (Int × xU) => Ev g yX7_readRows cX7_readRows 4 (some .boolean) [] 3 27 [some (x_r (16 * 24 + 0)), some (x_r (16 * 2 + 0)), some (x_i a), some (x_i z.1)] [] (al, ro, fl (ml M [2, 24] [T, z.2])) 0 0 (.inl (some (x_i t.1))) (al, ro, fl (ml M [2, 24] [T, t.2]))) (fun q => q = r4) ?_ xFU (0, (x_up Ri 0 3 0)) _ hl4 rfl
      intro z t4 hf4 hi4 hx4
      obtain ⟨v1, Ri2⟩ := z
      rw [G7_readRows_L27] at hf4
      show Ev g _ _ _ _ _ _ 27 [some (x_r (16 * 24 + 0)), some (x_r (16 * 2 + 0)), some (x_i a), some (x_i v1)] [] (al, ro, fl (ml M [2, 24] [T, Ri2])) _ _ _ _
      refine e_iloadn (pc := 27) (i := 3) dX7_readRows_27 rfl rfl ?_
      refine e_aloadn (pc := 28) (i := 1) dX7_readRows_28 rfl rfl ?_
      refine f_geti (pc := 29) (k := 0) (u := 2) (q := 0) dX7_readRows_29 xf7_40 (sa_2_0 hs) rfl hn rfl rfl (by decide) ?_
      show Ev g _ _ _ _ _ _ 32 [some (x_r (16 * 24 + 0)), some (x_r (16 * 2 + 0)), some (x_i a), some (x_i v1)] [x_i (T 0 2), x_i v1] (al, ro, fl (ml M [2, 24] [T, Ri2])) _ _ _ _
      refine e_icmp_ge (pc := 32) (tgt := 100) dX7_readRows_32 (by decide) (fun hb => ?_) (fun hb => ?_)
      · rw [if_pos hb] at hf4
        cases hf4
        refine e_drop (i := 3) ?_
        have hh := hk4 _ (hx4 _ rfl).symm
        try dsimp only at hh
        exact hh
      · rw [if_neg hb] at hf4
        refine e_iloadn (pc := 35) (i := 3) dX7_readRows_35 rfl rfl ?_
        refine e_bipush (pc := 36) dX7_readRows_36 (by decide +kernel) (x_R rfl) ?_
        refine e_icmp_ge (pc := 38) (tgt := 100) dX7_readRows_38 (by decide) (fun hb => ?_) (fun hb => ?_)
        · rw [if_pos hb] at hf4
          cases hf4
          refine e_drop (i := 3) ?_
          have hh := hk4 _ (hx4 _ rfl).symm
          try dsimp only at hh
          exact hh
        · rw [if_neg hb] at hf4
          refine e_aloadn (pc := 41) (i := 0) dX7_readRows_41 rfl rfl ?_
          refine f_getr (pc := 42) (u := 24) (q := 0) dX7_readRows_42 xf7_11 (sa_24_0 hs) rfl (sr_24_0_0 hs) ?_
          refine e_iloadn (pc := 45) (i := 3) dX7_readRows_45 rfl rfl ?_
          refine e_aloadn (pc := 46) (i := 1) dX7_readRows_46 rfl rfl ?_
          refine e_iloadn (pc := 47) (i := 3) dX7_readRows_47 rfl rfl ?_
          obtain ⟨v6, hq6, hf4⟩ := x_bd1 hf4
          refine e_invV (pc := 48) (K1 := 0) (S1 := 0) (K := 0) (S := 0) (dd2 := 0) (av := [x_i v1]) (st := [x_i v1, x_r (16 * 24 + 1)]) (id := 16 * 2 + 0) dX7_readRows_48 xmX7_43 rfl (Or.inl ⟨8, 8, TX10, (sa_2_0 hs), rfl, by decide⟩) (f_cal (M := M) (us2 := [2]) [0] hn rfl (And.intro rfl trivial) rfl rfl rfl (c_X10_byteAt hst hs   hq6)) (by decide) (Nat.le_of_ble_eq_true rfl) (Or.inl rfl) ?_
          show Ev g _ _ _ _ _ _ 51 [some (x_r (16 * 24 + 0)), some (x_r (16 * 2 + 0)), some (x_i a), some (x_i v1)] [x_i v6, x_i v1, x_r (16 * 24 + 1)] (al, ro, fl (ml M [2, 24] [T, Ri2])) _ _ _ _
          obtain ⟨hc0, hf4⟩ := x_gd_some hf4
          refine f_iast (pc := 51) (k := 1) (u := 24) (q := 1) (len := 40) dX7_readRows_51 (sa_24_1 hs) hc0 hn rfl rfl rfl (by decide) ?_
          show Ev g _ _ _ _ _ _ 52 [some (x_r (16 * 24 + 0)), some (x_r (16 * 2 + 0)), some (x_i a), some (x_i v1)] [] (al, ro, fl (ml M [2, 24] [T, (x_up Ri2 1 (v1).toNat v6)])) _ _ _ _
          refine e_aloadn (pc := 52) (i := 0) dX7_readRows_52 rfl rfl ?_
          refine f_getr (pc := 53) (u := 24) (q := 0) dX7_readRows_53 xf7_11 (sa_24_0 hs) rfl (sr_24_0_0 hs) ?_
          refine e_iloadn (pc := 56) (i := 3) dX7_readRows_56 rfl rfl ?_
          obtain ⟨hc0, hf4⟩ := x_gd_some hf4
          refine f_iald (pc := 57) (k := 1) (u := 24) (q := 1) (len := 40) dX7_readRows_57 (sa_24_1 hs) hc0 hn rfl rfl (by decide) ?_
          show Ev g _ _ _ _ _ _ 58 [some (x_r (16 * 24 + 0)), some (x_r (16 * 2 + 0)), some (x_i a), some (x_i v1)] [x_i ((x_up Ri2 1 (v1).toNat v6) 1 (v1).toNat)] (al, ro, fl (ml M [2, 24] [T, (x_up Ri2 1 (v1).toNat v6)])) _ _ _ _
          refine e_if_lt (pc := 58) (tgt := 82) dX7_readRows_58 (by decide) (fun hb => ?_) (fun hb => ?_)
          · rw [if_pos hb] at hf4
            refine e_iconst (pc := 82) dX7_readRows_82 (x_R rfl) ?_
            cases hf4
            have hz := hv4 _ (hx4 _ rfl).symm
            cases hz
            exact (e_ireturn rfl dX7_readRows_83 (x_bool (by decide)).1)
          · rw [if_neg hb] at hf4
            refine e_aloadn (pc := 61) (i := 0) dX7_readRows_61 rfl rfl ?_
            refine f_getr (pc := 62) (u := 24) (q := 0) dX7_readRows_62 xf7_11 (sa_24_0 hs) rfl (sr_24_0_0 hs) ?_
            refine e_iloadn (pc := 65) (i := 3) dX7_readRows_65 rfl rfl ?_
            obtain ⟨hc0, hf4⟩ := x_gd_some hf4
            refine f_iald (pc := 66) (k := 1) (u := 24) (q := 1) (len := 40) dX7_readRows_66 (sa_24_1 hs) hc0 hn rfl rfl (by decide) ?_
            show Ev g _ _ _ _ _ _ 67 [some (x_r (16 * 24 + 0)), some (x_r (16 * 2 + 0)), some (x_i a), some (x_i v1)] [x_i ((x_up Ri2 1 (v1).toNat v6) 1 (v1).toNat)] (al, ro, fl (ml M [2, 24] [T, (x_up Ri2 1 (v1).toNat v6)])) _ _ _ _
            refine e_iloadn (pc := 67) (i := 3) dX7_readRows_67 rfl rfl ?_
            refine e_iconst (pc := 68) dX7_readRows_68 (x_R rfl) ?_
            refine e_irem (pc := 69) dX7_readRows_69 (by decide) ?_
            obtain ⟨v8, hr8, hf4⟩ := x_bd1 hf4
            have hjhr8 : Ev g yX7_readRows cX7_readRows 4 (some .boolean) [] 3 79 [some (x_r (16 * 24 + 0)), some (x_r (16 * 2 + 0)), some (x_i a), some (x_i v1)] [x_i v8, x_i ((x_up Ri2 1 (v1).toNat v6) 1 (v1).toNat)] (al, ro, fl (ml M [2, 24] [T, (x_up Ri2 1 (v1).toNat v6)])) 0 0 (.inl (some (x_i t.1))) (al, ro, fl (ml M [2, 24] [T, t.2])) := by
              refine e_icmp_le (pc := 79) (tgt := 84) dX7_readRows_79 (by decide) (fun hb => ?_) (fun hb => ?_)
              · rw [if_pos hb] at hf4
                refine e_aloadn (pc := 84) (i := 0) dX7_readRows_84 rfl rfl ?_
                refine e_dup (pc := 85) dX7_readRows_85 rfl ?_
                refine f_geti (pc := 86) (k := 1) (u := 24) (q := 0) dX7_readRows_86 xf7_37 (sa_24_0 hs) rfl hn rfl rfl (by decide) ?_
                show Ev g _ _ _ _ _ _ 89 [some (x_r (16 * 24 + 0)), some (x_r (16 * 2 + 0)), some (x_i a), some (x_i v1)] [x_i ((x_up Ri2 1 (v1).toNat v6) 0 3), x_r (16 * 24 + 0)] (al, ro, fl (ml M [2, 24] [T, (x_up Ri2 1 (v1).toNat v6)])) _ _ _ _
                refine e_iconst (pc := 89) dX7_readRows_89 (x_R rfl) ?_
                refine e_iadd (pc := 90) dX7_readRows_90 ?_
                refine f_puti (pc := 91) (k := 1) (u := 24) (q := 0) dX7_readRows_91 xf7_37 xw5_3 (sa_24_0 hs) hn rfl rfl rfl (by decide) ?_
                show Ev g _ _ _ _ _ _ 94 [some (x_r (16 * 24 + 0)), some (x_r (16 * 2 + 0)), some (x_i a), some (x_i v1)] [] (al, ro, fl (ml M [2, 24] [T, (x_up (x_up Ri2 1 (v1).toNat v6) 0 3 (x_add ((x_up Ri2 1 (v1).toNat v6) 0 3) 1))])) _ _ _ _
                refine e_iinc (pc := 94) dX7_readRows_94 rfl (by decide) rfl ?_
                show Ev g _ _ _ _ _ _ 97 [some (x_r (16 * 24 + 0)), some (x_r (16 * 2 + 0)), some (x_i a), some (x_i (x_add v1 1))] [] (al, ro, fl (ml M [2, 24] [T, (x_up (x_up Ri2 1 (v1).toNat v6) 0 3 (x_add ((x_up Ri2 1 (v1).toNat v6) 0 3) 1))])) _ _ _ _
                refine e_goto (pc := 97) (tgt := 27) dX7_readRows_97 (by decide) ?_
                cases hf4
                have hh := hi4 _ rfl
                try dsimp only at hh
                exact hh
              · rw [if_neg hb] at hf4
                refine e_iconst (pc := 82) dX7_readRows_82 (x_R rfl) ?_
                cases hf4
                have hz := hv4 _ (hx4 _ rfl).symm
                cases hz
                exact (e_ireturn rfl dX7_readRows_83 (x_bool (by decide)).1)
            clear hf4
            refine e_if_ne (pc := 70) (tgt := 78) dX7_readRows_70 (by decide) (fun hb => ?_) (fun hb => ?_)
            · rw [if_neg hb] at hr8
              refine e_iloadn (pc := 78) (i := 2) dX7_readRows_78 rfl rfl ?_
              cases hr8
              exact hjhr8
            · rw [if_pos hb] at hr8
              refine e_bipush (pc := 73) dX7_readRows_73 (by decide +kernel) (x_R rfl) ?_
              refine e_goto (pc := 75) (tgt := 79) dX7_readRows_75 (by decide) ?_
              cases hr8
              exact hjhr8
    · rw [if_neg hb] at hG
      refine e_iconst (pc := 23) dX7_readRows_23 (x_R rfl) ?_
      cases hG
      exact (e_ireturn rfl dX7_readRows_24 (x_bool (by decide)).1)
set_option maxRecDepth 100000 in
set_option maxHeartbeats 4000000 in
theorem c_X7_readWalk {g : xG} {al : List (Nat × Nat × Nat)} {ro : Nat → Nat → Option Nat} (hst : g.1.stackTraces = false) (hs : SH al ro) {M : Nat → xU} {a : Int} {T : xU} {Ri : xU}  {t : (Int × xU)} (hG : G7_readWalk a T Ri = some t) :
    Cal g yX7_readWalk cX7_readWalk 3 (some .boolean) 4 [x_r (16 * 24 + 0), x_r (16 * 2 + 0), x_i a] (al, ro, fl (ml M [2, 24] [T, Ri])) 0 0 (.inl (some (x_i t.1))) (al, ro, fl (ml M [2, 24] [T, t.2])) := by
  have hn : ([2, 24] : List Nat).Nodup := by decide
  refine cal_of_ev (plainFor_of_name (by decide)) (x_c1 rfl) (Nat.le_of_ble_eq_true rfl) hst ?_
  show Ev g _ _ _ _ _ _ 0 [some (x_r (16 * 24 + 0)), some (x_r (16 * 2 + 0)), some (x_i a)] [] (al, ro, fl (ml M [2, 24] [T, Ri])) _ _ _ _
  rw [G7_readWalk] at hG
  refine e_aloadn (pc := 0) (i := 0) dX7_readWalk_0 rfl rfl ?_
  refine e_iconst (pc := 1) dX7_readWalk_1 (x_R rfl) ?_
  refine f_putz (pc := 2) (k := 1) (u := 24) (q := 0) dX7_readWalk_2 xf7_22 xw5_4 (by decide) (sa_24_0 hs) hn rfl rfl rfl (by decide) ?_
  show Ev g _ _ _ _ _ _ 5 [some (x_r (16 * 24 + 0)), some (x_r (16 * 2 + 0)), some (x_i a)] [] (al, ro, fl (ml M [2, 24] [T, (x_up Ri 0 4 1)])) _ _ _ _
  refine e_aloadn (pc := 5) (i := 0) dX7_readWalk_5 rfl rfl ?_
  refine e_iloadn (pc := 6) (i := 2) dX7_readWalk_6 rfl rfl ?_
  refine f_puti (pc := 7) (k := 1) (u := 24) (q := 0) dX7_readWalk_7 xf7_26 xw5_5 (sa_24_0 hs) hn rfl rfl rfl (by decide) ?_
  show Ev g _ _ _ _ _ _ 10 [some (x_r (16 * 24 + 0)), some (x_r (16 * 2 + 0)), some (x_i a)] [] (al, ro, fl (ml M [2, 24] [T, (x_up (x_up Ri 0 4 1) 0 5 a)])) _ _ _ _
  refine e_aloadn (pc := 10) (i := 0) dX7_readWalk_10 rfl rfl ?_
  refine e_sipush (pc := 11) dX7_readWalk_11 (by decide +kernel) (x_R rfl) ?_
  refine f_puti (pc := 14) (k := 1) (u := 24) (q := 0) dX7_readWalk_14 xf7_30 xw5_6 (sa_24_0 hs) hn rfl rfl rfl (by decide) ?_
  show Ev g _ _ _ _ _ _ 17 [some (x_r (16 * 24 + 0)), some (x_r (16 * 2 + 0)), some (x_i a)] [] (al, ro, fl (ml M [2, 24] [T, (x_up (x_up (x_up Ri 0 4 1) 0 5 a) 0 6 144)])) _ _ _ _
  refine e_aloadn (pc := 17) (i := 0) dX7_readWalk_17 rfl rfl ?_
  refine e_aloadn (pc := 18) (i := 1) dX7_readWalk_18 rfl rfl ?_
  refine e_iconst (pc := 19) dX7_readWalk_19 (x_R rfl) ?_
  obtain ⟨v1, Ri2, hq2, hG⟩ := x_bd2 hG
  refine e_invV (pc := 20) (K1 := 0) (S1 := 0) (K := 0) (S := 0) (dd2 := 3) (av := [x_r (16 * 2 + 0), x_i 1]) (st := []) (id := 16 * 24 + 0) dX7_readWalk_20 xmX7_33 rfl (Or.inl ⟨5, 8, TX7, (sa_24_0 hs), rfl, by decide⟩) (f_cal (M := M) (us2 := [2, 24]) [0, 1] hn rfl (And.intro rfl (And.intro rfl trivial)) rfl rfl rfl (c_X7_readRows hst hs   hq2)) (by decide) (Nat.le_of_ble_eq_true rfl) (Or.inl rfl) ?_
  show Ev g _ _ _ _ _ _ 23 [some (x_r (16 * 24 + 0)), some (x_r (16 * 2 + 0)), some (x_i a)] [x_i v1] (al, ro, fl (ml M [2, 24] [T, Ri2])) _ _ _ _
  obtain ⟨hc0, hG⟩ := x_gd_some hG
  cases hG
  exact (e_ireturn rfl dX7_readWalk_23 (x_bool hc0).1)
set_option maxRecDepth 100000 in
set_option maxHeartbeats 4000000 in
theorem c_X7_readRule {g : xG} {al : List (Nat × Nat × Nat)} {ro : Nat → Nat → Option Nat} (hst : g.1.stackTraces = false) (hs : SH al ro) {M : Nat → xU} {T : xU} {Ri : xU}  {t : (Int × xU)} (hG : G7_readRule T Ri = some t) :
    Cal g yX7_readRule cX7_readRule 2 (some .boolean) 4 [x_r (16 * 24 + 0), x_r (16 * 2 + 0)] (al, ro, fl (ml M [2, 24] [T, Ri])) 0 0 (.inl (some (x_i t.1))) (al, ro, fl (ml M [2, 24] [T, t.2])) := by
  have hn : ([2, 24] : List Nat).Nodup := by decide
  refine cal_of_ev (plainFor_of_name (by decide)) (x_c1 rfl) (Nat.le_of_ble_eq_true rfl) hst ?_
  show Ev g _ _ _ _ _ _ 0 [some (x_r (16 * 24 + 0)), some (x_r (16 * 2 + 0))] [] (al, ro, fl (ml M [2, 24] [T, Ri])) _ _ _ _
  rw [G7_readRule] at hG
  refine e_aloadn (pc := 0) (i := 0) dX7_readRule_0 rfl rfl ?_
  refine e_iconst (pc := 1) dX7_readRule_1 (x_R rfl) ?_
  refine f_putz (pc := 2) (k := 1) (u := 24) (q := 0) dX7_readRule_2 xf7_22 xw5_4 (by decide) (sa_24_0 hs) hn rfl rfl rfl (by decide) ?_
  show Ev g _ _ _ _ _ _ 5 [some (x_r (16 * 24 + 0)), some (x_r (16 * 2 + 0))] [] (al, ro, fl (ml M [2, 24] [T, (x_up Ri 0 4 0)])) _ _ _ _
  refine e_aloadn (pc := 5) (i := 0) dX7_readRule_5 rfl rfl ?_
  refine e_bipush (pc := 6) dX7_readRule_6 (by decide +kernel) (x_R rfl) ?_
  refine f_puti (pc := 8) (k := 1) (u := 24) (q := 0) dX7_readRule_8 xf7_30 xw5_6 (sa_24_0 hs) hn rfl rfl rfl (by decide) ?_
  show Ev g _ _ _ _ _ _ 11 [some (x_r (16 * 24 + 0)), some (x_r (16 * 2 + 0))] [] (al, ro, fl (ml M [2, 24] [T, (x_up (x_up Ri 0 4 0) 0 6 25)])) _ _ _ _
  refine e_aloadn (pc := 11) (i := 0) dX7_readRule_11 rfl rfl ?_
  refine e_aloadn (pc := 12) (i := 1) dX7_readRule_12 rfl rfl ?_
  refine e_iconst (pc := 13) dX7_readRule_13 (x_R rfl) ?_
  obtain ⟨v1, Ri2, hq2, hG⟩ := x_bd2 hG
  refine e_invV (pc := 14) (K1 := 0) (S1 := 0) (K := 0) (S := 0) (dd2 := 3) (av := [x_r (16 * 2 + 0), x_i 4]) (st := []) (id := 16 * 24 + 0) dX7_readRule_14 xmX7_33 rfl (Or.inl ⟨5, 8, TX7, (sa_24_0 hs), rfl, by decide⟩) (f_cal (M := M) (us2 := [2, 24]) [0, 1] hn rfl (And.intro rfl (And.intro rfl trivial)) rfl rfl rfl (c_X7_readRows hst hs   hq2)) (by decide) (Nat.le_of_ble_eq_true rfl) (Or.inl rfl) ?_
  show Ev g _ _ _ _ _ _ 17 [some (x_r (16 * 24 + 0)), some (x_r (16 * 2 + 0))] [x_i v1] (al, ro, fl (ml M [2, 24] [T, Ri2])) _ _ _ _
  obtain ⟨hc0, hG⟩ := x_gd_some hG
  cases hG
  exact (e_ireturn rfl dX7_readRule_17 (x_bool hc0).1)
set_option maxRecDepth 100000 in
set_option maxHeartbeats 4000000 in
theorem c_X7_beginnings {g : xG} {al : List (Nat × Nat × Nat)} {ro : Nat → Nat → Option Nat} (hst : g.1.stackTraces = false) (hs : SH al ro) {M : Nat → xU} {Ri : xU}  {t : Int} (hG : G7_beginnings Ri = some t) :
    Cal g yX7_beginnings cX7_beginnings 3 (some .int) 0 [x_r (16 * 24 + 0)] (al, ro, fl (ml M [24] [Ri])) 0 0 (.inl (some (x_i t))) (al, ro, fl (ml M [24] [Ri])) := by
  have hn : ([24] : List Nat).Nodup := by decide
  refine cal_of_ev (plainFor_of_name (by decide)) (x_c1 rfl) (Nat.le_of_ble_eq_true rfl) hst ?_
  show Ev g _ _ _ _ _ _ 0 [some (x_r (16 * 24 + 0)), none, none] [] (al, ro, fl (ml M [24] [Ri])) _ _ _ _
  rw [G7_beginnings] at hG
  refine e_iconst (pc := 0) dX7_beginnings_0 (x_R rfl) ?_
  refine e_istoren (pc := 1) (i := 1) dX7_beginnings_1 rfl (by decide) rfl ?_
  show Ev g _ _ _ _ _ _ 2 [some (x_r (16 * 24 + 0)), some (x_i 0), none] [] (al, ro, fl (ml M [24] [Ri])) _ _ _ _
  refine e_iconst (pc := 2) dX7_beginnings_2 (x_R rfl) ?_
  refine e_istoren (pc := 3) (i := 2) dX7_beginnings_3 rfl (by decide) rfl ?_
  show Ev g _ _ _ _ _ _ 4 [some (x_r (16 * 24 + 0)), some (x_i 0), some (x_i 0)] [] (al, ro, fl (ml M [24] [Ri])) _ _ _ _
  obtain ⟨v3, hl4, hG⟩ := x_bd1 hG
  have hk4 : ∀ q : Int, q = v3 → Ev g yX7_beginnings cX7_beginnings 3 (some .int) [] 0 35 [some (x_r (16 * 24 + 0)), some (x_i q), none] [] (al, ro, fl (ml M [24] [Ri])) 0 0 (.inl (some (x_i t))) (al, ro, fl (ml M [24] [Ri])) := by
    intro q hq
    replace hq := hq.symm
    subst hq
    refine e_iloadn (pc := 35) (i := 1) dX7_beginnings_35 rfl rfl ?_
    cases hG
    exact (e_ireturn rfl dX7_beginnings_36 rfl)
  clear hG
  refine e_whl (G7_beginnings_L4 Ri) (fun z : (Int × Int) => Ev g yX7_beginnings cX7_beginnings 3 (some .int) [] 0 4 [some (x_r (16 * 24 + 0)), some (x_i z.1), some (x_i z.2)] [] (al, ro, fl (ml M [24] [Ri])) 0 0 (.inl (some (x_i t))) (al, ro, fl (ml M [24] [Ri]))) (fun q => q = v3) ?_ xFU (0, 0) _ hl4 rfl
  intro z t4 hf4 hi4 hx4
  obtain ⟨v1, v2⟩ := z
  rw [G7_beginnings_L4] at hf4
  show Ev g _ _ _ _ _ _ 4 [some (x_r (16 * 24 + 0)), some (x_i v1), some (x_i v2)] [] (al, ro, fl (ml M [24] [Ri])) _ _ _ _
  refine e_iloadn (pc := 4) (i := 2) dX7_beginnings_4 rfl rfl ?_
  refine e_sipush (pc := 5) dX7_beginnings_5 (by decide +kernel) (x_R rfl) ?_
  refine e_icmp_ge (pc := 8) (tgt := 35) dX7_beginnings_8 (by decide) (fun hb => ?_) (fun hb => ?_)
  · rw [if_pos hb] at hf4
    cases hf4
    refine e_drop (i := 2) ?_
    have hh := hk4 _ (hx4 _ rfl)
    try dsimp only at hh
    exact hh
  · rw [if_neg hb] at hf4
    refine e_aloadn (pc := 11) (i := 0) dX7_beginnings_11 rfl rfl ?_
    refine f_getr (pc := 12) (u := 24) (q := 0) dX7_beginnings_12 xf7_15 (sa_24_0 hs) rfl (sr_24_0_1 hs) ?_
    refine e_iloadn (pc := 15) (i := 2) dX7_beginnings_15 rfl rfl ?_
    obtain ⟨hc0, hf4⟩ := x_gd_some hf4
    refine f_zald (pc := 16) (k := 0) (u := 24) (q := 2) (len := 144) dX7_beginnings_16 (sa_24_2 hs) hc0 hn rfl rfl (by decide) ?_
    show Ev g _ _ _ _ _ _ 17 [some (x_r (16 * 24 + 0)), some (x_i v1), some (x_i v2)] [x_i (Ri 2 (v2).toNat)] (al, ro, fl (ml M [24] [Ri])) _ _ _ _
    obtain ⟨v6, hr6, hf4⟩ := x_bd1 hf4
    have hjhr6 : Ev g yX7_beginnings cX7_beginnings 3 (some .int) [] 0 29 [some (x_r (16 * 24 + 0)), some (x_i v6), some (x_i v2)] [] (al, ro, fl (ml M [24] [Ri])) 0 0 (.inl (some (x_i t))) (al, ro, fl (ml M [24] [Ri])) := by
      refine e_iinc (pc := 29) dX7_beginnings_29 rfl (by decide) rfl ?_
      show Ev g _ _ _ _ _ _ 32 [some (x_r (16 * 24 + 0)), some (x_i v6), some (x_i (x_add v2 1))] [] (al, ro, fl (ml M [24] [Ri])) _ _ _ _
      refine e_goto (pc := 32) (tgt := 4) dX7_beginnings_32 (by decide) ?_
      cases hf4
      have hh := hi4 _ rfl
      try dsimp only at hh
      exact hh
    clear hf4
    refine e_if_eq (pc := 17) (tgt := 29) dX7_beginnings_17 (by decide) (fun hb => ?_) (fun hb => ?_)
    · rw [if_pos hb] at hr6
      cases hr6
      exact hjhr6
    · rw [if_neg hb] at hr6
      refine e_iloadn (pc := 20) (i := 1) dX7_beginnings_20 rfl rfl ?_
      refine e_iconst (pc := 21) dX7_beginnings_21 (x_R rfl) ?_
      refine e_iloadn (pc := 22) (i := 2) dX7_beginnings_22 rfl rfl ?_
      refine e_bipush (pc := 23) dX7_beginnings_23 (by decide +kernel) (x_R rfl) ?_
      refine e_idiv (pc := 25) dX7_beginnings_25 (by decide) ?_
      refine e_ishl (pc := 26) dX7_beginnings_26 ?_
      refine e_ior (pc := 27) dX7_beginnings_27 ?_
      refine e_istoren (pc := 28) (i := 1) dX7_beginnings_28 rfl (by decide) rfl ?_
      show Ev g _ _ _ _ _ _ 29 [some (x_r (16 * 24 + 0)), some (x_i (x_or v1 (x_shl 1 (x_div v2 9)))), some (x_i v2)] [] (al, ro, fl (ml M [24] [Ri])) _ _ _ _
      cases hr6
      exact hjhr6
set_option maxRecDepth 100000 in
set_option maxHeartbeats 4000000 in
theorem c_X7_firstFitting {g : xG} {al : List (Nat × Nat × Nat)} {ro : Nat → Nat → Option Nat} (hst : g.1.stackTraces = false) (hs : SH al ro) {M : Nat → xU} {Ri : xU}  {t : Int} (hG : G7_firstFitting Ri = some t) :
    Cal g yX7_firstFitting cX7_firstFitting 2 (some .int) 0 [x_r (16 * 24 + 0)] (al, ro, fl (ml M [24] [Ri])) 0 0 (.inl (some (x_i t))) (al, ro, fl (ml M [24] [Ri])) := by
  have hn : ([24] : List Nat).Nodup := by decide
  refine cal_of_ev (plainFor_of_name (by decide)) (x_c1 rfl) (Nat.le_of_ble_eq_true rfl) hst ?_
  show Ev g _ _ _ _ _ _ 0 [some (x_r (16 * 24 + 0)), none] [] (al, ro, fl (ml M [24] [Ri])) _ _ _ _
  rw [G7_firstFitting] at hG
  refine e_iconst (pc := 0) dX7_firstFitting_0 (x_R rfl) ?_
  refine e_istoren (pc := 1) (i := 1) dX7_firstFitting_1 rfl (by decide) rfl ?_
  show Ev g _ _ _ _ _ _ 2 [some (x_r (16 * 24 + 0)), some (x_i 0)] [] (al, ro, fl (ml M [24] [Ri])) _ _ _ _
  obtain ⟨r2, hl2, hG⟩ := x_lrd hG
  have hk2 : ∀ q : Unit, r2 = .inl q → Ev g yX7_firstFitting cX7_firstFitting 2 (some .int) [] 0 34 [some (x_r (16 * 24 + 0)), none] [] (al, ro, fl (ml M [24] [Ri])) 0 0 (.inl (some (x_i t))) (al, ro, fl (ml M [24] [Ri])) := by
    intro q hq
    subst hq
    replace hG := x_lr_l hG
    replace hG := x_ed1 hG
    refine e_iconst (pc := 34) dX7_firstFitting_34 (x_R rfl) ?_
    cases hG
    exact (e_ireturn rfl dX7_firstFitting_35 rfl)
  have hv2 : ∀ q : Int, r2 = .inr q → some q = some t := by
    intro q hq
    subst hq
    exact x_lr_r hG
  clear hG
  refine e_whl (G7_firstFitting_L2 Ri) (fun z : Int => Ev g yX7_firstFitting cX7_firstFitting 2 (some .int) [] 0 2 [some (x_r (16 * 24 + 0)), some (x_i z)] [] (al, ro, fl (ml M [24] [Ri])) 0 0 (.inl (some (x_i t))) (al, ro, fl (ml M [24] [Ri]))) (fun q => q = r2) ?_ xFU 0 _ hl2 rfl
  intro z t2 hf2 hi2 hx2
  obtain ⟨v1, hzz⟩ : ∃ y, y = z := ⟨z, rfl⟩
  subst hzz
  rw [G7_firstFitting_L2] at hf2
  show Ev g _ _ _ _ _ _ 2 [some (x_r (16 * 24 + 0)), some (x_i v1)] [] (al, ro, fl (ml M [24] [Ri])) _ _ _ _
  refine e_iloadn (pc := 2) (i := 1) dX7_firstFitting_2 rfl rfl ?_
  refine e_aloadn (pc := 3) (i := 0) dX7_firstFitting_3 rfl rfl ?_
  refine f_geti (pc := 4) (k := 0) (u := 24) (q := 0) dX7_firstFitting_4 xf7_30 (sa_24_0 hs) rfl hn rfl rfl (by decide) ?_
  show Ev g _ _ _ _ _ _ 7 [some (x_r (16 * 24 + 0)), some (x_i v1)] [x_i (Ri 0 6), x_i v1] (al, ro, fl (ml M [24] [Ri])) _ _ _ _
  refine e_icmp_ge (pc := 7) (tgt := 34) dX7_firstFitting_7 (by decide) (fun hb => ?_) (fun hb => ?_)
  · rw [if_pos hb] at hf2
    cases hf2
    refine e_drop (i := 1) ?_
    have hh := hk2 _ (hx2 _ rfl).symm
    try dsimp only at hh
    exact hh
  · rw [if_neg hb] at hf2
    refine e_iloadn (pc := 10) (i := 1) dX7_firstFitting_10 rfl rfl ?_
    refine e_sipush (pc := 11) dX7_firstFitting_11 (by decide +kernel) (x_R rfl) ?_
    refine e_icmp_ge (pc := 14) (tgt := 34) dX7_firstFitting_14 (by decide) (fun hb => ?_) (fun hb => ?_)
    · rw [if_pos hb] at hf2
      cases hf2
      refine e_drop (i := 1) ?_
      have hh := hk2 _ (hx2 _ rfl).symm
      try dsimp only at hh
      exact hh
    · rw [if_neg hb] at hf2
      refine e_aloadn (pc := 17) (i := 0) dX7_firstFitting_17 rfl rfl ?_
      refine f_getr (pc := 18) (u := 24) (q := 0) dX7_firstFitting_18 xf7_15 (sa_24_0 hs) rfl (sr_24_0_1 hs) ?_
      refine e_iloadn (pc := 21) (i := 1) dX7_firstFitting_21 rfl rfl ?_
      obtain ⟨hc0, hf2⟩ := x_gd_some hf2
      refine f_zald (pc := 22) (k := 0) (u := 24) (q := 2) (len := 144) dX7_firstFitting_22 (sa_24_2 hs) hc0 hn rfl rfl (by decide) ?_
      show Ev g _ _ _ _ _ _ 23 [some (x_r (16 * 24 + 0)), some (x_i v1)] [x_i (Ri 2 (v1).toNat)] (al, ro, fl (ml M [24] [Ri])) _ _ _ _
      refine e_if_eq (pc := 23) (tgt := 28) dX7_firstFitting_23 (by decide) (fun hb => ?_) (fun hb => ?_)
      · rw [if_pos hb] at hf2
        refine e_iinc (pc := 28) dX7_firstFitting_28 rfl (by decide) rfl ?_
        show Ev g _ _ _ _ _ _ 31 [some (x_r (16 * 24 + 0)), some (x_i (x_add v1 1))] [] (al, ro, fl (ml M [24] [Ri])) _ _ _ _
        refine e_goto (pc := 31) (tgt := 2) dX7_firstFitting_31 (by decide) ?_
        cases hf2
        have hh := hi2 _ rfl
        try dsimp only at hh
        exact hh
      · rw [if_neg hb] at hf2
        refine e_iloadn (pc := 26) (i := 1) dX7_firstFitting_26 rfl rfl ?_
        cases hf2
        have hz := hv2 _ (hx2 _ rfl).symm
        cases hz
        exact (e_ireturn rfl dX7_firstFitting_27 rfl)
set_option maxRecDepth 100000 in
set_option maxHeartbeats 4000000 in
theorem c_X7_greatestPart {g : xG} {al : List (Nat × Nat × Nat)} {ro : Nat → Nat → Option Nat} (hst : g.1.stackTraces = false) (hs : SH al ro) {M : Nat → xU} {a : Int} {Ri : xU}  {t : (Int × xU)} (hG : G7_greatestPart a Ri = some t) :
    Cal g yX7_greatestPart cX7_greatestPart 5 (some .int) 1 [x_r (16 * 24 + 0), x_i a] (al, ro, fl (ml M [24] [Ri])) 0 0 (.inl (some (x_i t.1))) (al, ro, fl (ml M [24] [t.2])) := by
  have hn : ([24] : List Nat).Nodup := by decide
  refine cal_of_ev (plainFor_of_name (by decide)) (x_c1 rfl) (Nat.le_of_ble_eq_true rfl) hst ?_
  show Ev g _ _ _ _ _ _ 0 [some (x_r (16 * 24 + 0)), some (x_i a), none, none, none] [] (al, ro, fl (ml M [24] [Ri])) _ _ _ _
  rw [G7_greatestPart] at hG
  refine e_iconst (pc := 0) dX7_greatestPart_0 (x_R rfl) ?_
  refine e_istoren (pc := 1) (i := 2) dX7_greatestPart_1 rfl (by decide) rfl ?_
  show Ev g _ _ _ _ _ _ 2 [some (x_r (16 * 24 + 0)), some (x_i a), some (x_i 0), none, none] [] (al, ro, fl (ml M [24] [Ri])) _ _ _ _
  obtain ⟨Ri3, hl4, hG⟩ := x_bd1 hG
  have hk4 : ∀ q : xU, q = Ri3 → Ev g yX7_greatestPart cX7_greatestPart 5 (some .int) [] 1 20 [some (x_r (16 * 24 + 0)), some (x_i a), none, none, none] [] (al, ro, fl (ml M [24] [q])) 0 0 (.inl (some (x_i t.1))) (al, ro, fl (ml M [24] [t.2])) := by
    intro q hq
    replace hq := hq.symm
    subst hq
    refine e_iconst (pc := 20) dX7_greatestPart_20 (x_R rfl) ?_
    refine e_istoren (pc := 21) (i := 2) dX7_greatestPart_21 rfl (by decide) rfl ?_
    show Ev g _ _ _ _ _ _ 22 [some (x_r (16 * 24 + 0)), some (x_i a), some (x_i 0), none, none] [] (al, ro, fl (ml M [24] [Ri3])) _ _ _ _
    refine e_iconst (pc := 22) dX7_greatestPart_22 (x_R rfl) ?_
    refine e_istoren (pc := 23) (i := 3) dX7_greatestPart_23 rfl (by decide) rfl ?_
    show Ev g _ _ _ _ _ _ 24 [some (x_r (16 * 24 + 0)), some (x_i a), some (x_i 0), some (x_i 0), none] [] (al, ro, fl (ml M [24] [Ri3])) _ _ _ _
    obtain ⟨v9, Ri10, hl11, hG⟩ := x_bd2 hG
    have hk11 : ∀ q : (Int × xU), q = (v9, Ri10) → Ev g yX7_greatestPart cX7_greatestPart 5 (some .int) [] 1 96 [some (x_r (16 * 24 + 0)), some (x_i a), some (x_i q.1), none, none] [] (al, ro, fl (ml M [24] [q.2])) 0 0 (.inl (some (x_i t.1))) (al, ro, fl (ml M [24] [t.2])) := by
      intro q hq
      cases hq
      refine e_iloadn (pc := 96) (i := 2) dX7_greatestPart_96 rfl rfl ?_
      cases hG
      exact (e_ireturn rfl dX7_greatestPart_97 rfl)
    clear hG
    refine e_whl (G7_greatestPart_L24 a) (fun z : (Int × Int × xU) => Ev g yX7_greatestPart cX7_greatestPart 5 (some .int) [] 1 24 [some (x_r (16 * 24 + 0)), some (x_i a), some (x_i z.1), some (x_i z.2.1), none] [] (al, ro, fl (ml M [24] [z.2.2])) 0 0 (.inl (some (x_i t.1))) (al, ro, fl (ml M [24] [t.2]))) (fun q => q = (v9, Ri10)) ?_ xFU (0, 0, Ri3) _ hl11 rfl
    intro z t11 hf11 hi11 hx11
    obtain ⟨v6, v7, Ri8⟩ := z
    rw [G7_greatestPart_L24] at hf11
    show Ev g _ _ _ _ _ _ 24 [some (x_r (16 * 24 + 0)), some (x_i a), some (x_i v6), some (x_i v7), none] [] (al, ro, fl (ml M [24] [Ri8])) _ _ _ _
    refine e_iloadn (pc := 24) (i := 3) dX7_greatestPart_24 rfl rfl ?_
    refine e_aloadn (pc := 25) (i := 0) dX7_greatestPart_25 rfl rfl ?_
    refine f_geti (pc := 26) (k := 0) (u := 24) (q := 0) dX7_greatestPart_26 xf7_30 (sa_24_0 hs) rfl hn rfl rfl (by decide) ?_
    show Ev g _ _ _ _ _ _ 29 [some (x_r (16 * 24 + 0)), some (x_i a), some (x_i v6), some (x_i v7), none] [x_i (Ri8 0 6), x_i v7] (al, ro, fl (ml M [24] [Ri8])) _ _ _ _
    refine e_icmp_ge (pc := 29) (tgt := 96) dX7_greatestPart_29 (by decide) (fun hb => ?_) (fun hb => ?_)
    · rw [if_pos hb] at hf11
      cases hf11
      refine e_drop (i := 3) ?_
      have hh := hk11 _ (hx11 _ rfl)
      try dsimp only at hh
      exact hh
    · rw [if_neg hb] at hf11
      refine e_iloadn (pc := 32) (i := 3) dX7_greatestPart_32 rfl rfl ?_
      refine e_sipush (pc := 33) dX7_greatestPart_33 (by decide +kernel) (x_R rfl) ?_
      refine e_icmp_ge (pc := 36) (tgt := 96) dX7_greatestPart_36 (by decide) (fun hb => ?_) (fun hb => ?_)
      · rw [if_pos hb] at hf11
        cases hf11
        refine e_drop (i := 3) ?_
        have hh := hk11 _ (hx11 _ rfl)
        try dsimp only at hh
        exact hh
      · rw [if_neg hb] at hf11
        refine e_aloadn (pc := 39) (i := 0) dX7_greatestPart_39 rfl rfl ?_
        refine e_iloadn (pc := 40) (i := 3) dX7_greatestPart_40 rfl rfl ?_
        refine e_iloadn (pc := 41) (i := 1) dX7_greatestPart_41 rfl rfl ?_
        obtain ⟨v13, hq13, hf11⟩ := x_bd1 hf11
        refine e_invV (pc := 42) (K1 := 0) (S1 := 0) (K := 0) (S := 0) (dd2 := 0) (av := [x_i v7, x_i a]) (st := []) (id := 16 * 24 + 0) dX7_greatestPart_42 xmX7_57 rfl (Or.inl ⟨5, 8, TX7, (sa_24_0 hs), rfl, by decide⟩) (f_cal (M := M) (us2 := [24]) [0] hn rfl (And.intro rfl trivial) rfl rfl rfl (c_X7_answerOf hst hs   hq13)) (by decide) (Nat.le_of_ble_eq_true rfl) (Or.inl rfl) ?_
        show Ev g _ _ _ _ _ _ 45 [some (x_r (16 * 24 + 0)), some (x_i a), some (x_i v6), some (x_i v7), none] [x_i v13] (al, ro, fl (ml M [24] [Ri8])) _ _ _ _
        refine e_istore (pc := 45) (i := 4) dX7_greatestPart_45 (by decide) rfl ?_
        show Ev g _ _ _ _ _ _ 47 [some (x_r (16 * 24 + 0)), some (x_i a), some (x_i v6), some (x_i v7), some (x_i v13)] [] (al, ro, fl (ml M [24] [Ri8])) _ _ _ _
        refine e_aloadn (pc := 47) (i := 0) dX7_greatestPart_47 rfl rfl ?_
        refine f_getr (pc := 48) (u := 24) (q := 0) dX7_greatestPart_48 xf7_15 (sa_24_0 hs) rfl (sr_24_0_1 hs) ?_
        refine e_iloadn (pc := 51) (i := 3) dX7_greatestPart_51 rfl rfl ?_
        obtain ⟨hc0, hf11⟩ := x_gd_some hf11
        refine f_zald (pc := 52) (k := 0) (u := 24) (q := 2) (len := 144) dX7_greatestPart_52 (sa_24_2 hs) hc0 hn rfl rfl (by decide) ?_
        show Ev g _ _ _ _ _ _ 53 [some (x_r (16 * 24 + 0)), some (x_i a), some (x_i v6), some (x_i v7), some (x_i v13)] [x_i (Ri8 2 (v7).toNat)] (al, ro, fl (ml M [24] [Ri8])) _ _ _ _
        obtain ⟨v15, Ri16, hr16, hf11⟩ := x_bd2 hf11
        have hjhr16 : Ev g yX7_greatestPart cX7_greatestPart 5 (some .int) [] 1 90 [some (x_r (16 * 24 + 0)), some (x_i a), some (x_i v15), some (x_i v7), some (x_i v13)] [] (al, ro, fl (ml M [24] [Ri16])) 0 0 (.inl (some (x_i t.1))) (al, ro, fl (ml M [24] [t.2])) := by
          refine e_iinc (pc := 90) dX7_greatestPart_90 rfl (by decide) rfl ?_
          show Ev g _ _ _ _ _ _ 93 [some (x_r (16 * 24 + 0)), some (x_i a), some (x_i v15), some (x_i (x_add v7 1)), some (x_i v13)] [] (al, ro, fl (ml M [24] [Ri16])) _ _ _ _
          refine e_goto (pc := 93) (tgt := 24) dX7_greatestPart_93 (by decide) ?_
          cases hf11
          refine e_drop (i := 4) ?_
          have hh := hi11 _ rfl
          try dsimp only at hh
          exact hh
        clear hf11
        refine e_if_eq (pc := 53) (tgt := 90) dX7_greatestPart_53 (by decide) (fun hb => ?_) (fun hb => ?_)
        · rw [if_pos hb] at hr16
          cases hr16
          exact hjhr16
        · rw [if_neg hb] at hr16
          refine e_iload (pc := 56) dX7_greatestPart_56 rfl ?_
          refine e_if_lt (pc := 58) (tgt := 90) dX7_greatestPart_58 (by decide) (fun hb => ?_) (fun hb => ?_)
          · rw [if_pos hb] at hr16
            cases hr16
            exact hjhr16
          · rw [if_neg hb] at hr16
            refine e_iload (pc := 61) dX7_greatestPart_61 rfl ?_
            refine e_iconst (pc := 63) dX7_greatestPart_63 (x_R rfl) ?_
            refine e_icmp_ge (pc := 64) (tgt := 90) dX7_greatestPart_64 (by decide) (fun hb => ?_) (fun hb => ?_)
            · rw [if_pos hb] at hr16
              cases hr16
              exact hjhr16
            · rw [if_neg hb] at hr16
              refine e_aloadn (pc := 67) (i := 0) dX7_greatestPart_67 rfl rfl ?_
              refine f_getr (pc := 68) (u := 24) (q := 0) dX7_greatestPart_68 xf7_19 (sa_24_0 hs) rfl (sr_24_0_2 hs) ?_
              refine e_iload (pc := 71) dX7_greatestPart_71 rfl ?_
              refine e_dup2 (pc := 73) dX7_greatestPart_73 rfl rfl ?_
              obtain ⟨hc0, hr16⟩ := x_gd_some hr16
              refine f_iald (pc := 74) (k := 0) (u := 24) (q := 3) (len := 5) dX7_greatestPart_74 (sa_24_3 hs) hc0 hn rfl rfl (by decide) ?_
              show Ev g _ _ _ _ _ _ 75 [some (x_r (16 * 24 + 0)), some (x_i a), some (x_i v6), some (x_i v7), some (x_i v13)] [x_i (Ri8 3 (v13).toNat), x_i v13, x_r (16 * 24 + 3)] (al, ro, fl (ml M [24] [Ri8])) _ _ _ _
              refine e_iconst (pc := 75) dX7_greatestPart_75 (x_R rfl) ?_
              refine e_iadd (pc := 76) dX7_greatestPart_76 ?_
              obtain ⟨hc0, hr16⟩ := x_gd_some hr16
              refine f_iast (pc := 77) (k := 0) (u := 24) (q := 3) (len := 5) dX7_greatestPart_77 (sa_24_3 hs) hc0 hn rfl rfl rfl (by decide) ?_
              show Ev g _ _ _ _ _ _ 78 [some (x_r (16 * 24 + 0)), some (x_i a), some (x_i v6), some (x_i v7), some (x_i v13)] [] (al, ro, fl (ml M [24] [(x_up Ri8 3 (v13).toNat (x_add (Ri8 3 (v13).toNat) 1))])) _ _ _ _
              refine e_iloadn (pc := 78) (i := 2) dX7_greatestPart_78 rfl rfl ?_
              refine e_aloadn (pc := 79) (i := 0) dX7_greatestPart_79 rfl rfl ?_
              refine f_getr (pc := 80) (u := 24) (q := 0) dX7_greatestPart_80 xf7_19 (sa_24_0 hs) rfl (sr_24_0_2 hs) ?_
              refine e_iload (pc := 83) dX7_greatestPart_83 rfl ?_
              obtain ⟨hc0, hr16⟩ := x_gd_some hr16
              refine f_iald (pc := 85) (k := 0) (u := 24) (q := 3) (len := 5) dX7_greatestPart_85 (sa_24_3 hs) hc0 hn rfl rfl (by decide) ?_
              show Ev g _ _ _ _ _ _ 86 [some (x_r (16 * 24 + 0)), some (x_i a), some (x_i v6), some (x_i v7), some (x_i v13)] [x_i ((x_up Ri8 3 (v13).toNat (x_add (Ri8 3 (v13).toNat) 1)) 3 (v13).toNat), x_i v6] (al, ro, fl (ml M [24] [(x_up Ri8 3 (v13).toNat (x_add (Ri8 3 (v13).toNat) 1))])) _ _ _ _
              refine e_invS (pc := 86) (K1 := 0) (S1 := 0) (K := 0) (S := 0) (dd2 := 0) (av := [x_i v6, x_i ((x_up Ri8 3 (v13).toNat (x_add (Ri8 3 (v13).toNat) 1)) 3 (v13).toNat)]) (st := []) dX7_greatestPart_86 xmX7_65 rfl (p_max hst hs) (by decide) (Nat.le_of_ble_eq_true rfl) (Or.inl rfl) ?_
              show Ev g _ _ _ _ _ _ 89 [some (x_r (16 * 24 + 0)), some (x_i a), some (x_i v6), some (x_i v7), some (x_i v13)] [x_i (max v6 ((x_up Ri8 3 (v13).toNat (x_add (Ri8 3 (v13).toNat) 1)) 3 (v13).toNat))] (al, ro, fl (ml M [24] [(x_up Ri8 3 (v13).toNat (x_add (Ri8 3 (v13).toNat) 1))])) _ _ _ _
              refine e_istoren (pc := 89) (i := 2) dX7_greatestPart_89 rfl (by decide) rfl ?_
              show Ev g _ _ _ _ _ _ 90 [some (x_r (16 * 24 + 0)), some (x_i a), some (x_i (max v6 ((x_up Ri8 3 (v13).toNat (x_add (Ri8 3 (v13).toNat) 1)) 3 (v13).toNat))), some (x_i v7), some (x_i v13)] [] (al, ro, fl (ml M [24] [(x_up Ri8 3 (v13).toNat (x_add (Ri8 3 (v13).toNat) 1))])) _ _ _ _
              cases hr16
              exact hjhr16
  clear hG
  refine e_whl G7_greatestPart_L2 (fun z : (Int × xU) => Ev g yX7_greatestPart cX7_greatestPart 5 (some .int) [] 1 2 [some (x_r (16 * 24 + 0)), some (x_i a), some (x_i z.1), none, none] [] (al, ro, fl (ml M [24] [z.2])) 0 0 (.inl (some (x_i t.1))) (al, ro, fl (ml M [24] [t.2]))) (fun q => q = Ri3) ?_ xFU (0, Ri) _ hl4 rfl
  intro z t4 hf4 hi4 hx4
  obtain ⟨v1, Ri2⟩ := z
  rw [G7_greatestPart_L2] at hf4
  show Ev g _ _ _ _ _ _ 2 [some (x_r (16 * 24 + 0)), some (x_i a), some (x_i v1), none, none] [] (al, ro, fl (ml M [24] [Ri2])) _ _ _ _
  refine e_iloadn (pc := 2) (i := 2) dX7_greatestPart_2 rfl rfl ?_
  refine e_iconst (pc := 3) dX7_greatestPart_3 (x_R rfl) ?_
  refine e_icmp_ge (pc := 4) (tgt := 20) dX7_greatestPart_4 (by decide) (fun hb => ?_) (fun hb => ?_)
  · rw [if_pos hb] at hf4
    cases hf4
    refine e_drop (i := 2) ?_
    have hh := hk4 _ (hx4 _ rfl)
    try dsimp only at hh
    exact hh
  · rw [if_neg hb] at hf4
    refine e_aloadn (pc := 7) (i := 0) dX7_greatestPart_7 rfl rfl ?_
    refine f_getr (pc := 8) (u := 24) (q := 0) dX7_greatestPart_8 xf7_19 (sa_24_0 hs) rfl (sr_24_0_2 hs) ?_
    refine e_iloadn (pc := 11) (i := 2) dX7_greatestPart_11 rfl rfl ?_
    refine e_iconst (pc := 12) dX7_greatestPart_12 (x_R rfl) ?_
    obtain ⟨hc0, hf4⟩ := x_gd_some hf4
    refine f_iast (pc := 13) (k := 0) (u := 24) (q := 3) (len := 5) dX7_greatestPart_13 (sa_24_3 hs) hc0 hn rfl rfl rfl (by decide) ?_
    show Ev g _ _ _ _ _ _ 14 [some (x_r (16 * 24 + 0)), some (x_i a), some (x_i v1), none, none] [] (al, ro, fl (ml M [24] [(x_up Ri2 3 (v1).toNat 0)])) _ _ _ _
    refine e_iinc (pc := 14) dX7_greatestPart_14 rfl (by decide) rfl ?_
    show Ev g _ _ _ _ _ _ 17 [some (x_r (16 * 24 + 0)), some (x_i a), some (x_i (x_add v1 1)), none, none] [] (al, ro, fl (ml M [24] [(x_up Ri2 3 (v1).toNat 0)])) _ _ _ _
    refine e_goto (pc := 17) (tgt := 2) dX7_greatestPart_17 (by decide) ?_
    cases hf4
    have hh := hi4 _ rfl
    try dsimp only at hh
    exact hh
set_option maxRecDepth 100000 in
set_option maxHeartbeats 4000000 in
theorem c_X7_bestHour {g : xG} {al : List (Nat × Nat × Nat)} {ro : Nat → Nat → Option Nat} (hst : g.1.stackTraces = false) (hs : SH al ro) {M : Nat → xU} {Ri : xU}  {t : (Int × xU)} (hG : G7_bestHour Ri = some t) :
    Cal g yX7_bestHour cX7_bestHour 5 (some .int) 2 [x_r (16 * 24 + 0)] (al, ro, fl (ml M [24] [Ri])) 0 0 (.inl (some (x_i t.1))) (al, ro, fl (ml M [24] [t.2])) := by
  have hn : ([24] : List Nat).Nodup := by decide
  refine cal_of_ev (plainFor_of_name (by decide)) (x_c1 rfl) (Nat.le_of_ble_eq_true rfl) hst ?_
  show Ev g _ _ _ _ _ _ 0 [some (x_r (16 * 24 + 0)), none, none, none, none] [] (al, ro, fl (ml M [24] [Ri])) _ _ _ _
  rw [G7_bestHour] at hG
  refine e_aloadn (pc := 0) (i := 0) dX7_bestHour_0 rfl rfl ?_
  refine f_geti (pc := 1) (k := 0) (u := 24) (q := 0) dX7_bestHour_1 xf7_50 (sa_24_0 hs) rfl hn rfl rfl (by decide) ?_
  show Ev g _ _ _ _ _ _ 4 [some (x_r (16 * 24 + 0)), none, none, none, none] [x_i (Ri 0 7)] (al, ro, fl (ml M [24] [Ri])) _ _ _ _
  refine e_iconst (pc := 4) dX7_bestHour_4 (x_R rfl) ?_
  refine e_icmp_ge (pc := 5) (tgt := 10) dX7_bestHour_5 (by decide) (fun hb => ?_) (fun hb => ?_)
  · rw [if_pos hb] at hG
    refine e_iconst (pc := 10) dX7_bestHour_10 (x_R rfl) ?_
    refine e_istoren (pc := 11) (i := 1) dX7_bestHour_11 rfl (by decide) rfl ?_
    show Ev g _ _ _ _ _ _ 12 [some (x_r (16 * 24 + 0)), some (x_i 0), none, none, none] [] (al, ro, fl (ml M [24] [Ri])) _ _ _ _
    refine e_ldc (pc := 12) dX7_bestHour_12 xkX7_61 (x_R rfl) ?_
    refine e_istoren (pc := 14) (i := 2) dX7_bestHour_14 rfl (by decide) rfl ?_
    show Ev g _ _ _ _ _ _ 15 [some (x_r (16 * 24 + 0)), some (x_i 0), some (x_i 1000000), none, none] [] (al, ro, fl (ml M [24] [Ri])) _ _ _ _
    refine e_iconst (pc := 15) dX7_bestHour_15 (x_R rfl) ?_
    refine e_istoren (pc := 16) (i := 3) dX7_bestHour_16 rfl (by decide) rfl ?_
    show Ev g _ _ _ _ _ _ 17 [some (x_r (16 * 24 + 0)), some (x_i 0), some (x_i 1000000), some (x_i 0), none] [] (al, ro, fl (ml M [24] [Ri])) _ _ _ _
    obtain ⟨v5, Ri6, hl7, hG⟩ := x_bd2 hG
    have hk7 : ∀ q : (Int × xU), q = (v5, Ri6) → Ev g yX7_bestHour cX7_bestHour 5 (some .int) [] 2 47 [some (x_r (16 * 24 + 0)), some (x_i q.1), none, none, none] [] (al, ro, fl (ml M [24] [q.2])) 0 0 (.inl (some (x_i t.1))) (al, ro, fl (ml M [24] [t.2])) := by
      intro q hq
      cases hq
      refine e_iloadn (pc := 47) (i := 1) dX7_bestHour_47 rfl rfl ?_
      cases hG
      exact (e_ireturn rfl dX7_bestHour_48 rfl)
    clear hG
    refine e_whl G7_bestHour_L17 (fun z : (Int × Int × Int × xU) => Ev g yX7_bestHour cX7_bestHour 5 (some .int) [] 2 17 [some (x_r (16 * 24 + 0)), some (x_i z.1), some (x_i z.2.1), some (x_i z.2.2.1), none] [] (al, ro, fl (ml M [24] [z.2.2.2])) 0 0 (.inl (some (x_i t.1))) (al, ro, fl (ml M [24] [t.2]))) (fun q => q = (v5, Ri6)) ?_ xFU (0, 1000000, 0, Ri) _ hl7 rfl
    intro z t7 hf7 hi7 hx7
    obtain ⟨v1, v2, v3, Ri4⟩ := z
    rw [G7_bestHour_L17] at hf7
    show Ev g _ _ _ _ _ _ 17 [some (x_r (16 * 24 + 0)), some (x_i v1), some (x_i v2), some (x_i v3), none] [] (al, ro, fl (ml M [24] [Ri4])) _ _ _ _
    refine e_iloadn (pc := 17) (i := 3) dX7_bestHour_17 rfl rfl ?_
    refine e_bipush (pc := 18) dX7_bestHour_18 (by decide +kernel) (x_R rfl) ?_
    refine e_icmp_ge (pc := 20) (tgt := 47) dX7_bestHour_20 (by decide) (fun hb => ?_) (fun hb => ?_)
    · rw [if_pos hb] at hf7
      cases hf7
      refine e_drop (i := 2) ?_
      refine e_drop (i := 3) ?_
      have hh := hk7 _ (hx7 _ rfl)
      try dsimp only at hh
      exact hh
    · rw [if_neg hb] at hf7
      refine e_aloadn (pc := 23) (i := 0) dX7_bestHour_23 rfl rfl ?_
      refine e_iloadn (pc := 24) (i := 3) dX7_bestHour_24 rfl rfl ?_
      obtain ⟨v9, Ri10, hq10, hf7⟩ := x_bd2 hf7
      refine e_invV (pc := 25) (K1 := 0) (S1 := 0) (K := 0) (S := 0) (dd2 := 1) (av := [x_i v3]) (st := []) (id := 16 * 24 + 0) dX7_bestHour_25 xmX7_62 rfl (Or.inl ⟨5, 8, TX7, (sa_24_0 hs), rfl, by decide⟩) (f_cal (M := M) (us2 := [24]) [0] hn rfl (And.intro rfl trivial) rfl rfl rfl (c_X7_greatestPart hst hs   hq10)) (by decide) (Nat.le_of_ble_eq_true rfl) (Or.inl rfl) ?_
      show Ev g _ _ _ _ _ _ 28 [some (x_r (16 * 24 + 0)), some (x_i v1), some (x_i v2), some (x_i v3), none] [x_i v9] (al, ro, fl (ml M [24] [Ri10])) _ _ _ _
      refine e_istore (pc := 28) (i := 4) dX7_bestHour_28 (by decide) rfl ?_
      show Ev g _ _ _ _ _ _ 30 [some (x_r (16 * 24 + 0)), some (x_i v1), some (x_i v2), some (x_i v3), some (x_i v9)] [] (al, ro, fl (ml M [24] [Ri10])) _ _ _ _
      refine e_iload (pc := 30) dX7_bestHour_30 rfl ?_
      refine e_iloadn (pc := 32) (i := 2) dX7_bestHour_32 rfl rfl ?_
      obtain ⟨v12, v13, hr13, hf7⟩ := x_bd2 hf7
      have hjhr13 : Ev g yX7_bestHour cX7_bestHour 5 (some .int) [] 2 41 [some (x_r (16 * 24 + 0)), some (x_i v12), some (x_i v13), some (x_i v3), some (x_i v9)] [] (al, ro, fl (ml M [24] [Ri10])) 0 0 (.inl (some (x_i t.1))) (al, ro, fl (ml M [24] [t.2])) := by
        refine e_iinc (pc := 41) dX7_bestHour_41 rfl (by decide) rfl ?_
        show Ev g _ _ _ _ _ _ 44 [some (x_r (16 * 24 + 0)), some (x_i v12), some (x_i v13), some (x_i (x_add v3 1)), some (x_i v9)] [] (al, ro, fl (ml M [24] [Ri10])) _ _ _ _
        refine e_goto (pc := 44) (tgt := 17) dX7_bestHour_44 (by decide) ?_
        cases hf7
        refine e_drop (i := 4) ?_
        have hh := hi7 _ rfl
        try dsimp only at hh
        exact hh
      clear hf7
      refine e_icmp_ge (pc := 33) (tgt := 41) dX7_bestHour_33 (by decide) (fun hb => ?_) (fun hb => ?_)
      · rw [if_pos hb] at hr13
        cases hr13
        exact hjhr13
      · rw [if_neg hb] at hr13
        refine e_iload (pc := 36) dX7_bestHour_36 rfl ?_
        refine e_istoren (pc := 38) (i := 2) dX7_bestHour_38 rfl (by decide) rfl ?_
        show Ev g _ _ _ _ _ _ 39 [some (x_r (16 * 24 + 0)), some (x_i v1), some (x_i v9), some (x_i v3), some (x_i v9)] [] (al, ro, fl (ml M [24] [Ri10])) _ _ _ _
        refine e_iloadn (pc := 39) (i := 3) dX7_bestHour_39 rfl rfl ?_
        refine e_istoren (pc := 40) (i := 1) dX7_bestHour_40 rfl (by decide) rfl ?_
        show Ev g _ _ _ _ _ _ 41 [some (x_r (16 * 24 + 0)), some (x_i v3), some (x_i v9), some (x_i v3), some (x_i v9)] [] (al, ro, fl (ml M [24] [Ri10])) _ _ _ _
        cases hr13
        exact hjhr13
  · rw [if_neg hb] at hG
    refine e_iconst (pc := 8) dX7_bestHour_8 (x_R rfl) ?_
    cases hG
    exact (e_ireturn rfl dX7_bestHour_9 rfl)
