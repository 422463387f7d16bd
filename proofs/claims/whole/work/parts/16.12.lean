set_option maxRecDepth 100000 in
set_option maxHeartbeats 4000000 in
theorem c_X3_firstTogether {g : xG} {al : List (Nat × Nat × Nat)} {ro : Nat → Nat → Option Nat} (hst : g.1.stackTraces = false) (hs : SH al ro) {M : Nat → xU} {a : Int} {b : Int} {N : xU} {Th : xU} {La : xU}  {t : (Int × xU × xU)} (hG : G3_firstTogether a b N Th La = some t) :
    Cal g yX3_firstTogether cX3_firstTogether 6 (some .int) 5 [x_r (16 * 22 + 0), x_r (16 * 3 + 0), x_r (16 * 19 + 0), x_i a, x_i b] (al, ro, fl (ml M [3, 18, 19] [N, Th, La])) 0 0 (.inl (some (x_i t.1))) (al, ro, fl (ml M [3, 18, 19] [N, t.2.1, t.2.2])) := by
  have hn : ([3, 18, 19] : List Nat).Nodup := by decide
  refine cal_of_ev (plainFor_of_name (by decide)) (x_c1 rfl) (Nat.le_of_ble_eq_true rfl) hst ?_
  show Ev g _ _ _ _ _ _ 0 [some (x_r (16 * 22 + 0)), some (x_r (16 * 3 + 0)), some (x_r (16 * 19 + 0)), some (x_i a), some (x_i b), none] [] (al, ro, fl (ml M [3, 18, 19] [N, Th, La])) _ _ _ _
  rw [G3_firstTogether] at hG
  refine e_aloadn (pc := 0) (i := 0) dX3_firstTogether_0 rfl rfl ?_
  refine e_aloadn (pc := 1) (i := 1) dX3_firstTogether_1 rfl rfl ?_
  obtain ⟨Th1, hq1, hG⟩ := x_bd1 hG
  refine e_invV (pc := 2) (K1 := 0) (S1 := 0) (K := 0) (S := 0) (dd2 := 3) (av := [x_r (16 * 3 + 0)]) (st := []) (id := 16 * 22 + 0) dX3_firstTogether_2 xmX3_34 rfl (Or.inl ⟨2, 3, TX3, (sa_22_0 hs), rfl, by decide⟩) (f_cal (M := M) (us2 := [3, 18]) [0, 1] hn rfl (And.intro rfl (And.intro rfl trivial)) rfl rfl rfl (c_X3_look hst hs   hq1)) (by decide) (Nat.le_of_ble_eq_true rfl) (Or.inl rfl) ?_
  show Ev g _ _ _ _ _ _ 5 [some (x_r (16 * 22 + 0)), some (x_r (16 * 3 + 0)), some (x_r (16 * 19 + 0)), some (x_i a), some (x_i b), none] [] (al, ro, fl (ml M [3, 18, 19] [N, Th1, La])) _ _ _ _
  refine e_iconst (pc := 5) dX3_firstTogether_5 (x_R rfl) ?_
  refine e_istore (pc := 6) (i := 5) dX3_firstTogether_6 (by decide) rfl ?_
  show Ev g _ _ _ _ _ _ 8 [some (x_r (16 * 22 + 0)), some (x_r (16 * 3 + 0)), some (x_r (16 * 19 + 0)), some (x_i a), some (x_i b), some (x_i 0)] [] (al, ro, fl (ml M [3, 18, 19] [N, Th1, La])) _ _ _ _
  obtain ⟨r8, hl8, hG⟩ := x_lrd hG
  have hk8 : ∀ q : (xU × xU), r8 = .inl q → Ev g yX3_firstTogether cX3_firstTogether 6 (some .int) [] 5 66 [some (x_r (16 * 22 + 0)), some (x_r (16 * 3 + 0)), some (x_r (16 * 19 + 0)), some (x_i a), some (x_i b), none] [] (al, ro, fl (ml M [3, 18, 19] [N, q.1, q.2])) 0 0 (.inl (some (x_i t.1))) (al, ro, fl (ml M [3, 18, 19] [N, t.2.1, t.2.2])) := by
    intro q hq
    subst hq
    replace hG := x_lr_l hG
    obtain ⟨Th6, La7⟩ := q
    replace hG := x_ed2 hG
    refine e_iconst (pc := 66) dX3_firstTogether_66 (x_R rfl) ?_
    cases hG
    exact (e_ireturn rfl dX3_firstTogether_67 rfl)
  have hv8 : ∀ q : (Int × xU × xU), r8 = .inr q → some q = some t := by
    intro q hq
    subst hq
    exact x_lr_r hG
  clear hG
  refine e_whl (G3_firstTogether_L8 a b) (fun z : (Int × xU × xU) => Ev g yX3_firstTogether cX3_firstTogether 6 (some .int) [] 5 8 [some (x_r (16 * 22 + 0)), some (x_r (16 * 3 + 0)), some (x_r (16 * 19 + 0)), some (x_i a), some (x_i b), some (x_i z.1)] [] (al, ro, fl (ml M [3, 18, 19] [N, z.2.1, z.2.2])) 0 0 (.inl (some (x_i t.1))) (al, ro, fl (ml M [3, 18, 19] [N, t.2.1, t.2.2]))) (fun q => q = r8) ?_ xFU (0, Th1, La) _ hl8 rfl
  intro z t8 hf8 hi8 hx8
  obtain ⟨v3, Th4, La5⟩ := z
  rw [G3_firstTogether_L8] at hf8
  show Ev g _ _ _ _ _ _ 8 [some (x_r (16 * 22 + 0)), some (x_r (16 * 3 + 0)), some (x_r (16 * 19 + 0)), some (x_i a), some (x_i b), some (x_i v3)] [] (al, ro, fl (ml M [3, 18, 19] [N, Th4, La5])) _ _ _ _
  refine e_iload (pc := 8) dX3_firstTogether_8 rfl ?_
  refine e_bipush (pc := 10) dX3_firstTogether_10 (by decide +kernel) (x_R rfl) ?_
  refine e_icmp_gt (pc := 12) (tgt := 66) dX3_firstTogether_12 (by decide) (fun hb => ?_) (fun hb => ?_)
  · rw [if_pos hb] at hf8
    cases hf8
    refine e_drop (i := 5) ?_
    have hh := hk8 _ (hx8 _ rfl).symm
    try dsimp only at hh
    exact hh
  · rw [if_neg hb] at hf8
    refine e_aloadn (pc := 15) (i := 0) dX3_firstTogether_15 rfl rfl ?_
    refine f_getr (pc := 16) (u := 22) (q := 0) dX3_firstTogether_16 xf3_12 (sa_22_0 hs) rfl (sr_22_0_0 hs) ?_
    refine e_iloadn (pc := 19) (i := 3) dX3_firstTogether_19 rfl rfl ?_
    obtain ⟨v10, hq10, hf8⟩ := x_bd1 hf8
    refine e_invV (pc := 20) (K1 := 0) (S1 := 0) (K := 0) (S := 0) (dd2 := 1) (av := [x_i a]) (st := []) (id := 16 * 18 + 0) dX3_firstTogether_20 xmX3_41 rfl (Or.inl ⟨1, 12, TX1, (sa_18_0 hs), rfl, by decide⟩) (f_cal (M := M) (us2 := [18]) [1] hn rfl (And.intro rfl trivial) rfl rfl rfl (c_X1_isLost hst hs (by decide)  hq10)) (by decide) (Nat.le_of_ble_eq_true rfl) (Or.inl rfl) ?_
    show Ev g _ _ _ _ _ _ 23 [some (x_r (16 * 22 + 0)), some (x_r (16 * 3 + 0)), some (x_r (16 * 19 + 0)), some (x_i a), some (x_i b), some (x_i v3)] [x_i v10] (al, ro, fl (ml M [3, 18, 19] [N, Th4, La5])) _ _ _ _
    refine e_if_ne (pc := 23) (tgt := 50) dX3_firstTogether_23 (by decide) (fun hb => ?_) (fun hb => ?_)
    · rw [if_neg hb] at hf8
      refine e_aloadn (pc := 50) (i := 0) dX3_firstTogether_50 rfl rfl ?_
      refine f_getr (pc := 51) (u := 22) (q := 0) dX3_firstTogether_51 xf3_12 (sa_22_0 hs) rfl (sr_22_0_0 hs) ?_
      refine e_aloadn (pc := 54) (i := 2) dX3_firstTogether_54 rfl rfl ?_
      refine e_iconst (pc := 55) dX3_firstTogether_55 (x_R rfl) ?_
      obtain ⟨v12, Th13, La14, hq14, hf8⟩ := x_bd3 hf8
      refine e_invV (pc := 56) (K1 := 0) (S1 := 0) (K := 0) (S := 0) (dd2 := 4) (av := [x_r (16 * 19 + 0), x_i 0]) (st := []) (id := 16 * 18 + 0) dX3_firstTogether_56 xmX3_30 rfl (Or.inl ⟨1, 12, TX1, (sa_18_0 hs), rfl, by decide⟩) (f_cal (M := M) (us2 := [18, 19]) [1, 2] hn rfl (And.intro rfl (And.intro rfl trivial)) rfl rfl rfl (c_X1_passHour hst hs (by decide)  hq14)) (by decide) (Nat.le_of_ble_eq_true rfl) (Or.inl rfl) ?_
      show Ev g _ _ _ _ _ _ 59 [some (x_r (16 * 22 + 0)), some (x_r (16 * 3 + 0)), some (x_r (16 * 19 + 0)), some (x_i a), some (x_i b), some (x_i v3)] [x_i v12] (al, ro, fl (ml M [3, 18, 19] [N, Th13, La14])) _ _ _ _
      refine e_pop (pc := 59) dX3_firstTogether_59 rfl ?_
      refine e_iinc (pc := 60) dX3_firstTogether_60 rfl (by decide) rfl ?_
      show Ev g _ _ _ _ _ _ 63 [some (x_r (16 * 22 + 0)), some (x_r (16 * 3 + 0)), some (x_r (16 * 19 + 0)), some (x_i a), some (x_i b), some (x_i (x_add v3 1))] [] (al, ro, fl (ml M [3, 18, 19] [N, Th13, La14])) _ _ _ _
      refine e_goto (pc := 63) (tgt := 8) dX3_firstTogether_63 (by decide) ?_
      cases hf8
      have hh := hi8 _ rfl
      try dsimp only at hh
      exact hh
    · rw [if_pos hb] at hf8
      refine e_aloadn (pc := 26) (i := 0) dX3_firstTogether_26 rfl rfl ?_
      refine f_getr (pc := 27) (u := 22) (q := 0) dX3_firstTogether_27 xf3_12 (sa_22_0 hs) rfl (sr_22_0_0 hs) ?_
      refine e_iload (pc := 30) dX3_firstTogether_30 rfl ?_
      refine e_aloadn (pc := 32) (i := 0) dX3_firstTogether_32 rfl rfl ?_
      refine f_getr (pc := 33) (u := 22) (q := 0) dX3_firstTogether_33 xf3_12 (sa_22_0 hs) rfl (sr_22_0_0 hs) ?_
      refine e_iconst (pc := 36) dX3_firstTogether_36 (x_R rfl) ?_
      refine e_iloadn (pc := 37) (i := 3) dX3_firstTogether_37 rfl rfl ?_
      obtain ⟨v16, hq16, hf8⟩ := x_bd1 hf8
      refine e_invV (pc := 38) (K1 := 0) (S1 := 0) (K := 0) (S := 0) (dd2 := 0) (av := [x_i 0, x_i a]) (st := [x_i b, x_r (16 * 18 + 0)]) (id := 16 * 18 + 0) dX3_firstTogether_38 xmX3_45 rfl (Or.inl ⟨1, 12, TX1, (sa_18_0 hs), rfl, by decide⟩) (f_cal (M := M) (us2 := [18]) [1] hn rfl (And.intro rfl trivial) rfl rfl rfl (c_X1_of hst hs (by decide)  hq16)) (by decide) (Nat.le_of_ble_eq_true rfl) (Or.inl rfl) ?_
      show Ev g _ _ _ _ _ _ 41 [some (x_r (16 * 22 + 0)), some (x_r (16 * 3 + 0)), some (x_r (16 * 19 + 0)), some (x_i a), some (x_i b), some (x_i v3)] [x_i v16, x_i b, x_r (16 * 18 + 0)] (al, ro, fl (ml M [3, 18, 19] [N, Th4, La5])) _ _ _ _
      obtain ⟨v18, hq18, hf8⟩ := x_bd1 hf8
      refine e_invV (pc := 41) (K1 := 0) (S1 := 0) (K := 0) (S := 0) (dd2 := 1) (av := [x_i b, x_i v16]) (st := []) (id := 16 * 18 + 0) dX3_firstTogether_41 xmX3_37 rfl (Or.inl ⟨1, 12, TX1, (sa_18_0 hs), rfl, by decide⟩) (f_cal (M := M) (us2 := [18]) [1] hn rfl (And.intro rfl trivial) rfl rfl rfl (c_X1_isAt hst hs (by decide)  hq18)) (by decide) (Nat.le_of_ble_eq_true rfl) (Or.inl rfl) ?_
      show Ev g _ _ _ _ _ _ 44 [some (x_r (16 * 22 + 0)), some (x_r (16 * 3 + 0)), some (x_r (16 * 19 + 0)), some (x_i a), some (x_i b), some (x_i v3)] [x_i v18] (al, ro, fl (ml M [3, 18, 19] [N, Th4, La5])) _ _ _ _
      refine e_if_eq (pc := 44) (tgt := 50) dX3_firstTogether_44 (by decide) (fun hb => ?_) (fun hb => ?_)
      · rw [if_pos hb] at hf8
        refine e_aloadn (pc := 50) (i := 0) dX3_firstTogether_50 rfl rfl ?_
        refine f_getr (pc := 51) (u := 22) (q := 0) dX3_firstTogether_51 xf3_12 (sa_22_0 hs) rfl (sr_22_0_0 hs) ?_
        refine e_aloadn (pc := 54) (i := 2) dX3_firstTogether_54 rfl rfl ?_
        refine e_iconst (pc := 55) dX3_firstTogether_55 (x_R rfl) ?_
        obtain ⟨v20, Th21, La22, hq22, hf8⟩ := x_bd3 hf8
        refine e_invV (pc := 56) (K1 := 0) (S1 := 0) (K := 0) (S := 0) (dd2 := 4) (av := [x_r (16 * 19 + 0), x_i 0]) (st := []) (id := 16 * 18 + 0) dX3_firstTogether_56 xmX3_30 rfl (Or.inl ⟨1, 12, TX1, (sa_18_0 hs), rfl, by decide⟩) (f_cal (M := M) (us2 := [18, 19]) [1, 2] hn rfl (And.intro rfl (And.intro rfl trivial)) rfl rfl rfl (c_X1_passHour hst hs (by decide)  hq22)) (by decide) (Nat.le_of_ble_eq_true rfl) (Or.inl rfl) ?_
        show Ev g _ _ _ _ _ _ 59 [some (x_r (16 * 22 + 0)), some (x_r (16 * 3 + 0)), some (x_r (16 * 19 + 0)), some (x_i a), some (x_i b), some (x_i v3)] [x_i v20] (al, ro, fl (ml M [3, 18, 19] [N, Th21, La22])) _ _ _ _
        refine e_pop (pc := 59) dX3_firstTogether_59 rfl ?_
        refine e_iinc (pc := 60) dX3_firstTogether_60 rfl (by decide) rfl ?_
        show Ev g _ _ _ _ _ _ 63 [some (x_r (16 * 22 + 0)), some (x_r (16 * 3 + 0)), some (x_r (16 * 19 + 0)), some (x_i a), some (x_i b), some (x_i (x_add v3 1))] [] (al, ro, fl (ml M [3, 18, 19] [N, Th21, La22])) _ _ _ _
        refine e_goto (pc := 63) (tgt := 8) dX3_firstTogether_63 (by decide) ?_
        cases hf8
        have hh := hi8 _ rfl
        try dsimp only at hh
        exact hh
      · rw [if_neg hb] at hf8
        refine e_iload (pc := 47) dX3_firstTogether_47 rfl ?_
        cases hf8
        have hz := hv8 _ (hx8 _ rfl).symm
        cases hz
        exact (e_ireturn rfl dX3_firstTogether_49 rfl)
set_option maxRecDepth 100000 in
set_option maxHeartbeats 4000000 in
theorem c_X3_firstHunger {g : xG} {al : List (Nat × Nat × Nat)} {ro : Nat → Nat → Option Nat} (hst : g.1.stackTraces = false) (hs : SH al ro) {M : Nat → xU} {N : xU} {Th : xU} {La : xU}  {t : (Int × xU × xU)} (hG : G3_firstHunger N Th La = some t) :
    Cal g yX3_firstHunger cX3_firstHunger 4 (some .int) 5 [x_r (16 * 22 + 0), x_r (16 * 3 + 0), x_r (16 * 19 + 0)] (al, ro, fl (ml M [3, 18, 19] [N, Th, La])) 0 0 (.inl (some (x_i t.1))) (al, ro, fl (ml M [3, 18, 19] [N, t.2.1, t.2.2])) := by
  have hn : ([3, 18, 19] : List Nat).Nodup := by decide
  refine cal_of_ev (plainFor_of_name (by decide)) (x_c1 rfl) (Nat.le_of_ble_eq_true rfl) hst ?_
  show Ev g _ _ _ _ _ _ 0 [some (x_r (16 * 22 + 0)), some (x_r (16 * 3 + 0)), some (x_r (16 * 19 + 0)), none] [] (al, ro, fl (ml M [3, 18, 19] [N, Th, La])) _ _ _ _
  rw [G3_firstHunger] at hG
  refine e_aloadn (pc := 0) (i := 0) dX3_firstHunger_0 rfl rfl ?_
  refine e_aloadn (pc := 1) (i := 1) dX3_firstHunger_1 rfl rfl ?_
  obtain ⟨Th1, hq1, hG⟩ := x_bd1 hG
  refine e_invV (pc := 2) (K1 := 0) (S1 := 0) (K := 0) (S := 0) (dd2 := 3) (av := [x_r (16 * 3 + 0)]) (st := []) (id := 16 * 22 + 0) dX3_firstHunger_2 xmX3_34 rfl (Or.inl ⟨2, 3, TX3, (sa_22_0 hs), rfl, by decide⟩) (f_cal (M := M) (us2 := [3, 18]) [0, 1] hn rfl (And.intro rfl (And.intro rfl trivial)) rfl rfl rfl (c_X3_look hst hs   hq1)) (by decide) (Nat.le_of_ble_eq_true rfl) (Or.inl rfl) ?_
  show Ev g _ _ _ _ _ _ 5 [some (x_r (16 * 22 + 0)), some (x_r (16 * 3 + 0)), some (x_r (16 * 19 + 0)), none] [] (al, ro, fl (ml M [3, 18, 19] [N, Th1, La])) _ _ _ _
  refine e_iconst (pc := 5) dX3_firstHunger_5 (x_R rfl) ?_
  refine e_istoren (pc := 6) (i := 3) dX3_firstHunger_6 rfl (by decide) rfl ?_
  show Ev g _ _ _ _ _ _ 7 [some (x_r (16 * 22 + 0)), some (x_r (16 * 3 + 0)), some (x_r (16 * 19 + 0)), some (x_i 0)] [] (al, ro, fl (ml M [3, 18, 19] [N, Th1, La])) _ _ _ _
  obtain ⟨r8, hl8, hG⟩ := x_lrd hG
  have hk8 : ∀ q : (xU × xU), r8 = .inl q → Ev g yX3_firstHunger cX3_firstHunger 4 (some .int) [] 5 43 [some (x_r (16 * 22 + 0)), some (x_r (16 * 3 + 0)), some (x_r (16 * 19 + 0)), none] [] (al, ro, fl (ml M [3, 18, 19] [N, q.1, q.2])) 0 0 (.inl (some (x_i t.1))) (al, ro, fl (ml M [3, 18, 19] [N, t.2.1, t.2.2])) := by
    intro q hq
    subst hq
    replace hG := x_lr_l hG
    obtain ⟨Th6, La7⟩ := q
    replace hG := x_ed2 hG
    refine e_iconst (pc := 43) dX3_firstHunger_43 (x_R rfl) ?_
    cases hG
    exact (e_ireturn rfl dX3_firstHunger_44 rfl)
  have hv8 : ∀ q : (Int × xU × xU), r8 = .inr q → some q = some t := by
    intro q hq
    subst hq
    exact x_lr_r hG
  clear hG
  refine e_whl G3_firstHunger_L7 (fun z : (Int × xU × xU) => Ev g yX3_firstHunger cX3_firstHunger 4 (some .int) [] 5 7 [some (x_r (16 * 22 + 0)), some (x_r (16 * 3 + 0)), some (x_r (16 * 19 + 0)), some (x_i z.1)] [] (al, ro, fl (ml M [3, 18, 19] [N, z.2.1, z.2.2])) 0 0 (.inl (some (x_i t.1))) (al, ro, fl (ml M [3, 18, 19] [N, t.2.1, t.2.2]))) (fun q => q = r8) ?_ xFU (0, Th1, La) _ hl8 rfl
  intro z t8 hf8 hi8 hx8
  obtain ⟨v3, Th4, La5⟩ := z
  rw [G3_firstHunger_L7] at hf8
  show Ev g _ _ _ _ _ _ 7 [some (x_r (16 * 22 + 0)), some (x_r (16 * 3 + 0)), some (x_r (16 * 19 + 0)), some (x_i v3)] [] (al, ro, fl (ml M [3, 18, 19] [N, Th4, La5])) _ _ _ _
  refine e_iloadn (pc := 7) (i := 3) dX3_firstHunger_7 rfl rfl ?_
  refine e_bipush (pc := 8) dX3_firstHunger_8 (by decide +kernel) (x_R rfl) ?_
  refine e_icmp_gt (pc := 10) (tgt := 43) dX3_firstHunger_10 (by decide) (fun hb => ?_) (fun hb => ?_)
  · rw [if_pos hb] at hf8
    cases hf8
    refine e_drop (i := 3) ?_
    have hh := hk8 _ (hx8 _ rfl).symm
    try dsimp only at hh
    exact hh
  · rw [if_neg hb] at hf8
    refine e_aloadn (pc := 13) (i := 0) dX3_firstHunger_13 rfl rfl ?_
    refine f_getr (pc := 14) (u := 22) (q := 0) dX3_firstHunger_14 xf3_12 (sa_22_0 hs) rfl (sr_22_0_0 hs) ?_
    refine e_bipush (pc := 17) dX3_firstHunger_17 (by decide +kernel) (x_R rfl) ?_
    obtain ⟨v10, hq10, hf8⟩ := x_bd1 hf8
    refine e_invV (pc := 19) (K1 := 0) (S1 := 0) (K := 0) (S := 0) (dd2 := 1) (av := [x_i 6]) (st := []) (id := 16 * 18 + 0) dX3_firstHunger_19 xmX3_49 rfl (Or.inl ⟨1, 12, TX1, (sa_18_0 hs), rfl, by decide⟩) (f_cal (M := M) (us2 := [18]) [1] hn rfl (And.intro rfl trivial) rfl rfl rfl (c_X1_sumOf hst hs (by decide)  hq10)) (by decide) (Nat.le_of_ble_eq_true rfl) (Or.inl rfl) ?_
    show Ev g _ _ _ _ _ _ 22 [some (x_r (16 * 22 + 0)), some (x_r (16 * 3 + 0)), some (x_r (16 * 19 + 0)), some (x_i v3)] [x_i v10] (al, ro, fl (ml M [3, 18, 19] [N, Th4, La5])) _ _ _ _
    refine e_if_le (pc := 22) (tgt := 27) dX3_firstHunger_22 (by decide) (fun hb => ?_) (fun hb => ?_)
    · rw [if_pos hb] at hf8
      refine e_aloadn (pc := 27) (i := 0) dX3_firstHunger_27 rfl rfl ?_
      refine f_getr (pc := 28) (u := 22) (q := 0) dX3_firstHunger_28 xf3_12 (sa_22_0 hs) rfl (sr_22_0_0 hs) ?_
      refine e_aloadn (pc := 31) (i := 2) dX3_firstHunger_31 rfl rfl ?_
      refine e_iconst (pc := 32) dX3_firstHunger_32 (x_R rfl) ?_
      obtain ⟨v12, Th13, La14, hq14, hf8⟩ := x_bd3 hf8
      refine e_invV (pc := 33) (K1 := 0) (S1 := 0) (K := 0) (S := 0) (dd2 := 4) (av := [x_r (16 * 19 + 0), x_i 0]) (st := []) (id := 16 * 18 + 0) dX3_firstHunger_33 xmX3_30 rfl (Or.inl ⟨1, 12, TX1, (sa_18_0 hs), rfl, by decide⟩) (f_cal (M := M) (us2 := [18, 19]) [1, 2] hn rfl (And.intro rfl (And.intro rfl trivial)) rfl rfl rfl (c_X1_passHour hst hs (by decide)  hq14)) (by decide) (Nat.le_of_ble_eq_true rfl) (Or.inl rfl) ?_
      show Ev g _ _ _ _ _ _ 36 [some (x_r (16 * 22 + 0)), some (x_r (16 * 3 + 0)), some (x_r (16 * 19 + 0)), some (x_i v3)] [x_i v12] (al, ro, fl (ml M [3, 18, 19] [N, Th13, La14])) _ _ _ _
      refine e_pop (pc := 36) dX3_firstHunger_36 rfl ?_
      refine e_iinc (pc := 37) dX3_firstHunger_37 rfl (by decide) rfl ?_
      show Ev g _ _ _ _ _ _ 40 [some (x_r (16 * 22 + 0)), some (x_r (16 * 3 + 0)), some (x_r (16 * 19 + 0)), some (x_i (x_add v3 1))] [] (al, ro, fl (ml M [3, 18, 19] [N, Th13, La14])) _ _ _ _
      refine e_goto (pc := 40) (tgt := 7) dX3_firstHunger_40 (by decide) ?_
      cases hf8
      have hh := hi8 _ rfl
      try dsimp only at hh
      exact hh
    · rw [if_neg hb] at hf8
      refine e_iloadn (pc := 25) (i := 3) dX3_firstHunger_25 rfl rfl ?_
      cases hf8
      have hz := hv8 _ (hx8 _ rfl).symm
      cases hz
      exact (e_ireturn rfl dX3_firstHunger_26 rfl)
set_option maxRecDepth 100000 in
set_option maxHeartbeats 4000000 in
theorem c_X3_countLate {g : xG} {al : List (Nat × Nat × Nat)} {ro : Nat → Nat → Option Nat} (hst : g.1.stackTraces = false) (hs : SH al ro) {M : Nat → xU} {a : Int} {Fo : xU}  {t : (Int × xU)} (hG : G3_countLate a Fo = some t) :
    Cal g yX3_countLate cX3_countLate 3 (some .int) 1 [x_r (16 * 22 + 0), x_i a] (al, ro, fl (ml M [22] [Fo])) 0 0 (.inl (some (x_i t.1))) (al, ro, fl (ml M [22] [t.2])) := by
  have hn : ([22] : List Nat).Nodup := by decide
  refine cal_of_ev (plainFor_of_name (by decide)) (x_c1 rfl) (Nat.le_of_ble_eq_true rfl) hst ?_
  show Ev g _ _ _ _ _ _ 0 [some (x_r (16 * 22 + 0)), some (x_i a), none] [] (al, ro, fl (ml M [22] [Fo])) _ _ _ _
  rw [G3_countLate] at hG
  refine e_iconst (pc := 0) dX3_countLate_0 (x_R rfl) ?_
  refine e_istoren (pc := 1) (i := 2) dX3_countLate_1 rfl (by decide) rfl ?_
  show Ev g _ _ _ _ _ _ 2 [some (x_r (16 * 22 + 0)), some (x_i a), some (x_i 0)] [] (al, ro, fl (ml M [22] [Fo])) _ _ _ _
  obtain ⟨Fo3, hl4, hG⟩ := x_bd1 hG
  have hk4 : ∀ q : xU, q = Fo3 → Ev g yX3_countLate cX3_countLate 3 (some .int) [] 1 32 [some (x_r (16 * 22 + 0)), some (x_i a), none] [] (al, ro, fl (ml M [22] [q])) 0 0 (.inl (some (x_i t.1))) (al, ro, fl (ml M [22] [t.2])) := by
    intro q hq
    replace hq := hq.symm
    subst hq
    refine e_iloadn (pc := 32) (i := 1) dX3_countLate_32 rfl rfl ?_
    refine e_invS (pc := 33) (K1 := 0) (S1 := 0) (K := 0) (S := 0) (dd2 := 0) (av := [x_i a]) (st := []) dX3_countLate_33 xmX3_63 rfl (p_bitCount hst hs) (by decide) (Nat.le_of_ble_eq_true rfl) (Or.inl rfl) ?_
    show Ev g _ _ _ _ _ _ 36 [some (x_r (16 * 22 + 0)), some (x_i a), none] [x_i (x_bc a)] (al, ro, fl (ml M [22] [Fo3])) _ _ _ _
    cases hG
    exact (e_ireturn rfl dX3_countLate_36 rfl)
  clear hG
  refine e_whl (G3_countLate_L2 a) (fun z : (Int × xU) => Ev g yX3_countLate cX3_countLate 3 (some .int) [] 1 2 [some (x_r (16 * 22 + 0)), some (x_i a), some (x_i z.1)] [] (al, ro, fl (ml M [22] [z.2])) 0 0 (.inl (some (x_i t.1))) (al, ro, fl (ml M [22] [t.2]))) (fun q => q = Fo3) ?_ xFU (0, Fo) _ hl4 rfl
  intro z t4 hf4 hi4 hx4
  obtain ⟨v1, Fo2⟩ := z
  rw [G3_countLate_L2] at hf4
  show Ev g _ _ _ _ _ _ 2 [some (x_r (16 * 22 + 0)), some (x_i a), some (x_i v1)] [] (al, ro, fl (ml M [22] [Fo2])) _ _ _ _
  refine e_iloadn (pc := 2) (i := 2) dX3_countLate_2 rfl rfl ?_
  refine e_bipush (pc := 3) dX3_countLate_3 (by decide +kernel) (x_R rfl) ?_
  refine e_icmp_ge (pc := 5) (tgt := 32) dX3_countLate_5 (by decide) (fun hb => ?_) (fun hb => ?_)
  · rw [if_pos hb] at hf4
    cases hf4
    refine e_drop (i := 2) ?_
    have hh := hk4 _ (hx4 _ rfl)
    try dsimp only at hh
    exact hh
  · rw [if_neg hb] at hf4
    refine e_iloadn (pc := 8) (i := 1) dX3_countLate_8 rfl rfl ?_
    refine e_iloadn (pc := 9) (i := 2) dX3_countLate_9 rfl rfl ?_
    obtain ⟨v6, hq6, hf4⟩ := x_bd1 hf4
    refine e_invS (pc := 10) (K1 := 0) (S1 := 0) (K := 0) (S := 0) (dd2 := 0) (av := [x_i a, x_i v1]) (st := []) dX3_countLate_10 xmX3_60 rfl (f_cal (M := M) (us2 := []) [] hn rfl trivial rfl rfl rfl (c_X11_holdsBit hst hs   hq6)) (by decide) (Nat.le_of_ble_eq_true rfl) (Or.inl rfl) ?_
    show Ev g _ _ _ _ _ _ 13 [some (x_r (16 * 22 + 0)), some (x_i a), some (x_i v1)] [x_i v6] (al, ro, fl (ml M [22] [Fo2])) _ _ _ _
    obtain ⟨Fo8, hr8, hf4⟩ := x_bd1 hf4
    have hjhr8 : Ev g yX3_countLate cX3_countLate 3 (some .int) [] 1 26 [some (x_r (16 * 22 + 0)), some (x_i a), some (x_i v1)] [] (al, ro, fl (ml M [22] [Fo8])) 0 0 (.inl (some (x_i t.1))) (al, ro, fl (ml M [22] [t.2])) := by
      refine e_iinc (pc := 26) dX3_countLate_26 rfl (by decide) rfl ?_
      show Ev g _ _ _ _ _ _ 29 [some (x_r (16 * 22 + 0)), some (x_i a), some (x_i (x_add v1 1))] [] (al, ro, fl (ml M [22] [Fo8])) _ _ _ _
      refine e_goto (pc := 29) (tgt := 2) dX3_countLate_29 (by decide) ?_
      cases hf4
      have hh := hi4 _ rfl
      try dsimp only at hh
      exact hh
    clear hf4
    refine e_if_eq (pc := 13) (tgt := 26) dX3_countLate_13 (by decide) (fun hb => ?_) (fun hb => ?_)
    · rw [if_pos hb] at hr8
      cases hr8
      exact hjhr8
    · rw [if_neg hb] at hr8
      refine e_aloadn (pc := 16) (i := 0) dX3_countLate_16 rfl rfl ?_
      refine f_getr (pc := 17) (u := 22) (q := 0) dX3_countLate_17 xf3_18 (sa_22_0 hs) rfl (sr_22_0_1 hs) ?_
      refine e_iloadn (pc := 20) (i := 2) dX3_countLate_20 rfl rfl ?_
      refine e_dup2 (pc := 21) dX3_countLate_21 rfl rfl ?_
      obtain ⟨hc0, hr8⟩ := x_gd_some hr8
      refine f_iald (pc := 22) (k := 0) (u := 22) (q := 1) (len := 7) dX3_countLate_22 (sa_22_1 hs) hc0 hn rfl rfl (by decide) ?_
      show Ev g _ _ _ _ _ _ 23 [some (x_r (16 * 22 + 0)), some (x_i a), some (x_i v1)] [x_i (Fo2 1 (v1).toNat), x_i v1, x_r (16 * 22 + 1)] (al, ro, fl (ml M [22] [Fo2])) _ _ _ _
      refine e_iconst (pc := 23) dX3_countLate_23 (x_R rfl) ?_
      refine e_iadd (pc := 24) dX3_countLate_24 ?_
      obtain ⟨hc0, hr8⟩ := x_gd_some hr8
      refine f_iast (pc := 25) (k := 0) (u := 22) (q := 1) (len := 7) dX3_countLate_25 (sa_22_1 hs) hc0 hn rfl rfl rfl (by decide) ?_
      show Ev g _ _ _ _ _ _ 26 [some (x_r (16 * 22 + 0)), some (x_i a), some (x_i v1)] [] (al, ro, fl (ml M [22] [(x_up Fo2 1 (v1).toNat (x_add (Fo2 1 (v1).toNat) 1))])) _ _ _ _
      cases hr8
      exact hjhr8
set_option maxRecDepth 100000 in
set_option maxHeartbeats 4000000 in
theorem c_X3_passOffices {g : xG} {al : List (Nat × Nat × Nat)} {ro : Nat → Nat → Option Nat} (hst : g.1.stackTraces = false) (hs : SH al ro) {M : Nat → xU} {a : Int} {Th : xU} {La : xU} {Fo : xU}  {t : (Int × xU × xU × xU)} (hG : G3_passOffices a Th La Fo = some t) :
    Cal g yX3_passOffices cX3_passOffices 6 (some .int) 5 [x_r (16 * 22 + 0), x_r (16 * 19 + 0), x_i a] (al, ro, fl (ml M [18, 19, 22] [Th, La, Fo])) 0 0 (.inl (some (x_i t.1))) (al, ro, fl (ml M [18, 19, 22] [t.2.1, t.2.2.1, t.2.2.2])) := by
  have hn : ([18, 19, 22] : List Nat).Nodup := by decide
  refine cal_of_ev (plainFor_of_name (by decide)) (x_c1 rfl) (Nat.le_of_ble_eq_true rfl) hst ?_
  show Ev g _ _ _ _ _ _ 0 [some (x_r (16 * 22 + 0)), some (x_r (16 * 19 + 0)), some (x_i a), none, none, none] [] (al, ro, fl (ml M [18, 19, 22] [Th, La, Fo])) _ _ _ _
  rw [G3_passOffices] at hG
  refine e_iconst (pc := 0) dX3_passOffices_0 (x_R rfl) ?_
  refine e_istoren (pc := 1) (i := 3) dX3_passOffices_1 rfl (by decide) rfl ?_
  show Ev g _ _ _ _ _ _ 2 [some (x_r (16 * 22 + 0)), some (x_r (16 * 19 + 0)), some (x_i a), some (x_i 0), none, none] [] (al, ro, fl (ml M [18, 19, 22] [Th, La, Fo])) _ _ _ _
  obtain ⟨Fo3, hl4, hG⟩ := x_bd1 hG
  have hk4 : ∀ q : xU, q = Fo3 → Ev g yX3_passOffices cX3_passOffices 6 (some .int) [] 5 21 [some (x_r (16 * 22 + 0)), some (x_r (16 * 19 + 0)), some (x_i a), none, none, none] [] (al, ro, fl (ml M [18, 19, 22] [Th, La, q])) 0 0 (.inl (some (x_i t.1))) (al, ro, fl (ml M [18, 19, 22] [t.2.1, t.2.2.1, t.2.2.2])) := by
    intro q hq
    replace hq := hq.symm
    subst hq
    refine e_iconst (pc := 21) dX3_passOffices_21 (x_R rfl) ?_
    refine e_istoren (pc := 22) (i := 3) dX3_passOffices_22 rfl (by decide) rfl ?_
    show Ev g _ _ _ _ _ _ 23 [some (x_r (16 * 22 + 0)), some (x_r (16 * 19 + 0)), some (x_i a), some (x_i 0), none, none] [] (al, ro, fl (ml M [18, 19, 22] [Th, La, Fo3])) _ _ _ _
    refine e_iconst (pc := 23) dX3_passOffices_23 (x_R rfl) ?_
    refine e_istore (pc := 24) (i := 4) dX3_passOffices_24 (by decide) rfl ?_
    show Ev g _ _ _ _ _ _ 26 [some (x_r (16 * 22 + 0)), some (x_r (16 * 19 + 0)), some (x_i a), some (x_i 0), some (x_i 0), none] [] (al, ro, fl (ml M [18, 19, 22] [Th, La, Fo3])) _ _ _ _
    refine e_iconst (pc := 26) dX3_passOffices_26 (x_R rfl) ?_
    refine e_istore (pc := 27) (i := 5) dX3_passOffices_27 (by decide) rfl ?_
    show Ev g _ _ _ _ _ _ 29 [some (x_r (16 * 22 + 0)), some (x_r (16 * 19 + 0)), some (x_i a), some (x_i 0), some (x_i 0), some (x_i 0)] [] (al, ro, fl (ml M [18, 19, 22] [Th, La, Fo3])) _ _ _ _
    obtain ⟨v12, Th13, La14, Fo15, hl16, hG⟩ := x_bd4 hG
    have hk16 : ∀ q : (Int × xU × xU × xU), q = (v12, Th13, La14, Fo15) → Ev g yX3_passOffices cX3_passOffices 6 (some .int) [] 5 80 [some (x_r (16 * 22 + 0)), some (x_r (16 * 19 + 0)), some (x_i a), none, some (x_i q.1), none] [] (al, ro, fl (ml M [18, 19, 22] [q.2.1, q.2.2.1, q.2.2.2])) 0 0 (.inl (some (x_i t.1))) (al, ro, fl (ml M [18, 19, 22] [t.2.1, t.2.2.1, t.2.2.2])) := by
      intro q hq
      cases hq
      refine e_iload (pc := 80) dX3_passOffices_80 rfl ?_
      cases hG
      exact (e_ireturn rfl dX3_passOffices_82 rfl)
    clear hG
    refine e_whl (G3_passOffices_L29 a) (fun z : (Int × Int × Int × xU × xU × xU) => Ev g yX3_passOffices cX3_passOffices 6 (some .int) [] 5 29 [some (x_r (16 * 22 + 0)), some (x_r (16 * 19 + 0)), some (x_i a), some (x_i z.1), some (x_i z.2.1), some (x_i z.2.2.1)] [] (al, ro, fl (ml M [18, 19, 22] [z.2.2.2.1, z.2.2.2.2.1, z.2.2.2.2.2])) 0 0 (.inl (some (x_i t.1))) (al, ro, fl (ml M [18, 19, 22] [t.2.1, t.2.2.1, t.2.2.2]))) (fun q => q = (v12, Th13, La14, Fo15)) ?_ xFU (0, 0, 0, Th, La, Fo3) _ hl16 rfl
    intro z t16 hf16 hi16 hx16
    obtain ⟨v6, v7, v8, Th9, La10, Fo11⟩ := z
    rw [G3_passOffices_L29] at hf16
    show Ev g _ _ _ _ _ _ 29 [some (x_r (16 * 22 + 0)), some (x_r (16 * 19 + 0)), some (x_i a), some (x_i v6), some (x_i v7), some (x_i v8)] [] (al, ro, fl (ml M [18, 19, 22] [Th9, La10, Fo11])) _ _ _ _
    refine e_iload (pc := 29) dX3_passOffices_29 rfl ?_
    refine e_bipush (pc := 31) dX3_passOffices_31 (by decide +kernel) (x_R rfl) ?_
    refine e_icmp_ge (pc := 33) (tgt := 80) dX3_passOffices_33 (by decide) (fun hb => ?_) (fun hb => ?_)
    · rw [if_pos hb] at hf16
      cases hf16
      refine e_drop (i := 3) ?_
      refine e_drop (i := 5) ?_
      have hh := hk16 _ (hx16 _ rfl)
      try dsimp only at hh
      exact hh
    · rw [if_neg hb] at hf16
      refine e_iloadn (pc := 36) (i := 3) dX3_passOffices_36 rfl rfl ?_
      refine e_iloadn (pc := 37) (i := 2) dX3_passOffices_37 rfl rfl ?_
      refine e_icmp_ge (pc := 38) (tgt := 80) dX3_passOffices_38 (by decide) (fun hb => ?_) (fun hb => ?_)
      · rw [if_pos hb] at hf16
        cases hf16
        refine e_drop (i := 3) ?_
        refine e_drop (i := 5) ?_
        have hh := hk16 _ (hx16 _ rfl)
        try dsimp only at hh
        exact hh
      · rw [if_neg hb] at hf16
        refine e_aloadn (pc := 41) (i := 0) dX3_passOffices_41 rfl rfl ?_
        refine f_getr (pc := 42) (u := 22) (q := 0) dX3_passOffices_42 xf3_12 (sa_22_0 hs) rfl (sr_22_0_0 hs) ?_
        refine f_geti (pc := 45) (k := 0) (u := 18) (q := 0) dX3_passOffices_45 xf3_53 (sa_18_0 hs) rfl hn rfl rfl (by decide) ?_
        show Ev g _ _ _ _ _ _ 48 [some (x_r (16 * 22 + 0)), some (x_r (16 * 19 + 0)), some (x_i a), some (x_i v6), some (x_i v7), some (x_i v8)] [x_i (Th9 0 5)] (al, ro, fl (ml M [18, 19, 22] [Th9, La10, Fo11])) _ _ _ _
        refine e_iconst (pc := 48) dX3_passOffices_48 (x_R rfl) ?_
        refine e_irem (pc := 49) dX3_passOffices_49 (by decide) ?_
        obtain ⟨v18, hr18, hf16⟩ := x_bd1 hf16
        have hjhr18 : Ev g yX3_passOffices cX3_passOffices 6 (some .int) [] 5 56 [some (x_r (16 * 22 + 0)), some (x_r (16 * 19 + 0)), some (x_i a), some (x_i v18), some (x_i v7), some (x_i v8)] [] (al, ro, fl (ml M [18, 19, 22] [Th9, La10, Fo11])) 0 0 (.inl (some (x_i t.1))) (al, ro, fl (ml M [18, 19, 22] [t.2.1, t.2.2.1, t.2.2.2])) := by
          refine e_iload (pc := 56) dX3_passOffices_56 rfl ?_
          refine e_aloadn (pc := 58) (i := 0) dX3_passOffices_58 rfl rfl ?_
          refine e_aloadn (pc := 59) (i := 0) dX3_passOffices_59 rfl rfl ?_
          refine f_getr (pc := 60) (u := 22) (q := 0) dX3_passOffices_60 xf3_12 (sa_22_0 hs) rfl (sr_22_0_0 hs) ?_
          refine e_aloadn (pc := 63) (i := 1) dX3_passOffices_63 rfl rfl ?_
          refine e_iconst (pc := 64) dX3_passOffices_64 (x_R rfl) ?_
          obtain ⟨v20, Th21, La22, hq22, hf16⟩ := x_bd3 hf16
          refine e_invV (pc := 65) (K1 := 0) (S1 := 0) (K := 0) (S := 0) (dd2 := 4) (av := [x_r (16 * 19 + 0), x_i 0]) (st := [x_r (16 * 22 + 0), x_i v7]) (id := 16 * 18 + 0) dX3_passOffices_65 xmX3_30 rfl (Or.inl ⟨1, 12, TX1, (sa_18_0 hs), rfl, by decide⟩) (f_cal (M := M) (us2 := [18, 19]) [0, 1] hn rfl (And.intro rfl (And.intro rfl trivial)) rfl rfl rfl (c_X1_passHour hst hs (by decide)  hq22)) (by decide) (Nat.le_of_ble_eq_true rfl) (Or.inl rfl) ?_
          show Ev g _ _ _ _ _ _ 68 [some (x_r (16 * 22 + 0)), some (x_r (16 * 19 + 0)), some (x_i a), some (x_i v18), some (x_i v7), some (x_i v8)] [x_i v20, x_r (16 * 22 + 0), x_i v7] (al, ro, fl (ml M [18, 19, 22] [Th21, La22, Fo11])) _ _ _ _
          obtain ⟨v24, Fo25, hq25, hf16⟩ := x_bd2 hf16
          refine e_invV (pc := 68) (K1 := 0) (S1 := 0) (K := 0) (S := 0) (dd2 := 1) (av := [x_i v20]) (st := [x_i v7]) (id := 16 * 22 + 0) dX3_passOffices_68 xmX3_57 rfl (Or.inl ⟨2, 3, TX3, (sa_22_0 hs), rfl, by decide⟩) (f_cal (M := M) (us2 := [22]) [2] hn rfl (And.intro rfl trivial) rfl rfl rfl (c_X3_countLate hst hs   hq25)) (by decide) (Nat.le_of_ble_eq_true rfl) (Or.inl rfl) ?_
          show Ev g _ _ _ _ _ _ 71 [some (x_r (16 * 22 + 0)), some (x_r (16 * 19 + 0)), some (x_i a), some (x_i v18), some (x_i v7), some (x_i v8)] [x_i v24, x_i v7] (al, ro, fl (ml M [18, 19, 22] [Th21, La22, Fo25])) _ _ _ _
          refine e_iadd (pc := 71) dX3_passOffices_71 ?_
          refine e_istore (pc := 72) (i := 4) dX3_passOffices_72 (by decide) rfl ?_
          show Ev g _ _ _ _ _ _ 74 [some (x_r (16 * 22 + 0)), some (x_r (16 * 19 + 0)), some (x_i a), some (x_i v18), some (x_i (x_add v7 v24)), some (x_i v8)] [] (al, ro, fl (ml M [18, 19, 22] [Th21, La22, Fo25])) _ _ _ _
          refine e_iinc (pc := 74) dX3_passOffices_74 rfl (by decide) rfl ?_
          show Ev g _ _ _ _ _ _ 77 [some (x_r (16 * 22 + 0)), some (x_r (16 * 19 + 0)), some (x_i a), some (x_i v18), some (x_i (x_add v7 v24)), some (x_i (x_add v8 1))] [] (al, ro, fl (ml M [18, 19, 22] [Th21, La22, Fo25])) _ _ _ _
          refine e_goto (pc := 77) (tgt := 29) dX3_passOffices_77 (by decide) ?_
          cases hf16
          have hh := hi16 _ rfl
          try dsimp only at hh
          exact hh
        clear hf16
        refine e_if_ne (pc := 50) (tgt := 56) dX3_passOffices_50 (by decide) (fun hb => ?_) (fun hb => ?_)
        · rw [if_neg hb] at hr18
          cases hr18
          exact hjhr18
        · rw [if_pos hb] at hr18
          refine e_iinc (pc := 53) dX3_passOffices_53 rfl (by decide) rfl ?_
          show Ev g _ _ _ _ _ _ 56 [some (x_r (16 * 22 + 0)), some (x_r (16 * 19 + 0)), some (x_i a), some (x_i (x_add v6 1)), some (x_i v7), some (x_i v8)] [] (al, ro, fl (ml M [18, 19, 22] [Th9, La10, Fo11])) _ _ _ _
          cases hr18
          exact hjhr18
  clear hG
  refine e_whl G3_passOffices_L2 (fun z : (Int × xU) => Ev g yX3_passOffices cX3_passOffices 6 (some .int) [] 5 2 [some (x_r (16 * 22 + 0)), some (x_r (16 * 19 + 0)), some (x_i a), some (x_i z.1), none, none] [] (al, ro, fl (ml M [18, 19, 22] [Th, La, z.2])) 0 0 (.inl (some (x_i t.1))) (al, ro, fl (ml M [18, 19, 22] [t.2.1, t.2.2.1, t.2.2.2]))) (fun q => q = Fo3) ?_ xFU (0, Fo) _ hl4 rfl
  intro z t4 hf4 hi4 hx4
  obtain ⟨v1, Fo2⟩ := z
  rw [G3_passOffices_L2] at hf4
  show Ev g _ _ _ _ _ _ 2 [some (x_r (16 * 22 + 0)), some (x_r (16 * 19 + 0)), some (x_i a), some (x_i v1), none, none] [] (al, ro, fl (ml M [18, 19, 22] [Th, La, Fo2])) _ _ _ _
  refine e_iloadn (pc := 2) (i := 3) dX3_passOffices_2 rfl rfl ?_
  refine e_bipush (pc := 3) dX3_passOffices_3 (by decide +kernel) (x_R rfl) ?_
  refine e_icmp_ge (pc := 5) (tgt := 21) dX3_passOffices_5 (by decide) (fun hb => ?_) (fun hb => ?_)
  · rw [if_pos hb] at hf4
    cases hf4
    refine e_drop (i := 3) ?_
    have hh := hk4 _ (hx4 _ rfl)
    try dsimp only at hh
    exact hh
  · rw [if_neg hb] at hf4
    refine e_aloadn (pc := 8) (i := 0) dX3_passOffices_8 rfl rfl ?_
    refine f_getr (pc := 9) (u := 22) (q := 0) dX3_passOffices_9 xf3_18 (sa_22_0 hs) rfl (sr_22_0_1 hs) ?_
    refine e_iloadn (pc := 12) (i := 3) dX3_passOffices_12 rfl rfl ?_
    refine e_iconst (pc := 13) dX3_passOffices_13 (x_R rfl) ?_
    obtain ⟨hc0, hf4⟩ := x_gd_some hf4
    refine f_iast (pc := 14) (k := 2) (u := 22) (q := 1) (len := 7) dX3_passOffices_14 (sa_22_1 hs) hc0 hn rfl rfl rfl (by decide) ?_
    show Ev g _ _ _ _ _ _ 15 [some (x_r (16 * 22 + 0)), some (x_r (16 * 19 + 0)), some (x_i a), some (x_i v1), none, none] [] (al, ro, fl (ml M [18, 19, 22] [Th, La, (x_up Fo2 1 (v1).toNat 0)])) _ _ _ _
    refine e_iinc (pc := 15) dX3_passOffices_15 rfl (by decide) rfl ?_
    show Ev g _ _ _ _ _ _ 18 [some (x_r (16 * 22 + 0)), some (x_r (16 * 19 + 0)), some (x_i a), some (x_i (x_add v1 1)), none, none] [] (al, ro, fl (ml M [18, 19, 22] [Th, La, (x_up Fo2 1 (v1).toNat 0)])) _ _ _ _
    refine e_goto (pc := 18) (tgt := 2) dX3_passOffices_18 (by decide) ?_
    cases hf4
    have hh := hi4 _ rfl
    try dsimp only at hh
    exact hh
set_option maxRecDepth 100000 in
set_option maxHeartbeats 4000000 in
theorem c_X3_mostLate {g : xG} {al : List (Nat × Nat × Nat)} {ro : Nat → Nat → Option Nat} (hst : g.1.stackTraces = false) (hs : SH al ro) {M : Nat → xU} {Fo : xU}  {t : Int} (hG : G3_mostLate Fo = some t) :
    Cal g yX3_mostLate cX3_mostLate 4 (some .int) 0 [x_r (16 * 22 + 0)] (al, ro, fl (ml M [22] [Fo])) 0 0 (.inl (some (x_i t))) (al, ro, fl (ml M [22] [Fo])) := by
  have hn : ([22] : List Nat).Nodup := by decide
  refine cal_of_ev (plainFor_of_name (by decide)) (x_c1 rfl) (Nat.le_of_ble_eq_true rfl) hst ?_
  show Ev g _ _ _ _ _ _ 0 [some (x_r (16 * 22 + 0)), none, none, none] [] (al, ro, fl (ml M [22] [Fo])) _ _ _ _
  rw [G3_mostLate] at hG
  refine e_iconst (pc := 0) dX3_mostLate_0 (x_R rfl) ?_
  refine e_istoren (pc := 1) (i := 1) dX3_mostLate_1 rfl (by decide) rfl ?_
  show Ev g _ _ _ _ _ _ 2 [some (x_r (16 * 22 + 0)), some (x_i (-1)), none, none] [] (al, ro, fl (ml M [22] [Fo])) _ _ _ _
  refine e_iconst (pc := 2) dX3_mostLate_2 (x_R rfl) ?_
  refine e_istoren (pc := 3) (i := 2) dX3_mostLate_3 rfl (by decide) rfl ?_
  show Ev g _ _ _ _ _ _ 4 [some (x_r (16 * 22 + 0)), some (x_i (-1)), some (x_i 0), none] [] (al, ro, fl (ml M [22] [Fo])) _ _ _ _
  refine e_iconst (pc := 4) dX3_mostLate_4 (x_R rfl) ?_
  refine e_istoren (pc := 5) (i := 3) dX3_mostLate_5 rfl (by decide) rfl ?_
  show Ev g _ _ _ _ _ _ 6 [some (x_r (16 * 22 + 0)), some (x_i (-1)), some (x_i 0), some (x_i 0)] [] (al, ro, fl (ml M [22] [Fo])) _ _ _ _
  obtain ⟨v4, hl5, hG⟩ := x_bd1 hG
  have hk5 : ∀ q : Int, q = v4 → Ev g yX3_mostLate cX3_mostLate 4 (some .int) [] 0 37 [some (x_r (16 * 22 + 0)), some (x_i q), none, none] [] (al, ro, fl (ml M [22] [Fo])) 0 0 (.inl (some (x_i t))) (al, ro, fl (ml M [22] [Fo])) := by
    intro q hq
    replace hq := hq.symm
    subst hq
    refine e_iloadn (pc := 37) (i := 1) dX3_mostLate_37 rfl rfl ?_
    cases hG
    exact (e_ireturn rfl dX3_mostLate_38 rfl)
  clear hG
  refine e_whl (G3_mostLate_L6 Fo) (fun z : (Int × Int × Int) => Ev g yX3_mostLate cX3_mostLate 4 (some .int) [] 0 6 [some (x_r (16 * 22 + 0)), some (x_i z.1), some (x_i z.2.1), some (x_i z.2.2)] [] (al, ro, fl (ml M [22] [Fo])) 0 0 (.inl (some (x_i t))) (al, ro, fl (ml M [22] [Fo]))) (fun q => q = v4) ?_ xFU ((-1), 0, 0) _ hl5 rfl
  intro z t5 hf5 hi5 hx5
  obtain ⟨v1, v2, v3⟩ := z
  rw [G3_mostLate_L6] at hf5
  show Ev g _ _ _ _ _ _ 6 [some (x_r (16 * 22 + 0)), some (x_i v1), some (x_i v2), some (x_i v3)] [] (al, ro, fl (ml M [22] [Fo])) _ _ _ _
  refine e_iloadn (pc := 6) (i := 3) dX3_mostLate_6 rfl rfl ?_
  refine e_bipush (pc := 7) dX3_mostLate_7 (by decide +kernel) (x_R rfl) ?_
  refine e_icmp_ge (pc := 9) (tgt := 37) dX3_mostLate_9 (by decide) (fun hb => ?_) (fun hb => ?_)
  · rw [if_pos hb] at hf5
    cases hf5
    refine e_drop (i := 2) ?_
    refine e_drop (i := 3) ?_
    have hh := hk5 _ (hx5 _ rfl)
    try dsimp only at hh
    exact hh
  · rw [if_neg hb] at hf5
    refine e_aloadn (pc := 12) (i := 0) dX3_mostLate_12 rfl rfl ?_
    refine f_getr (pc := 13) (u := 22) (q := 0) dX3_mostLate_13 xf3_18 (sa_22_0 hs) rfl (sr_22_0_1 hs) ?_
    refine e_iloadn (pc := 16) (i := 3) dX3_mostLate_16 rfl rfl ?_
    obtain ⟨hc0, hf5⟩ := x_gd_some hf5
    refine f_iald (pc := 17) (k := 0) (u := 22) (q := 1) (len := 7) dX3_mostLate_17 (sa_22_1 hs) hc0 hn rfl rfl (by decide) ?_
    show Ev g _ _ _ _ _ _ 18 [some (x_r (16 * 22 + 0)), some (x_i v1), some (x_i v2), some (x_i v3)] [x_i (Fo 1 (v3).toNat)] (al, ro, fl (ml M [22] [Fo])) _ _ _ _
    refine e_iloadn (pc := 18) (i := 2) dX3_mostLate_18 rfl rfl ?_
    obtain ⟨v7, v8, hr8, hf5⟩ := x_bd2 hf5
    have hjhr8 : Ev g yX3_mostLate cX3_mostLate 4 (some .int) [] 0 31 [some (x_r (16 * 22 + 0)), some (x_i v7), some (x_i v8), some (x_i v3)] [] (al, ro, fl (ml M [22] [Fo])) 0 0 (.inl (some (x_i t))) (al, ro, fl (ml M [22] [Fo])) := by
      refine e_iinc (pc := 31) dX3_mostLate_31 rfl (by decide) rfl ?_
      show Ev g _ _ _ _ _ _ 34 [some (x_r (16 * 22 + 0)), some (x_i v7), some (x_i v8), some (x_i (x_add v3 1))] [] (al, ro, fl (ml M [22] [Fo])) _ _ _ _
      refine e_goto (pc := 34) (tgt := 6) dX3_mostLate_34 (by decide) ?_
      cases hf5
      have hh := hi5 _ rfl
      try dsimp only at hh
      exact hh
    clear hf5
    refine e_icmp_le (pc := 19) (tgt := 31) dX3_mostLate_19 (by decide) (fun hb => ?_) (fun hb => ?_)
    · rw [if_pos hb] at hr8
      cases hr8
      exact hjhr8
    · rw [if_neg hb] at hr8
      refine e_aloadn (pc := 22) (i := 0) dX3_mostLate_22 rfl rfl ?_
      refine f_getr (pc := 23) (u := 22) (q := 0) dX3_mostLate_23 xf3_18 (sa_22_0 hs) rfl (sr_22_0_1 hs) ?_
      refine e_iloadn (pc := 26) (i := 3) dX3_mostLate_26 rfl rfl ?_
      obtain ⟨hc0, hr8⟩ := x_gd_some hr8
      refine f_iald (pc := 27) (k := 0) (u := 22) (q := 1) (len := 7) dX3_mostLate_27 (sa_22_1 hs) hc0 hn rfl rfl (by decide) ?_
      show Ev g _ _ _ _ _ _ 28 [some (x_r (16 * 22 + 0)), some (x_i v1), some (x_i v2), some (x_i v3)] [x_i (Fo 1 (v3).toNat)] (al, ro, fl (ml M [22] [Fo])) _ _ _ _
      refine e_istoren (pc := 28) (i := 2) dX3_mostLate_28 rfl (by decide) rfl ?_
      show Ev g _ _ _ _ _ _ 29 [some (x_r (16 * 22 + 0)), some (x_i v1), some (x_i (Fo 1 (v3).toNat)), some (x_i v3)] [] (al, ro, fl (ml M [22] [Fo])) _ _ _ _
      refine e_iloadn (pc := 29) (i := 3) dX3_mostLate_29 rfl rfl ?_
      refine e_istoren (pc := 30) (i := 1) dX3_mostLate_30 rfl (by decide) rfl ?_
      show Ev g _ _ _ _ _ _ 31 [some (x_r (16 * 22 + 0)), some (x_i v3), some (x_i (Fo 1 (v3).toNat)), some (x_i v3)] [] (al, ro, fl (ml M [22] [Fo])) _ _ _ _
      cases hr8
      exact hjhr8
set_option maxRecDepth 100000 in
set_option maxHeartbeats 4000000 in
theorem c_X3_bestChoice {g : xG} {al : List (Nat × Nat × Nat)} {ro : Nat → Nat → Option Nat} (hst : g.1.stackTraces = false) (hs : SH al ro) {M : Nat → xU} {a : Int} {N : xU} {Th : xU} {La : xU} {Fo : xU}  {t : (Int × xU × xU × xU)} (hG : G3_bestChoice a N Th La Fo = some t) :
    Cal g yX3_bestChoice cX3_bestChoice 8 (some .int) 6 [x_r (16 * 22 + 0), x_r (16 * 3 + 0), x_r (16 * 19 + 0), x_i a] (al, ro, fl (ml M [3, 18, 19, 22] [N, Th, La, Fo])) 0 0 (.inl (some (x_i t.1))) (al, ro, fl (ml M [3, 18, 19, 22] [N, t.2.1, t.2.2.1, t.2.2.2])) := by
  have hn : ([3, 18, 19, 22] : List Nat).Nodup := by decide
  refine cal_of_ev (plainFor_of_name (by decide)) (x_c1 rfl) (Nat.le_of_ble_eq_true rfl) hst ?_
  show Ev g _ _ _ _ _ _ 0 [some (x_r (16 * 22 + 0)), some (x_r (16 * 3 + 0)), some (x_r (16 * 19 + 0)), some (x_i a), none, none, none, none] [] (al, ro, fl (ml M [3, 18, 19, 22] [N, Th, La, Fo])) _ _ _ _
  rw [G3_bestChoice] at hG
  refine e_iconst (pc := 0) dX3_bestChoice_0 (x_R rfl) ?_
  refine e_istore (pc := 1) (i := 4) dX3_bestChoice_1 (by decide) rfl ?_
  show Ev g _ _ _ _ _ _ 3 [some (x_r (16 * 22 + 0)), some (x_r (16 * 3 + 0)), some (x_r (16 * 19 + 0)), some (x_i a), some (x_i 0), none, none, none] [] (al, ro, fl (ml M [3, 18, 19, 22] [N, Th, La, Fo])) _ _ _ _
  refine e_ldc (pc := 3) dX3_bestChoice_3 xkX3_68 (x_R rfl) ?_
  refine e_istore (pc := 5) (i := 5) dX3_bestChoice_5 (by decide) rfl ?_
  show Ev g _ _ _ _ _ _ 7 [some (x_r (16 * 22 + 0)), some (x_r (16 * 3 + 0)), some (x_r (16 * 19 + 0)), some (x_i a), some (x_i 0), some (x_i 1000000), none, none] [] (al, ro, fl (ml M [3, 18, 19, 22] [N, Th, La, Fo])) _ _ _ _
  refine e_iconst (pc := 7) dX3_bestChoice_7 (x_R rfl) ?_
  refine e_istore (pc := 8) (i := 6) dX3_bestChoice_8 (by decide) rfl ?_
  show Ev g _ _ _ _ _ _ 10 [some (x_r (16 * 22 + 0)), some (x_r (16 * 3 + 0)), some (x_r (16 * 19 + 0)), some (x_i a), some (x_i 0), some (x_i 1000000), some (x_i 0), none] [] (al, ro, fl (ml M [3, 18, 19, 22] [N, Th, La, Fo])) _ _ _ _
  obtain ⟨v7, Th8, La9, Fo10, hl11, hG⟩ := x_bd4 hG
  have hk11 : ∀ q : (Int × xU × xU × xU), q = (v7, Th8, La9, Fo10) → Ev g yX3_bestChoice cX3_bestChoice 8 (some .int) [] 6 85 [some (x_r (16 * 22 + 0)), some (x_r (16 * 3 + 0)), some (x_r (16 * 19 + 0)), some (x_i a), some (x_i q.1), none, none, none] [] (al, ro, fl (ml M [3, 18, 19, 22] [N, q.2.1, q.2.2.1, q.2.2.2])) 0 0 (.inl (some (x_i t.1))) (al, ro, fl (ml M [3, 18, 19, 22] [N, t.2.1, t.2.2.1, t.2.2.2])) := by
    intro q hq
    cases hq
    refine e_iload (pc := 85) dX3_bestChoice_85 rfl ?_
    cases hG
    exact (e_ireturn rfl dX3_bestChoice_87 rfl)
  clear hG
  refine e_whl (G3_bestChoice_L10 a N) (fun z : (Int × Int × Int × xU × xU × xU) => Ev g yX3_bestChoice cX3_bestChoice 8 (some .int) [] 6 10 [some (x_r (16 * 22 + 0)), some (x_r (16 * 3 + 0)), some (x_r (16 * 19 + 0)), some (x_i a), some (x_i z.1), some (x_i z.2.1), some (x_i z.2.2.1), none] [] (al, ro, fl (ml M [3, 18, 19, 22] [N, z.2.2.2.1, z.2.2.2.2.1, z.2.2.2.2.2])) 0 0 (.inl (some (x_i t.1))) (al, ro, fl (ml M [3, 18, 19, 22] [N, t.2.1, t.2.2.1, t.2.2.2]))) (fun q => q = (v7, Th8, La9, Fo10)) ?_ xFU (0, 1000000, 0, Th, La, Fo) _ hl11 rfl
  intro z t11 hf11 hi11 hx11
  obtain ⟨v1, v2, v3, Th4, La5, Fo6⟩ := z
  rw [G3_bestChoice_L10] at hf11
  show Ev g _ _ _ _ _ _ 10 [some (x_r (16 * 22 + 0)), some (x_r (16 * 3 + 0)), some (x_r (16 * 19 + 0)), some (x_i a), some (x_i v1), some (x_i v2), some (x_i v3), none] [] (al, ro, fl (ml M [3, 18, 19, 22] [N, Th4, La5, Fo6])) _ _ _ _
  refine e_iload (pc := 10) dX3_bestChoice_10 rfl ?_
  refine e_iloadn (pc := 12) (i := 3) dX3_bestChoice_12 rfl rfl ?_
  obtain ⟨v13, hr13, hf11⟩ := x_bd1 hf11
  have hjhr13 : Ev g yX3_bestChoice cX3_bestChoice 8 (some .int) [] 6 22 [some (x_r (16 * 22 + 0)), some (x_r (16 * 3 + 0)), some (x_r (16 * 19 + 0)), some (x_i a), some (x_i v1), some (x_i v2), some (x_i v3), none] [x_i v13, x_i v3] (al, ro, fl (ml M [3, 18, 19, 22] [N, Th4, La5, Fo6])) 0 0 (.inl (some (x_i t.1))) (al, ro, fl (ml M [3, 18, 19, 22] [N, t.2.1, t.2.2.1, t.2.2.2])) := by
    refine e_icmp_ge (pc := 22) (tgt := 85) dX3_bestChoice_22 (by decide) (fun hb => ?_) (fun hb => ?_)
    · rw [if_pos hb] at hf11
      cases hf11
      refine e_drop (i := 5) ?_
      refine e_drop (i := 6) ?_
      have hh := hk11 _ (hx11 _ rfl)
      try dsimp only at hh
      exact hh
    · rw [if_neg hb] at hf11
      refine e_aloadn (pc := 25) (i := 0) dX3_bestChoice_25 rfl rfl ?_
      refine e_aloadn (pc := 26) (i := 1) dX3_bestChoice_26 rfl rfl ?_
      obtain ⟨Th15, hq15, hf11⟩ := x_bd1 hf11
      refine e_invV (pc := 27) (K1 := 0) (S1 := 0) (K := 0) (S := 0) (dd2 := 3) (av := [x_r (16 * 3 + 0)]) (st := []) (id := 16 * 22 + 0) dX3_bestChoice_27 xmX3_34 rfl (Or.inl ⟨2, 3, TX3, (sa_22_0 hs), rfl, by decide⟩) (f_cal (M := M) (us2 := [3, 18]) [0, 1] hn rfl (And.intro rfl (And.intro rfl trivial)) rfl rfl rfl (c_X3_look hst hs   hq15)) (by decide) (Nat.le_of_ble_eq_true rfl) (Or.inl rfl) ?_
      show Ev g _ _ _ _ _ _ 30 [some (x_r (16 * 22 + 0)), some (x_r (16 * 3 + 0)), some (x_r (16 * 19 + 0)), some (x_i a), some (x_i v1), some (x_i v2), some (x_i v3), none] [] (al, ro, fl (ml M [3, 18, 19, 22] [N, Th15, La5, Fo6])) _ _ _ _
      refine e_iloadn (pc := 30) (i := 3) dX3_bestChoice_30 rfl rfl ?_
      obtain ⟨Th17, hr17, hf11⟩ := x_bd1 hf11
      have hjhr17 : Ev g yX3_bestChoice cX3_bestChoice 8 (some .int) [] 6 55 [some (x_r (16 * 22 + 0)), some (x_r (16 * 3 + 0)), some (x_r (16 * 19 + 0)), some (x_i a), some (x_i v1), some (x_i v2), some (x_i v3), none] [] (al, ro, fl (ml M [3, 18, 19, 22] [N, Th17, La5, Fo6])) 0 0 (.inl (some (x_i t.1))) (al, ro, fl (ml M [3, 18, 19, 22] [N, t.2.1, t.2.2.1, t.2.2.2])) := by
        refine e_aloadn (pc := 55) (i := 0) dX3_bestChoice_55 rfl rfl ?_
        refine e_aloadn (pc := 56) (i := 2) dX3_bestChoice_56 rfl rfl ?_
        refine e_bipush (pc := 57) dX3_bestChoice_57 (by decide +kernel) (x_R rfl) ?_
        obtain ⟨v19, Th20, La21, Fo22, hq22, hf11⟩ := x_bd4 hf11
        refine e_invV (pc := 59) (K1 := 0) (S1 := 0) (K := 0) (S := 0) (dd2 := 5) (av := [x_r (16 * 19 + 0), x_i 8]) (st := []) (id := 16 * 22 + 0) dX3_bestChoice_59 xmX3_75 rfl (Or.inl ⟨2, 3, TX3, (sa_22_0 hs), rfl, by decide⟩) (f_cal (M := M) (us2 := [18, 19, 22]) [1, 2, 3] hn rfl (And.intro rfl (And.intro rfl (And.intro rfl trivial))) rfl rfl rfl (c_X3_passOffices hst hs   hq22)) (by decide) (Nat.le_of_ble_eq_true rfl) (Or.inl rfl) ?_
        show Ev g _ _ _ _ _ _ 62 [some (x_r (16 * 22 + 0)), some (x_r (16 * 3 + 0)), some (x_r (16 * 19 + 0)), some (x_i a), some (x_i v1), some (x_i v2), some (x_i v3), none] [x_i v19] (al, ro, fl (ml M [3, 18, 19, 22] [N, Th20, La21, Fo22])) _ _ _ _
        refine e_istore (pc := 62) (i := 7) dX3_bestChoice_62 (by decide) rfl ?_
        show Ev g _ _ _ _ _ _ 64 [some (x_r (16 * 22 + 0)), some (x_r (16 * 3 + 0)), some (x_r (16 * 19 + 0)), some (x_i a), some (x_i v1), some (x_i v2), some (x_i v3), some (x_i v19)] [] (al, ro, fl (ml M [3, 18, 19, 22] [N, Th20, La21, Fo22])) _ _ _ _
        refine e_iload (pc := 64) dX3_bestChoice_64 rfl ?_
        refine e_iload (pc := 66) dX3_bestChoice_66 rfl ?_
        obtain ⟨v24, v25, hr25, hf11⟩ := x_bd2 hf11
        have hjhr25 : Ev g yX3_bestChoice cX3_bestChoice 8 (some .int) [] 6 79 [some (x_r (16 * 22 + 0)), some (x_r (16 * 3 + 0)), some (x_r (16 * 19 + 0)), some (x_i a), some (x_i v24), some (x_i v25), some (x_i v3), some (x_i v19)] [] (al, ro, fl (ml M [3, 18, 19, 22] [N, Th20, La21, Fo22])) 0 0 (.inl (some (x_i t.1))) (al, ro, fl (ml M [3, 18, 19, 22] [N, t.2.1, t.2.2.1, t.2.2.2])) := by
          refine e_iinc (pc := 79) dX3_bestChoice_79 rfl (by decide) rfl ?_
          show Ev g _ _ _ _ _ _ 82 [some (x_r (16 * 22 + 0)), some (x_r (16 * 3 + 0)), some (x_r (16 * 19 + 0)), some (x_i a), some (x_i v24), some (x_i v25), some (x_i (x_add v3 1)), some (x_i v19)] [] (al, ro, fl (ml M [3, 18, 19, 22] [N, Th20, La21, Fo22])) _ _ _ _
          refine e_goto (pc := 82) (tgt := 10) dX3_bestChoice_82 (by decide) ?_
          cases hf11
          refine e_drop (i := 7) ?_
          have hh := hi11 _ rfl
          try dsimp only at hh
          exact hh
        clear hf11
        refine e_icmp_ge (pc := 68) (tgt := 79) dX3_bestChoice_68 (by decide) (fun hb => ?_) (fun hb => ?_)
        · rw [if_pos hb] at hr25
          cases hr25
          exact hjhr25
        · rw [if_neg hb] at hr25
          refine e_iload (pc := 71) dX3_bestChoice_71 rfl ?_
          refine e_istore (pc := 73) (i := 5) dX3_bestChoice_73 (by decide) rfl ?_
          show Ev g _ _ _ _ _ _ 75 [some (x_r (16 * 22 + 0)), some (x_r (16 * 3 + 0)), some (x_r (16 * 19 + 0)), some (x_i a), some (x_i v1), some (x_i v19), some (x_i v3), some (x_i v19)] [] (al, ro, fl (ml M [3, 18, 19, 22] [N, Th20, La21, Fo22])) _ _ _ _
          refine e_iload (pc := 75) dX3_bestChoice_75 rfl ?_
          refine e_istore (pc := 77) (i := 4) dX3_bestChoice_77 (by decide) rfl ?_
          show Ev g _ _ _ _ _ _ 79 [some (x_r (16 * 22 + 0)), some (x_r (16 * 3 + 0)), some (x_r (16 * 19 + 0)), some (x_i a), some (x_i v3), some (x_i v19), some (x_i v3), some (x_i v19)] [] (al, ro, fl (ml M [3, 18, 19, 22] [N, Th20, La21, Fo22])) _ _ _ _
          cases hr25
          exact hjhr25
      clear hf11
      refine e_if_eq (pc := 31) (tgt := 46) dX3_bestChoice_31 (by decide) (fun hb => ?_) (fun hb => ?_)
      · rw [if_pos hb] at hr17
        refine e_aloadn (pc := 46) (i := 0) dX3_bestChoice_46 rfl rfl ?_
        refine f_getr (pc := 47) (u := 22) (q := 0) dX3_bestChoice_47 xf3_12 (sa_22_0 hs) rfl (sr_22_0_0 hs) ?_
        refine e_iload (pc := 50) dX3_bestChoice_50 rfl ?_
        refine f_puti (pc := 52) (k := 1) (u := 18) (q := 0) dX3_bestChoice_52 xf3_72 xw1_7 (sa_18_0 hs) hn rfl rfl rfl (by decide) ?_
        show Ev g _ _ _ _ _ _ 55 [some (x_r (16 * 22 + 0)), some (x_r (16 * 3 + 0)), some (x_r (16 * 19 + 0)), some (x_i a), some (x_i v1), some (x_i v2), some (x_i v3), none] [] (al, ro, fl (ml M [3, 18, 19, 22] [N, (x_up Th15 0 7 v3), La5, Fo6])) _ _ _ _
        cases hr17
        exact hjhr17
      · rw [if_neg hb] at hr17
        refine e_aloadn (pc := 34) (i := 0) dX3_bestChoice_34 rfl rfl ?_
        refine f_getr (pc := 35) (u := 22) (q := 0) dX3_bestChoice_35 xf3_12 (sa_22_0 hs) rfl (sr_22_0_0 hs) ?_
        refine e_iload (pc := 38) dX3_bestChoice_38 rfl ?_
        refine f_puti (pc := 40) (k := 1) (u := 18) (q := 0) dX3_bestChoice_40 xf3_69 xw1_8 (sa_18_0 hs) hn rfl rfl rfl (by decide) ?_
        show Ev g _ _ _ _ _ _ 43 [some (x_r (16 * 22 + 0)), some (x_r (16 * 3 + 0)), some (x_r (16 * 19 + 0)), some (x_i a), some (x_i v1), some (x_i v2), some (x_i v3), none] [] (al, ro, fl (ml M [3, 18, 19, 22] [N, (x_up Th15 0 8 v3), La5, Fo6])) _ _ _ _
        refine e_goto (pc := 43) (tgt := 55) dX3_bestChoice_43 (by decide) ?_
        cases hr17
        exact hjhr17
  clear hf11
  refine e_if_eq (pc := 13) (tgt := 20) dX3_bestChoice_13 (by decide) (fun hb => ?_) (fun hb => ?_)
  · rw [if_pos hb] at hr13
    refine e_bipush (pc := 20) dX3_bestChoice_20 (by decide +kernel) (x_R rfl) ?_
    cases hr13
    exact hjhr13
  · rw [if_neg hb] at hr13
    refine e_iconst (pc := 16) dX3_bestChoice_16 (x_R rfl) ?_
    refine e_goto (pc := 17) (tgt := 22) dX3_bestChoice_17 (by decide) ?_
    cases hr13
    exact hjhr13
set_option maxRecDepth 100000 in
set_option maxHeartbeats 4000000 in
theorem c_X3_spanOf {g : xG} {al : List (Nat × Nat × Nat)} {ro : Nat → Nat → Option Nat} (hst : g.1.stackTraces = false) (hs : SH al ro) {M : Nat → xU} {a : Int} {b : Int} {N : xU} {Th : xU} {La : xU}  {t : (Int × xU × xU)} (hG : G3_spanOf a b N Th La = some t) :
    Cal g yX3_spanOf cX3_spanOf 9 (some .int) 6 [x_r (16 * 22 + 0), x_r (16 * 3 + 0), x_r (16 * 19 + 0), x_i a, x_i b] (al, ro, fl (ml M [3, 18, 19] [N, Th, La])) 0 0 (.inl (some (x_i t.1))) (al, ro, fl (ml M [3, 18, 19] [N, t.2.1, t.2.2])) := by
  have hn : ([3, 18, 19] : List Nat).Nodup := by decide
  refine cal_of_ev (plainFor_of_name (by decide)) (x_c1 rfl) (Nat.le_of_ble_eq_true rfl) hst ?_
  show Ev g _ _ _ _ _ _ 0 [some (x_r (16 * 22 + 0)), some (x_r (16 * 3 + 0)), some (x_r (16 * 19 + 0)), some (x_i a), some (x_i b), none, none, none, none] [] (al, ro, fl (ml M [3, 18, 19] [N, Th, La])) _ _ _ _
  rw [G3_spanOf] at hG
  refine e_ldc (pc := 0) dX3_spanOf_0 xkX3_68 (x_R rfl) ?_
  refine e_istore (pc := 2) (i := 5) dX3_spanOf_2 (by decide) rfl ?_
  show Ev g _ _ _ _ _ _ 4 [some (x_r (16 * 22 + 0)), some (x_r (16 * 3 + 0)), some (x_r (16 * 19 + 0)), some (x_i a), some (x_i b), some (x_i 1000000), none, none, none] [] (al, ro, fl (ml M [3, 18, 19] [N, Th, La])) _ _ _ _
  refine e_iconst (pc := 4) dX3_spanOf_4 (x_R rfl) ?_
  refine e_istore (pc := 5) (i := 6) dX3_spanOf_5 (by decide) rfl ?_
  show Ev g _ _ _ _ _ _ 7 [some (x_r (16 * 22 + 0)), some (x_r (16 * 3 + 0)), some (x_r (16 * 19 + 0)), some (x_i a), some (x_i b), some (x_i 1000000), some (x_i 0), none, none] [] (al, ro, fl (ml M [3, 18, 19] [N, Th, La])) _ _ _ _
  refine e_iconst (pc := 7) dX3_spanOf_7 (x_R rfl) ?_
  refine e_istore (pc := 8) (i := 7) dX3_spanOf_8 (by decide) rfl ?_
  show Ev g _ _ _ _ _ _ 10 [some (x_r (16 * 22 + 0)), some (x_r (16 * 3 + 0)), some (x_r (16 * 19 + 0)), some (x_i a), some (x_i b), some (x_i 1000000), some (x_i 0), some (x_i 1), none] [] (al, ro, fl (ml M [3, 18, 19] [N, Th, La])) _ _ _ _
  obtain ⟨v6, v7, Th8, La9, hl10, hG⟩ := x_bd4 hG
  have hk10 : ∀ q : (Int × Int × xU × xU), q = (v6, v7, Th8, La9) → Ev g yX3_spanOf cX3_spanOf 9 (some .int) [] 6 72 [some (x_r (16 * 22 + 0)), some (x_r (16 * 3 + 0)), some (x_r (16 * 19 + 0)), some (x_i a), some (x_i b), some (x_i q.1), some (x_i q.2.1), none, none] [] (al, ro, fl (ml M [3, 18, 19] [N, q.2.2.1, q.2.2.2])) 0 0 (.inl (some (x_i t.1))) (al, ro, fl (ml M [3, 18, 19] [N, t.2.1, t.2.2])) := by
    intro q hq
    cases hq
    refine e_iload (pc := 72) dX3_spanOf_72 rfl ?_
    obtain ⟨v19, hr19, hG⟩ := x_bd1 hG
    have hjhr19 : Ev g yX3_spanOf cX3_spanOf 9 (some .int) [] 6 84 [some (x_r (16 * 22 + 0)), some (x_r (16 * 3 + 0)), some (x_r (16 * 19 + 0)), some (x_i a), some (x_i b), some (x_i v6), some (x_i v7), none, none] [x_i v19] (al, ro, fl (ml M [3, 18, 19] [N, Th8, La9])) 0 0 (.inl (some (x_i t.1))) (al, ro, fl (ml M [3, 18, 19] [N, t.2.1, t.2.2])) := by
      cases hG
      exact (e_ireturn rfl dX3_spanOf_84 rfl)
    clear hG
    refine e_if_eq (pc := 74) (tgt := 82) dX3_spanOf_74 (by decide) (fun hb => ?_) (fun hb => ?_)
    · rw [if_pos hb] at hr19
      refine e_iload (pc := 82) dX3_spanOf_82 rfl ?_
      cases hr19
      exact hjhr19
    · rw [if_neg hb] at hr19
      refine e_iload (pc := 77) dX3_spanOf_77 rfl ?_
      refine e_goto (pc := 79) (tgt := 84) dX3_spanOf_79 (by decide) ?_
      cases hr19
      exact hjhr19
  clear hG
  refine e_whl (G3_spanOf_L10 a N) (fun z : (Int × Int × Int × xU × xU) => Ev g yX3_spanOf cX3_spanOf 9 (some .int) [] 6 10 [some (x_r (16 * 22 + 0)), some (x_r (16 * 3 + 0)), some (x_r (16 * 19 + 0)), some (x_i a), some (x_i b), some (x_i z.1), some (x_i z.2.1), some (x_i z.2.2.1), none] [] (al, ro, fl (ml M [3, 18, 19] [N, z.2.2.2.1, z.2.2.2.2])) 0 0 (.inl (some (x_i t.1))) (al, ro, fl (ml M [3, 18, 19] [N, t.2.1, t.2.2]))) (fun q => q = (v6, v7, Th8, La9)) ?_ xFU (1000000, 0, 1, Th, La) _ hl10 rfl
  intro z t10 hf10 hi10 hx10
  obtain ⟨v1, v2, v3, Th4, La5⟩ := z
  rw [G3_spanOf_L10] at hf10
  show Ev g _ _ _ _ _ _ 10 [some (x_r (16 * 22 + 0)), some (x_r (16 * 3 + 0)), some (x_r (16 * 19 + 0)), some (x_i a), some (x_i b), some (x_i v1), some (x_i v2), some (x_i v3), none] [] (al, ro, fl (ml M [3, 18, 19] [N, Th4, La5])) _ _ _ _
  refine e_iload (pc := 10) dX3_spanOf_10 rfl ?_
  refine e_bipush (pc := 12) dX3_spanOf_12 (by decide +kernel) (x_R rfl) ?_
  refine e_icmp_gt (pc := 14) (tgt := 72) dX3_spanOf_14 (by decide) (fun hb => ?_) (fun hb => ?_)
  · rw [if_pos hb] at hf10
    cases hf10
    refine e_drop (i := 7) ?_
    have hh := hk10 _ (hx10 _ rfl)
    try dsimp only at hh
    exact hh
  · rw [if_neg hb] at hf10
    refine e_aloadn (pc := 17) (i := 0) dX3_spanOf_17 rfl rfl ?_
    refine e_aloadn (pc := 18) (i := 1) dX3_spanOf_18 rfl rfl ?_
    obtain ⟨Th12, hq12, hf10⟩ := x_bd1 hf10
    refine e_invV (pc := 19) (K1 := 0) (S1 := 0) (K := 0) (S := 0) (dd2 := 3) (av := [x_r (16 * 3 + 0)]) (st := []) (id := 16 * 22 + 0) dX3_spanOf_19 xmX3_34 rfl (Or.inl ⟨2, 3, TX3, (sa_22_0 hs), rfl, by decide⟩) (f_cal (M := M) (us2 := [3, 18]) [0, 1] hn rfl (And.intro rfl (And.intro rfl trivial)) rfl rfl rfl (c_X3_look hst hs   hq12)) (by decide) (Nat.le_of_ble_eq_true rfl) (Or.inl rfl) ?_
    show Ev g _ _ _ _ _ _ 22 [some (x_r (16 * 22 + 0)), some (x_r (16 * 3 + 0)), some (x_r (16 * 19 + 0)), some (x_i a), some (x_i b), some (x_i v1), some (x_i v2), some (x_i v3), none] [] (al, ro, fl (ml M [3, 18, 19] [N, Th12, La5])) _ _ _ _
    refine e_aloadn (pc := 22) (i := 0) dX3_spanOf_22 rfl rfl ?_
    refine f_getr (pc := 23) (u := 22) (q := 0) dX3_spanOf_23 xf3_12 (sa_22_0 hs) rfl (sr_22_0_0 hs) ?_
    refine e_iload (pc := 26) dX3_spanOf_26 rfl ?_
    refine f_puti (pc := 28) (k := 1) (u := 18) (q := 0) dX3_spanOf_28 xf3_79 xw1_11 (sa_18_0 hs) hn rfl rfl rfl (by decide) ?_
    show Ev g _ _ _ _ _ _ 31 [some (x_r (16 * 22 + 0)), some (x_r (16 * 3 + 0)), some (x_r (16 * 19 + 0)), some (x_i a), some (x_i b), some (x_i v1), some (x_i v2), some (x_i v3), none] [] (al, ro, fl (ml M [3, 18, 19] [N, (x_up Th12 0 11 v3), La5])) _ _ _ _
    refine e_aloadn (pc := 31) (i := 0) dX3_spanOf_31 rfl rfl ?_
    refine e_aloadn (pc := 32) (i := 2) dX3_spanOf_32 rfl rfl ?_
    refine e_iloadn (pc := 33) (i := 3) dX3_spanOf_33 rfl rfl ?_
    refine e_iconst (pc := 34) dX3_spanOf_34 (x_R rfl) ?_
    obtain ⟨Th14, La15, hq15, hf10⟩ := x_bd2 hf10
    refine e_invV (pc := 35) (K1 := 0) (S1 := 0) (K := 0) (S := 0) (dd2 := 5) (av := [x_r (16 * 19 + 0), x_i a, x_i 1]) (st := []) (id := 16 * 22 + 0) dX3_spanOf_35 xmX3_82 rfl (Or.inl ⟨2, 3, TX3, (sa_22_0 hs), rfl, by decide⟩) (f_cal (M := M) (us2 := [18, 19]) [1, 2] hn rfl (And.intro rfl (And.intro rfl trivial)) rfl rfl rfl (c_X3_passHours hst hs   hq15)) (by decide) (Nat.le_of_ble_eq_true rfl) (Or.inl rfl) ?_
    show Ev g _ _ _ _ _ _ 38 [some (x_r (16 * 22 + 0)), some (x_r (16 * 3 + 0)), some (x_r (16 * 19 + 0)), some (x_i a), some (x_i b), some (x_i v1), some (x_i v2), some (x_i v3), none] [] (al, ro, fl (ml M [3, 18, 19] [N, Th14, La15])) _ _ _ _
    refine e_aloadn (pc := 38) (i := 0) dX3_spanOf_38 rfl rfl ?_
    refine f_getr (pc := 39) (u := 22) (q := 0) dX3_spanOf_39 xf3_12 (sa_22_0 hs) rfl (sr_22_0_0 hs) ?_
    refine e_iconst (pc := 42) dX3_spanOf_42 (x_R rfl) ?_
    obtain ⟨v17, hq17, hf10⟩ := x_bd1 hf10
    refine e_invV (pc := 43) (K1 := 0) (S1 := 0) (K := 0) (S := 0) (dd2 := 1) (av := [x_i 5]) (st := []) (id := 16 * 18 + 0) dX3_spanOf_43 xmX3_49 rfl (Or.inl ⟨1, 12, TX1, (sa_18_0 hs), rfl, by decide⟩) (f_cal (M := M) (us2 := [18]) [1] hn rfl (And.intro rfl trivial) rfl rfl rfl (c_X1_sumOf hst hs (by decide)  hq17)) (by decide) (Nat.le_of_ble_eq_true rfl) (Or.inl rfl) ?_
    show Ev g _ _ _ _ _ _ 46 [some (x_r (16 * 22 + 0)), some (x_r (16 * 3 + 0)), some (x_r (16 * 19 + 0)), some (x_i a), some (x_i b), some (x_i v1), some (x_i v2), some (x_i v3), none] [x_i v17] (al, ro, fl (ml M [3, 18, 19] [N, Th14, La15])) _ _ _ _
    refine e_istore (pc := 46) (i := 8) dX3_spanOf_46 (by decide) rfl ?_
    show Ev g _ _ _ _ _ _ 48 [some (x_r (16 * 22 + 0)), some (x_r (16 * 3 + 0)), some (x_r (16 * 19 + 0)), some (x_i a), some (x_i b), some (x_i v1), some (x_i v2), some (x_i v3), some (x_i v17)] [] (al, ro, fl (ml M [3, 18, 19] [N, Th14, La15])) _ _ _ _
    refine e_iload (pc := 48) dX3_spanOf_48 rfl ?_
    refine e_iload (pc := 50) dX3_spanOf_50 rfl ?_
    refine e_invS (pc := 52) (K1 := 0) (S1 := 0) (K := 0) (S := 0) (dd2 := 0) (av := [x_i v1, x_i v17]) (st := []) dX3_spanOf_52 xmX3_86 rfl (p_min hst hs) (by decide) (Nat.le_of_ble_eq_true rfl) (Or.inl rfl) ?_
    show Ev g _ _ _ _ _ _ 55 [some (x_r (16 * 22 + 0)), some (x_r (16 * 3 + 0)), some (x_r (16 * 19 + 0)), some (x_i a), some (x_i b), some (x_i v1), some (x_i v2), some (x_i v3), some (x_i v17)] [x_i (min v1 v17)] (al, ro, fl (ml M [3, 18, 19] [N, Th14, La15])) _ _ _ _
    refine e_istore (pc := 55) (i := 5) dX3_spanOf_55 (by decide) rfl ?_
    show Ev g _ _ _ _ _ _ 57 [some (x_r (16 * 22 + 0)), some (x_r (16 * 3 + 0)), some (x_r (16 * 19 + 0)), some (x_i a), some (x_i b), some (x_i (min v1 v17)), some (x_i v2), some (x_i v3), some (x_i v17)] [] (al, ro, fl (ml M [3, 18, 19] [N, Th14, La15])) _ _ _ _
    refine e_iload (pc := 57) dX3_spanOf_57 rfl ?_
    refine e_iload (pc := 59) dX3_spanOf_59 rfl ?_
    refine e_invS (pc := 61) (K1 := 0) (S1 := 0) (K := 0) (S := 0) (dd2 := 0) (av := [x_i v2, x_i v17]) (st := []) dX3_spanOf_61 xmX3_91 rfl (p_max hst hs) (by decide) (Nat.le_of_ble_eq_true rfl) (Or.inl rfl) ?_
    show Ev g _ _ _ _ _ _ 64 [some (x_r (16 * 22 + 0)), some (x_r (16 * 3 + 0)), some (x_r (16 * 19 + 0)), some (x_i a), some (x_i b), some (x_i (min v1 v17)), some (x_i v2), some (x_i v3), some (x_i v17)] [x_i (max v2 v17)] (al, ro, fl (ml M [3, 18, 19] [N, Th14, La15])) _ _ _ _
    refine e_istore (pc := 64) (i := 6) dX3_spanOf_64 (by decide) rfl ?_
    show Ev g _ _ _ _ _ _ 66 [some (x_r (16 * 22 + 0)), some (x_r (16 * 3 + 0)), some (x_r (16 * 19 + 0)), some (x_i a), some (x_i b), some (x_i (min v1 v17)), some (x_i (max v2 v17)), some (x_i v3), some (x_i v17)] [] (al, ro, fl (ml M [3, 18, 19] [N, Th14, La15])) _ _ _ _
    refine e_iinc (pc := 66) dX3_spanOf_66 rfl (by decide) rfl ?_
    show Ev g _ _ _ _ _ _ 69 [some (x_r (16 * 22 + 0)), some (x_r (16 * 3 + 0)), some (x_r (16 * 19 + 0)), some (x_i a), some (x_i b), some (x_i (min v1 v17)), some (x_i (max v2 v17)), some (x_i (x_add v3 1)), some (x_i v17)] [] (al, ro, fl (ml M [3, 18, 19] [N, Th14, La15])) _ _ _ _
    refine e_goto (pc := 69) (tgt := 10) dX3_spanOf_69 (by decide) ?_
    cases hf10
    refine e_drop (i := 8) ?_
    have hh := hi10 _ rfl
    try dsimp only at hh
    exact hh
