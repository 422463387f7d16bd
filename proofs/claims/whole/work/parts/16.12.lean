set_option maxRecDepth 100000 in
set_option maxHeartbeats 4000000 in
theorem c_X3_passOffices {g : xG} {al : List (Nat × Nat × Nat)} {ro : Nat → Nat → Option Nat} (hst : g.1.stackTraces = false) (hs : SH al ro) {M : Nat → xU} {a : Int} {Th : xU} {La : xU} {Fo : xU}  {t : (Int × xU × xU × xU)} (hG : G3_passOffices a Th La Fo = some t) :
    Cal g yX3_passOffices cX3_passOffices 6 (some .int) 5 [x_r (16 * 22 + 0), x_r (16 * 19 + 0), x_i a] (al, ro, fl (ml M [18, 19, 22] [Th, La, Fo])) 0 0 (.inl (some (x_i t.1))) (al, ro, fl (ml M [18, 19, 22] [t.2.1, t.2.2.1, t.2.2.2])) := by
  have hn : ([18, 19, 22] : List Nat).Nodup := by decide
  refine cal_of_ev (plainFor_of_name (by decide)) (x_c1 rfl) (Nat.le_of_ble_eq_true rfl) hst ?_
  show Ev g _ _ _ _ _ _ 0 [some (x_r (16 * 22 + 0)), some (x_r (16 * 19 + 0)), some (x_i a), none, none, none] [] (al, ro, fl (ml M [18, 19, 22] [Th, La, Fo])) _ _ _ _
  rw [G3_passOffices] at hG
  refine e_iconst (pc := 0) dX3_passOffices_0 (x_R rfl) ?_
  refine e_istoren (pc := 1) (i := 3) dX3_passOffices_1 rfl (by decide) rfl ?_
  show Ev g _ _ _ _ _ _ 2 [some (x_r (16 * 22 + 0)), some (x_r (16 * 19 + 0)), some (x_i a), some (x_i 0), none, none] [] (al, ro, fl (ml M [18, 19, 22] [Th, La, Fo])) _ _ _ _
  obtain ⟨Fo3, hl4, hG⟩ := x_bd1 hG
  have hk4 : ∀ q : xU, q = Fo3 → Ev g yX3_passOffices cX3_passOffices 6 (some .int) [] 5 21 [some (x_r (16 * 22 + 0)), some (x_r (16 * 19 + 0)), some (x_i a), none, none, none] [] (al, ro, fl (ml M [18, 19, 22] [Th, La, q])) 0 0 (.inl (some (x_i t.1))) (al, ro, fl (ml M [18, 19, 22] [t.2.1, t.2.2.1, t.2.2.2])) := by
    intro q hq
    replace hq := hq.symm
    subst hq
    refine e_iconst (pc := 21) dX3_passOffices_21 (x_R rfl) ?_
    refine e_istoren (pc := 22) (i := 3) dX3_passOffices_22 rfl (by decide) rfl ?_
    show Ev g _ _ _ _ _ _ 23 [some (x_r (16 * 22 + 0)), some (x_r (16 * 19 + 0)), some (x_i a), some (x_i 0), none, none] [] (al, ro, fl (ml M [18, 19, 22] [Th, La, Fo3])) _ _ _ _
    refine e_iconst (pc := 23) dX3_passOffices_23 (x_R rfl) ?_
    refine e_istore (pc := 24) (i := 4) dX3_passOffices_24 (by decide) rfl ?_
    show Ev g _ _ _ _ _ _ 26 [some (x_r (16 * 22 + 0)), some (x_r (16 * 19 + 0)), some (x_i a), some (x_i 0), some (x_i 0), none] [] (al, ro, fl (ml M [18, 19, 22] [Th, La, Fo3])) _ _ _ _
    refine e_iconst (pc := 26) dX3_passOffices_26 (x_R rfl) ?_
    refine e_istore (pc := 27) (i := 5) dX3_passOffices_27 (by decide) rfl ?_
    show Ev g _ _ _ _ _ _ 29 [some (x_r (16 * 22 + 0)), some (x_r (16 * 19 + 0)), some (x_i a), some (x_i 0), some (x_i 0), some (x_i 0)] [] (al, ro, fl (ml M [18, 19, 22] [Th, La, Fo3])) _ _ _ _
    obtain ⟨v12, Th13, La14, Fo15, hl16, hG⟩ := x_bd4 hG
    have hk16 : ∀ q : (Int × xU × xU × xU), q = (v12, Th13, La14, Fo15) → Ev g yX3_passOffices cX3_passOffices 6 (some .int) [] 5 80 [some (x_r (16 * 22 + 0)), some (x_r (16 * 19 + 0)), some (x_i a), none, some (x_i q.1), none] [] (al, ro, fl (ml M [18, 19, 22] [q.2.1, q.2.2.1, q.2.2.2])) 0 0 (.inl (some (x_i t.1))) (al, ro, fl (ml M [18, 19, 22] [t.2.1, t.2.2.1, t.2.2.2])) := by
      intro q hq
      cases hq
      refine e_iload (pc := 80) dX3_passOffices_80 rfl ?_
      cases hG
      exact (e_ireturn rfl dX3_passOffices_82 rfl)
    clear hG
    refine e_whl (G3_passOffices_L29 a) (fun z : (Int × Int × Int × xU × xU × xU) => Ev g yX3_passOffices cX3_passOffices 6 (some .int) [] 5 29 [some (x_r (16 * 22 + 0)), some (x_r (16 * 19 + 0)), some (x_i a), some (x_i z.1), some (x_i z.2.1), some (x_i z.2.2.1)] [] (al, ro, fl (ml M [18, 19, 22] [z.2.2.2.1, z.2.2.2.2.1, z.2.2.2.2.2])) 0 0 (.inl (some (x_i t.1))) (al, ro, fl (ml M [18, 19, 22] [t.2.1, t.2.2.1, t.2.2.2]))) (fun q => q = (v12, Th13, La14, Fo15)) ?_ xFU (0, 0, 0, Th, La, Fo3) _ hl16 rfl
    intro z t16 hf16 hi16 hx16
    obtain ⟨v6, v7, v8, Th9, La10, Fo11⟩ := z
    rw [G3_passOffices_L29] at hf16
    show Ev g _ _ _ _ _ _ 29 [some (x_r (16 * 22 + 0)), some (x_r (16 * 19 + 0)), some (x_i a), some (x_i v6), some (x_i v7), some (x_i v8)] [] (al, ro, fl (ml M [18, 19, 22] [Th9, La10, Fo11])) _ _ _ _
    refine e_iload (pc := 29) dX3_passOffices_29 rfl ?_
    refine e_bipush (pc := 31) dX3_passOffices_31 (by decide +kernel) (x_R rfl) ?_
    refine e_icmp_ge (pc := 33) (tgt := 80) dX3_passOffices_33 (by decide) (fun hb => ?_) (fun hb => ?_)
    · rw [if_pos hb] at hf16
      cases hf16
      refine e_drop (i := 3) ?_
      refine e_drop (i := 5) ?_
      exact hk16 _ (hx16 _ rfl)
    · rw [if_neg hb] at hf16
      refine e_iloadn (pc := 36) (i := 3) dX3_passOffices_36 rfl rfl ?_
      refine e_iloadn (pc := 37) (i := 2) dX3_passOffices_37 rfl rfl ?_
      refine e_icmp_ge (pc := 38) (tgt := 80) dX3_passOffices_38 (by decide) (fun hb => ?_) (fun hb => ?_)
      · rw [if_pos hb] at hf16
        cases hf16
        refine e_drop (i := 3) ?_
        refine e_drop (i := 5) ?_
        exact hk16 _ (hx16 _ rfl)
      · rw [if_neg hb] at hf16
        refine e_aloadn (pc := 41) (i := 0) dX3_passOffices_41 rfl rfl ?_
        refine f_getr (pc := 42) (u := 22) (q := 0) dX3_passOffices_42 xf3_12 (sa_22_0 hs) rfl (sr_22_0_0 hs) ?_
        refine f_geti (pc := 45) (k := 0) (u := 18) (q := 0) dX3_passOffices_45 xf3_53 (sa_18_0 hs) rfl hn rfl rfl (by decide) ?_
        show Ev g _ _ _ _ _ _ 48 [some (x_r (16 * 22 + 0)), some (x_r (16 * 19 + 0)), some (x_i a), some (x_i v6), some (x_i v7), some (x_i v8)] [x_i (Th9 0 5)] (al, ro, fl (ml M [18, 19, 22] [Th9, La10, Fo11])) _ _ _ _
        refine e_iconst (pc := 48) dX3_passOffices_48 (x_R rfl) ?_
        refine e_irem (pc := 49) dX3_passOffices_49 (by decide) ?_
        obtain ⟨v18, hr18, hf16⟩ := x_bd1 hf16
        have hjhr18 : Ev g yX3_passOffices cX3_passOffices 6 (some .int) [] 5 56 [some (x_r (16 * 22 + 0)), some (x_r (16 * 19 + 0)), some (x_i a), some (x_i v18), some (x_i v7), some (x_i v8)] [] (al, ro, fl (ml M [18, 19, 22] [Th9, La10, Fo11])) 0 0 (.inl (some (x_i t.1))) (al, ro, fl (ml M [18, 19, 22] [t.2.1, t.2.2.1, t.2.2.2])) := by
          refine e_iload (pc := 56) dX3_passOffices_56 rfl ?_
          refine e_aloadn (pc := 58) (i := 0) dX3_passOffices_58 rfl rfl ?_
          refine e_aloadn (pc := 59) (i := 0) dX3_passOffices_59 rfl rfl ?_
          refine f_getr (pc := 60) (u := 22) (q := 0) dX3_passOffices_60 xf3_12 (sa_22_0 hs) rfl (sr_22_0_0 hs) ?_
          refine e_aloadn (pc := 63) (i := 1) dX3_passOffices_63 rfl rfl ?_
          refine e_iconst (pc := 64) dX3_passOffices_64 (x_R rfl) ?_
          obtain ⟨v20, Th21, La22, hq22, hf16⟩ := x_bd3 hf16
          refine e_invV (pc := 65) (K1 := 0) (S1 := 0) (K := 0) (S := 0) (dd2 := 4) (av := [x_r (16 * 19 + 0), x_i 0]) (st := [x_r (16 * 22 + 0), x_i v7]) (id := 16 * 18 + 0) dX3_passOffices_65 xmX3_30 rfl (Or.inl ⟨1, 12, TX1, (sa_18_0 hs), rfl, by decide⟩) (f_cal (M := M) (us2 := [18, 19]) [0, 1] hn rfl (And.intro rfl (And.intro rfl trivial)) rfl rfl rfl (c_X1_passHour hst hs (by decide)  hq22)) (by decide) (Nat.le_of_ble_eq_true rfl) (Or.inl rfl) ?_
          show Ev g _ _ _ _ _ _ 68 [some (x_r (16 * 22 + 0)), some (x_r (16 * 19 + 0)), some (x_i a), some (x_i v18), some (x_i v7), some (x_i v8)] [x_i v20, x_r (16 * 22 + 0), x_i v7] (al, ro, fl (ml M [18, 19, 22] [Th21, La22, Fo11])) _ _ _ _
          obtain ⟨v24, Fo25, hq25, hf16⟩ := x_bd2 hf16
          refine e_invV (pc := 68) (K1 := 0) (S1 := 0) (K := 0) (S := 0) (dd2 := 1) (av := [x_i v20]) (st := [x_i v7]) (id := 16 * 22 + 0) dX3_passOffices_68 xmX3_57 rfl (Or.inl ⟨2, 3, TX3, (sa_22_0 hs), rfl, by decide⟩) (f_cal (M := M) (us2 := [22]) [2] hn rfl (And.intro rfl trivial) rfl rfl rfl (c_X3_countLate hst hs   hq25)) (by decide) (Nat.le_of_ble_eq_true rfl) (Or.inl rfl) ?_
          show Ev g _ _ _ _ _ _ 71 [some (x_r (16 * 22 + 0)), some (x_r (16 * 19 + 0)), some (x_i a), some (x_i v18), some (x_i v7), some (x_i v8)] [x_i v24, x_i v7] (al, ro, fl (ml M [18, 19, 22] [Th21, La22, Fo25])) _ _ _ _
          refine e_iadd (pc := 71) dX3_passOffices_71 ?_
          refine e_istore (pc := 72) (i := 4) dX3_passOffices_72 (by decide) rfl ?_
          show Ev g _ _ _ _ _ _ 74 [some (x_r (16 * 22 + 0)), some (x_r (16 * 19 + 0)), some (x_i a), some (x_i v18), some (x_i (x_add v7 v24)), some (x_i v8)] [] (al, ro, fl (ml M [18, 19, 22] [Th21, La22, Fo25])) _ _ _ _
          refine e_iinc (pc := 74) dX3_passOffices_74 rfl (by decide) rfl ?_
          show Ev g _ _ _ _ _ _ 77 [some (x_r (16 * 22 + 0)), some (x_r (16 * 19 + 0)), some (x_i a), some (x_i v18), some (x_i (x_add v7 v24)), some (x_i (x_add v8 1))] [] (al, ro, fl (ml M [18, 19, 22] [Th21, La22, Fo25])) _ _ _ _
          refine e_goto (pc := 77) (tgt := 29) dX3_passOffices_77 (by decide) ?_
          cases hf16
          exact hi16 _ rfl
        clear hf16
        refine e_if_ne (pc := 50) (tgt := 56) dX3_passOffices_50 (by decide) (fun hb => ?_) (fun hb => ?_)
        · rw [if_neg hb] at hr18
          cases hr18
          exact hjhr18
        · rw [if_pos hb] at hr18
          refine e_iinc (pc := 53) dX3_passOffices_53 rfl (by decide) rfl ?_
          show Ev g _ _ _ _ _ _ 56 [some (x_r (16 * 22 + 0)), some (x_r (16 * 19 + 0)), some (x_i a), some (x_i (x_add v6 1)), some (x_i v7), some (x_i v8)] [] (al, ro, fl (ml M [18, 19, 22] [Th9, La10, Fo11])) _ _ _ _
          cases hr18
          exact hjhr18
  clear hG
  refine e_whl G3_passOffices_L2 (fun z : (Int × xU) => Ev g yX3_passOffices cX3_passOffices 6 (some .int) [] 5 2 [some (x_r (16 * 22 + 0)), some (x_r (16 * 19 + 0)), some (x_i a), some (x_i z.1), none, none] [] (al, ro, fl (ml M [18, 19, 22] [Th, La, z.2])) 0 0 (.inl (some (x_i t.1))) (al, ro, fl (ml M [18, 19, 22] [t.2.1, t.2.2.1, t.2.2.2]))) (fun q => q = Fo3) ?_ xFU (0, Fo) _ hl4 rfl
  intro z t4 hf4 hi4 hx4
  obtain ⟨v1, Fo2⟩ := z
  rw [G3_passOffices_L2] at hf4
  show Ev g _ _ _ _ _ _ 2 [some (x_r (16 * 22 + 0)), some (x_r (16 * 19 + 0)), some (x_i a), some (x_i v1), none, none] [] (al, ro, fl (ml M [18, 19, 22] [Th, La, Fo2])) _ _ _ _
  refine e_iloadn (pc := 2) (i := 3) dX3_passOffices_2 rfl rfl ?_
  refine e_bipush (pc := 3) dX3_passOffices_3 (by decide +kernel) (x_R rfl) ?_
  refine e_icmp_ge (pc := 5) (tgt := 21) dX3_passOffices_5 (by decide) (fun hb => ?_) (fun hb => ?_)
  · rw [if_pos hb] at hf4
    cases hf4
    refine e_drop (i := 3) ?_
    exact hk4 _ (hx4 _ rfl)
  · rw [if_neg hb] at hf4
    refine e_aloadn (pc := 8) (i := 0) dX3_passOffices_8 rfl rfl ?_
    refine f_getr (pc := 9) (u := 22) (q := 0) dX3_passOffices_9 xf3_18 (sa_22_0 hs) rfl (sr_22_0_1 hs) ?_
    refine e_iloadn (pc := 12) (i := 3) dX3_passOffices_12 rfl rfl ?_
    refine e_iconst (pc := 13) dX3_passOffices_13 (x_R rfl) ?_
    obtain ⟨hc0, hf4⟩ := x_gd_some hf4
    refine f_iast (pc := 14) (k := 2) (u := 22) (q := 1) (len := 7) dX3_passOffices_14 (sa_22_1 hs) hc0 hn rfl rfl rfl (by decide) ?_
    show Ev g _ _ _ _ _ _ 15 [some (x_r (16 * 22 + 0)), some (x_r (16 * 19 + 0)), some (x_i a), some (x_i v1), none, none] [] (al, ro, fl (ml M [18, 19, 22] [Th, La, (x_up Fo2 1 (v1).toNat 0)])) _ _ _ _
    refine e_iinc (pc := 15) dX3_passOffices_15 rfl (by decide) rfl ?_
    show Ev g _ _ _ _ _ _ 18 [some (x_r (16 * 22 + 0)), some (x_r (16 * 19 + 0)), some (x_i a), some (x_i (x_add v1 1)), none, none] [] (al, ro, fl (ml M [18, 19, 22] [Th, La, (x_up Fo2 1 (v1).toNat 0)])) _ _ _ _
    refine e_goto (pc := 18) (tgt := 2) dX3_passOffices_18 (by decide) ?_
    cases hf4
    exact hi4 _ rfl
set_option maxRecDepth 100000 in
set_option maxHeartbeats 4000000 in
theorem c_X3_mostLate {g : xG} {al : List (Nat × Nat × Nat)} {ro : Nat → Nat → Option Nat} (hst : g.1.stackTraces = false) (hs : SH al ro) {M : Nat → xU} {Fo : xU}  {t : Int} (hG : G3_mostLate Fo = some t) :
    Cal g yX3_mostLate cX3_mostLate 4 (some .int) 0 [x_r (16 * 22 + 0)] (al, ro, fl (ml M [22] [Fo])) 0 0 (.inl (some (x_i t))) (al, ro, fl (ml M [22] [Fo])) := by
  have hn : ([22] : List Nat).Nodup := by decide
  refine cal_of_ev (plainFor_of_name (by decide)) (x_c1 rfl) (Nat.le_of_ble_eq_true rfl) hst ?_
  show Ev g _ _ _ _ _ _ 0 [some (x_r (16 * 22 + 0)), none, none, none] [] (al, ro, fl (ml M [22] [Fo])) _ _ _ _
  rw [G3_mostLate] at hG
  refine e_iconst (pc := 0) dX3_mostLate_0 (x_R rfl) ?_
  refine e_istoren (pc := 1) (i := 1) dX3_mostLate_1 rfl (by decide) rfl ?_
  show Ev g _ _ _ _ _ _ 2 [some (x_r (16 * 22 + 0)), some (x_i (-1)), none, none] [] (al, ro, fl (ml M [22] [Fo])) _ _ _ _
  refine e_iconst (pc := 2) dX3_mostLate_2 (x_R rfl) ?_
  refine e_istoren (pc := 3) (i := 2) dX3_mostLate_3 rfl (by decide) rfl ?_
  show Ev g _ _ _ _ _ _ 4 [some (x_r (16 * 22 + 0)), some (x_i (-1)), some (x_i 0), none] [] (al, ro, fl (ml M [22] [Fo])) _ _ _ _
  refine e_iconst (pc := 4) dX3_mostLate_4 (x_R rfl) ?_
  refine e_istoren (pc := 5) (i := 3) dX3_mostLate_5 rfl (by decide) rfl ?_
  show Ev g _ _ _ _ _ _ 6 [some (x_r (16 * 22 + 0)), some (x_i (-1)), some (x_i 0), some (x_i 0)] [] (al, ro, fl (ml M [22] [Fo])) _ _ _ _
  obtain ⟨v4, hl5, hG⟩ := x_bd1 hG
  have hk5 : ∀ q : Int, q = v4 → Ev g yX3_mostLate cX3_mostLate 4 (some .int) [] 0 37 [some (x_r (16 * 22 + 0)), some (x_i q), none, none] [] (al, ro, fl (ml M [22] [Fo])) 0 0 (.inl (some (x_i t))) (al, ro, fl (ml M [22] [Fo])) := by
    intro q hq
    replace hq := hq.symm
    subst hq
    refine e_iloadn (pc := 37) (i := 1) dX3_mostLate_37 rfl rfl ?_
    cases hG
    exact (e_ireturn rfl dX3_mostLate_38 rfl)
  clear hG
  refine e_whl (G3_mostLate_L6 Fo) (fun z : (Int × Int × Int) => Ev g yX3_mostLate cX3_mostLate 4 (some .int) [] 0 6 [some (x_r (16 * 22 + 0)), some (x_i z.1), some (x_i z.2.1), some (x_i z.2.2)] [] (al, ro, fl (ml M [22] [Fo])) 0 0 (.inl (some (x_i t))) (al, ro, fl (ml M [22] [Fo]))) (fun q => q = v4) ?_ xFU ((-1), 0, 0) _ hl5 rfl
  intro z t5 hf5 hi5 hx5
  obtain ⟨v1, v2, v3⟩ := z
  rw [G3_mostLate_L6] at hf5
  show Ev g _ _ _ _ _ _ 6 [some (x_r (16 * 22 + 0)), some (x_i v1), some (x_i v2), some (x_i v3)] [] (al, ro, fl (ml M [22] [Fo])) _ _ _ _
  refine e_iloadn (pc := 6) (i := 3) dX3_mostLate_6 rfl rfl ?_
  refine e_bipush (pc := 7) dX3_mostLate_7 (by decide +kernel) (x_R rfl) ?_
  refine e_icmp_ge (pc := 9) (tgt := 37) dX3_mostLate_9 (by decide) (fun hb => ?_) (fun hb => ?_)
  · rw [if_pos hb] at hf5
    cases hf5
    refine e_drop (i := 2) ?_
    refine e_drop (i := 3) ?_
    exact hk5 _ (hx5 _ rfl)
  · rw [if_neg hb] at hf5
    refine e_aloadn (pc := 12) (i := 0) dX3_mostLate_12 rfl rfl ?_
    refine f_getr (pc := 13) (u := 22) (q := 0) dX3_mostLate_13 xf3_18 (sa_22_0 hs) rfl (sr_22_0_1 hs) ?_
    refine e_iloadn (pc := 16) (i := 3) dX3_mostLate_16 rfl rfl ?_
    obtain ⟨hc0, hf5⟩ := x_gd_some hf5
    refine f_iald (pc := 17) (k := 0) (u := 22) (q := 1) (len := 7) dX3_mostLate_17 (sa_22_1 hs) hc0 hn rfl rfl (by decide) ?_
    show Ev g _ _ _ _ _ _ 18 [some (x_r (16 * 22 + 0)), some (x_i v1), some (x_i v2), some (x_i v3)] [x_i (Fo 1 (v3).toNat)] (al, ro, fl (ml M [22] [Fo])) _ _ _ _
    refine e_iloadn (pc := 18) (i := 2) dX3_mostLate_18 rfl rfl ?_
    obtain ⟨v7, v8, hr8, hf5⟩ := x_bd2 hf5
    have hjhr8 : Ev g yX3_mostLate cX3_mostLate 4 (some .int) [] 0 31 [some (x_r (16 * 22 + 0)), some (x_i v7), some (x_i v8), some (x_i v3)] [] (al, ro, fl (ml M [22] [Fo])) 0 0 (.inl (some (x_i t))) (al, ro, fl (ml M [22] [Fo])) := by
      refine e_iinc (pc := 31) dX3_mostLate_31 rfl (by decide) rfl ?_
      show Ev g _ _ _ _ _ _ 34 [some (x_r (16 * 22 + 0)), some (x_i v7), some (x_i v8), some (x_i (x_add v3 1))] [] (al, ro, fl (ml M [22] [Fo])) _ _ _ _
      refine e_goto (pc := 34) (tgt := 6) dX3_mostLate_34 (by decide) ?_
      cases hf5
      exact hi5 _ rfl
    clear hf5
    refine e_icmp_le (pc := 19) (tgt := 31) dX3_mostLate_19 (by decide) (fun hb => ?_) (fun hb => ?_)
    · rw [if_pos hb] at hr8
      cases hr8
      exact hjhr8
    · rw [if_neg hb] at hr8
      refine e_aloadn (pc := 22) (i := 0) dX3_mostLate_22 rfl rfl ?_
      refine f_getr (pc := 23) (u := 22) (q := 0) dX3_mostLate_23 xf3_18 (sa_22_0 hs) rfl (sr_22_0_1 hs) ?_
      refine e_iloadn (pc := 26) (i := 3) dX3_mostLate_26 rfl rfl ?_
      obtain ⟨hc0, hr8⟩ := x_gd_some hr8
      refine f_iald (pc := 27) (k := 0) (u := 22) (q := 1) (len := 7) dX3_mostLate_27 (sa_22_1 hs) hc0 hn rfl rfl (by decide) ?_
      show Ev g _ _ _ _ _ _ 28 [some (x_r (16 * 22 + 0)), some (x_i v1), some (x_i v2), some (x_i v3)] [x_i (Fo 1 (v3).toNat)] (al, ro, fl (ml M [22] [Fo])) _ _ _ _
      refine e_istoren (pc := 28) (i := 2) dX3_mostLate_28 rfl (by decide) rfl ?_
      show Ev g _ _ _ _ _ _ 29 [some (x_r (16 * 22 + 0)), some (x_i v1), some (x_i (Fo 1 (v3).toNat)), some (x_i v3)] [] (al, ro, fl (ml M [22] [Fo])) _ _ _ _
      refine e_iloadn (pc := 29) (i := 3) dX3_mostLate_29 rfl rfl ?_
      refine e_istoren (pc := 30) (i := 1) dX3_mostLate_30 rfl (by decide) rfl ?_
      show Ev g _ _ _ _ _ _ 31 [some (x_r (16 * 22 + 0)), some (x_i v3), some (x_i (Fo 1 (v3).toNat)), some (x_i v3)] [] (al, ro, fl (ml M [22] [Fo])) _ _ _ _
      cases hr8
      exact hjhr8
set_option maxRecDepth 100000 in
set_option maxHeartbeats 4000000 in
theorem c_X3_bestChoice {g : xG} {al : List (Nat × Nat × Nat)} {ro : Nat → Nat → Option Nat} (hst : g.1.stackTraces = false) (hs : SH al ro) {M : Nat → xU} {a : Int} {N : xU} {Th : xU} {La : xU} {Fo : xU}  {t : (Int × xU × xU × xU)} (hG : G3_bestChoice a N Th La Fo = some t) :
    Cal g yX3_bestChoice cX3_bestChoice 8 (some .int) 6 [x_r (16 * 22 + 0), x_r (16 * 3 + 0), x_r (16 * 19 + 0), x_i a] (al, ro, fl (ml M [3, 18, 19, 22] [N, Th, La, Fo])) 0 0 (.inl (some (x_i t.1))) (al, ro, fl (ml M [3, 18, 19, 22] [N, t.2.1, t.2.2.1, t.2.2.2])) := by
  have hn : ([3, 18, 19, 22] : List Nat).Nodup := by decide
  refine cal_of_ev (plainFor_of_name (by decide)) (x_c1 rfl) (Nat.le_of_ble_eq_true rfl) hst ?_
  show Ev g _ _ _ _ _ _ 0 [some (x_r (16 * 22 + 0)), some (x_r (16 * 3 + 0)), some (x_r (16 * 19 + 0)), some (x_i a), none, none, none, none] [] (al, ro, fl (ml M [3, 18, 19, 22] [N, Th, La, Fo])) _ _ _ _
  rw [G3_bestChoice] at hG
  refine e_iconst (pc := 0) dX3_bestChoice_0 (x_R rfl) ?_
  refine e_istore (pc := 1) (i := 4) dX3_bestChoice_1 (by decide) rfl ?_
  show Ev g _ _ _ _ _ _ 3 [some (x_r (16 * 22 + 0)), some (x_r (16 * 3 + 0)), some (x_r (16 * 19 + 0)), some (x_i a), some (x_i 0), none, none, none] [] (al, ro, fl (ml M [3, 18, 19, 22] [N, Th, La, Fo])) _ _ _ _
  refine e_ldc (pc := 3) dX3_bestChoice_3 xkX3_68 (x_R rfl) ?_
  refine e_istore (pc := 5) (i := 5) dX3_bestChoice_5 (by decide) rfl ?_
  show Ev g _ _ _ _ _ _ 7 [some (x_r (16 * 22 + 0)), some (x_r (16 * 3 + 0)), some (x_r (16 * 19 + 0)), some (x_i a), some (x_i 0), some (x_i 1000000), none, none] [] (al, ro, fl (ml M [3, 18, 19, 22] [N, Th, La, Fo])) _ _ _ _
  refine e_iconst (pc := 7) dX3_bestChoice_7 (x_R rfl) ?_
  refine e_istore (pc := 8) (i := 6) dX3_bestChoice_8 (by decide) rfl ?_
  show Ev g _ _ _ _ _ _ 10 [some (x_r (16 * 22 + 0)), some (x_r (16 * 3 + 0)), some (x_r (16 * 19 + 0)), some (x_i a), some (x_i 0), some (x_i 1000000), some (x_i 0), none] [] (al, ro, fl (ml M [3, 18, 19, 22] [N, Th, La, Fo])) _ _ _ _
  obtain ⟨v7, Th8, La9, Fo10, hl11, hG⟩ := x_bd4 hG
  have hk11 : ∀ q : (Int × xU × xU × xU), q = (v7, Th8, La9, Fo10) → Ev g yX3_bestChoice cX3_bestChoice 8 (some .int) [] 6 85 [some (x_r (16 * 22 + 0)), some (x_r (16 * 3 + 0)), some (x_r (16 * 19 + 0)), some (x_i a), some (x_i q.1), none, none, none] [] (al, ro, fl (ml M [3, 18, 19, 22] [N, q.2.1, q.2.2.1, q.2.2.2])) 0 0 (.inl (some (x_i t.1))) (al, ro, fl (ml M [3, 18, 19, 22] [N, t.2.1, t.2.2.1, t.2.2.2])) := by
    intro q hq
    cases hq
    refine e_iload (pc := 85) dX3_bestChoice_85 rfl ?_
    cases hG
    exact (e_ireturn rfl dX3_bestChoice_87 rfl)
  clear hG
  refine e_whl (G3_bestChoice_L10 a N) (fun z : (Int × Int × Int × xU × xU × xU) => Ev g yX3_bestChoice cX3_bestChoice 8 (some .int) [] 6 10 [some (x_r (16 * 22 + 0)), some (x_r (16 * 3 + 0)), some (x_r (16 * 19 + 0)), some (x_i a), some (x_i z.1), some (x_i z.2.1), some (x_i z.2.2.1), none] [] (al, ro, fl (ml M [3, 18, 19, 22] [N, z.2.2.2.1, z.2.2.2.2.1, z.2.2.2.2.2])) 0 0 (.inl (some (x_i t.1))) (al, ro, fl (ml M [3, 18, 19, 22] [N, t.2.1, t.2.2.1, t.2.2.2]))) (fun q => q = (v7, Th8, La9, Fo10)) ?_ xFU (0, 1000000, 0, Th, La, Fo) _ hl11 rfl
  intro z t11 hf11 hi11 hx11
  obtain ⟨v1, v2, v3, Th4, La5, Fo6⟩ := z
  rw [G3_bestChoice_L10] at hf11
  show Ev g _ _ _ _ _ _ 10 [some (x_r (16 * 22 + 0)), some (x_r (16 * 3 + 0)), some (x_r (16 * 19 + 0)), some (x_i a), some (x_i v1), some (x_i v2), some (x_i v3), none] [] (al, ro, fl (ml M [3, 18, 19, 22] [N, Th4, La5, Fo6])) _ _ _ _
  refine e_iload (pc := 10) dX3_bestChoice_10 rfl ?_
  refine e_iloadn (pc := 12) (i := 3) dX3_bestChoice_12 rfl rfl ?_
  obtain ⟨v13, hr13, hf11⟩ := x_bd1 hf11
  have hjhr13 : Ev g yX3_bestChoice cX3_bestChoice 8 (some .int) [] 6 22 [some (x_r (16 * 22 + 0)), some (x_r (16 * 3 + 0)), some (x_r (16 * 19 + 0)), some (x_i a), some (x_i v1), some (x_i v2), some (x_i v3), none] [x_i v13, x_i v3] (al, ro, fl (ml M [3, 18, 19, 22] [N, Th4, La5, Fo6])) 0 0 (.inl (some (x_i t.1))) (al, ro, fl (ml M [3, 18, 19, 22] [N, t.2.1, t.2.2.1, t.2.2.2])) := by
    refine e_icmp_ge (pc := 22) (tgt := 85) dX3_bestChoice_22 (by decide) (fun hb => ?_) (fun hb => ?_)
    · rw [if_pos hb] at hf11
      cases hf11
      refine e_drop (i := 5) ?_
      refine e_drop (i := 6) ?_
      exact hk11 _ (hx11 _ rfl)
    · rw [if_neg hb] at hf11
      refine e_aloadn (pc := 25) (i := 0) dX3_bestChoice_25 rfl rfl ?_
      refine e_aloadn (pc := 26) (i := 1) dX3_bestChoice_26 rfl rfl ?_
      obtain ⟨Th15, hq15, hf11⟩ := x_bd1 hf11
      refine e_invV (pc := 27) (K1 := 0) (S1 := 0) (K := 0) (S := 0) (dd2 := 3) (av := [x_r (16 * 3 + 0)]) (st := []) (id := 16 * 22 + 0) dX3_bestChoice_27 xmX3_34 rfl (Or.inl ⟨2, 3, TX3, (sa_22_0 hs), rfl, by decide⟩) (f_cal (M := M) (us2 := [3, 18]) [0, 1] hn rfl (And.intro rfl (And.intro rfl trivial)) rfl rfl rfl (c_X3_look hst hs   hq15)) (by decide) (Nat.le_of_ble_eq_true rfl) (Or.inl rfl) ?_
      show Ev g _ _ _ _ _ _ 30 [some (x_r (16 * 22 + 0)), some (x_r (16 * 3 + 0)), some (x_r (16 * 19 + 0)), some (x_i a), some (x_i v1), some (x_i v2), some (x_i v3), none] [] (al, ro, fl (ml M [3, 18, 19, 22] [N, Th15, La5, Fo6])) _ _ _ _
      refine e_iloadn (pc := 30) (i := 3) dX3_bestChoice_30 rfl rfl ?_
      obtain ⟨Th17, hr17, hf11⟩ := x_bd1 hf11
      have hjhr17 : Ev g yX3_bestChoice cX3_bestChoice 8 (some .int) [] 6 55 [some (x_r (16 * 22 + 0)), some (x_r (16 * 3 + 0)), some (x_r (16 * 19 + 0)), some (x_i a), some (x_i v1), some (x_i v2), some (x_i v3), none] [] (al, ro, fl (ml M [3, 18, 19, 22] [N, Th17, La5, Fo6])) 0 0 (.inl (some (x_i t.1))) (al, ro, fl (ml M [3, 18, 19, 22] [N, t.2.1, t.2.2.1, t.2.2.2])) := by
        refine e_aloadn (pc := 55) (i := 0) dX3_bestChoice_55 rfl rfl ?_
        refine e_aloadn (pc := 56) (i := 2) dX3_bestChoice_56 rfl rfl ?_
        refine e_bipush (pc := 57) dX3_bestChoice_57 (by decide +kernel) (x_R rfl) ?_
        obtain ⟨v19, Th20, La21, Fo22, hq22, hf11⟩ := x_bd4 hf11
        refine e_invV (pc := 59) (K1 := 0) (S1 := 0) (K := 0) (S := 0) (dd2 := 5) (av := [x_r (16 * 19 + 0), x_i 8]) (st := []) (id := 16 * 22 + 0) dX3_bestChoice_59 xmX3_75 rfl (Or.inl ⟨2, 3, TX3, (sa_22_0 hs), rfl, by decide⟩) (f_cal (M := M) (us2 := [18, 19, 22]) [1, 2, 3] hn rfl (And.intro rfl (And.intro rfl (And.intro rfl trivial))) rfl rfl rfl (c_X3_passOffices hst hs   hq22)) (by decide) (Nat.le_of_ble_eq_true rfl) (Or.inl rfl) ?_
        show Ev g _ _ _ _ _ _ 62 [some (x_r (16 * 22 + 0)), some (x_r (16 * 3 + 0)), some (x_r (16 * 19 + 0)), some (x_i a), some (x_i v1), some (x_i v2), some (x_i v3), none] [x_i v19] (al, ro, fl (ml M [3, 18, 19, 22] [N, Th20, La21, Fo22])) _ _ _ _
        refine e_istore (pc := 62) (i := 7) dX3_bestChoice_62 (by decide) rfl ?_
        show Ev g _ _ _ _ _ _ 64 [some (x_r (16 * 22 + 0)), some (x_r (16 * 3 + 0)), some (x_r (16 * 19 + 0)), some (x_i a), some (x_i v1), some (x_i v2), some (x_i v3), some (x_i v19)] [] (al, ro, fl (ml M [3, 18, 19, 22] [N, Th20, La21, Fo22])) _ _ _ _
        refine e_iload (pc := 64) dX3_bestChoice_64 rfl ?_
        refine e_iload (pc := 66) dX3_bestChoice_66 rfl ?_
        obtain ⟨v24, v25, hr25, hf11⟩ := x_bd2 hf11
        have hjhr25 : Ev g yX3_bestChoice cX3_bestChoice 8 (some .int) [] 6 79 [some (x_r (16 * 22 + 0)), some (x_r (16 * 3 + 0)), some (x_r (16 * 19 + 0)), some (x_i a), some (x_i v24), some (x_i v25), some (x_i v3), some (x_i v19)] [] (al, ro, fl (ml M [3, 18, 19, 22] [N, Th20, La21, Fo22])) 0 0 (.inl (some (x_i t.1))) (al, ro, fl (ml M [3, 18, 19, 22] [N, t.2.1, t.2.2.1, t.2.2.2])) := by
          refine e_iinc (pc := 79) dX3_bestChoice_79 rfl (by decide) rfl ?_
          show Ev g _ _ _ _ _ _ 82 [some (x_r (16 * 22 + 0)), some (x_r (16 * 3 + 0)), some (x_r (16 * 19 + 0)), some (x_i a), some (x_i v24), some (x_i v25), some (x_i (x_add v3 1)), some (x_i v19)] [] (al, ro, fl (ml M [3, 18, 19, 22] [N, Th20, La21, Fo22])) _ _ _ _
          refine e_goto (pc := 82) (tgt := 10) dX3_bestChoice_82 (by decide) ?_
          cases hf11
          refine e_drop (i := 7) ?_
          exact hi11 _ rfl
        clear hf11
        refine e_icmp_ge (pc := 68) (tgt := 79) dX3_bestChoice_68 (by decide) (fun hb => ?_) (fun hb => ?_)
        · rw [if_pos hb] at hr25
          cases hr25
          exact hjhr25
        · rw [if_neg hb] at hr25
          refine e_iload (pc := 71) dX3_bestChoice_71 rfl ?_
          refine e_istore (pc := 73) (i := 5) dX3_bestChoice_73 (by decide) rfl ?_
          show Ev g _ _ _ _ _ _ 75 [some (x_r (16 * 22 + 0)), some (x_r (16 * 3 + 0)), some (x_r (16 * 19 + 0)), some (x_i a), some (x_i v1), some (x_i v19), some (x_i v3), some (x_i v19)] [] (al, ro, fl (ml M [3, 18, 19, 22] [N, Th20, La21, Fo22])) _ _ _ _
          refine e_iload (pc := 75) dX3_bestChoice_75 rfl ?_
          refine e_istore (pc := 77) (i := 4) dX3_bestChoice_77 (by decide) rfl ?_
          show Ev g _ _ _ _ _ _ 79 [some (x_r (16 * 22 + 0)), some (x_r (16 * 3 + 0)), some (x_r (16 * 19 + 0)), some (x_i a), some (x_i v3), some (x_i v19), some (x_i v3), some (x_i v19)] [] (al, ro, fl (ml M [3, 18, 19, 22] [N, Th20, La21, Fo22])) _ _ _ _
          cases hr25
          exact hjhr25
      clear hf11
      refine e_if_eq (pc := 31) (tgt := 46) dX3_bestChoice_31 (by decide) (fun hb => ?_) (fun hb => ?_)
      · rw [if_pos hb] at hr17
        refine e_aloadn (pc := 46) (i := 0) dX3_bestChoice_46 rfl rfl ?_
        refine f_getr (pc := 47) (u := 22) (q := 0) dX3_bestChoice_47 xf3_12 (sa_22_0 hs) rfl (sr_22_0_0 hs) ?_
        refine e_iload (pc := 50) dX3_bestChoice_50 rfl ?_
        refine f_puti (pc := 52) (k := 1) (u := 18) (q := 0) dX3_bestChoice_52 xf3_72 xw1_7 (sa_18_0 hs) hn rfl rfl rfl (by decide) ?_
        show Ev g _ _ _ _ _ _ 55 [some (x_r (16 * 22 + 0)), some (x_r (16 * 3 + 0)), some (x_r (16 * 19 + 0)), some (x_i a), some (x_i v1), some (x_i v2), some (x_i v3), none] [] (al, ro, fl (ml M [3, 18, 19, 22] [N, (x_up Th15 0 7 v3), La5, Fo6])) _ _ _ _
        cases hr17
        exact hjhr17
      · rw [if_neg hb] at hr17
        refine e_aloadn (pc := 34) (i := 0) dX3_bestChoice_34 rfl rfl ?_
        refine f_getr (pc := 35) (u := 22) (q := 0) dX3_bestChoice_35 xf3_12 (sa_22_0 hs) rfl (sr_22_0_0 hs) ?_
        refine e_iload (pc := 38) dX3_bestChoice_38 rfl ?_
        refine f_puti (pc := 40) (k := 1) (u := 18) (q := 0) dX3_bestChoice_40 xf3_69 xw1_8 (sa_18_0 hs) hn rfl rfl rfl (by decide) ?_
        show Ev g _ _ _ _ _ _ 43 [some (x_r (16 * 22 + 0)), some (x_r (16 * 3 + 0)), some (x_r (16 * 19 + 0)), some (x_i a), some (x_i v1), some (x_i v2), some (x_i v3), none] [] (al, ro, fl (ml M [3, 18, 19, 22] [N, (x_up Th15 0 8 v3), La5, Fo6])) _ _ _ _
        refine e_goto (pc := 43) (tgt := 55) dX3_bestChoice_43 (by decide) ?_
        cases hr17
        exact hjhr17
  clear hf11
  refine e_if_eq (pc := 13) (tgt := 20) dX3_bestChoice_13 (by decide) (fun hb => ?_) (fun hb => ?_)
  · rw [if_pos hb] at hr13
    refine e_bipush (pc := 20) dX3_bestChoice_20 (by decide +kernel) (x_R rfl) ?_
    cases hr13
    exact hjhr13
  · rw [if_neg hb] at hr13
    refine e_iconst (pc := 16) dX3_bestChoice_16 (x_R rfl) ?_
    refine e_goto (pc := 17) (tgt := 22) dX3_bestChoice_17 (by decide) ?_
    cases hr13
    exact hjhr13
set_option maxRecDepth 100000 in
set_option maxHeartbeats 4000000 in
theorem c_X3_spanOf {g : xG} {al : List (Nat × Nat × Nat)} {ro : Nat → Nat → Option Nat} (hst : g.1.stackTraces = false) (hs : SH al ro) {M : Nat → xU} {a : Int} {b : Int} {N : xU} {Th : xU} {La : xU}  {t : (Int × xU × xU)} (hG : G3_spanOf a b N Th La = some t) :
    Cal g yX3_spanOf cX3_spanOf 9 (some .int) 6 [x_r (16 * 22 + 0), x_r (16 * 3 + 0), x_r (16 * 19 + 0), x_i a, x_i b] (al, ro, fl (ml M [3, 18, 19] [N, Th, La])) 0 0 (.inl (some (x_i t.1))) (al, ro, fl (ml M [3, 18, 19] [N, t.2.1, t.2.2])) := by
  have hn : ([3, 18, 19] : List Nat).Nodup := by decide
  refine cal_of_ev (plainFor_of_name (by decide)) (x_c1 rfl) (Nat.le_of_ble_eq_true rfl) hst ?_
  show Ev g _ _ _ _ _ _ 0 [some (x_r (16 * 22 + 0)), some (x_r (16 * 3 + 0)), some (x_r (16 * 19 + 0)), some (x_i a), some (x_i b), none, none, none, none] [] (al, ro, fl (ml M [3, 18, 19] [N, Th, La])) _ _ _ _
  rw [G3_spanOf] at hG
  refine e_ldc (pc := 0) dX3_spanOf_0 xkX3_68 (x_R rfl) ?_
  refine e_istore (pc := 2) (i := 5) dX3_spanOf_2 (by decide) rfl ?_
  show Ev g _ _ _ _ _ _ 4 [some (x_r (16 * 22 + 0)), some (x_r (16 * 3 + 0)), some (x_r (16 * 19 + 0)), some (x_i a), some (x_i b), some (x_i 1000000), none, none, none] [] (al, ro, fl (ml M [3, 18, 19] [N, Th, La])) _ _ _ _
  refine e_iconst (pc := 4) dX3_spanOf_4 (x_R rfl) ?_
  refine e_istore (pc := 5) (i := 6) dX3_spanOf_5 (by decide) rfl ?_
  show Ev g _ _ _ _ _ _ 7 [some (x_r (16 * 22 + 0)), some (x_r (16 * 3 + 0)), some (x_r (16 * 19 + 0)), some (x_i a), some (x_i b), some (x_i 1000000), some (x_i 0), none, none] [] (al, ro, fl (ml M [3, 18, 19] [N, Th, La])) _ _ _ _
  refine e_iconst (pc := 7) dX3_spanOf_7 (x_R rfl) ?_
  refine e_istore (pc := 8) (i := 7) dX3_spanOf_8 (by decide) rfl ?_
  show Ev g _ _ _ _ _ _ 10 [some (x_r (16 * 22 + 0)), some (x_r (16 * 3 + 0)), some (x_r (16 * 19 + 0)), some (x_i a), some (x_i b), some (x_i 1000000), some (x_i 0), some (x_i 1), none] [] (al, ro, fl (ml M [3, 18, 19] [N, Th, La])) _ _ _ _
  obtain ⟨v6, v7, Th8, La9, hl10, hG⟩ := x_bd4 hG
  have hk10 : ∀ q : (Int × Int × xU × xU), q = (v6, v7, Th8, La9) → Ev g yX3_spanOf cX3_spanOf 9 (some .int) [] 6 72 [some (x_r (16 * 22 + 0)), some (x_r (16 * 3 + 0)), some (x_r (16 * 19 + 0)), some (x_i a), some (x_i b), some (x_i q.1), some (x_i q.2.1), none, none] [] (al, ro, fl (ml M [3, 18, 19] [N, q.2.2.1, q.2.2.2])) 0 0 (.inl (some (x_i t.1))) (al, ro, fl (ml M [3, 18, 19] [N, t.2.1, t.2.2])) := by
    intro q hq
    cases hq
    refine e_iload (pc := 72) dX3_spanOf_72 rfl ?_
    obtain ⟨v19, hr19, hG⟩ := x_bd1 hG
    have hjhr19 : Ev g yX3_spanOf cX3_spanOf 9 (some .int) [] 6 84 [some (x_r (16 * 22 + 0)), some (x_r (16 * 3 + 0)), some (x_r (16 * 19 + 0)), some (x_i a), some (x_i b), some (x_i v6), some (x_i v7), none, none] [x_i v19] (al, ro, fl (ml M [3, 18, 19] [N, Th8, La9])) 0 0 (.inl (some (x_i t.1))) (al, ro, fl (ml M [3, 18, 19] [N, t.2.1, t.2.2])) := by
      cases hG
      exact (e_ireturn rfl dX3_spanOf_84 rfl)
    clear hG
    refine e_if_eq (pc := 74) (tgt := 82) dX3_spanOf_74 (by decide) (fun hb => ?_) (fun hb => ?_)
    · rw [if_pos hb] at hr19
      refine e_iload (pc := 82) dX3_spanOf_82 rfl ?_
      cases hr19
      exact hjhr19
    · rw [if_neg hb] at hr19
      refine e_iload (pc := 77) dX3_spanOf_77 rfl ?_
      refine e_goto (pc := 79) (tgt := 84) dX3_spanOf_79 (by decide) ?_
      cases hr19
      exact hjhr19
  clear hG
  refine e_whl (G3_spanOf_L10 a N) (fun z : (Int × Int × Int × xU × xU) => Ev g yX3_spanOf cX3_spanOf 9 (some .int) [] 6 10 [some (x_r (16 * 22 + 0)), some (x_r (16 * 3 + 0)), some (x_r (16 * 19 + 0)), some (x_i a), some (x_i b), some (x_i z.1), some (x_i z.2.1), some (x_i z.2.2.1), none] [] (al, ro, fl (ml M [3, 18, 19] [N, z.2.2.2.1, z.2.2.2.2])) 0 0 (.inl (some (x_i t.1))) (al, ro, fl (ml M [3, 18, 19] [N, t.2.1, t.2.2]))) (fun q => q = (v6, v7, Th8, La9)) ?_ xFU (1000000, 0, 1, Th, La) _ hl10 rfl
  intro z t10 hf10 hi10 hx10
  obtain ⟨v1, v2, v3, Th4, La5⟩ := z
  rw [G3_spanOf_L10] at hf10
  show Ev g _ _ _ _ _ _ 10 [some (x_r (16 * 22 + 0)), some (x_r (16 * 3 + 0)), some (x_r (16 * 19 + 0)), some (x_i a), some (x_i b), some (x_i v1), some (x_i v2), some (x_i v3), none] [] (al, ro, fl (ml M [3, 18, 19] [N, Th4, La5])) _ _ _ _
  refine e_iload (pc := 10) dX3_spanOf_10 rfl ?_
  refine e_bipush (pc := 12) dX3_spanOf_12 (by decide +kernel) (x_R rfl) ?_
  refine e_icmp_gt (pc := 14) (tgt := 72) dX3_spanOf_14 (by decide) (fun hb => ?_) (fun hb => ?_)
  · rw [if_pos hb] at hf10
    cases hf10
    refine e_drop (i := 7) ?_
    exact hk10 _ (hx10 _ rfl)
  · rw [if_neg hb] at hf10
    refine e_aloadn (pc := 17) (i := 0) dX3_spanOf_17 rfl rfl ?_
    refine e_aloadn (pc := 18) (i := 1) dX3_spanOf_18 rfl rfl ?_
    obtain ⟨Th12, hq12, hf10⟩ := x_bd1 hf10
    refine e_invV (pc := 19) (K1 := 0) (S1 := 0) (K := 0) (S := 0) (dd2 := 3) (av := [x_r (16 * 3 + 0)]) (st := []) (id := 16 * 22 + 0) dX3_spanOf_19 xmX3_34 rfl (Or.inl ⟨2, 3, TX3, (sa_22_0 hs), rfl, by decide⟩) (f_cal (M := M) (us2 := [3, 18]) [0, 1] hn rfl (And.intro rfl (And.intro rfl trivial)) rfl rfl rfl (c_X3_look hst hs   hq12)) (by decide) (Nat.le_of_ble_eq_true rfl) (Or.inl rfl) ?_
    show Ev g _ _ _ _ _ _ 22 [some (x_r (16 * 22 + 0)), some (x_r (16 * 3 + 0)), some (x_r (16 * 19 + 0)), some (x_i a), some (x_i b), some (x_i v1), some (x_i v2), some (x_i v3), none] [] (al, ro, fl (ml M [3, 18, 19] [N, Th12, La5])) _ _ _ _
    refine e_aloadn (pc := 22) (i := 0) dX3_spanOf_22 rfl rfl ?_
    refine f_getr (pc := 23) (u := 22) (q := 0) dX3_spanOf_23 xf3_12 (sa_22_0 hs) rfl (sr_22_0_0 hs) ?_
    refine e_iload (pc := 26) dX3_spanOf_26 rfl ?_
    refine f_puti (pc := 28) (k := 1) (u := 18) (q := 0) dX3_spanOf_28 xf3_79 xw1_11 (sa_18_0 hs) hn rfl rfl rfl (by decide) ?_
    show Ev g _ _ _ _ _ _ 31 [some (x_r (16 * 22 + 0)), some (x_r (16 * 3 + 0)), some (x_r (16 * 19 + 0)), some (x_i a), some (x_i b), some (x_i v1), some (x_i v2), some (x_i v3), none] [] (al, ro, fl (ml M [3, 18, 19] [N, (x_up Th12 0 11 v3), La5])) _ _ _ _
    refine e_aloadn (pc := 31) (i := 0) dX3_spanOf_31 rfl rfl ?_
    refine e_aloadn (pc := 32) (i := 2) dX3_spanOf_32 rfl rfl ?_
    refine e_iloadn (pc := 33) (i := 3) dX3_spanOf_33 rfl rfl ?_
    refine e_iconst (pc := 34) dX3_spanOf_34 (x_R rfl) ?_
    obtain ⟨Th14, La15, hq15, hf10⟩ := x_bd2 hf10
    refine e_invV (pc := 35) (K1 := 0) (S1 := 0) (K := 0) (S := 0) (dd2 := 5) (av := [x_r (16 * 19 + 0), x_i a, x_i 1]) (st := []) (id := 16 * 22 + 0) dX3_spanOf_35 xmX3_82 rfl (Or.inl ⟨2, 3, TX3, (sa_22_0 hs), rfl, by decide⟩) (f_cal (M := M) (us2 := [18, 19]) [1, 2] hn rfl (And.intro rfl (And.intro rfl trivial)) rfl rfl rfl (c_X3_passHours hst hs   hq15)) (by decide) (Nat.le_of_ble_eq_true rfl) (Or.inl rfl) ?_
    show Ev g _ _ _ _ _ _ 38 [some (x_r (16 * 22 + 0)), some (x_r (16 * 3 + 0)), some (x_r (16 * 19 + 0)), some (x_i a), some (x_i b), some (x_i v1), some (x_i v2), some (x_i v3), none] [] (al, ro, fl (ml M [3, 18, 19] [N, Th14, La15])) _ _ _ _
    refine e_aloadn (pc := 38) (i := 0) dX3_spanOf_38 rfl rfl ?_
    refine f_getr (pc := 39) (u := 22) (q := 0) dX3_spanOf_39 xf3_12 (sa_22_0 hs) rfl (sr_22_0_0 hs) ?_
    refine e_iconst (pc := 42) dX3_spanOf_42 (x_R rfl) ?_
    obtain ⟨v17, hq17, hf10⟩ := x_bd1 hf10
    refine e_invV (pc := 43) (K1 := 0) (S1 := 0) (K := 0) (S := 0) (dd2 := 1) (av := [x_i 5]) (st := []) (id := 16 * 18 + 0) dX3_spanOf_43 xmX3_49 rfl (Or.inl ⟨1, 12, TX1, (sa_18_0 hs), rfl, by decide⟩) (f_cal (M := M) (us2 := [18]) [1] hn rfl (And.intro rfl trivial) rfl rfl rfl (c_X1_sumOf hst hs (by decide)  hq17)) (by decide) (Nat.le_of_ble_eq_true rfl) (Or.inl rfl) ?_
    show Ev g _ _ _ _ _ _ 46 [some (x_r (16 * 22 + 0)), some (x_r (16 * 3 + 0)), some (x_r (16 * 19 + 0)), some (x_i a), some (x_i b), some (x_i v1), some (x_i v2), some (x_i v3), none] [x_i v17] (al, ro, fl (ml M [3, 18, 19] [N, Th14, La15])) _ _ _ _
    refine e_istore (pc := 46) (i := 8) dX3_spanOf_46 (by decide) rfl ?_
    show Ev g _ _ _ _ _ _ 48 [some (x_r (16 * 22 + 0)), some (x_r (16 * 3 + 0)), some (x_r (16 * 19 + 0)), some (x_i a), some (x_i b), some (x_i v1), some (x_i v2), some (x_i v3), some (x_i v17)] [] (al, ro, fl (ml M [3, 18, 19] [N, Th14, La15])) _ _ _ _
    refine e_iload (pc := 48) dX3_spanOf_48 rfl ?_
    refine e_iload (pc := 50) dX3_spanOf_50 rfl ?_
    refine e_invS (pc := 52) (K1 := 0) (S1 := 0) (K := 0) (S := 0) (dd2 := 0) (av := [x_i v1, x_i v17]) (st := []) dX3_spanOf_52 xmX3_86 rfl (p_min hst hs) (by decide) (Nat.le_of_ble_eq_true rfl) (Or.inl rfl) ?_
    show Ev g _ _ _ _ _ _ 55 [some (x_r (16 * 22 + 0)), some (x_r (16 * 3 + 0)), some (x_r (16 * 19 + 0)), some (x_i a), some (x_i b), some (x_i v1), some (x_i v2), some (x_i v3), some (x_i v17)] [x_i (min v1 v17)] (al, ro, fl (ml M [3, 18, 19] [N, Th14, La15])) _ _ _ _
    refine e_istore (pc := 55) (i := 5) dX3_spanOf_55 (by decide) rfl ?_
    show Ev g _ _ _ _ _ _ 57 [some (x_r (16 * 22 + 0)), some (x_r (16 * 3 + 0)), some (x_r (16 * 19 + 0)), some (x_i a), some (x_i b), some (x_i (min v1 v17)), some (x_i v2), some (x_i v3), some (x_i v17)] [] (al, ro, fl (ml M [3, 18, 19] [N, Th14, La15])) _ _ _ _
    refine e_iload (pc := 57) dX3_spanOf_57 rfl ?_
    refine e_iload (pc := 59) dX3_spanOf_59 rfl ?_
    refine e_invS (pc := 61) (K1 := 0) (S1 := 0) (K := 0) (S := 0) (dd2 := 0) (av := [x_i v2, x_i v17]) (st := []) dX3_spanOf_61 xmX3_91 rfl (p_max hst hs) (by decide) (Nat.le_of_ble_eq_true rfl) (Or.inl rfl) ?_
    show Ev g _ _ _ _ _ _ 64 [some (x_r (16 * 22 + 0)), some (x_r (16 * 3 + 0)), some (x_r (16 * 19 + 0)), some (x_i a), some (x_i b), some (x_i (min v1 v17)), some (x_i v2), some (x_i v3), some (x_i v17)] [x_i (max v2 v17)] (al, ro, fl (ml M [3, 18, 19] [N, Th14, La15])) _ _ _ _
    refine e_istore (pc := 64) (i := 6) dX3_spanOf_64 (by decide) rfl ?_
    show Ev g _ _ _ _ _ _ 66 [some (x_r (16 * 22 + 0)), some (x_r (16 * 3 + 0)), some (x_r (16 * 19 + 0)), some (x_i a), some (x_i b), some (x_i (min v1 v17)), some (x_i (max v2 v17)), some (x_i v3), some (x_i v17)] [] (al, ro, fl (ml M [3, 18, 19] [N, Th14, La15])) _ _ _ _
    refine e_iinc (pc := 66) dX3_spanOf_66 rfl (by decide) rfl ?_
    show Ev g _ _ _ _ _ _ 69 [some (x_r (16 * 22 + 0)), some (x_r (16 * 3 + 0)), some (x_r (16 * 19 + 0)), some (x_i a), some (x_i b), some (x_i (min v1 v17)), some (x_i (max v2 v17)), some (x_i (x_add v3 1)), some (x_i v17)] [] (al, ro, fl (ml M [3, 18, 19] [N, Th14, La15])) _ _ _ _
    refine e_goto (pc := 69) (tgt := 10) dX3_spanOf_69 (by decide) ?_
    cases hf10
    refine e_drop (i := 8) ?_
    exact hi10 _ rfl
set_option maxRecDepth 100000 in
set_option maxHeartbeats 4000000 in
theorem c_X3_oddsOf {g : xG} {al : List (Nat × Nat × Nat)} {ro : Nat → Nat → Option Nat} (hst : g.1.stackTraces = false) (hs : SH al ro) {M : Nat → xU} {a : Int} {b : Int} {N : xU} {Fo : xU}  {t : (Int × xU)} (hG : G3_oddsOf a b N Fo = some t) :
    Cal g yX3_oddsOf cX3_oddsOf 8 (some .int) 0 [x_r (16 * 22 + 0), x_r (16 * 3 + 0), x_i a, x_i b] (al, ro, fl (ml M [3, 22] [N, Fo])) 0 0 (.inl (some (x_i t.1))) (al, ro, fl (ml M [3, 22] [N, t.2])) := by
  have hn : ([3, 22] : List Nat).Nodup := by decide
  refine cal_of_ev (plainFor_of_name (by decide)) (x_c1 rfl) (Nat.le_of_ble_eq_true rfl) hst ?_
  show Ev g _ _ _ _ _ _ 0 [some (x_r (16 * 22 + 0)), some (x_r (16 * 3 + 0)), some (x_i a), some (x_i b), none, none, none, none] [] (al, ro, fl (ml M [3, 22] [N, Fo])) _ _ _ _
  rw [G3_oddsOf] at hG
  refine e_iconst (pc := 0) dX3_oddsOf_0 (x_R rfl) ?_
  refine e_istore (pc := 1) (i := 4) dX3_oddsOf_1 (by decide) rfl ?_
  show Ev g _ _ _ _ _ _ 3 [some (x_r (16 * 22 + 0)), some (x_r (16 * 3 + 0)), some (x_i a), some (x_i b), some (x_i 0), none, none, none] [] (al, ro, fl (ml M [3, 22] [N, Fo])) _ _ _ _
  obtain ⟨Fo3, hl4, hG⟩ := x_bd1 hG
  have hk4 : ∀ q : xU, q = Fo3 → Ev g yX3_oddsOf cX3_oddsOf 8 (some .int) [] 0 33 [some (x_r (16 * 22 + 0)), some (x_r (16 * 3 + 0)), some (x_i a), some (x_i b), none, none, none, none] [] (al, ro, fl (ml M [3, 22] [N, q])) 0 0 (.inl (some (x_i t.1))) (al, ro, fl (ml M [3, 22] [N, t.2])) := by
    intro q hq
    replace hq := hq.symm
    subst hq
    refine e_iconst (pc := 33) dX3_oddsOf_33 (x_R rfl) ?_
    refine e_istore (pc := 34) (i := 4) dX3_oddsOf_34 (by decide) rfl ?_
    show Ev g _ _ _ _ _ _ 36 [some (x_r (16 * 22 + 0)), some (x_r (16 * 3 + 0)), some (x_i a), some (x_i b), some (x_i 0), none, none, none] [] (al, ro, fl (ml M [3, 22] [N, Fo3])) _ _ _ _
    obtain ⟨Fo10, hl11, hG⟩ := x_bd1 hG
    have hk11 : ∀ q : xU, q = Fo10 → Ev g yX3_oddsOf cX3_oddsOf 8 (some .int) [] 0 115 [some (x_r (16 * 22 + 0)), some (x_r (16 * 3 + 0)), some (x_i a), some (x_i b), none, none, none, none] [] (al, ro, fl (ml M [3, 22] [N, q])) 0 0 (.inl (some (x_i t.1))) (al, ro, fl (ml M [3, 22] [N, t.2])) := by
      intro q hq
      replace hq := hq.symm
      subst hq
      refine e_lconst (pc := 115) dX3_oddsOf_115 ?_
      show Ev g _ _ _ _ _ _ 116 [some (x_r (16 * 22 + 0)), some (x_r (16 * 3 + 0)), some (x_i a), some (x_i b), none, none, none, none] [x_l 0] (al, ro, fl (ml M [3, 22] [N, Fo10])) _ _ _ _
      refine e_lstore (pc := 116) (i := 4) dX3_oddsOf_116 (by decide) rfl ?_
      show Ev g _ _ _ _ _ _ 118 [some (x_r (16 * 22 + 0)), some (x_r (16 * 3 + 0)), some (x_i a), some (x_i b), some (x_l 0), none, none, none] [] (al, ro, fl (ml M [3, 22] [N, Fo10])) _ _ _ _
      refine e_bipush (pc := 118) dX3_oddsOf_118 (by decide +kernel) (x_R rfl) ?_
      refine e_istore (pc := 120) (i := 6) dX3_oddsOf_120 (by decide) rfl ?_
      show Ev g _ _ _ _ _ _ 122 [some (x_r (16 * 22 + 0)), some (x_r (16 * 3 + 0)), some (x_i a), some (x_i b), some (x_l 0), none, some (x_i 6), none] [] (al, ro, fl (ml M [3, 22] [N, Fo10])) _ _ _ _
      obtain ⟨v22, hl23, hG⟩ := x_bd1 hG
      have hk23 : ∀ q : Int, q = v22 → Ev g yX3_oddsOf cX3_oddsOf 8 (some .int) [] 0 155 [some (x_r (16 * 22 + 0)), some (x_r (16 * 3 + 0)), some (x_i a), some (x_i b), some (x_l q), none, none, none] [] (al, ro, fl (ml M [3, 22] [N, Fo10])) 0 0 (.inl (some (x_i t.1))) (al, ro, fl (ml M [3, 22] [N, t.2])) := by
        intro q hq
        replace hq := hq.symm
        subst hq
        refine e_iconst (pc := 155) dX3_oddsOf_155 (x_R rfl) ?_
        refine e_istore (pc := 156) (i := 6) dX3_oddsOf_156 (by decide) rfl ?_
        show Ev g _ _ _ _ _ _ 158 [some (x_r (16 * 22 + 0)), some (x_r (16 * 3 + 0)), some (x_i a), some (x_i b), some (x_l v22), none, some (x_i 0), none] [] (al, ro, fl (ml M [3, 22] [N, Fo10])) _ _ _ _
        obtain ⟨v27, hl28, hG⟩ := x_bd1 hG
        have hk28 : ∀ q : Int, q = v27 → Ev g yX3_oddsOf cX3_oddsOf 8 (some .int) [] 0 178 [some (x_r (16 * 22 + 0)), some (x_r (16 * 3 + 0)), some (x_i a), some (x_i b), some (x_l q), none, none, none] [] (al, ro, fl (ml M [3, 22] [N, Fo10])) 0 0 (.inl (some (x_i t.1))) (al, ro, fl (ml M [3, 22] [N, t.2])) := by
          intro q hq
          replace hq := hq.symm
          subst hq
          refine e_lload (pc := 178) dX3_oddsOf_178 rfl ?_
          refine e_l2i (pc := 180) dX3_oddsOf_180 ?_
          cases hG
          exact (e_ireturn rfl dX3_oddsOf_181 rfl)
        clear hG
        refine e_whl (G3_oddsOf_L158 a) (fun z : (Int × Int) => Ev g yX3_oddsOf cX3_oddsOf 8 (some .int) [] 0 158 [some (x_r (16 * 22 + 0)), some (x_r (16 * 3 + 0)), some (x_i a), some (x_i b), some (x_l z.1), none, some (x_i z.2), none] [] (al, ro, fl (ml M [3, 22] [N, Fo10])) 0 0 (.inl (some (x_i t.1))) (al, ro, fl (ml M [3, 22] [N, t.2]))) (fun q => q = v27) ?_ xFU (v22, 0) _ hl28 rfl
        intro z t28 hf28 hi28 hx28
        obtain ⟨v25, v26⟩ := z
        rw [G3_oddsOf_L158] at hf28
        show Ev g _ _ _ _ _ _ 158 [some (x_r (16 * 22 + 0)), some (x_r (16 * 3 + 0)), some (x_i a), some (x_i b), some (x_l v25), none, some (x_i v26), none] [] (al, ro, fl (ml M [3, 22] [N, Fo10])) _ _ _ _
        refine e_iload (pc := 158) dX3_oddsOf_158 rfl ?_
        refine e_iloadn (pc := 160) (i := 2) dX3_oddsOf_160 rfl rfl ?_
        refine e_icmp_ge (pc := 161) (tgt := 178) dX3_oddsOf_161 (by decide) (fun hb => ?_) (fun hb => ?_)
        · rw [if_pos hb] at hf28
          cases hf28
          refine e_drop (i := 6) ?_
          exact hk28 _ (hx28 _ rfl)
        · rw [if_neg hb] at hf28
          refine e_lload (pc := 164) dX3_oddsOf_164 rfl ?_
          refine e_ldc2 (pc := 166) dX3_oddsOf_166 xkX3_99 (x_R6 rfl) ?_
          refine e_ldiv (pc := 169) dX3_oddsOf_169 (by decide) ?_
          refine e_lstore (pc := 170) (i := 4) dX3_oddsOf_170 (by decide) rfl ?_
          show Ev g _ _ _ _ _ _ 172 [some (x_r (16 * 22 + 0)), some (x_r (16 * 3 + 0)), some (x_i a), some (x_i b), some (x_l (x_ldiv v25 100)), none, some (x_i v26), none] [] (al, ro, fl (ml M [3, 22] [N, Fo10])) _ _ _ _
          refine e_iinc (pc := 172) dX3_oddsOf_172 rfl (by decide) rfl ?_
          show Ev g _ _ _ _ _ _ 175 [some (x_r (16 * 22 + 0)), some (x_r (16 * 3 + 0)), some (x_i a), some (x_i b), some (x_l (x_ldiv v25 100)), none, some (x_i (x_add v26 1)), none] [] (al, ro, fl (ml M [3, 22] [N, Fo10])) _ _ _ _
          refine e_goto (pc := 175) (tgt := 158) dX3_oddsOf_175 (by decide) ?_
          cases hf28
          exact hi28 _ rfl
      clear hG
      refine e_whl (G3_oddsOf_L122 b Fo10) (fun z : (Int × Int) => Ev g yX3_oddsOf cX3_oddsOf 8 (some .int) [] 0 122 [some (x_r (16 * 22 + 0)), some (x_r (16 * 3 + 0)), some (x_i a), some (x_i b), some (x_l z.1), none, some (x_i z.2), none] [] (al, ro, fl (ml M [3, 22] [N, Fo10])) 0 0 (.inl (some (x_i t.1))) (al, ro, fl (ml M [3, 22] [N, t.2]))) (fun q => q = v22) ?_ xFU (0, 6) _ hl23 rfl
      intro z t23 hf23 hi23 hx23
      obtain ⟨v20, v21⟩ := z
      rw [G3_oddsOf_L122] at hf23
      show Ev g _ _ _ _ _ _ 122 [some (x_r (16 * 22 + 0)), some (x_r (16 * 3 + 0)), some (x_i a), some (x_i b), some (x_l v20), none, some (x_i v21), none] [] (al, ro, fl (ml M [3, 22] [N, Fo10])) _ _ _ _
      refine e_iload (pc := 122) dX3_oddsOf_122 rfl ?_
      refine e_iloadn (pc := 124) (i := 3) dX3_oddsOf_124 rfl rfl ?_
      refine e_icmp_lt (pc := 125) (tgt := 155) dX3_oddsOf_125 (by decide) (fun hb => ?_) (fun hb => ?_)
      · rw [if_pos hb] at hf23
        cases hf23
        refine e_drop (i := 6) ?_
        exact hk23 _ (hx23 _ rfl)
      · rw [if_neg hb] at hf23
        refine e_iload (pc := 128) dX3_oddsOf_128 rfl ?_
        refine e_if_lt (pc := 130) (tgt := 155) dX3_oddsOf_130 (by decide) (fun hb => ?_) (fun hb => ?_)
        · rw [if_pos hb] at hf23
          cases hf23
          refine e_drop (i := 6) ?_
          exact hk23 _ (hx23 _ rfl)
        · rw [if_neg hb] at hf23
          refine e_lload (pc := 133) dX3_oddsOf_133 rfl ?_
          refine e_ldc2 (pc := 135) dX3_oddsOf_135 xkX3_97 (x_R6 rfl) ?_
          refine e_aloadn (pc := 138) (i := 0) dX3_oddsOf_138 rfl rfl ?_
          refine f_getr (pc := 139) (u := 22) (q := 0) dX3_oddsOf_139 xf3_22 (sa_22_0 hs) rfl (sr_22_0_2 hs) ?_
          refine e_iload (pc := 142) dX3_oddsOf_142 rfl ?_
          obtain ⟨hc0, hf23⟩ := x_gd_some hf23
          refine f_lald (pc := 144) (k := 1) (u := 22) (q := 2) (len := 7) dX3_oddsOf_144 (sa_22_2 hs) hc0 hn rfl rfl (by decide) ?_
          show Ev g _ _ _ _ _ _ 145 [some (x_r (16 * 22 + 0)), some (x_r (16 * 3 + 0)), some (x_i a), some (x_i b), some (x_l v20), none, some (x_i v21), none] [x_l (Fo10 2 (v21).toNat), x_l 10000, x_l v20] (al, ro, fl (ml M [3, 22] [N, Fo10])) _ _ _ _
          refine e_lmul (pc := 145) dX3_oddsOf_145 ?_
          refine e_ladd (pc := 146) dX3_oddsOf_146 ?_
          refine e_lstore (pc := 147) (i := 4) dX3_oddsOf_147 (by decide) rfl ?_
          show Ev g _ _ _ _ _ _ 149 [some (x_r (16 * 22 + 0)), some (x_r (16 * 3 + 0)), some (x_i a), some (x_i b), some (x_l (x_ladd v20 (x_lmul 10000 (Fo10 2 (v21).toNat)))), none, some (x_i v21), none] [] (al, ro, fl (ml M [3, 22] [N, Fo10])) _ _ _ _
          refine e_iinc (pc := 149) dX3_oddsOf_149 rfl (by decide) rfl ?_
          show Ev g _ _ _ _ _ _ 152 [some (x_r (16 * 22 + 0)), some (x_r (16 * 3 + 0)), some (x_i a), some (x_i b), some (x_l (x_ladd v20 (x_lmul 10000 (Fo10 2 (v21).toNat)))), none, some (x_i (x_add v21 (-1))), none] [] (al, ro, fl (ml M [3, 22] [N, Fo10])) _ _ _ _
          refine e_goto (pc := 152) (tgt := 122) dX3_oddsOf_152 (by decide) ?_
          cases hf23
          exact hi23 _ rfl
    clear hG
    refine e_whl (G3_oddsOf_L36 a N) (fun z : (Int × xU) => Ev g yX3_oddsOf cX3_oddsOf 8 (some .int) [] 0 36 [some (x_r (16 * 22 + 0)), some (x_r (16 * 3 + 0)), some (x_i a), some (x_i b), some (x_i z.1), none, none, none] [] (al, ro, fl (ml M [3, 22] [N, z.2])) 0 0 (.inl (some (x_i t.1))) (al, ro, fl (ml M [3, 22] [N, t.2]))) (fun q => q = Fo10) ?_ xFU (0, Fo3) _ hl11 rfl
    intro z t11 hf11 hi11 hx11
    obtain ⟨v8, Fo9⟩ := z
    rw [G3_oddsOf_L36] at hf11
    show Ev g _ _ _ _ _ _ 36 [some (x_r (16 * 22 + 0)), some (x_r (16 * 3 + 0)), some (x_i a), some (x_i b), some (x_i v8), none, none, none] [] (al, ro, fl (ml M [3, 22] [N, Fo9])) _ _ _ _
    refine e_iload (pc := 36) dX3_oddsOf_36 rfl ?_
    refine e_iloadn (pc := 38) (i := 2) dX3_oddsOf_38 rfl rfl ?_
    refine e_icmp_ge (pc := 39) (tgt := 115) dX3_oddsOf_39 (by decide) (fun hb => ?_) (fun hb => ?_)
    · rw [if_pos hb] at hf11
      cases hf11
      refine e_drop (i := 4) ?_
      exact hk11 _ (hx11 _ rfl)
    · rw [if_neg hb] at hf11
      refine e_bipush (pc := 42) dX3_oddsOf_42 (by decide +kernel) (x_R rfl) ?_
      refine e_istore (pc := 44) (i := 5) dX3_oddsOf_44 (by decide) rfl ?_
      show Ev g _ _ _ _ _ _ 46 [some (x_r (16 * 22 + 0)), some (x_r (16 * 3 + 0)), some (x_i a), some (x_i b), some (x_i v8), some (x_i 6), none, none] [] (al, ro, fl (ml M [3, 22] [N, Fo9])) _ _ _ _
      obtain ⟨Fo15, hl16, hf11⟩ := x_bd1 hf11
      have hk16 : ∀ q : xU, q = Fo15 → Ev g yX3_oddsOf cX3_oddsOf 8 (some .int) [] 0 109 [some (x_r (16 * 22 + 0)), some (x_r (16 * 3 + 0)), some (x_i a), some (x_i b), some (x_i v8), none, none, none] [] (al, ro, fl (ml M [3, 22] [N, q])) 0 0 (.inl (some (x_i t.1))) (al, ro, fl (ml M [3, 22] [N, t.2])) := by
        intro q hq
        replace hq := hq.symm
        subst hq
        refine e_iinc (pc := 109) dX3_oddsOf_109 rfl (by decide) rfl ?_
        show Ev g _ _ _ _ _ _ 112 [some (x_r (16 * 22 + 0)), some (x_r (16 * 3 + 0)), some (x_i a), some (x_i b), some (x_i (x_add v8 1)), none, none, none] [] (al, ro, fl (ml M [3, 22] [N, Fo15])) _ _ _ _
        refine e_goto (pc := 112) (tgt := 36) dX3_oddsOf_112 (by decide) ?_
        cases hf11
        exact hi11 _ rfl
      clear hf11
      refine e_whl (G3_oddsOf_L46 N) (fun z : (Int × xU) => Ev g yX3_oddsOf cX3_oddsOf 8 (some .int) [] 0 46 [some (x_r (16 * 22 + 0)), some (x_r (16 * 3 + 0)), some (x_i a), some (x_i b), some (x_i v8), some (x_i z.1), none, none] [] (al, ro, fl (ml M [3, 22] [N, z.2])) 0 0 (.inl (some (x_i t.1))) (al, ro, fl (ml M [3, 22] [N, t.2]))) (fun q => q = Fo15) ?_ xFU (6, Fo9) _ hl16 rfl
      intro z t16 hf16 hi16 hx16
      obtain ⟨v13, Fo14⟩ := z
      rw [G3_oddsOf_L46] at hf16
      show Ev g _ _ _ _ _ _ 46 [some (x_r (16 * 22 + 0)), some (x_r (16 * 3 + 0)), some (x_i a), some (x_i b), some (x_i v8), some (x_i v13), none, none] [] (al, ro, fl (ml M [3, 22] [N, Fo14])) _ _ _ _
      refine e_iload (pc := 46) dX3_oddsOf_46 rfl ?_
      refine e_if_lt (pc := 48) (tgt := 109) dX3_oddsOf_48 (by decide) (fun hb => ?_) (fun hb => ?_)
      · rw [if_pos hb] at hf16
        cases hf16
        refine e_drop (i := 5) ?_
        exact hk16 _ (hx16 _ rfl)
      · rw [if_neg hb] at hf16
        refine e_iload (pc := 51) dX3_oddsOf_51 rfl ?_
        obtain ⟨v18, hr18, hf16⟩ := x_bd1 hf16
        have hjhr18 : Ev g yX3_oddsOf cX3_oddsOf 8 (some .int) [] 0 69 [some (x_r (16 * 22 + 0)), some (x_r (16 * 3 + 0)), some (x_i a), some (x_i b), some (x_i v8), some (x_i v13), none, none] [x_l v18] (al, ro, fl (ml M [3, 22] [N, Fo14])) 0 0 (.inl (some (x_i t.1))) (al, ro, fl (ml M [3, 22] [N, t.2])) := by
          refine e_lstore (pc := 69) (i := 6) dX3_oddsOf_69 (by decide) rfl ?_
          show Ev g _ _ _ _ _ _ 71 [some (x_r (16 * 22 + 0)), some (x_r (16 * 3 + 0)), some (x_i a), some (x_i b), some (x_i v8), some (x_i v13), some (x_l v18), none] [] (al, ro, fl (ml M [3, 22] [N, Fo14])) _ _ _ _
          refine e_aloadn (pc := 71) (i := 0) dX3_oddsOf_71 rfl rfl ?_
          refine f_getr (pc := 72) (u := 22) (q := 0) dX3_oddsOf_72 xf3_22 (sa_22_0 hs) rfl (sr_22_0_2 hs) ?_
          refine e_iload (pc := 75) dX3_oddsOf_75 rfl ?_
          refine e_aloadn (pc := 77) (i := 0) dX3_oddsOf_77 rfl rfl ?_
          refine f_getr (pc := 78) (u := 22) (q := 0) dX3_oddsOf_78 xf3_22 (sa_22_0 hs) rfl (sr_22_0_2 hs) ?_
          refine e_iload (pc := 81) dX3_oddsOf_81 rfl ?_
          obtain ⟨hc0, hf16⟩ := x_gd_some hf16
          refine f_lald (pc := 83) (k := 1) (u := 22) (q := 2) (len := 7) dX3_oddsOf_83 (sa_22_2 hs) hc0 hn rfl rfl (by decide) ?_
          show Ev g _ _ _ _ _ _ 84 [some (x_r (16 * 22 + 0)), some (x_r (16 * 3 + 0)), some (x_i a), some (x_i b), some (x_i v8), some (x_i v13), some (x_l v18), none] [x_l (Fo14 2 (v13).toNat), x_i v13, x_r (16 * 22 + 2)] (al, ro, fl (ml M [3, 22] [N, Fo14])) _ _ _ _
          refine e_bipush (pc := 84) dX3_oddsOf_84 (by decide +kernel) (x_R rfl) ?_
          refine e_aloadn (pc := 86) (i := 1) dX3_oddsOf_86 rfl rfl ?_
          refine f_geti (pc := 87) (k := 0) (u := 3) (q := 0) dX3_oddsOf_87 xf3_94 (sa_3_0 hs) rfl hn rfl rfl (by decide) ?_
          show Ev g _ _ _ _ _ _ 90 [some (x_r (16 * 22 + 0)), some (x_r (16 * 3 + 0)), some (x_i a), some (x_i b), some (x_i v8), some (x_i v13), some (x_l v18), none] [x_i (N 0 9), x_i 100, x_l (Fo14 2 (v13).toNat), x_i v13, x_r (16 * 22 + 2)] (al, ro, fl (ml M [3, 22] [N, Fo14])) _ _ _ _
          refine e_isub (pc := 90) dX3_oddsOf_90 ?_
          refine e_i2l (pc := 91) dX3_oddsOf_91 ?_
          refine e_lmul (pc := 92) dX3_oddsOf_92 ?_
          refine e_lload (pc := 93) dX3_oddsOf_93 rfl ?_
          refine e_aloadn (pc := 95) (i := 1) dX3_oddsOf_95 rfl rfl ?_
          refine f_geti (pc := 96) (k := 0) (u := 3) (q := 0) dX3_oddsOf_96 xf3_94 (sa_3_0 hs) rfl hn rfl rfl (by decide) ?_
          show Ev g _ _ _ _ _ _ 99 [some (x_r (16 * 22 + 0)), some (x_r (16 * 3 + 0)), some (x_i a), some (x_i b), some (x_i v8), some (x_i v13), some (x_l v18), none] [x_i (N 0 9), x_l v18, x_l (x_lmul (Fo14 2 (v13).toNat) (x_i2l (x_sub 100 (N 0 9)))), x_i v13, x_r (16 * 22 + 2)] (al, ro, fl (ml M [3, 22] [N, Fo14])) _ _ _ _
          refine e_i2l (pc := 99) dX3_oddsOf_99 ?_
          refine e_lmul (pc := 100) dX3_oddsOf_100 ?_
          refine e_ladd (pc := 101) dX3_oddsOf_101 ?_
          obtain ⟨hc0, hf16⟩ := x_gd_some hf16
          refine f_last (pc := 102) (k := 1) (u := 22) (q := 2) (len := 7) dX3_oddsOf_102 (sa_22_2 hs) hc0 hn rfl rfl rfl (by decide) ?_
          show Ev g _ _ _ _ _ _ 103 [some (x_r (16 * 22 + 0)), some (x_r (16 * 3 + 0)), some (x_i a), some (x_i b), some (x_i v8), some (x_i v13), some (x_l v18), none] [] (al, ro, fl (ml M [3, 22] [N, (x_up Fo14 2 (v13).toNat (x_ladd (x_lmul (Fo14 2 (v13).toNat) (x_i2l (x_sub 100 (N 0 9)))) (x_lmul v18 (x_i2l (N 0 9)))))])) _ _ _ _
          refine e_iinc (pc := 103) dX3_oddsOf_103 rfl (by decide) rfl ?_
          show Ev g _ _ _ _ _ _ 106 [some (x_r (16 * 22 + 0)), some (x_r (16 * 3 + 0)), some (x_i a), some (x_i b), some (x_i v8), some (x_i (x_add v13 (-1))), some (x_l v18), none] [] (al, ro, fl (ml M [3, 22] [N, (x_up Fo14 2 (v13).toNat (x_ladd (x_lmul (Fo14 2 (v13).toNat) (x_i2l (x_sub 100 (N 0 9)))) (x_lmul v18 (x_i2l (N 0 9)))))])) _ _ _ _
          refine e_goto (pc := 106) (tgt := 46) dX3_oddsOf_106 (by decide) ?_
          cases hf16
          refine e_drop (i := 6) ?_
          exact hi16 _ rfl
        clear hf16
        refine e_if_le (pc := 53) (tgt := 68) dX3_oddsOf_53 (by decide) (fun hb => ?_) (fun hb => ?_)
        · rw [if_pos hb] at hr18
          refine e_lconst (pc := 68) dX3_oddsOf_68 ?_
          show Ev g _ _ _ _ _ _ 69 [some (x_r (16 * 22 + 0)), some (x_r (16 * 3 + 0)), some (x_i a), some (x_i b), some (x_i v8), some (x_i v13), none, none] [x_l 0] (al, ro, fl (ml M [3, 22] [N, Fo14])) _ _ _ _
          cases hr18
          exact hjhr18
        · rw [if_neg hb] at hr18
          refine e_aloadn (pc := 56) (i := 0) dX3_oddsOf_56 rfl rfl ?_
          refine f_getr (pc := 57) (u := 22) (q := 0) dX3_oddsOf_57 xf3_22 (sa_22_0 hs) rfl (sr_22_0_2 hs) ?_
          refine e_iload (pc := 60) dX3_oddsOf_60 rfl ?_
          refine e_iconst (pc := 62) dX3_oddsOf_62 (x_R rfl) ?_
          refine e_isub (pc := 63) dX3_oddsOf_63 ?_
          obtain ⟨hc0, hr18⟩ := x_gd_some hr18
          refine f_lald (pc := 64) (k := 1) (u := 22) (q := 2) (len := 7) dX3_oddsOf_64 (sa_22_2 hs) hc0 hn rfl rfl (by decide) ?_
          show Ev g _ _ _ _ _ _ 65 [some (x_r (16 * 22 + 0)), some (x_r (16 * 3 + 0)), some (x_i a), some (x_i b), some (x_i v8), some (x_i v13), none, none] [x_l (Fo14 2 ((x_sub v13 1)).toNat)] (al, ro, fl (ml M [3, 22] [N, Fo14])) _ _ _ _
          refine e_goto (pc := 65) (tgt := 69) dX3_oddsOf_65 (by decide) ?_
          cases hr18
          exact hjhr18
  clear hG
  refine e_whl G3_oddsOf_L3 (fun z : (Int × xU) => Ev g yX3_oddsOf cX3_oddsOf 8 (some .int) [] 0 3 [some (x_r (16 * 22 + 0)), some (x_r (16 * 3 + 0)), some (x_i a), some (x_i b), some (x_i z.1), none, none, none] [] (al, ro, fl (ml M [3, 22] [N, z.2])) 0 0 (.inl (some (x_i t.1))) (al, ro, fl (ml M [3, 22] [N, t.2]))) (fun q => q = Fo3) ?_ xFU (0, Fo) _ hl4 rfl
  intro z t4 hf4 hi4 hx4
  obtain ⟨v1, Fo2⟩ := z
  rw [G3_oddsOf_L3] at hf4
  show Ev g _ _ _ _ _ _ 3 [some (x_r (16 * 22 + 0)), some (x_r (16 * 3 + 0)), some (x_i a), some (x_i b), some (x_i v1), none, none, none] [] (al, ro, fl (ml M [3, 22] [N, Fo2])) _ _ _ _
  refine e_iload (pc := 3) dX3_oddsOf_3 rfl ?_
  refine e_bipush (pc := 5) dX3_oddsOf_5 (by decide +kernel) (x_R rfl) ?_
  refine e_icmp_gt (pc := 7) (tgt := 33) dX3_oddsOf_7 (by decide) (fun hb => ?_) (fun hb => ?_)
  · rw [if_pos hb] at hf4
    cases hf4
    refine e_drop (i := 4) ?_
    exact hk4 _ (hx4 _ rfl)
  · rw [if_neg hb] at hf4
    refine e_aloadn (pc := 10) (i := 0) dX3_oddsOf_10 rfl rfl ?_
    refine f_getr (pc := 11) (u := 22) (q := 0) dX3_oddsOf_11 xf3_22 (sa_22_0 hs) rfl (sr_22_0_2 hs) ?_
    refine e_iload (pc := 14) dX3_oddsOf_14 rfl ?_
    refine e_iload (pc := 16) dX3_oddsOf_16 rfl ?_
    obtain ⟨v6, hr6, hf4⟩ := x_bd1 hf4
    have hjhr6 : Ev g yX3_oddsOf cX3_oddsOf 8 (some .int) [] 0 26 [some (x_r (16 * 22 + 0)), some (x_r (16 * 3 + 0)), some (x_i a), some (x_i b), some (x_i v1), none, none, none] [x_l v6, x_i v1, x_r (16 * 22 + 2)] (al, ro, fl (ml M [3, 22] [N, Fo2])) 0 0 (.inl (some (x_i t.1))) (al, ro, fl (ml M [3, 22] [N, t.2])) := by
      obtain ⟨hc0, hf4⟩ := x_gd_some hf4
      refine f_last (pc := 26) (k := 1) (u := 22) (q := 2) (len := 7) dX3_oddsOf_26 (sa_22_2 hs) hc0 hn rfl rfl rfl (by decide) ?_
      show Ev g _ _ _ _ _ _ 27 [some (x_r (16 * 22 + 0)), some (x_r (16 * 3 + 0)), some (x_i a), some (x_i b), some (x_i v1), none, none, none] [] (al, ro, fl (ml M [3, 22] [N, (x_up Fo2 2 (v1).toNat v6)])) _ _ _ _
      refine e_iinc (pc := 27) dX3_oddsOf_27 rfl (by decide) rfl ?_
      show Ev g _ _ _ _ _ _ 30 [some (x_r (16 * 22 + 0)), some (x_r (16 * 3 + 0)), some (x_i a), some (x_i b), some (x_i (x_add v1 1)), none, none, none] [] (al, ro, fl (ml M [3, 22] [N, (x_up Fo2 2 (v1).toNat v6)])) _ _ _ _
      refine e_goto (pc := 30) (tgt := 3) dX3_oddsOf_30 (by decide) ?_
      cases hf4
      exact hi4 _ rfl
    clear hf4
    refine e_if_ne (pc := 18) (tgt := 25) dX3_oddsOf_18 (by decide) (fun hb => ?_) (fun hb => ?_)
    · rw [if_neg hb] at hr6
      refine e_lconst (pc := 25) dX3_oddsOf_25 ?_
      show Ev g _ _ _ _ _ _ 26 [some (x_r (16 * 22 + 0)), some (x_r (16 * 3 + 0)), some (x_i a), some (x_i b), some (x_i v1), none, none, none] [x_l 0, x_i v1, x_r (16 * 22 + 2)] (al, ro, fl (ml M [3, 22] [N, Fo2])) _ _ _ _
      cases hr6
      exact hjhr6
    · rw [if_pos hb] at hr6
      refine e_lconst (pc := 21) dX3_oddsOf_21 ?_
      show Ev g _ _ _ _ _ _ 22 [some (x_r (16 * 22 + 0)), some (x_r (16 * 3 + 0)), some (x_i a), some (x_i b), some (x_i v1), none, none, none] [x_l 1, x_i v1, x_r (16 * 22 + 2)] (al, ro, fl (ml M [3, 22] [N, Fo2])) _ _ _ _
      refine e_goto (pc := 22) (tgt := 26) dX3_oddsOf_22 (by decide) ?_
      cases hr6
      exact hjhr6
set_option maxRecDepth 100000 in
set_option maxHeartbeats 4000000 in
theorem c_X4_clear {g : xG} {al : List (Nat × Nat × Nat)} {ro : Nat → Nat → Option Nat} (hst : g.1.stackTraces = false) (hs : SH al ro) {M : Nat → xU} {Lb : xU}  {t : xU} (hG : G4_clear Lb = some t) :
    Cal g yX4_clear cX4_clear 1 none 0 [x_r (16 * 20 + 0)] (al, ro, fl (ml M [20] [Lb])) 0 0 (.inl none) (al, ro, fl (ml M [20] [t])) := by
  have hn : ([20] : List Nat).Nodup := by decide
  refine cal_of_ev (plainFor_of_name (by decide)) (x_c1 rfl) (Nat.le_of_ble_eq_true rfl) hst ?_
  show Ev g _ _ _ _ _ _ 0 [some (x_r (16 * 20 + 0))] [] (al, ro, fl (ml M [20] [Lb])) _ _ _ _
  rw [G4_clear] at hG
  refine e_aloadn (pc := 0) (i := 0) dX4_clear_0 rfl rfl ?_
  refine e_iconst (pc := 1) dX4_clear_1 (x_R rfl) ?_
  refine f_puti (pc := 2) (k := 0) (u := 20) (q := 0) dX4_clear_2 xf4_27 xw3_6 (sa_20_0 hs) hn rfl rfl rfl (by decide) ?_
  show Ev g _ _ _ _ _ _ 5 [some (x_r (16 * 20 + 0))] [] (al, ro, fl (ml M [20] [(x_up Lb 0 6 0)])) _ _ _ _
  refine e_aloadn (pc := 5) (i := 0) dX4_clear_5 rfl rfl ?_
  refine e_iconst (pc := 6) dX4_clear_6 (x_R rfl) ?_
  refine f_puti (pc := 7) (k := 0) (u := 20) (q := 0) dX4_clear_7 xf4_31 xw3_5 (sa_20_0 hs) hn rfl rfl rfl (by decide) ?_
  show Ev g _ _ _ _ _ _ 10 [some (x_r (16 * 20 + 0))] [] (al, ro, fl (ml M [20] [(x_up (x_up Lb 0 6 0) 0 5 0)])) _ _ _ _
  cases hG
  exact (e_return rfl dX4_clear_10)
set_option maxRecDepth 100000 in
set_option maxHeartbeats 4000000 in
theorem c_X4_copyFrom {g : xG} {al : List (Nat × Nat × Nat)} {ro : Nat → Nat → Option Nat} (hst : g.1.stackTraces = false) (hs : SH al ro) {p : Nat} (hp : 19 ≤ p ∧ p ≤ 21) {q : Nat} (hq : 19 ≤ q ∧ q ≤ 21) (hpq : p ≠ q) {M : Nat → xU} {P : xU} {Q : xU}  {t : xU} (hG : G4_copyFrom P Q = some t) :
    Cal g yX4_copyFrom cX4_copyFrom 2 none 1 [x_r (16 * p + 0), x_r (16 * q + 0)] (al, ro, fl (ml M [p, q] [P, Q])) 0 0 (.inl none) (al, ro, fl (ml M [p, q] [t, Q])) := by
  have hn : ([p, q] : List Nat).Nodup := by simp <;> omega
  refine cal_of_ev (plainFor_of_name (by decide)) (x_c1 rfl) (Nat.le_of_ble_eq_true rfl) hst ?_
  show Ev g _ _ _ _ _ _ 0 [some (x_r (16 * p + 0)), some (x_r (16 * q + 0))] [] (al, ro, fl (ml M [p, q] [P, Q])) _ _ _ _
  rw [G4_copyFrom] at hG
  refine e_aloadn (pc := 0) (i := 1) dX4_copyFrom_0 rfl rfl ?_
  refine f_getr (pc := 1) (u := q) (q := 0) dX4_copyFrom_1 xf4_11 (sw_a0 hs hq) rfl (sw_r0_0 hs hq) ?_
  refine e_aloadn (pc := 4) (i := 0) dX4_copyFrom_4 rfl rfl ?_
  refine f_getr (pc := 5) (u := p) (q := 0) dX4_copyFrom_5 xf4_11 (sw_a0 hs hp) rfl (sw_r0_0 hs hp) ?_
  refine e_invS (pc := 8) (K1 := 0) (S1 := 0) (K := 0) (S := 0) (dd2 := 0) (av := [x_r (16 * q + 1), x_r (16 * p + 1)]) (st := []) dX4_copyFrom_8 xmX4_34 rfl (p_copyRow (k := 1) (j := 0) (u := q) (q := 1) (v := p) (r := 1) (n := 12) hst (sw_a1 hs hq) (sw_a1 hs hp) hn rfl rfl rfl rfl rfl (by decide) (by decide) (by decide) (by decide)) (by decide) (Nat.le_of_ble_eq_true rfl) (Or.inl rfl) ?_
  show Ev g _ _ _ _ _ _ 11 [some (x_r (16 * p + 0)), some (x_r (16 * q + 0))] [] (al, ro, fl (ml M [p, q] [(x_cp P 1 Q 1 12), Q])) _ _ _ _
  refine e_aloadn (pc := 11) (i := 1) dX4_copyFrom_11 rfl rfl ?_
  refine f_getr (pc := 12) (u := q) (q := 0) dX4_copyFrom_12 xf4_15 (sw_a0 hs hq) rfl (sw_r0_1 hs hq) ?_
  refine e_aloadn (pc := 15) (i := 0) dX4_copyFrom_15 rfl rfl ?_
  refine f_getr (pc := 16) (u := p) (q := 0) dX4_copyFrom_16 xf4_15 (sw_a0 hs hp) rfl (sw_r0_1 hs hp) ?_
  refine e_invS (pc := 19) (K1 := 0) (S1 := 0) (K := 0) (S := 0) (dd2 := 0) (av := [x_r (16 * q + 2), x_r (16 * p + 2)]) (st := []) dX4_copyFrom_19 xmX4_34 rfl (p_copyRow (k := 1) (j := 0) (u := q) (q := 2) (v := p) (r := 2) (n := 12) hst (sw_a2 hs hq) (sw_a2 hs hp) hn rfl rfl rfl rfl rfl (by decide) (by decide) (by decide) (by decide)) (by decide) (Nat.le_of_ble_eq_true rfl) (Or.inl rfl) ?_
  show Ev g _ _ _ _ _ _ 22 [some (x_r (16 * p + 0)), some (x_r (16 * q + 0))] [] (al, ro, fl (ml M [p, q] [(x_cp (x_cp P 1 Q 1 12) 2 Q 2 12), Q])) _ _ _ _
  refine e_aloadn (pc := 22) (i := 1) dX4_copyFrom_22 rfl rfl ?_
  refine f_getr (pc := 23) (u := q) (q := 0) dX4_copyFrom_23 xf4_18 (sw_a0 hs hq) rfl (sw_r0_2 hs hq) ?_
  refine e_aloadn (pc := 26) (i := 0) dX4_copyFrom_26 rfl rfl ?_
  refine f_getr (pc := 27) (u := p) (q := 0) dX4_copyFrom_27 xf4_18 (sw_a0 hs hp) rfl (sw_r0_2 hs hp) ?_
  refine e_invS (pc := 30) (K1 := 0) (S1 := 0) (K := 0) (S := 0) (dd2 := 0) (av := [x_r (16 * q + 3), x_r (16 * p + 3)]) (st := []) dX4_copyFrom_30 xmX4_34 rfl (p_copyRow (k := 1) (j := 0) (u := q) (q := 3) (v := p) (r := 3) (n := 12) hst (sw_a3 hs hq) (sw_a3 hs hp) hn rfl rfl rfl rfl rfl (by decide) (by decide) (by decide) (by decide)) (by decide) (Nat.le_of_ble_eq_true rfl) (Or.inl rfl) ?_
  show Ev g _ _ _ _ _ _ 33 [some (x_r (16 * p + 0)), some (x_r (16 * q + 0))] [] (al, ro, fl (ml M [p, q] [(x_cp (x_cp (x_cp P 1 Q 1 12) 2 Q 2 12) 3 Q 3 12), Q])) _ _ _ _
  refine e_aloadn (pc := 33) (i := 1) dX4_copyFrom_33 rfl rfl ?_
  refine f_getr (pc := 34) (u := q) (q := 0) dX4_copyFrom_34 xf4_21 (sw_a0 hs hq) rfl (sw_r0_3 hs hq) ?_
  refine e_aloadn (pc := 37) (i := 0) dX4_copyFrom_37 rfl rfl ?_
  refine f_getr (pc := 38) (u := p) (q := 0) dX4_copyFrom_38 xf4_21 (sw_a0 hs hp) rfl (sw_r0_3 hs hp) ?_
  refine e_invS (pc := 41) (K1 := 0) (S1 := 0) (K := 0) (S := 0) (dd2 := 0) (av := [x_r (16 * q + 4), x_r (16 * p + 4)]) (st := []) dX4_copyFrom_41 xmX4_34 rfl (p_copyRow (k := 1) (j := 0) (u := q) (q := 4) (v := p) (r := 4) (n := 400) hst (sw_a4 hs hq) (sw_a4 hs hp) hn rfl rfl rfl rfl rfl (by decide) (by decide) (by decide) (by decide)) (by decide) (Nat.le_of_ble_eq_true rfl) (Or.inl rfl) ?_
  show Ev g _ _ _ _ _ _ 44 [some (x_r (16 * p + 0)), some (x_r (16 * q + 0))] [] (al, ro, fl (ml M [p, q] [(x_cp (x_cp (x_cp (x_cp P 1 Q 1 12) 2 Q 2 12) 3 Q 3 12) 4 Q 4 400), Q])) _ _ _ _
  refine e_aloadn (pc := 44) (i := 0) dX4_copyFrom_44 rfl rfl ?_
  refine e_aloadn (pc := 45) (i := 1) dX4_copyFrom_45 rfl rfl ?_
  refine f_geti (pc := 46) (k := 1) (u := q) (q := 0) dX4_copyFrom_46 xf4_31 (sw_a0 hs hq) rfl hn rfl rfl (by decide) ?_
  show Ev g _ _ _ _ _ _ 49 [some (x_r (16 * p + 0)), some (x_r (16 * q + 0))] [x_i (Q 0 5), x_r (16 * p + 0)] (al, ro, fl (ml M [p, q] [(x_cp (x_cp (x_cp (x_cp P 1 Q 1 12) 2 Q 2 12) 3 Q 3 12) 4 Q 4 400), Q])) _ _ _ _
  refine f_puti (pc := 49) (k := 0) (u := p) (q := 0) dX4_copyFrom_49 xf4_31 xw3_5 (sw_a0 hs hp) hn rfl rfl rfl (by decide) ?_
  show Ev g _ _ _ _ _ _ 52 [some (x_r (16 * p + 0)), some (x_r (16 * q + 0))] [] (al, ro, fl (ml M [p, q] [(x_up (x_cp (x_cp (x_cp (x_cp P 1 Q 1 12) 2 Q 2 12) 3 Q 3 12) 4 Q 4 400) 0 5 (Q 0 5)), Q])) _ _ _ _
  refine e_aloadn (pc := 52) (i := 0) dX4_copyFrom_52 rfl rfl ?_
  refine e_aloadn (pc := 53) (i := 1) dX4_copyFrom_53 rfl rfl ?_
  refine f_geti (pc := 54) (k := 1) (u := q) (q := 0) dX4_copyFrom_54 xf4_27 (sw_a0 hs hq) rfl hn rfl rfl (by decide) ?_
  show Ev g _ _ _ _ _ _ 57 [some (x_r (16 * p + 0)), some (x_r (16 * q + 0))] [x_i (Q 0 6), x_r (16 * p + 0)] (al, ro, fl (ml M [p, q] [(x_up (x_cp (x_cp (x_cp (x_cp P 1 Q 1 12) 2 Q 2 12) 3 Q 3 12) 4 Q 4 400) 0 5 (Q 0 5)), Q])) _ _ _ _
  refine f_puti (pc := 57) (k := 0) (u := p) (q := 0) dX4_copyFrom_57 xf4_27 xw3_6 (sw_a0 hs hp) hn rfl rfl rfl (by decide) ?_
  show Ev g _ _ _ _ _ _ 60 [some (x_r (16 * p + 0)), some (x_r (16 * q + 0))] [] (al, ro, fl (ml M [p, q] [(x_up (x_up (x_cp (x_cp (x_cp (x_cp P 1 Q 1 12) 2 Q 2 12) 3 Q 3 12) 4 Q 4 400) 0 5 (Q 0 5)) 0 6 (Q 0 6)), Q])) _ _ _ _
  cases hG
  exact (e_return rfl dX4_copyFrom_60)
