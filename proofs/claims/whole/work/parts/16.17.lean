set_option maxRecDepth 100000 in
set_option maxHeartbeats 4000000 in
theorem c_X10_kindOf {g : xG} {al : List (Nat × Nat × Nat)} {ro : Nat → Nat → Option Nat} (hst : g.1.stackTraces = false) (hs : SH al ro) {M : Nat → xU} {a : Int}  {t : Int} (hG : G10_kindOf a = some t) :
    Cal g yX10_kindOf cX10_kindOf 1 (some .int) 0 [x_i a] (al, ro, fl (ml M [] [])) 0 0 (.inl (some (x_i t))) (al, ro, fl (ml M [] [])) := by
  have hn : ([] : List Nat).Nodup := by decide
  refine cal_of_ev (plainFor_of_name (by decide)) (x_c1 rfl) (Nat.le_of_ble_eq_true rfl) hst ?_
  show Ev g _ _ _ _ _ _ 0 [some (x_i a)] [] (al, ro, fl (ml M [] [])) _ _ _ _
  rw [G10_kindOf] at hG
  refine e_iloadn (pc := 0) (i := 0) dX10_kindOf_0 rfl rfl ?_
  refine e_bipush (pc := 1) dX10_kindOf_1 (by decide +kernel) (x_R rfl) ?_
  refine e_icmp_lt (pc := 3) (tgt := 14) dX10_kindOf_3 (by decide) (fun hb => ?_) (fun hb => ?_)
  · rw [if_pos hb] at hG
    refine e_iloadn (pc := 14) (i := 0) dX10_kindOf_14 rfl rfl ?_
    refine e_bipush (pc := 15) dX10_kindOf_15 (by decide +kernel) (x_R rfl) ?_
    refine e_icmp_lt (pc := 17) (tgt := 28) dX10_kindOf_17 (by decide) (fun hb => ?_) (fun hb => ?_)
    · rw [if_pos hb] at hG
      refine e_iloadn (pc := 28) (i := 0) dX10_kindOf_28 rfl rfl ?_
      refine e_bipush (pc := 29) dX10_kindOf_29 (by decide +kernel) (x_R rfl) ?_
      obtain ⟨v1, hr1, hG⟩ := x_bd1 hG
      have hjhr1 : Ev g yX10_kindOf cX10_kindOf 1 (some .int) [] 0 39 [some (x_i a)] [x_i v1] (al, ro, fl (ml M [] [])) 0 0 (.inl (some (x_i t))) (al, ro, fl (ml M [] [])) := by
        cases hG
        exact (e_ireturn rfl dX10_kindOf_39 rfl)
      clear hG
      refine e_icmp_ne (pc := 31) (tgt := 38) dX10_kindOf_31 (by decide) (fun hb => ?_) (fun hb => ?_)
      · rw [if_neg hb] at hr1
        refine e_iconst (pc := 38) dX10_kindOf_38 (x_R rfl) ?_
        cases hr1
        exact hjhr1
      · rw [if_pos hb] at hr1
        refine e_iconst (pc := 34) dX10_kindOf_34 (x_R rfl) ?_
        refine e_goto (pc := 35) (tgt := 39) dX10_kindOf_35 (by decide) ?_
        cases hr1
        exact hjhr1
    · rw [if_neg hb] at hG
      refine e_iloadn (pc := 20) (i := 0) dX10_kindOf_20 rfl rfl ?_
      refine e_bipush (pc := 21) dX10_kindOf_21 (by decide +kernel) (x_R rfl) ?_
      refine e_icmp_gt (pc := 23) (tgt := 28) dX10_kindOf_23 (by decide) (fun hb => ?_) (fun hb => ?_)
      · rw [if_pos hb] at hG
        refine e_iloadn (pc := 28) (i := 0) dX10_kindOf_28 rfl rfl ?_
        refine e_bipush (pc := 29) dX10_kindOf_29 (by decide +kernel) (x_R rfl) ?_
        obtain ⟨v3, hr3, hG⟩ := x_bd1 hG
        have hjhr3 : Ev g yX10_kindOf cX10_kindOf 1 (some .int) [] 0 39 [some (x_i a)] [x_i v3] (al, ro, fl (ml M [] [])) 0 0 (.inl (some (x_i t))) (al, ro, fl (ml M [] [])) := by
          cases hG
          exact (e_ireturn rfl dX10_kindOf_39 rfl)
        clear hG
        refine e_icmp_ne (pc := 31) (tgt := 38) dX10_kindOf_31 (by decide) (fun hb => ?_) (fun hb => ?_)
        · rw [if_neg hb] at hr3
          refine e_iconst (pc := 38) dX10_kindOf_38 (x_R rfl) ?_
          cases hr3
          exact hjhr3
        · rw [if_pos hb] at hr3
          refine e_iconst (pc := 34) dX10_kindOf_34 (x_R rfl) ?_
          refine e_goto (pc := 35) (tgt := 39) dX10_kindOf_35 (by decide) ?_
          cases hr3
          exact hjhr3
      · rw [if_neg hb] at hG
        refine e_iconst (pc := 26) dX10_kindOf_26 (x_R rfl) ?_
        cases hG
        exact (e_ireturn rfl dX10_kindOf_27 rfl)
  · rw [if_neg hb] at hG
    refine e_iloadn (pc := 6) (i := 0) dX10_kindOf_6 rfl rfl ?_
    refine e_bipush (pc := 7) dX10_kindOf_7 (by decide +kernel) (x_R rfl) ?_
    refine e_icmp_gt (pc := 9) (tgt := 14) dX10_kindOf_9 (by decide) (fun hb => ?_) (fun hb => ?_)
    · rw [if_pos hb] at hG
      refine e_iloadn (pc := 14) (i := 0) dX10_kindOf_14 rfl rfl ?_
      refine e_bipush (pc := 15) dX10_kindOf_15 (by decide +kernel) (x_R rfl) ?_
      refine e_icmp_lt (pc := 17) (tgt := 28) dX10_kindOf_17 (by decide) (fun hb => ?_) (fun hb => ?_)
      · rw [if_pos hb] at hG
        refine e_iloadn (pc := 28) (i := 0) dX10_kindOf_28 rfl rfl ?_
        refine e_bipush (pc := 29) dX10_kindOf_29 (by decide +kernel) (x_R rfl) ?_
        obtain ⟨v5, hr5, hG⟩ := x_bd1 hG
        have hjhr5 : Ev g yX10_kindOf cX10_kindOf 1 (some .int) [] 0 39 [some (x_i a)] [x_i v5] (al, ro, fl (ml M [] [])) 0 0 (.inl (some (x_i t))) (al, ro, fl (ml M [] [])) := by
          cases hG
          exact (e_ireturn rfl dX10_kindOf_39 rfl)
        clear hG
        refine e_icmp_ne (pc := 31) (tgt := 38) dX10_kindOf_31 (by decide) (fun hb => ?_) (fun hb => ?_)
        · rw [if_neg hb] at hr5
          refine e_iconst (pc := 38) dX10_kindOf_38 (x_R rfl) ?_
          cases hr5
          exact hjhr5
        · rw [if_pos hb] at hr5
          refine e_iconst (pc := 34) dX10_kindOf_34 (x_R rfl) ?_
          refine e_goto (pc := 35) (tgt := 39) dX10_kindOf_35 (by decide) ?_
          cases hr5
          exact hjhr5
      · rw [if_neg hb] at hG
        refine e_iloadn (pc := 20) (i := 0) dX10_kindOf_20 rfl rfl ?_
        refine e_bipush (pc := 21) dX10_kindOf_21 (by decide +kernel) (x_R rfl) ?_
        refine e_icmp_gt (pc := 23) (tgt := 28) dX10_kindOf_23 (by decide) (fun hb => ?_) (fun hb => ?_)
        · rw [if_pos hb] at hG
          refine e_iloadn (pc := 28) (i := 0) dX10_kindOf_28 rfl rfl ?_
          refine e_bipush (pc := 29) dX10_kindOf_29 (by decide +kernel) (x_R rfl) ?_
          obtain ⟨v7, hr7, hG⟩ := x_bd1 hG
          have hjhr7 : Ev g yX10_kindOf cX10_kindOf 1 (some .int) [] 0 39 [some (x_i a)] [x_i v7] (al, ro, fl (ml M [] [])) 0 0 (.inl (some (x_i t))) (al, ro, fl (ml M [] [])) := by
            cases hG
            exact (e_ireturn rfl dX10_kindOf_39 rfl)
          clear hG
          refine e_icmp_ne (pc := 31) (tgt := 38) dX10_kindOf_31 (by decide) (fun hb => ?_) (fun hb => ?_)
          · rw [if_neg hb] at hr7
            refine e_iconst (pc := 38) dX10_kindOf_38 (x_R rfl) ?_
            cases hr7
            exact hjhr7
          · rw [if_pos hb] at hr7
            refine e_iconst (pc := 34) dX10_kindOf_34 (x_R rfl) ?_
            refine e_goto (pc := 35) (tgt := 39) dX10_kindOf_35 (by decide) ?_
            cases hr7
            exact hjhr7
        · rw [if_neg hb] at hG
          refine e_iconst (pc := 26) dX10_kindOf_26 (x_R rfl) ?_
          cases hG
          exact (e_ireturn rfl dX10_kindOf_27 rfl)
    · rw [if_neg hb] at hG
      refine e_iconst (pc := 12) dX10_kindOf_12 (x_R rfl) ?_
      cases hG
      exact (e_ireturn rfl dX10_kindOf_13 rfl)
set_option maxRecDepth 100000 in
set_option maxHeartbeats 4000000 in
theorem c_X10_addNumber {g : xG} {al : List (Nat × Nat × Nat)} {ro : Nat → Nat → Option Nat} (hst : g.1.stackTraces = false) (hs : SH al ro) {M : Nat → xU} {a : Int} {T : xU}  {t : xU} (hG : G10_addNumber a T = some t) :
    Cal g yX10_addNumber cX10_addNumber 3 none 1 [x_r (16 * 2 + 0), x_i a] (al, ro, fl (ml M [2] [T])) 0 0 (.inl none) (al, ro, fl (ml M [2] [t])) := by
  have hn : ([2] : List Nat).Nodup := by decide
  refine cal_of_ev (plainFor_of_name (by decide)) (x_c1 rfl) (Nat.le_of_ble_eq_true rfl) hst ?_
  show Ev g _ _ _ _ _ _ 0 [some (x_r (16 * 2 + 0)), some (x_i a), none] [] (al, ro, fl (ml M [2] [T])) _ _ _ _
  rw [G10_addNumber] at hG
  refine e_bipush (pc := 0) dX10_addNumber_0 (by decide +kernel) (x_R rfl) ?_
  refine e_istoren (pc := 2) (i := 2) dX10_addNumber_2 rfl (by decide) rfl ?_
  show Ev g _ _ _ _ _ _ 3 [some (x_r (16 * 2 + 0)), some (x_i a), some (x_i 24)] [] (al, ro, fl (ml M [2] [T])) _ _ _ _
  obtain ⟨T3, hl4, hG⟩ := x_bd1 hG
  have hk4 : ∀ q : xU, q = T3 → Ev g yX10_addNumber cX10_addNumber 3 none [] 1 77 [some (x_r (16 * 2 + 0)), some (x_i a), none] [] (al, ro, fl (ml M [2] [q])) 0 0 (.inl none) (al, ro, fl (ml M [2] [t])) := by
    intro q hq
    replace hq := hq.symm
    subst hq
    cases hG
    exact (e_return rfl dX10_addNumber_77)
  clear hG
  refine e_whl (G10_addNumber_L3 a) (fun z : (Int × xU) => Ev g yX10_addNumber cX10_addNumber 3 none [] 1 3 [some (x_r (16 * 2 + 0)), some (x_i a), some (x_i z.1)] [] (al, ro, fl (ml M [2] [z.2])) 0 0 (.inl none) (al, ro, fl (ml M [2] [t]))) (fun q => q = T3) ?_ xFU (24, T) _ hl4 rfl
  intro z t4 hf4 hi4 hx4
  obtain ⟨v1, T2⟩ := z
  rw [G10_addNumber_L3] at hf4
  show Ev g _ _ _ _ _ _ 3 [some (x_r (16 * 2 + 0)), some (x_i a), some (x_i v1)] [] (al, ro, fl (ml M [2] [T2])) _ _ _ _
  refine e_iloadn (pc := 3) (i := 2) dX10_addNumber_3 rfl rfl ?_
  refine e_if_lt (pc := 4) (tgt := 77) dX10_addNumber_4 (by decide) (fun hb => ?_) (fun hb => ?_)
  · rw [if_pos hb] at hf4
    cases hf4
    refine e_drop (i := 2) ?_
    have hh := hk4 _ (hx4 _ rfl)
    try dsimp only at hh
    exact hh
  · rw [if_neg hb] at hf4
    refine e_aloadn (pc := 7) (i := 0) dX10_addNumber_7 rfl rfl ?_
    refine f_geti (pc := 8) (k := 0) (u := 2) (q := 0) dX10_addNumber_8 xf10_22 (sa_2_0 hs) rfl hn rfl rfl (by decide) ?_
    show Ev g _ _ _ _ _ _ 11 [some (x_r (16 * 2 + 0)), some (x_i a), some (x_i v1)] [x_i (T2 0 2)] (al, ro, fl (ml M [2] [T2])) _ _ _ _
    obtain ⟨T6, hr6, hf4⟩ := x_bd1 hf4
    have hjhr6 : Ev g yX10_addNumber cX10_addNumber 3 none [] 1 71 [some (x_r (16 * 2 + 0)), some (x_i a), some (x_i v1)] [] (al, ro, fl (ml M [2] [T6])) 0 0 (.inl none) (al, ro, fl (ml M [2] [t])) := by
      refine e_iinc (pc := 71) dX10_addNumber_71 rfl (by decide) rfl ?_
      show Ev g _ _ _ _ _ _ 74 [some (x_r (16 * 2 + 0)), some (x_i a), some (x_i (x_add v1 (-8)))] [] (al, ro, fl (ml M [2] [T6])) _ _ _ _
      refine e_goto (pc := 74) (tgt := 3) dX10_addNumber_74 (by decide) ?_
      cases hf4
      have hh := hi4 _ rfl
      try dsimp only at hh
      exact hh
    clear hf4
    refine e_if_lt (pc := 11) (tgt := 71) dX10_addNumber_11 (by decide) (fun hb => ?_) (fun hb => ?_)
    · rw [if_pos hb] at hr6
      cases hr6
      exact hjhr6
    · rw [if_neg hb] at hr6
      refine e_aloadn (pc := 14) (i := 0) dX10_addNumber_14 rfl rfl ?_
      refine f_geti (pc := 15) (k := 0) (u := 2) (q := 0) dX10_addNumber_15 xf10_22 (sa_2_0 hs) rfl hn rfl rfl (by decide) ?_
      show Ev g _ _ _ _ _ _ 18 [some (x_r (16 * 2 + 0)), some (x_i a), some (x_i v1)] [x_i (T2 0 2)] (al, ro, fl (ml M [2] [T2])) _ _ _ _
      refine e_sipush (pc := 18) dX10_addNumber_18 (by decide +kernel) (x_R rfl) ?_
      refine e_icmp_ge (pc := 21) (tgt := 71) dX10_addNumber_21 (by decide) (fun hb => ?_) (fun hb => ?_)
      · rw [if_pos hb] at hr6
        cases hr6
        exact hjhr6
      · rw [if_neg hb] at hr6
        refine e_aloadn (pc := 24) (i := 0) dX10_addNumber_24 rfl rfl ?_
        refine f_getr (pc := 25) (u := 2) (q := 0) dX10_addNumber_25 xf10_9 (sa_2_0 hs) rfl (sr_2_0_0 hs) ?_
        refine e_aloadn (pc := 28) (i := 0) dX10_addNumber_28 rfl rfl ?_
        refine f_geti (pc := 29) (k := 0) (u := 2) (q := 0) dX10_addNumber_29 xf10_22 (sa_2_0 hs) rfl hn rfl rfl (by decide) ?_
        show Ev g _ _ _ _ _ _ 32 [some (x_r (16 * 2 + 0)), some (x_i a), some (x_i v1)] [x_i (T2 0 2), x_r (16 * 2 + 1)] (al, ro, fl (ml M [2] [T2])) _ _ _ _
        refine e_iloadn (pc := 32) (i := 1) dX10_addNumber_32 rfl rfl ?_
        refine e_iloadn (pc := 33) (i := 2) dX10_addNumber_33 rfl rfl ?_
        refine e_ishr (pc := 34) dX10_addNumber_34 ?_
        refine e_sipush (pc := 35) dX10_addNumber_35 (by decide +kernel) (x_R rfl) ?_
        refine e_iand (pc := 38) dX10_addNumber_38 ?_
        obtain ⟨hc0, hr6⟩ := x_gd_some hr6
        refine f_iast (pc := 39) (k := 0) (u := 2) (q := 1) (len := 400) dX10_addNumber_39 (sa_2_1 hs) hc0 hn rfl rfl rfl (by decide) ?_
        show Ev g _ _ _ _ _ _ 40 [some (x_r (16 * 2 + 0)), some (x_i a), some (x_i v1)] [] (al, ro, fl (ml M [2] [(x_up T2 1 ((T2 0 2)).toNat (x_and (x_shr a v1) 255))])) _ _ _ _
        refine e_aloadn (pc := 40) (i := 0) dX10_addNumber_40 rfl rfl ?_
        refine f_getr (pc := 41) (u := 2) (q := 0) dX10_addNumber_41 xf10_15 (sa_2_0 hs) rfl (sr_2_0_1 hs) ?_
        refine e_aloadn (pc := 44) (i := 0) dX10_addNumber_44 rfl rfl ?_
        refine f_geti (pc := 45) (k := 0) (u := 2) (q := 0) dX10_addNumber_45 xf10_22 (sa_2_0 hs) rfl hn rfl rfl (by decide) ?_
        show Ev g _ _ _ _ _ _ 48 [some (x_r (16 * 2 + 0)), some (x_i a), some (x_i v1)] [x_i ((x_up T2 1 ((T2 0 2)).toNat (x_and (x_shr a v1) 255)) 0 2), x_r (16 * 2 + 2)] (al, ro, fl (ml M [2] [(x_up T2 1 ((T2 0 2)).toNat (x_and (x_shr a v1) 255))])) _ _ _ _
        refine e_aloadn (pc := 48) (i := 0) dX10_addNumber_48 rfl rfl ?_
        refine f_getr (pc := 49) (u := 2) (q := 0) dX10_addNumber_49 xf10_9 (sa_2_0 hs) rfl (sr_2_0_0 hs) ?_
        refine e_aloadn (pc := 52) (i := 0) dX10_addNumber_52 rfl rfl ?_
        refine f_geti (pc := 53) (k := 0) (u := 2) (q := 0) dX10_addNumber_53 xf10_22 (sa_2_0 hs) rfl hn rfl rfl (by decide) ?_
        show Ev g _ _ _ _ _ _ 56 [some (x_r (16 * 2 + 0)), some (x_i a), some (x_i v1)] [x_i ((x_up T2 1 ((T2 0 2)).toNat (x_and (x_shr a v1) 255)) 0 2), x_r (16 * 2 + 1), x_i ((x_up T2 1 ((T2 0 2)).toNat (x_and (x_shr a v1) 255)) 0 2), x_r (16 * 2 + 2)] (al, ro, fl (ml M [2] [(x_up T2 1 ((T2 0 2)).toNat (x_and (x_shr a v1) 255))])) _ _ _ _
        obtain ⟨hc0, hr6⟩ := x_gd_some hr6
        refine f_iald (pc := 56) (k := 0) (u := 2) (q := 1) (len := 400) dX10_addNumber_56 (sa_2_1 hs) hc0 hn rfl rfl (by decide) ?_
        show Ev g _ _ _ _ _ _ 57 [some (x_r (16 * 2 + 0)), some (x_i a), some (x_i v1)] [x_i ((x_up T2 1 ((T2 0 2)).toNat (x_and (x_shr a v1) 255)) 1 (((x_up T2 1 ((T2 0 2)).toNat (x_and (x_shr a v1) 255)) 0 2)).toNat), x_i ((x_up T2 1 ((T2 0 2)).toNat (x_and (x_shr a v1) 255)) 0 2), x_r (16 * 2 + 2)] (al, ro, fl (ml M [2] [(x_up T2 1 ((T2 0 2)).toNat (x_and (x_shr a v1) 255))])) _ _ _ _
        obtain ⟨v8, hq8, hr6⟩ := x_bd1 hr6
        refine e_invS (pc := 57) (K1 := 0) (S1 := 0) (K := 0) (S := 0) (dd2 := 0) (av := [x_i ((x_up T2 1 ((T2 0 2)).toNat (x_and (x_shr a v1) 255)) 1 (((x_up T2 1 ((T2 0 2)).toNat (x_and (x_shr a v1) 255)) 0 2)).toNat)]) (st := [x_i ((x_up T2 1 ((T2 0 2)).toNat (x_and (x_shr a v1) 255)) 0 2), x_r (16 * 2 + 2)]) dX10_addNumber_57 xmX10_25 rfl (f_cal (M := M) (us2 := []) [] hn rfl trivial rfl rfl rfl (c_X10_kindOf hst hs   hq8)) (by decide) (Nat.le_of_ble_eq_true rfl) (Or.inl rfl) ?_
        show Ev g _ _ _ _ _ _ 60 [some (x_r (16 * 2 + 0)), some (x_i a), some (x_i v1)] [x_i v8, x_i ((x_up T2 1 ((T2 0 2)).toNat (x_and (x_shr a v1) 255)) 0 2), x_r (16 * 2 + 2)] (al, ro, fl (ml M [2] [(x_up T2 1 ((T2 0 2)).toNat (x_and (x_shr a v1) 255))])) _ _ _ _
        obtain ⟨hc0, hr6⟩ := x_gd_some hr6
        refine f_iast (pc := 60) (k := 0) (u := 2) (q := 2) (len := 400) dX10_addNumber_60 (sa_2_2 hs) hc0 hn rfl rfl rfl (by decide) ?_
        show Ev g _ _ _ _ _ _ 61 [some (x_r (16 * 2 + 0)), some (x_i a), some (x_i v1)] [] (al, ro, fl (ml M [2] [(x_up (x_up T2 1 ((T2 0 2)).toNat (x_and (x_shr a v1) 255)) 2 (((x_up T2 1 ((T2 0 2)).toNat (x_and (x_shr a v1) 255)) 0 2)).toNat v8)])) _ _ _ _
        refine e_aloadn (pc := 61) (i := 0) dX10_addNumber_61 rfl rfl ?_
        refine e_dup (pc := 62) dX10_addNumber_62 rfl ?_
        refine f_geti (pc := 63) (k := 0) (u := 2) (q := 0) dX10_addNumber_63 xf10_22 (sa_2_0 hs) rfl hn rfl rfl (by decide) ?_
        show Ev g _ _ _ _ _ _ 66 [some (x_r (16 * 2 + 0)), some (x_i a), some (x_i v1)] [x_i ((x_up (x_up T2 1 ((T2 0 2)).toNat (x_and (x_shr a v1) 255)) 2 (((x_up T2 1 ((T2 0 2)).toNat (x_and (x_shr a v1) 255)) 0 2)).toNat v8) 0 2), x_r (16 * 2 + 0)] (al, ro, fl (ml M [2] [(x_up (x_up T2 1 ((T2 0 2)).toNat (x_and (x_shr a v1) 255)) 2 (((x_up T2 1 ((T2 0 2)).toNat (x_and (x_shr a v1) 255)) 0 2)).toNat v8)])) _ _ _ _
        refine e_iconst (pc := 66) dX10_addNumber_66 (x_R rfl) ?_
        refine e_iadd (pc := 67) dX10_addNumber_67 ?_
        refine f_puti (pc := 68) (k := 0) (u := 2) (q := 0) dX10_addNumber_68 xf10_22 xw8_2 (sa_2_0 hs) hn rfl rfl rfl (by decide) ?_
        show Ev g _ _ _ _ _ _ 71 [some (x_r (16 * 2 + 0)), some (x_i a), some (x_i v1)] [] (al, ro, fl (ml M [2] [(x_up (x_up (x_up T2 1 ((T2 0 2)).toNat (x_and (x_shr a v1) 255)) 2 (((x_up T2 1 ((T2 0 2)).toNat (x_and (x_shr a v1) 255)) 0 2)).toNat v8) 0 2 (x_add ((x_up (x_up T2 1 ((T2 0 2)).toNat (x_and (x_shr a v1) 255)) 2 (((x_up T2 1 ((T2 0 2)).toNat (x_and (x_shr a v1) 255)) 0 2)).toNat v8) 0 2) 1))])) _ _ _ _
        cases hr6
        exact hjhr6
set_option maxRecDepth 100000 in
set_option maxHeartbeats 4000000 in
theorem c_X10_useUp {g : xG} {al : List (Nat × Nat × Nat)} {ro : Nat → Nat → Option Nat} (hst : g.1.stackTraces = false) (hs : SH al ro) {M : Nat → xU} {T : xU}  {t : xU} (hG : G10_useUp T = some t) :
    Cal g yX10_useUp cX10_useUp 1 none 0 [x_r (16 * 2 + 0)] (al, ro, fl (ml M [2] [T])) 0 0 (.inl none) (al, ro, fl (ml M [2] [t])) := by
  have hn : ([2] : List Nat).Nodup := by decide
  refine cal_of_ev (plainFor_of_name (by decide)) (x_c1 rfl) (Nat.le_of_ble_eq_true rfl) hst ?_
  show Ev g _ _ _ _ _ _ 0 [some (x_r (16 * 2 + 0))] [] (al, ro, fl (ml M [2] [T])) _ _ _ _
  rw [G10_useUp] at hG
  refine e_aloadn (pc := 0) (i := 0) dX10_useUp_0 rfl rfl ?_
  refine e_iconst (pc := 1) dX10_useUp_1 (x_R rfl) ?_
  refine f_puti (pc := 2) (k := 0) (u := 2) (q := 0) dX10_useUp_2 xf10_22 xw8_2 (sa_2_0 hs) hn rfl rfl rfl (by decide) ?_
  show Ev g _ _ _ _ _ _ 5 [some (x_r (16 * 2 + 0))] [] (al, ro, fl (ml M [2] [(x_up T 0 2 0)])) _ _ _ _
  cases hG
  exact (e_return rfl dX10_useUp_5)
set_option maxRecDepth 100000 in
set_option maxHeartbeats 4000000 in
theorem c_X11_feed {g : xG} {al : List (Nat × Nat × Nat)} {ro : Nat → Nat → Option Nat} (hst : g.1.stackTraces = false) (hs : SH al ro) {M : Nat → xU} {a : Int} {b : Int} {c : Int} {d : Int} {e : Int} {T : xU}  {t : (Int × xU)} (hG : G11_feed a b c d e T = some t) :
    Cal g yX11_feed cX11_feed 6 (some .int) 2 [x_r (16 * 1 + 0), x_i a, x_i b, x_i c, x_i d, x_i e] (al, ro, fl (ml M [2] [T])) 0 0 (.inl (some (x_i t.1))) (al, ro, fl (ml M [2] [t.2])) := by
  have hn : ([2] : List Nat).Nodup := by decide
  refine cal_of_ev (plainFor_of_name (by decide)) (x_c1 rfl) (Nat.le_of_ble_eq_true rfl) hst ?_
  show Ev g _ _ _ _ _ _ 0 [some (x_r (16 * 1 + 0)), some (x_i a), some (x_i b), some (x_i c), some (x_i d), some (x_i e)] [] (al, ro, fl (ml M [2] [T])) _ _ _ _
  rw [G11_feed] at hG
  refine e_aloadn (pc := 0) (i := 0) dX11_feed_0 rfl rfl ?_
  refine f_getr (pc := 1) (u := 1) (q := 0) dX11_feed_1 xf11_10 (sa_1_0 hs) rfl (sr_1_0_0 hs) ?_
  refine f_geti (pc := 4) (k := 0) (u := 2) (q := 0) dX11_feed_4 xf11_85 (sa_2_0 hs) rfl hn rfl rfl (by decide) ?_
  show Ev g _ _ _ _ _ _ 7 [some (x_r (16 * 1 + 0)), some (x_i a), some (x_i b), some (x_i c), some (x_i d), some (x_i e)] [x_i (T 0 2)] (al, ro, fl (ml M [2] [T])) _ _ _ _
  refine e_bipush (pc := 7) dX11_feed_7 (by decide +kernel) (x_R rfl) ?_
  refine e_iadd (pc := 9) dX11_feed_9 ?_
  refine e_sipush (pc := 10) dX11_feed_10 (by decide +kernel) (x_R rfl) ?_
  refine e_icmp_le (pc := 13) (tgt := 18) dX11_feed_13 (by decide) (fun hb => ?_) (fun hb => ?_)
  · rw [if_pos hb] at hG
    refine e_aloadn (pc := 18) (i := 0) dX11_feed_18 rfl rfl ?_
    refine f_getr (pc := 19) (u := 1) (q := 0) dX11_feed_19 xf11_10 (sa_1_0 hs) rfl (sr_1_0_0 hs) ?_
    refine e_iloadn (pc := 22) (i := 1) dX11_feed_22 rfl rfl ?_
    obtain ⟨T1, hq1, hG⟩ := x_bd1 hG
    refine e_invV (pc := 23) (K1 := 0) (S1 := 0) (K := 0) (S := 0) (dd2 := 1) (av := [x_i a]) (st := []) (id := 16 * 2 + 0) dX11_feed_23 xmX11_88 rfl (Or.inl ⟨8, 8, TX10, (sa_2_0 hs), rfl, by decide⟩) (f_cal (M := M) (us2 := [2]) [0] hn rfl (And.intro rfl trivial) rfl rfl rfl (c_X10_addNumber hst hs   hq1)) (by decide) (Nat.le_of_ble_eq_true rfl) (Or.inl rfl) ?_
    show Ev g _ _ _ _ _ _ 26 [some (x_r (16 * 1 + 0)), some (x_i a), some (x_i b), some (x_i c), some (x_i d), some (x_i e)] [] (al, ro, fl (ml M [2] [T1])) _ _ _ _
    refine e_aloadn (pc := 26) (i := 0) dX11_feed_26 rfl rfl ?_
    refine f_getr (pc := 27) (u := 1) (q := 0) dX11_feed_27 xf11_10 (sa_1_0 hs) rfl (sr_1_0_0 hs) ?_
    refine e_iloadn (pc := 30) (i := 2) dX11_feed_30 rfl rfl ?_
    obtain ⟨T3, hq3, hG⟩ := x_bd1 hG
    refine e_invV (pc := 31) (K1 := 0) (S1 := 0) (K := 0) (S := 0) (dd2 := 1) (av := [x_i b]) (st := []) (id := 16 * 2 + 0) dX11_feed_31 xmX11_88 rfl (Or.inl ⟨8, 8, TX10, (sa_2_0 hs), rfl, by decide⟩) (f_cal (M := M) (us2 := [2]) [0] hn rfl (And.intro rfl trivial) rfl rfl rfl (c_X10_addNumber hst hs   hq3)) (by decide) (Nat.le_of_ble_eq_true rfl) (Or.inl rfl) ?_
    show Ev g _ _ _ _ _ _ 34 [some (x_r (16 * 1 + 0)), some (x_i a), some (x_i b), some (x_i c), some (x_i d), some (x_i e)] [] (al, ro, fl (ml M [2] [T3])) _ _ _ _
    refine e_aloadn (pc := 34) (i := 0) dX11_feed_34 rfl rfl ?_
    refine f_getr (pc := 35) (u := 1) (q := 0) dX11_feed_35 xf11_10 (sa_1_0 hs) rfl (sr_1_0_0 hs) ?_
    refine e_iloadn (pc := 38) (i := 3) dX11_feed_38 rfl rfl ?_
    obtain ⟨T5, hq5, hG⟩ := x_bd1 hG
    refine e_invV (pc := 39) (K1 := 0) (S1 := 0) (K := 0) (S := 0) (dd2 := 1) (av := [x_i c]) (st := []) (id := 16 * 2 + 0) dX11_feed_39 xmX11_88 rfl (Or.inl ⟨8, 8, TX10, (sa_2_0 hs), rfl, by decide⟩) (f_cal (M := M) (us2 := [2]) [0] hn rfl (And.intro rfl trivial) rfl rfl rfl (c_X10_addNumber hst hs   hq5)) (by decide) (Nat.le_of_ble_eq_true rfl) (Or.inl rfl) ?_
    show Ev g _ _ _ _ _ _ 42 [some (x_r (16 * 1 + 0)), some (x_i a), some (x_i b), some (x_i c), some (x_i d), some (x_i e)] [] (al, ro, fl (ml M [2] [T5])) _ _ _ _
    refine e_aloadn (pc := 42) (i := 0) dX11_feed_42 rfl rfl ?_
    refine f_getr (pc := 43) (u := 1) (q := 0) dX11_feed_43 xf11_10 (sa_1_0 hs) rfl (sr_1_0_0 hs) ?_
    refine e_iload (pc := 46) dX11_feed_46 rfl ?_
    obtain ⟨T7, hq7, hG⟩ := x_bd1 hG
    refine e_invV (pc := 48) (K1 := 0) (S1 := 0) (K := 0) (S := 0) (dd2 := 1) (av := [x_i d]) (st := []) (id := 16 * 2 + 0) dX11_feed_48 xmX11_88 rfl (Or.inl ⟨8, 8, TX10, (sa_2_0 hs), rfl, by decide⟩) (f_cal (M := M) (us2 := [2]) [0] hn rfl (And.intro rfl trivial) rfl rfl rfl (c_X10_addNumber hst hs   hq7)) (by decide) (Nat.le_of_ble_eq_true rfl) (Or.inl rfl) ?_
    show Ev g _ _ _ _ _ _ 51 [some (x_r (16 * 1 + 0)), some (x_i a), some (x_i b), some (x_i c), some (x_i d), some (x_i e)] [] (al, ro, fl (ml M [2] [T7])) _ _ _ _
    refine e_aloadn (pc := 51) (i := 0) dX11_feed_51 rfl rfl ?_
    refine f_getr (pc := 52) (u := 1) (q := 0) dX11_feed_52 xf11_10 (sa_1_0 hs) rfl (sr_1_0_0 hs) ?_
    refine e_iload (pc := 55) dX11_feed_55 rfl ?_
    obtain ⟨T9, hq9, hG⟩ := x_bd1 hG
    refine e_invV (pc := 57) (K1 := 0) (S1 := 0) (K := 0) (S := 0) (dd2 := 1) (av := [x_i e]) (st := []) (id := 16 * 2 + 0) dX11_feed_57 xmX11_88 rfl (Or.inl ⟨8, 8, TX10, (sa_2_0 hs), rfl, by decide⟩) (f_cal (M := M) (us2 := [2]) [0] hn rfl (And.intro rfl trivial) rfl rfl rfl (c_X10_addNumber hst hs   hq9)) (by decide) (Nat.le_of_ble_eq_true rfl) (Or.inl rfl) ?_
    show Ev g _ _ _ _ _ _ 60 [some (x_r (16 * 1 + 0)), some (x_i a), some (x_i b), some (x_i c), some (x_i d), some (x_i e)] [] (al, ro, fl (ml M [2] [T9])) _ _ _ _
    refine e_aloadn (pc := 60) (i := 0) dX11_feed_60 rfl rfl ?_
    refine f_getr (pc := 61) (u := 1) (q := 0) dX11_feed_61 xf11_10 (sa_1_0 hs) rfl (sr_1_0_0 hs) ?_
    refine f_geti (pc := 64) (k := 0) (u := 2) (q := 0) dX11_feed_64 xf11_85 (sa_2_0 hs) rfl hn rfl rfl (by decide) ?_
    show Ev g _ _ _ _ _ _ 67 [some (x_r (16 * 1 + 0)), some (x_i a), some (x_i b), some (x_i c), some (x_i d), some (x_i e)] [x_i (T9 0 2)] (al, ro, fl (ml M [2] [T9])) _ _ _ _
    cases hG
    exact (e_ireturn rfl dX11_feed_67 rfl)
  · rw [if_neg hb] at hG
    refine e_iconst (pc := 16) dX11_feed_16 (x_R rfl) ?_
    cases hG
    exact (e_ireturn rfl dX11_feed_17 rfl)
set_option maxRecDepth 100000 in
set_option maxHeartbeats 4000000 in
theorem c_X11_end {g : xG} {al : List (Nat × Nat × Nat)} {ro : Nat → Nat → Option Nat} (hst : g.1.stackTraces = false) (hs : SH al ro) {M : Nat → xU} {a : Int} {T : xU}  {t : (Int × xU)} (hG : G11_end a T = some t) :
    Cal g yX11_end cX11_end 2 (some .boolean) 0 [x_r (16 * 1 + 0), x_i a] (al, ro, fl (ml M [2] [T])) 0 0 (.inl (some (x_i t.1))) (al, ro, fl (ml M [2] [t.2])) := by
  have hn : ([2] : List Nat).Nodup := by decide
  refine cal_of_ev (plainFor_of_name (by decide)) (x_c1 rfl) (Nat.le_of_ble_eq_true rfl) hst ?_
  show Ev g _ _ _ _ _ _ 0 [some (x_r (16 * 1 + 0)), some (x_i a)] [] (al, ro, fl (ml M [2] [T])) _ _ _ _
  rw [G11_end] at hG
  refine e_iloadn (pc := 0) (i := 1) dX11_end_0 rfl rfl ?_
  refine e_if_lt (pc := 1) (tgt := 15) dX11_end_1 (by decide) (fun hb => ?_) (fun hb => ?_)
  · rw [if_pos hb] at hG
    refine e_iconst (pc := 15) dX11_end_15 (x_R rfl) ?_
    cases hG
    exact (e_ireturn rfl dX11_end_16 (x_bool (by decide)).1)
  · rw [if_neg hb] at hG
    refine e_iloadn (pc := 4) (i := 1) dX11_end_4 rfl rfl ?_
    refine e_aloadn (pc := 5) (i := 0) dX11_end_5 rfl rfl ?_
    refine f_getr (pc := 6) (u := 1) (q := 0) dX11_end_6 xf11_10 (sa_1_0 hs) rfl (sr_1_0_0 hs) ?_
    refine f_geti (pc := 9) (k := 0) (u := 2) (q := 0) dX11_end_9 xf11_85 (sa_2_0 hs) rfl hn rfl rfl (by decide) ?_
    show Ev g _ _ _ _ _ _ 12 [some (x_r (16 * 1 + 0)), some (x_i a)] [x_i (T 0 2), x_i a] (al, ro, fl (ml M [2] [T])) _ _ _ _
    refine e_icmp_le (pc := 12) (tgt := 17) dX11_end_12 (by decide) (fun hb => ?_) (fun hb => ?_)
    · rw [if_pos hb] at hG
      refine e_aloadn (pc := 17) (i := 0) dX11_end_17 rfl rfl ?_
      refine f_getr (pc := 18) (u := 1) (q := 0) dX11_end_18 xf11_10 (sa_1_0 hs) rfl (sr_1_0_0 hs) ?_
      refine e_iloadn (pc := 21) (i := 1) dX11_end_21 rfl rfl ?_
      refine f_puti (pc := 22) (k := 0) (u := 2) (q := 0) dX11_end_22 xf11_85 xw8_2 (sa_2_0 hs) hn rfl rfl rfl (by decide) ?_
      show Ev g _ _ _ _ _ _ 25 [some (x_r (16 * 1 + 0)), some (x_i a)] [] (al, ro, fl (ml M [2] [(x_up T 0 2 a)])) _ _ _ _
      refine e_iconst (pc := 25) dX11_end_25 (x_R rfl) ?_
      cases hG
      exact (e_ireturn rfl dX11_end_26 (x_bool (by decide)).1)
    · rw [if_neg hb] at hG
      refine e_iconst (pc := 15) dX11_end_15 (x_R rfl) ?_
      cases hG
      exact (e_ireturn rfl dX11_end_16 (x_bool (by decide)).1)
set_option maxRecDepth 100000 in
set_option maxHeartbeats 4000000 in
theorem c_X11_cloister {g : xG} {al : List (Nat × Nat × Nat)} {ro : Nat → Nat → Option Nat} (hst : g.1.stackTraces = false) (hs : SH al ro) {M : Nat → xU} {X : xU} {T : xU} {N : xU} {Dr : xU}  {t : ((Int ⊕ Nat) × xU × xU × xU × xU)} (hG : G11_cloister X T N Dr = some t) :
    Cal g yX11_cloister cX11_cloister 1 (some .int) 12 [x_r (16 * 1 + 0)] (al, ro, fl (ml M [1, 2, 3, 4] [X, T, N, Dr])) 1 6 (x_oi t.1) (al, ro, fl (ml M [1, 2, 3, 4] [t.2.1, t.2.2.1, t.2.2.2.1, t.2.2.2.2])) := by
  have hn : ([1, 2, 3, 4] : List Nat).Nodup := by decide
  refine cal_of_ev (plainFor_of_name (by decide)) (x_c1 rfl) (Nat.le_of_ble_eq_true rfl) hst ?_
  show Ev g _ _ _ _ _ _ 0 [some (x_r (16 * 1 + 0))] [] (al, ro, fl (ml M [1, 2, 3, 4] [X, T, N, Dr])) _ _ _ _
  rw [G11_cloister] at hG
  refine e_aloadn (pc := 0) (i := 0) dX11_cloister_0 rfl rfl ?_
  refine f_getr (pc := 1) (u := 1) (q := 0) dX11_cloister_1 xf11_23 (sa_1_0 hs) rfl (sr_1_0_2 hs) ?_
  refine e_aloadn (pc := 4) (i := 0) dX11_cloister_4 rfl rfl ?_
  refine f_getr (pc := 5) (u := 1) (q := 0) dX11_cloister_5 xf11_19 (sa_1_0 hs) rfl (sr_1_0_1 hs) ?_
  obtain ⟨Dr1, hq1, hG⟩ := x_bd1 hG
  refine e_invV (pc := 8) (K1 := 0) (S1 := 0) (K := 1) (S := 6) (dd2 := 2) (av := [x_r (16 * 3 + 0)]) (st := []) (id := 16 * 4 + 0) dX11_cloister_8 xmX11_92 rfl (Or.inl ⟨1, 12, TX1, (sa_4_0 hs), rfl, by decide⟩) (f_cal (M := M) (us2 := [4, 3]) [3, 2] hn rfl (And.intro rfl (And.intro rfl trivial)) rfl rfl rfl (c_X1_copyFrom hst hs (by decide) (by decide) (by decide)  hq1)) (by decide) (Nat.le_of_ble_eq_true rfl) (Or.inl rfl) ?_
  show Ev g _ _ _ _ _ _ 11 [some (x_r (16 * 1 + 0))] [] (al, ro, fl (ml M [1, 2, 3, 4] [X, T, N, Dr1])) _ _ _ _
  refine e_aloadn (pc := 11) (i := 0) dX11_cloister_11 rfl rfl ?_
  refine e_aloadn (pc := 12) (i := 0) dX11_cloister_12 rfl rfl ?_
  refine f_getr (pc := 13) (u := 1) (q := 0) dX11_cloister_13 xf11_10 (sa_1_0 hs) rfl (sr_1_0_0 hs) ?_
  refine e_aloadn (pc := 16) (i := 0) dX11_cloister_16 rfl rfl ?_
  refine f_getr (pc := 17) (u := 1) (q := 0) dX11_cloister_17 xf11_23 (sa_1_0 hs) rfl (sr_1_0_2 hs) ?_
  obtain ⟨v3, T4, Dr5, hq5, hG⟩ := x_bd3 hG
  refine e_invS (pc := 20) (K1 := 0) (S1 := 0) (K := 1) (S := 6) (dd2 := 11) (av := [x_r (16 * 2 + 0), x_r (16 * 4 + 0)]) (st := [x_r (16 * 1 + 0)]) dX11_cloister_20 xmX11_96 rfl (f_cal (M := M) (us2 := [2, 4]) [1, 3] hn rfl (And.intro rfl (And.intro rfl trivial)) rfl rfl rfl (c_X2_readInto hst hs   hq5)) (by decide) (Nat.le_of_ble_eq_true rfl) (Or.inl rfl) ?_
  show Ev g _ _ _ _ _ _ 23 [some (x_r (16 * 1 + 0))] [x_i v3, x_r (16 * 1 + 0)] (al, ro, fl (ml M [1, 2, 3, 4] [X, T4, N, Dr5])) _ _ _ _
  refine f_puti (pc := 23) (k := 0) (u := 1) (q := 0) dX11_cloister_23 xf11_81 xw9_16 (sa_1_0 hs) hn rfl rfl rfl (by decide) ?_
  show Ev g _ _ _ _ _ _ 26 [some (x_r (16 * 1 + 0))] [] (al, ro, fl (ml M [1, 2, 3, 4] [(x_up X 0 16 v3), T4, N, Dr5])) _ _ _ _
  refine e_aloadn (pc := 26) (i := 0) dX11_cloister_26 rfl rfl ?_
  refine f_getr (pc := 27) (u := 1) (q := 0) dX11_cloister_27 xf11_10 (sa_1_0 hs) rfl (sr_1_0_0 hs) ?_
  obtain ⟨T7, hq7, hG⟩ := x_bd1 hG
  refine e_invV (pc := 30) (K1 := 0) (S1 := 0) (K := 1) (S := 6) (dd2 := 0) (av := []) (st := []) (id := 16 * 2 + 0) dX11_cloister_30 xmX11_102 rfl (Or.inl ⟨8, 8, TX10, (sa_2_0 hs), rfl, by decide⟩) (f_cal (M := M) (us2 := [2]) [1] hn rfl (And.intro rfl trivial) rfl rfl rfl (c_X10_useUp hst hs   hq7)) (by decide) (Nat.le_of_ble_eq_true rfl) (Or.inl rfl) ?_
  show Ev g _ _ _ _ _ _ 33 [some (x_r (16 * 1 + 0))] [] (al, ro, fl (ml M [1, 2, 3, 4] [(x_up X 0 16 v3), T7, N, Dr5])) _ _ _ _
  refine e_aloadn (pc := 33) (i := 0) dX11_cloister_33 rfl rfl ?_
  refine f_geti (pc := 34) (k := 0) (u := 1) (q := 0) dX11_cloister_34 xf11_81 (sa_1_0 hs) rfl hn rfl rfl (by decide) ?_
  show Ev g _ _ _ _ _ _ 37 [some (x_r (16 * 1 + 0))] [x_i ((x_up X 0 16 v3) 0 16)] (al, ro, fl (ml M [1, 2, 3, 4] [(x_up X 0 16 v3), T7, N, Dr5])) _ _ _ _
  refine e_iconst (pc := 37) dX11_cloister_37 (x_R rfl) ?_
  refine e_icmp_eq (pc := 38) (tgt := 49) dX11_cloister_38 (by decide) (fun hb => ?_) (fun hb => ?_)
  · rw [if_pos hb] at hG
    refine e_aloadn (pc := 49) (i := 0) dX11_cloister_49 rfl rfl ?_
    refine f_getr (pc := 50) (u := 1) (q := 0) dX11_cloister_50 xf11_19 (sa_1_0 hs) rfl (sr_1_0_1 hs) ?_
    refine f_geti (pc := 53) (k := 2) (u := 3) (q := 0) dX11_cloister_53 xf11_108 (sa_3_0 hs) rfl hn rfl rfl (by decide) ?_
    show Ev g _ _ _ _ _ _ 56 [some (x_r (16 * 1 + 0))] [x_i (N 0 4)] (al, ro, fl (ml M [1, 2, 3, 4] [(x_up X 0 16 v3), T7, N, Dr5])) _ _ _ _
    refine e_bipush (pc := 56) dX11_cloister_56 (by decide +kernel) (x_R rfl) ?_
    refine e_icmp_lt (pc := 58) (tgt := 69) dX11_cloister_58 (by decide) (fun hb => ?_) (fun hb => ?_)
    · rw [if_pos hb] at hG
      refine e_aloadn (pc := 69) (i := 0) dX11_cloister_69 rfl rfl ?_
      refine f_getr (pc := 70) (u := 1) (q := 0) dX11_cloister_70 xf11_23 (sa_1_0 hs) rfl (sr_1_0_2 hs) ?_
      refine e_dup (pc := 73) dX11_cloister_73 rfl ?_
      refine f_geti (pc := 74) (k := 3) (u := 4) (q := 0) dX11_cloister_74 xf11_108 (sa_4_0 hs) rfl hn rfl rfl (by decide) ?_
      show Ev g _ _ _ _ _ _ 77 [some (x_r (16 * 1 + 0))] [x_i (Dr5 0 4), x_r (16 * 4 + 0)] (al, ro, fl (ml M [1, 2, 3, 4] [(x_up X 0 16 v3), T7, N, Dr5])) _ _ _ _
      refine e_iconst (pc := 77) dX11_cloister_77 (x_R rfl) ?_
      refine e_iadd (pc := 78) dX11_cloister_78 ?_
      refine f_puti (pc := 79) (k := 3) (u := 4) (q := 0) dX11_cloister_79 xf11_108 xw1_4 (sa_4_0 hs) hn rfl rfl rfl (by decide) ?_
      show Ev g _ _ _ _ _ _ 82 [some (x_r (16 * 1 + 0))] [] (al, ro, fl (ml M [1, 2, 3, 4] [(x_up X 0 16 v3), T7, N, (x_up Dr5 0 4 (x_add (Dr5 0 4) 1))])) _ _ _ _
      refine e_aloadn (pc := 82) (i := 0) dX11_cloister_82 rfl rfl ?_
      refine f_getr (pc := 83) (u := 1) (q := 0) dX11_cloister_83 xf11_19 (sa_1_0 hs) rfl (sr_1_0_1 hs) ?_
      refine e_aloadn (pc := 86) (i := 0) dX11_cloister_86 rfl rfl ?_
      refine f_getr (pc := 87) (u := 1) (q := 0) dX11_cloister_87 xf11_23 (sa_1_0 hs) rfl (sr_1_0_2 hs) ?_
      obtain ⟨N9, hq9, hG⟩ := x_bd1 hG
      refine e_invV (pc := 90) (K1 := 0) (S1 := 0) (K := 1) (S := 6) (dd2 := 2) (av := [x_r (16 * 4 + 0)]) (st := []) (id := 16 * 3 + 0) dX11_cloister_90 xmX11_92 rfl (Or.inl ⟨1, 12, TX1, (sa_3_0 hs), rfl, by decide⟩) (f_cal (M := M) (us2 := [3, 4]) [2, 3] hn rfl (And.intro rfl (And.intro rfl trivial)) rfl rfl rfl (c_X1_copyFrom hst hs (by decide) (by decide) (by decide)  hq9)) (by decide) (Nat.le_of_ble_eq_true rfl) (Or.inl rfl) ?_
      show Ev g _ _ _ _ _ _ 93 [some (x_r (16 * 1 + 0))] [] (al, ro, fl (ml M [1, 2, 3, 4] [(x_up X 0 16 v3), T7, N9, (x_up Dr5 0 4 (x_add (Dr5 0 4) 1))])) _ _ _ _
      refine e_aloadn (pc := 93) (i := 0) dX11_cloister_93 rfl rfl ?_
      refine e_iconst (pc := 94) dX11_cloister_94 (x_R rfl) ?_
      refine f_puti (pc := 95) (k := 0) (u := 1) (q := 0) dX11_cloister_95 xf11_114 xw9_15 (sa_1_0 hs) hn rfl rfl rfl (by decide) ?_
      show Ev g _ _ _ _ _ _ 98 [some (x_r (16 * 1 + 0))] [] (al, ro, fl (ml M [1, 2, 3, 4] [(x_up (x_up X 0 16 v3) 0 15 0), T7, N9, (x_up Dr5 0 4 (x_add (Dr5 0 4) 1))])) _ _ _ _
      refine e_aloadn (pc := 98) (i := 0) dX11_cloister_98 rfl rfl ?_
      refine f_getr (pc := 99) (u := 1) (q := 0) dX11_cloister_99 xf11_19 (sa_1_0 hs) rfl (sr_1_0_1 hs) ?_
      refine f_geti (pc := 102) (k := 2) (u := 3) (q := 0) dX11_cloister_102 xf11_108 (sa_3_0 hs) rfl hn rfl rfl (by decide) ?_
      show Ev g _ _ _ _ _ _ 105 [some (x_r (16 * 1 + 0))] [x_i (N9 0 4)] (al, ro, fl (ml M [1, 2, 3, 4] [(x_up (x_up X 0 16 v3) 0 15 0), T7, N9, (x_up Dr5 0 4 (x_add (Dr5 0 4) 1))])) _ _ _ _
      cases hG
      exact (e_wide (K0 := 0) (S0 := 0) (by decide) (by decide) (e_ireturn rfl dX11_cloister_105 rfl))
    · rw [if_neg hb] at hG
      cases hG
      exact (e_throw (pc := 61) xt_4 dX11_cloister_61 dX11_cloister_64 dX11_cloister_65 dX11_cloister_68 (Nat.le_of_ble_eq_true rfl) (fun _ q => absurd q List.not_mem_nil))
  · rw [if_neg hb] at hG
    cases hG
    exact (e_throw (pc := 41) xt_0 dX11_cloister_41 dX11_cloister_44 dX11_cloister_45 dX11_cloister_48 (Nat.le_of_ble_eq_true rfl) (fun _ q => absurd q List.not_mem_nil))
set_option maxRecDepth 100000 in
set_option maxHeartbeats 4000000 in
theorem c_X11_law {g : xG} {al : List (Nat × Nat × Nat)} {ro : Nat → Nat → Option Nat} (hst : g.1.stackTraces = false) (hs : SH al ro) {M : Nat → xU} {X : xU} {T : xU} {La : xU} {Lb : xU}  {t : ((Int ⊕ Nat) × xU × xU × xU × xU)} (hG : G11_law X T La Lb = some t) :
    Cal g yX11_law cX11_law 1 (some .int) 32 [x_r (16 * 1 + 0)] (al, ro, fl (ml M [1, 2, 19, 20] [X, T, La, Lb])) 1 6 (x_oi t.1) (al, ro, fl (ml M [1, 2, 19, 20] [t.2.1, t.2.2.1, t.2.2.2.1, t.2.2.2.2])) := by
  have hn : ([1, 2, 19, 20] : List Nat).Nodup := by decide
  refine cal_of_ev (plainFor_of_name (by decide)) (x_c1 rfl) (Nat.le_of_ble_eq_true rfl) hst ?_
  show Ev g _ _ _ _ _ _ 0 [some (x_r (16 * 1 + 0))] [] (al, ro, fl (ml M [1, 2, 19, 20] [X, T, La, Lb])) _ _ _ _
  rw [G11_law] at hG
  refine e_aloadn (pc := 0) (i := 0) dX11_law_0 rfl rfl ?_
  refine e_aloadn (pc := 1) (i := 0) dX11_law_1 rfl rfl ?_
  refine f_getr (pc := 2) (u := 1) (q := 0) dX11_law_2 xf11_10 (sa_1_0 hs) rfl (sr_1_0_0 hs) ?_
  refine e_aloadn (pc := 5) (i := 0) dX11_law_5 rfl rfl ?_
  refine f_getr (pc := 6) (u := 1) (q := 0) dX11_law_6 xf11_36 (sa_1_0 hs) rfl (sr_1_0_5 hs) ?_
  obtain ⟨v1, T2, Lb3, hq3, hG⟩ := x_bd3 hG
  refine e_invS (pc := 9) (K1 := 0) (S1 := 0) (K := 1) (S := 6) (dd2 := 31) (av := [x_r (16 * 2 + 0), x_r (16 * 20 + 0)]) (st := [x_r (16 * 1 + 0)]) dX11_law_9 xmX11_117 rfl (f_cal (M := M) (us2 := [2, 20]) [1, 3] hn rfl (And.intro rfl (And.intro rfl trivial)) rfl rfl rfl (c_X5_readInto hst hs   hq3)) (by decide) (Nat.le_of_ble_eq_true rfl) (Or.inl rfl) ?_
  show Ev g _ _ _ _ _ _ 12 [some (x_r (16 * 1 + 0))] [x_i v1, x_r (16 * 1 + 0)] (al, ro, fl (ml M [1, 2, 19, 20] [X, T2, La, Lb3])) _ _ _ _
  refine f_puti (pc := 12) (k := 0) (u := 1) (q := 0) dX11_law_12 xf11_81 xw9_16 (sa_1_0 hs) hn rfl rfl rfl (by decide) ?_
  show Ev g _ _ _ _ _ _ 15 [some (x_r (16 * 1 + 0))] [] (al, ro, fl (ml M [1, 2, 19, 20] [(x_up X 0 16 v1), T2, La, Lb3])) _ _ _ _
  refine e_aloadn (pc := 15) (i := 0) dX11_law_15 rfl rfl ?_
  refine f_getr (pc := 16) (u := 1) (q := 0) dX11_law_16 xf11_10 (sa_1_0 hs) rfl (sr_1_0_0 hs) ?_
  obtain ⟨T5, hq5, hG⟩ := x_bd1 hG
  refine e_invV (pc := 19) (K1 := 0) (S1 := 0) (K := 1) (S := 6) (dd2 := 0) (av := []) (st := []) (id := 16 * 2 + 0) dX11_law_19 xmX11_102 rfl (Or.inl ⟨8, 8, TX10, (sa_2_0 hs), rfl, by decide⟩) (f_cal (M := M) (us2 := [2]) [1] hn rfl (And.intro rfl trivial) rfl rfl rfl (c_X10_useUp hst hs   hq5)) (by decide) (Nat.le_of_ble_eq_true rfl) (Or.inl rfl) ?_
  show Ev g _ _ _ _ _ _ 22 [some (x_r (16 * 1 + 0))] [] (al, ro, fl (ml M [1, 2, 19, 20] [(x_up X 0 16 v1), T5, La, Lb3])) _ _ _ _
  refine e_aloadn (pc := 22) (i := 0) dX11_law_22 rfl rfl ?_
  refine f_geti (pc := 23) (k := 0) (u := 1) (q := 0) dX11_law_23 xf11_81 (sa_1_0 hs) rfl hn rfl rfl (by decide) ?_
  show Ev g _ _ _ _ _ _ 26 [some (x_r (16 * 1 + 0))] [x_i ((x_up X 0 16 v1) 0 16)] (al, ro, fl (ml M [1, 2, 19, 20] [(x_up X 0 16 v1), T5, La, Lb3])) _ _ _ _
  refine e_iconst (pc := 26) dX11_law_26 (x_R rfl) ?_
  refine e_icmp_eq (pc := 27) (tgt := 38) dX11_law_27 (by decide) (fun hb => ?_) (fun hb => ?_)
  · rw [if_pos hb] at hG
    refine e_aloadn (pc := 38) (i := 0) dX11_law_38 rfl rfl ?_
    refine f_getr (pc := 39) (u := 1) (q := 0) dX11_law_39 xf11_32 (sa_1_0 hs) rfl (sr_1_0_4 hs) ?_
    refine e_aloadn (pc := 42) (i := 0) dX11_law_42 rfl rfl ?_
    refine f_getr (pc := 43) (u := 1) (q := 0) dX11_law_43 xf11_36 (sa_1_0 hs) rfl (sr_1_0_5 hs) ?_
    obtain ⟨La7, hq7, hG⟩ := x_bd1 hG
    refine e_invV (pc := 46) (K1 := 0) (S1 := 0) (K := 1) (S := 6) (dd2 := 1) (av := [x_r (16 * 20 + 0)]) (st := []) (id := 16 * 19 + 0) dX11_law_46 xmX11_122 rfl (Or.inl ⟨3, 7, TX4, (sa_19_0 hs), rfl, by decide⟩) (f_cal (M := M) (us2 := [19, 20]) [2, 3] hn rfl (And.intro rfl (And.intro rfl trivial)) rfl rfl rfl (c_X4_copyFrom hst hs (by decide) (by decide) (by decide)  hq7)) (by decide) (Nat.le_of_ble_eq_true rfl) (Or.inl rfl) ?_
    show Ev g _ _ _ _ _ _ 49 [some (x_r (16 * 1 + 0))] [] (al, ro, fl (ml M [1, 2, 19, 20] [(x_up X 0 16 v1), T5, La7, Lb3])) _ _ _ _
    refine e_aloadn (pc := 49) (i := 0) dX11_law_49 rfl rfl ?_
    refine e_iconst (pc := 50) dX11_law_50 (x_R rfl) ?_
    refine f_puti (pc := 51) (k := 0) (u := 1) (q := 0) dX11_law_51 xf11_114 xw9_15 (sa_1_0 hs) hn rfl rfl rfl (by decide) ?_
    show Ev g _ _ _ _ _ _ 54 [some (x_r (16 * 1 + 0))] [] (al, ro, fl (ml M [1, 2, 19, 20] [(x_up (x_up X 0 16 v1) 0 15 0), T5, La7, Lb3])) _ _ _ _
    refine e_aloadn (pc := 54) (i := 0) dX11_law_54 rfl rfl ?_
    refine f_getr (pc := 55) (u := 1) (q := 0) dX11_law_55 xf11_32 (sa_1_0 hs) rfl (sr_1_0_4 hs) ?_
    refine f_geti (pc := 58) (k := 2) (u := 19) (q := 0) dX11_law_58 xf11_125 (sa_19_0 hs) rfl hn rfl rfl (by decide) ?_
    show Ev g _ _ _ _ _ _ 61 [some (x_r (16 * 1 + 0))] [x_i (La7 0 6)] (al, ro, fl (ml M [1, 2, 19, 20] [(x_up (x_up X 0 16 v1) 0 15 0), T5, La7, Lb3])) _ _ _ _
    cases hG
    exact (e_wide (K0 := 0) (S0 := 0) (by decide) (by decide) (e_ireturn rfl dX11_law_61 rfl))
  · rw [if_neg hb] at hG
    cases hG
    exact (e_throw (pc := 30) xt_0 dX11_law_30 dX11_law_33 dX11_law_34 dX11_law_37 (Nat.le_of_ble_eq_true rfl) (fun _ q => absurd q List.not_mem_nil))
set_option maxRecDepth 100000 in
set_option maxHeartbeats 4000000 in
theorem c_X11_fault {g : xG} {al : List (Nat × Nat × Nat)} {ro : Nat → Nat → Option Nat} (hst : g.1.stackTraces = false) (hs : SH al ro) {M : Nat → xU} {X : xU}  {t : Int} (hG : G11_fault X = some t) :
    Cal g yX11_fault cX11_fault 1 (some .int) 0 [x_r (16 * 1 + 0)] (al, ro, fl (ml M [1] [X])) 0 0 (.inl (some (x_i t))) (al, ro, fl (ml M [1] [X])) := by
  have hn : ([1] : List Nat).Nodup := by decide
  refine cal_of_ev (plainFor_of_name (by decide)) (x_c1 rfl) (Nat.le_of_ble_eq_true rfl) hst ?_
  show Ev g _ _ _ _ _ _ 0 [some (x_r (16 * 1 + 0))] [] (al, ro, fl (ml M [1] [X])) _ _ _ _
  rw [G11_fault] at hG
  refine e_aloadn (pc := 0) (i := 0) dX11_fault_0 rfl rfl ?_
  refine f_geti (pc := 1) (k := 0) (u := 1) (q := 0) dX11_fault_1 xf11_81 (sa_1_0 hs) rfl hn rfl rfl (by decide) ?_
  show Ev g _ _ _ _ _ _ 4 [some (x_r (16 * 1 + 0))] [x_i (X 0 16)] (al, ro, fl (ml M [1] [X])) _ _ _ _
  cases hG
  exact (e_ireturn rfl dX11_fault_4 rfl)
set_option maxRecDepth 100000 in
set_option maxHeartbeats 4000000 in
theorem c_X11_needMonk {g : xG} {al : List (Nat × Nat × Nat)} {ro : Nat → Nat → Option Nat} (hst : g.1.stackTraces = false) (hs : SH al ro) {M : Nat → xU} {a : Int} {N : xU}  {t : (Option Nat)} (hG : G11_needMonk a N = some t) :
    Cal g yX11_needMonk cX11_needMonk 2 none 0 [x_r (16 * 1 + 0), x_i a] (al, ro, fl (ml M [3] [N])) 1 6 (x_ov t) (al, ro, fl (ml M [3] [N])) := by
  have hn : ([3] : List Nat).Nodup := by decide
  refine cal_of_ev (plainFor_of_name (by decide)) (x_c1 rfl) (Nat.le_of_ble_eq_true rfl) hst ?_
  show Ev g _ _ _ _ _ _ 0 [some (x_r (16 * 1 + 0)), some (x_i a)] [] (al, ro, fl (ml M [3] [N])) _ _ _ _
  rw [G11_needMonk] at hG
  refine e_iloadn (pc := 0) (i := 1) dX11_needMonk_0 rfl rfl ?_
  refine e_if_lt (pc := 1) (tgt := 15) dX11_needMonk_1 (by decide) (fun hb => ?_) (fun hb => ?_)
  · rw [if_pos hb] at hG
    cases hG
    exact (e_throw (pc := 15) xt_1 dX11_needMonk_15 dX11_needMonk_18 dX11_needMonk_19 dX11_needMonk_22 (Nat.le_of_ble_eq_true rfl) (fun _ q => absurd q List.not_mem_nil))
  · rw [if_neg hb] at hG
    refine e_iloadn (pc := 4) (i := 1) dX11_needMonk_4 rfl rfl ?_
    refine e_aloadn (pc := 5) (i := 0) dX11_needMonk_5 rfl rfl ?_
    refine f_getr (pc := 6) (u := 1) (q := 0) dX11_needMonk_6 xf11_19 (sa_1_0 hs) rfl (sr_1_0_1 hs) ?_
    refine f_geti (pc := 9) (k := 0) (u := 3) (q := 0) dX11_needMonk_9 xf11_200 (sa_3_0 hs) rfl hn rfl rfl (by decide) ?_
    show Ev g _ _ _ _ _ _ 12 [some (x_r (16 * 1 + 0)), some (x_i a)] [x_i (N 0 3), x_i a] (al, ro, fl (ml M [3] [N])) _ _ _ _
    refine e_icmp_lt (pc := 12) (tgt := 23) dX11_needMonk_12 (by decide) (fun hb => ?_) (fun hb => ?_)
    · rw [if_pos hb] at hG
      cases hG
      exact (e_wide (K0 := 0) (S0 := 0) (by decide) (by decide) (e_return rfl dX11_needMonk_23))
    · rw [if_neg hb] at hG
      cases hG
      exact (e_throw (pc := 15) xt_1 dX11_needMonk_15 dX11_needMonk_18 dX11_needMonk_19 dX11_needMonk_22 (Nat.le_of_ble_eq_true rfl) (fun _ q => absurd q List.not_mem_nil))
set_option maxRecDepth 100000 in
set_option maxHeartbeats 4000000 in
theorem c_X11_monk {g : xG} {al : List (Nat × Nat × Nat)} {ro : Nat → Nat → Option Nat} (hst : g.1.stackTraces = false) (hs : SH al ro) {M : Nat → xU} {a : Int} {b : Int} {N : xU} {La : xU}  {t : ((Int ⊕ Nat) × xU)} (hG : G11_monk a b N La = some t) :
    Cal g yX11_monk cX11_monk 3 (some .int) 3 [x_r (16 * 1 + 0), x_i a, x_i b] (al, ro, fl (ml M [3, 19] [N, La])) 2 12 (x_oi t.1) (al, ro, fl (ml M [3, 19] [N, t.2])) := by
  have hn : ([3, 19] : List Nat).Nodup := by decide
  refine cal_of_ev (plainFor_of_name (by decide)) (x_c1 rfl) (Nat.le_of_ble_eq_true rfl) hst ?_
  show Ev g _ _ _ _ _ _ 0 [some (x_r (16 * 1 + 0)), some (x_i a), some (x_i b)] [] (al, ro, fl (ml M [3, 19] [N, La])) _ _ _ _
  rw [G11_monk] at hG
  refine e_aloadn (pc := 0) (i := 0) dX11_monk_0 rfl rfl ?_
  refine e_iloadn (pc := 1) (i := 1) dX11_monk_1 rfl rfl ?_
  obtain ⟨o1, hq1, hG⟩ := x_bd1 hG
  cases o1 with
  | some E3 =>
    replace hG := x_tv_s hG
    cases hG
    exact (e_wide (K0 := 1) (S0 := 6) (by decide) (by decide) (e_invVX (pc := 2) (dd2 := 0) (av := [x_i a]) (st := []) (id := 16 * 1 + 0) dX11_monk_2 xmX11_128 rfl (Or.inl ⟨9, 17, TX11, (sa_1_0 hs), rfl, by decide⟩) (f_cal (M := M) (us2 := [3]) [0] hn rfl (And.intro rfl trivial) rfl rfl rfl (c_X11_needMonk hst hs   hq1)) (by decide) (Nat.le_of_ble_eq_true rfl) (fun _ q => absurd q List.not_mem_nil)))
  | none =>
    replace hG := x_tv_n hG
    refine e_invV (pc := 2) (K1 := 1) (S1 := 6) (K := 1) (S := 6) (dd2 := 0) (av := [x_i a]) (st := []) (id := 16 * 1 + 0) dX11_monk_2 xmX11_128 rfl (Or.inl ⟨9, 17, TX11, (sa_1_0 hs), rfl, by decide⟩) (f_cal (M := M) (us2 := [3]) [0] hn rfl (And.intro rfl trivial) rfl rfl rfl (c_X11_needMonk hst hs   hq1)) (by decide) (Nat.le_of_ble_eq_true rfl) (Or.inl rfl) ?_
    show Ev g _ _ _ _ _ _ 5 [some (x_r (16 * 1 + 0)), some (x_i a), some (x_i b)] [] (al, ro, fl (ml M [3, 19] [N, La])) _ _ _ _
    refine e_iloadn (pc := 5) (i := 2) dX11_monk_5 rfl rfl ?_
    refine e_if_lt (pc := 6) (tgt := 15) dX11_monk_6 (by decide) (fun hb => ?_) (fun hb => ?_)
    · rw [if_pos hb] at hG
      cases hG
      exact (e_throw (pc := 15) xt_3 dX11_monk_15 dX11_monk_18 dX11_monk_19 dX11_monk_22 (Nat.le_of_ble_eq_true rfl) (fun _ q => absurd q List.not_mem_nil))
    · rw [if_neg hb] at hG
      refine e_iloadn (pc := 9) (i := 2) dX11_monk_9 rfl rfl ?_
      refine e_bipush (pc := 10) dX11_monk_10 (by decide +kernel) (x_R rfl) ?_
      refine e_icmp_le (pc := 12) (tgt := 23) dX11_monk_12 (by decide) (fun hb => ?_) (fun hb => ?_)
      · rw [if_pos hb] at hG
        refine e_iloadn (pc := 23) (i := 2) dX11_monk_23 rfl rfl ?_
        refine e_bipush (pc := 24) dX11_monk_24 (by decide +kernel) (x_R rfl) ?_
        refine e_icmp_ne (pc := 26) (tgt := 42) dX11_monk_26 (by decide) (fun hb => ?_) (fun hb => ?_)
        · rw [if_neg hb] at hG
          refine e_iloadn (pc := 42) (i := 2) dX11_monk_42 rfl rfl ?_
          refine e_bipush (pc := 43) dX11_monk_43 (by decide +kernel) (x_R rfl) ?_
          obtain ⟨v4, hr4, hG⟩ := x_bd1 hG
          have hjhr4 : Ev g yX11_monk cX11_monk 3 (some .int) [] 3 68 [some (x_r (16 * 1 + 0)), some (x_i a), some (x_i b)] [x_i v4] (al, ro, fl (ml M [3, 19] [N, La])) 1 6 (x_oi t.1) (al, ro, fl (ml M [3, 19] [N, t.2])) := by
            cases hG
            exact (e_wide (K0 := 0) (S0 := 0) (by decide) (by decide) (e_ireturn rfl dX11_monk_68 rfl))
          clear hG
          refine e_icmp_ge (pc := 45) (tgt := 60) dX11_monk_45 (by decide) (fun hb => ?_) (fun hb => ?_)
          · rw [if_pos hb] at hr4
            refine e_aloadn (pc := 60) (i := 0) dX11_monk_60 rfl rfl ?_
            refine f_getr (pc := 61) (u := 1) (q := 0) dX11_monk_61 xf11_19 (sa_1_0 hs) rfl (sr_1_0_1 hs) ?_
            refine e_iloadn (pc := 64) (i := 1) dX11_monk_64 rfl rfl ?_
            obtain ⟨v6, hq6, hr4⟩ := x_bd1 hr4
            refine e_invV (pc := 65) (K1 := 0) (S1 := 0) (K := 1) (S := 6) (dd2 := 2) (av := [x_i a]) (st := []) (id := 16 * 3 + 0) dX11_monk_65 xmX11_142 rfl (Or.inl ⟨1, 12, TX1, (sa_3_0 hs), rfl, by decide⟩) (f_cal (M := M) (us2 := [3]) [0] hn rfl (And.intro rfl trivial) rfl rfl rfl (c_X1_lagOf hst hs (by decide)  hq6)) (by decide) (Nat.le_of_ble_eq_true rfl) (Or.inl rfl) ?_
            show Ev g _ _ _ _ _ _ 68 [some (x_r (16 * 1 + 0)), some (x_i a), some (x_i b)] [x_i v6] (al, ro, fl (ml M [3, 19] [N, La])) _ _ _ _
            cases hr4
            exact hjhr4
          · rw [if_neg hb] at hr4
            refine e_aloadn (pc := 48) (i := 0) dX11_monk_48 rfl rfl ?_
            refine f_getr (pc := 49) (u := 1) (q := 0) dX11_monk_49 xf11_19 (sa_1_0 hs) rfl (sr_1_0_1 hs) ?_
            refine e_iloadn (pc := 52) (i := 2) dX11_monk_52 rfl rfl ?_
            refine e_iloadn (pc := 53) (i := 1) dX11_monk_53 rfl rfl ?_
            obtain ⟨v8, hq8, hr4⟩ := x_bd1 hr4
            refine e_invV (pc := 54) (K1 := 0) (S1 := 0) (K := 1) (S := 6) (dd2 := 0) (av := [x_i b, x_i a]) (st := []) (id := 16 * 3 + 0) dX11_monk_54 xmX11_138 rfl (Or.inl ⟨1, 12, TX1, (sa_3_0 hs), rfl, by decide⟩) (f_cal (M := M) (us2 := [3]) [0] hn rfl (And.intro rfl trivial) rfl rfl rfl (c_X1_of hst hs (by decide)  hq8)) (by decide) (Nat.le_of_ble_eq_true rfl) (Or.inl rfl) ?_
            show Ev g _ _ _ _ _ _ 57 [some (x_r (16 * 1 + 0)), some (x_i a), some (x_i b)] [x_i v8] (al, ro, fl (ml M [3, 19] [N, La])) _ _ _ _
            refine e_goto (pc := 57) (tgt := 68) dX11_monk_57 (by decide) ?_
            cases hr4
            exact hjhr4
        · rw [if_pos hb] at hG
          refine e_aloadn (pc := 29) (i := 0) dX11_monk_29 rfl rfl ?_
          refine f_getr (pc := 30) (u := 1) (q := 0) dX11_monk_30 xf11_32 (sa_1_0 hs) rfl (sr_1_0_4 hs) ?_
          refine e_aloadn (pc := 33) (i := 0) dX11_monk_33 rfl rfl ?_
          refine f_getr (pc := 34) (u := 1) (q := 0) dX11_monk_34 xf11_19 (sa_1_0 hs) rfl (sr_1_0_1 hs) ?_
          refine e_iloadn (pc := 37) (i := 1) dX11_monk_37 rfl rfl ?_
          obtain ⟨v10, La11, hq11, hG⟩ := x_bd2 hG
          refine e_invV (pc := 38) (K1 := 0) (S1 := 0) (K := 1) (S := 6) (dd2 := 2) (av := [x_r (16 * 3 + 0), x_i a]) (st := []) (id := 16 * 19 + 0) dX11_monk_38 xmX11_134 rfl (Or.inl ⟨3, 7, TX4, (sa_19_0 hs), rfl, by decide⟩) (f_cal (M := M) (us2 := [3, 19]) [0, 1] hn rfl (And.intro rfl (And.intro rfl trivial)) rfl rfl rfl (c_X4_strideOf hst hs (by decide)  hq11)) (by decide) (Nat.le_of_ble_eq_true rfl) (Or.inl rfl) ?_
          show Ev g _ _ _ _ _ _ 41 [some (x_r (16 * 1 + 0)), some (x_i a), some (x_i b)] [x_i v10] (al, ro, fl (ml M [3, 19] [N, La11])) _ _ _ _
          cases hG
          exact (e_wide (K0 := 0) (S0 := 0) (by decide) (by decide) (e_ireturn rfl dX11_monk_41 rfl))
      · rw [if_neg hb] at hG
        cases hG
        exact (e_throw (pc := 15) xt_3 dX11_monk_15 dX11_monk_18 dX11_monk_19 dX11_monk_22 (Nat.le_of_ble_eq_true rfl) (fun _ q => absurd q List.not_mem_nil))
set_option maxRecDepth 100000 in
set_option maxHeartbeats 4000000 in
theorem c_X11_needWalk {g : xG} {al : List (Nat × Nat × Nat)} {ro : Nat → Nat → Option Nat} (hst : g.1.stackTraces = false) (hs : SH al ro) {M : Nat → xU} {a : Int}  {t : (Option Nat)} (hG : G11_needWalk a = some t) :
    Cal g yX11_needWalk cX11_needWalk 1 none 0 [x_i a] (al, ro, fl (ml M [] [])) 1 6 (x_ov t) (al, ro, fl (ml M [] [])) := by
  have hn : ([] : List Nat).Nodup := by decide
  refine cal_of_ev (plainFor_of_name (by decide)) (x_c1 rfl) (Nat.le_of_ble_eq_true rfl) hst ?_
  show Ev g _ _ _ _ _ _ 0 [some (x_i a)] [] (al, ro, fl (ml M [] [])) _ _ _ _
  rw [G11_needWalk] at hG
  refine e_iloadn (pc := 0) (i := 0) dX11_needWalk_0 rfl rfl ?_
  refine e_if_lt (pc := 1) (tgt := 9) dX11_needWalk_1 (by decide) (fun hb => ?_) (fun hb => ?_)
  · rw [if_pos hb] at hG
    cases hG
    exact (e_throw (pc := 9) xt_1 dX11_needWalk_9 dX11_needWalk_12 dX11_needWalk_13 dX11_needWalk_16 (Nat.le_of_ble_eq_true rfl) (fun _ q => absurd q List.not_mem_nil))
  · rw [if_neg hb] at hG
    refine e_iloadn (pc := 4) (i := 0) dX11_needWalk_4 rfl rfl ?_
    refine e_iconst (pc := 5) dX11_needWalk_5 (x_R rfl) ?_
    refine e_icmp_lt (pc := 6) (tgt := 17) dX11_needWalk_6 (by decide) (fun hb => ?_) (fun hb => ?_)
    · rw [if_pos hb] at hG
      cases hG
      exact (e_wide (K0 := 0) (S0 := 0) (by decide) (by decide) (e_return rfl dX11_needWalk_17))
    · rw [if_neg hb] at hG
      cases hG
      exact (e_throw (pc := 9) xt_1 dX11_needWalk_9 dX11_needWalk_12 dX11_needWalk_13 dX11_needWalk_16 (Nat.le_of_ble_eq_true rfl) (fun _ q => absurd q List.not_mem_nil))
set_option maxRecDepth 100000 in
set_option maxHeartbeats 4000000 in
theorem c_X11_store {g : xG} {al : List (Nat × Nat × Nat)} {ro : Nat → Nat → Option Nat} (hst : g.1.stackTraces = false) (hs : SH al ro) {M : Nat → xU} {a : Int} {N : xU}  {t : (Int ⊕ Nat)} (hG : G11_store a N = some t) :
    Cal g yX11_store cX11_store 2 (some .int) 1 [x_r (16 * 1 + 0), x_i a] (al, ro, fl (ml M [3] [N])) 1 6 (x_oi t) (al, ro, fl (ml M [3] [N])) := by
  have hn : ([3] : List Nat).Nodup := by decide
  refine cal_of_ev (plainFor_of_name (by decide)) (x_c1 rfl) (Nat.le_of_ble_eq_true rfl) hst ?_
  show Ev g _ _ _ _ _ _ 0 [some (x_r (16 * 1 + 0)), some (x_i a)] [] (al, ro, fl (ml M [3] [N])) _ _ _ _
  rw [G11_store] at hG
  refine e_iloadn (pc := 0) (i := 1) dX11_store_0 rfl rfl ?_
  obtain ⟨o1, hq1, hG⟩ := x_bd1 hG
  cases o1 with
  | some E3 =>
    replace hG := x_tv_s hG
    cases hG
    exact (e_invSX (pc := 1) (dd2 := 0) (av := [x_i a]) (st := []) dX11_store_1 xmX11_146 rfl (f_cal (M := M) (us2 := []) [] hn rfl trivial rfl rfl rfl (c_X11_needWalk hst hs   hq1)) (by decide) (Nat.le_of_ble_eq_true rfl) (fun _ q => absurd q List.not_mem_nil))
  | none =>
    replace hG := x_tv_n hG
    refine e_invS (pc := 1) (K1 := 1) (S1 := 6) (K := 0) (S := 0) (dd2 := 0) (av := [x_i a]) (st := []) dX11_store_1 xmX11_146 rfl (f_cal (M := M) (us2 := []) [] hn rfl trivial rfl rfl rfl (c_X11_needWalk hst hs   hq1)) (by decide) (Nat.le_of_ble_eq_true rfl) (Or.inl rfl) ?_
    show Ev g _ _ _ _ _ _ 4 [some (x_r (16 * 1 + 0)), some (x_i a)] [] (al, ro, fl (ml M [3] [N])) _ _ _ _
    refine e_aloadn (pc := 4) (i := 0) dX11_store_4 rfl rfl ?_
    refine f_getr (pc := 5) (u := 1) (q := 0) dX11_store_5 xf11_19 (sa_1_0 hs) rfl (sr_1_0_1 hs) ?_
    refine e_iloadn (pc := 8) (i := 1) dX11_store_8 rfl rfl ?_
    obtain ⟨v4, hq4, hG⟩ := x_bd1 hG
    refine e_invV (pc := 9) (K1 := 0) (S1 := 0) (K := 0) (S := 0) (dd2 := 0) (av := [x_i a]) (st := []) (id := 16 * 3 + 0) dX11_store_9 xmX11_149 rfl (Or.inl ⟨1, 12, TX1, (sa_3_0 hs), rfl, by decide⟩) (f_cal (M := M) (us2 := [3]) [0] hn rfl (And.intro rfl trivial) rfl rfl rfl (c_X1_storeOf hst hs (by decide)  hq4)) (by decide) (Nat.le_of_ble_eq_true rfl) (Or.inl rfl) ?_
    show Ev g _ _ _ _ _ _ 12 [some (x_r (16 * 1 + 0)), some (x_i a)] [x_i v4] (al, ro, fl (ml M [3] [N])) _ _ _ _
    cases hG
    exact (e_ireturn rfl dX11_store_12 rfl)
set_option maxRecDepth 100000 in
set_option maxHeartbeats 4000000 in
theorem c_X11_needFlag {g : xG} {al : List (Nat × Nat × Nat)} {ro : Nat → Nat → Option Nat} (hst : g.1.stackTraces = false) (hs : SH al ro) {M : Nat → xU} {a : Int}  {t : (Option Nat)} (hG : G11_needFlag a = some t) :
    Cal g yX11_needFlag cX11_needFlag 1 none 0 [x_i a] (al, ro, fl (ml M [] [])) 1 6 (x_ov t) (al, ro, fl (ml M [] [])) := by
  have hn : ([] : List Nat).Nodup := by decide
  refine cal_of_ev (plainFor_of_name (by decide)) (x_c1 rfl) (Nat.le_of_ble_eq_true rfl) hst ?_
  show Ev g _ _ _ _ _ _ 0 [some (x_i a)] [] (al, ro, fl (ml M [] [])) _ _ _ _
  rw [G11_needFlag] at hG
  refine e_iloadn (pc := 0) (i := 0) dX11_needFlag_0 rfl rfl ?_
  refine e_if_lt (pc := 1) (tgt := 10) dX11_needFlag_1 (by decide) (fun hb => ?_) (fun hb => ?_)
  · rw [if_pos hb] at hG
    cases hG
    exact (e_throw (pc := 10) xt_1 dX11_needFlag_10 dX11_needFlag_13 dX11_needFlag_14 dX11_needFlag_17 (Nat.le_of_ble_eq_true rfl) (fun _ q => absurd q List.not_mem_nil))
  · rw [if_neg hb] at hG
    refine e_iloadn (pc := 4) (i := 0) dX11_needFlag_4 rfl rfl ?_
    refine e_bipush (pc := 5) dX11_needFlag_5 (by decide +kernel) (x_R rfl) ?_
    refine e_icmp_lt (pc := 7) (tgt := 18) dX11_needFlag_7 (by decide) (fun hb => ?_) (fun hb => ?_)
    · rw [if_pos hb] at hG
      cases hG
      exact (e_wide (K0 := 0) (S0 := 0) (by decide) (by decide) (e_return rfl dX11_needFlag_18))
    · rw [if_neg hb] at hG
      cases hG
      exact (e_throw (pc := 10) xt_1 dX11_needFlag_10 dX11_needFlag_13 dX11_needFlag_14 dX11_needFlag_17 (Nat.le_of_ble_eq_true rfl) (fun _ q => absurd q List.not_mem_nil))
set_option maxRecDepth 100000 in
set_option maxHeartbeats 4000000 in
theorem c_X11_season {g : xG} {al : List (Nat × Nat × Nat)} {ro : Nat → Nat → Option Nat} (hst : g.1.stackTraces = false) (hs : SH al ro) {M : Nat → xU} {a : Int} {N : xU}  {t : (Int ⊕ Nat)} (hG : G11_season a N = some t) :
    Cal g yX11_season cX11_season 2 (some .int) 1 [x_r (16 * 1 + 0), x_i a] (al, ro, fl (ml M [3] [N])) 1 6 (x_oi t) (al, ro, fl (ml M [3] [N])) := by
  have hn : ([3] : List Nat).Nodup := by decide
  refine cal_of_ev (plainFor_of_name (by decide)) (x_c1 rfl) (Nat.le_of_ble_eq_true rfl) hst ?_
  show Ev g _ _ _ _ _ _ 0 [some (x_r (16 * 1 + 0)), some (x_i a)] [] (al, ro, fl (ml M [3] [N])) _ _ _ _
  rw [G11_season] at hG
  refine e_iloadn (pc := 0) (i := 1) dX11_season_0 rfl rfl ?_
  obtain ⟨o1, hq1, hG⟩ := x_bd1 hG
  cases o1 with
  | some E3 =>
    replace hG := x_tv_s hG
    cases hG
    exact (e_invSX (pc := 1) (dd2 := 0) (av := [x_i a]) (st := []) dX11_season_1 xmX11_152 rfl (f_cal (M := M) (us2 := []) [] hn rfl trivial rfl rfl rfl (c_X11_needFlag hst hs   hq1)) (by decide) (Nat.le_of_ble_eq_true rfl) (fun _ q => absurd q List.not_mem_nil))
  | none =>
    replace hG := x_tv_n hG
    refine e_invS (pc := 1) (K1 := 1) (S1 := 6) (K := 0) (S := 0) (dd2 := 0) (av := [x_i a]) (st := []) dX11_season_1 xmX11_152 rfl (f_cal (M := M) (us2 := []) [] hn rfl trivial rfl rfl rfl (c_X11_needFlag hst hs   hq1)) (by decide) (Nat.le_of_ble_eq_true rfl) (Or.inl rfl) ?_
    show Ev g _ _ _ _ _ _ 4 [some (x_r (16 * 1 + 0)), some (x_i a)] [] (al, ro, fl (ml M [3] [N])) _ _ _ _
    refine e_aloadn (pc := 4) (i := 0) dX11_season_4 rfl rfl ?_
    refine f_getr (pc := 5) (u := 1) (q := 0) dX11_season_5 xf11_19 (sa_1_0 hs) rfl (sr_1_0_1 hs) ?_
    refine e_iloadn (pc := 8) (i := 1) dX11_season_8 rfl rfl ?_
    obtain ⟨v4, hq4, hG⟩ := x_bd1 hG
    refine e_invV (pc := 9) (K1 := 0) (S1 := 0) (K := 0) (S := 0) (dd2 := 0) (av := [x_i a]) (st := []) (id := 16 * 3 + 0) dX11_season_9 xmX11_155 rfl (Or.inl ⟨1, 12, TX1, (sa_3_0 hs), rfl, by decide⟩) (f_cal (M := M) (us2 := [3]) [0] hn rfl (And.intro rfl trivial) rfl rfl rfl (c_X1_seasonOf hst hs (by decide)  hq4)) (by decide) (Nat.le_of_ble_eq_true rfl) (Or.inl rfl) ?_
    show Ev g _ _ _ _ _ _ 12 [some (x_r (16 * 1 + 0)), some (x_i a)] [x_i v4] (al, ro, fl (ml M [3] [N])) _ _ _ _
    cases hG
    exact (e_ireturn rfl dX11_season_12 rfl)
set_option maxRecDepth 100000 in
set_option maxHeartbeats 4000000 in
theorem c_X11_hours {g : xG} {al : List (Nat × Nat × Nat)} {ro : Nat → Nat → Option Nat} (hst : g.1.stackTraces = false) (hs : SH al ro) {M : Nat → xU} {a : Int} {X : xU} {N : xU} {La : xU} {A : xA}  {t : ((Int ⊕ Nat) × xU × xU × xU × xA)} (hG : G11_hours a X N La A = some t) :
    Cal g yX11_hours cX11_hours 4 (some .int) 5 [x_r (16 * 1 + 0), x_i a] (al, ro, fl (ml (x_ac M A) [1, 3, 19] [X, N, La])) 1 6 (x_oi t.1) (al, ro, fl (ml (x_ac M t.2.2.2.2) [1, 3, 19] [t.2.1, t.2.2.1, t.2.2.2.1])) := by
  have hn : ([1, 3, 19] : List Nat).Nodup := by decide
  refine cal_of_ev (plainFor_of_name (by decide)) (x_c1 rfl) (Nat.le_of_ble_eq_true rfl) hst ?_
  show Ev g _ _ _ _ _ _ 0 [some (x_r (16 * 1 + 0)), some (x_i a), none, none] [] (al, ro, fl (ml (x_ac M A) [1, 3, 19] [X, N, La])) _ _ _ _
  rw [G11_hours] at hG
  refine e_iloadn (pc := 0) (i := 1) dX11_hours_0 rfl rfl ?_
  refine e_iconst (pc := 1) dX11_hours_1 (x_R rfl) ?_
  refine e_icmp_lt (pc := 2) (tgt := 11) dX11_hours_2 (by decide) (fun hb => ?_) (fun hb => ?_)
  · rw [if_pos hb] at hG
    cases hG
    exact (e_throw (pc := 11) xt_0 dX11_hours_11 dX11_hours_14 dX11_hours_15 dX11_hours_18 (Nat.le_of_ble_eq_true rfl) (fun _ q => absurd q List.not_mem_nil))
  · rw [if_neg hb] at hG
    refine e_iloadn (pc := 5) (i := 1) dX11_hours_5 rfl rfl ?_
    refine e_bipush (pc := 6) dX11_hours_6 (by decide +kernel) (x_R rfl) ?_
    refine e_icmp_le (pc := 8) (tgt := 19) dX11_hours_8 (by decide) (fun hb => ?_) (fun hb => ?_)
    · rw [if_pos hb] at hG
      refine e_aloadn (pc := 19) (i := 0) dX11_hours_19 rfl rfl ?_
      obtain ⟨X1, A2, hq2, hG⟩ := x_bd2 hG
      refine e_invV (pc := 20) (K1 := 0) (S1 := 0) (K := 1) (S := 6) (dd2 := 3) (av := []) (st := []) (id := 16 * 1 + 0) dX11_hours_20 xmX11_158 rfl (Or.inl ⟨9, 17, TX11, (sa_1_0 hs), rfl, by decide⟩) (f_calA (us2 := [1, 3]) [0, 1] hn rfl (And.intro rfl (And.intro rfl trivial)) rfl rfl rfl rfl (c_X11_remember hst hs   hq2)) (by decide) (Nat.le_of_ble_eq_true rfl) (Or.inl rfl) ?_
      show Ev g _ _ _ _ _ _ 23 [some (x_r (16 * 1 + 0)), some (x_i a), none, none] [] (al, ro, fl (ml (x_ac M A2) [1, 3, 19] [X1, N, La])) _ _ _ _
      refine e_iconst (pc := 23) dX11_hours_23 (x_R rfl) ?_
      refine e_istoren (pc := 24) (i := 2) dX11_hours_24 rfl (by decide) rfl ?_
      show Ev g _ _ _ _ _ _ 25 [some (x_r (16 * 1 + 0)), some (x_i a), some (x_i 0), none] [] (al, ro, fl (ml (x_ac M A2) [1, 3, 19] [X1, N, La])) _ _ _ _
      refine e_iconst (pc := 25) dX11_hours_25 (x_R rfl) ?_
      refine e_istoren (pc := 26) (i := 3) dX11_hours_26 rfl (by decide) rfl ?_
      show Ev g _ _ _ _ _ _ 27 [some (x_r (16 * 1 + 0)), some (x_i a), some (x_i 0), some (x_i 0)] [] (al, ro, fl (ml (x_ac M A2) [1, 3, 19] [X1, N, La])) _ _ _ _
      obtain ⟨v8, N9, La10, hl11, hG⟩ := x_bd3 hG
      have hk11 : ∀ q : (Int × xU × xU), q = (v8, N9, La10) → Ev g yX11_hours cX11_hours 4 (some .int) [] 5 56 [some (x_r (16 * 1 + 0)), some (x_i a), some (x_i q.1), none] [] (al, ro, fl (ml (x_ac M A2) [1, 3, 19] [X1, q.2.1, q.2.2])) 1 6 (x_oi t.1) (al, ro, fl (ml (x_ac M t.2.2.2.2) [1, 3, 19] [t.2.1, t.2.2.1, t.2.2.2.1])) := by
        intro q hq
        cases hq
        refine e_iloadn (pc := 56) (i := 2) dX11_hours_56 rfl rfl ?_
        cases hG
        exact (e_wide (K0 := 0) (S0 := 0) (by decide) (by decide) (e_ireturn rfl dX11_hours_57 rfl))
      clear hG
      refine e_whl (G11_hours_L27 a) (fun z : (Int × Int × xU × xU) => Ev g yX11_hours cX11_hours 4 (some .int) [] 5 27 [some (x_r (16 * 1 + 0)), some (x_i a), some (x_i z.1), some (x_i z.2.1)] [] (al, ro, fl (ml (x_ac M A2) [1, 3, 19] [X1, z.2.2.1, z.2.2.2])) 1 6 (x_oi t.1) (al, ro, fl (ml (x_ac M t.2.2.2.2) [1, 3, 19] [t.2.1, t.2.2.1, t.2.2.2.1]))) (fun q => q = (v8, N9, La10)) ?_ xFU (0, 0, N, La) _ hl11 rfl
      intro z t11 hf11 hi11 hx11
      obtain ⟨v4, v5, N6, La7⟩ := z
      rw [G11_hours_L27] at hf11
      show Ev g _ _ _ _ _ _ 27 [some (x_r (16 * 1 + 0)), some (x_i a), some (x_i v4), some (x_i v5)] [] (al, ro, fl (ml (x_ac M A2) [1, 3, 19] [X1, N6, La7])) _ _ _ _
      refine e_iloadn (pc := 27) (i := 3) dX11_hours_27 rfl rfl ?_
      refine e_iloadn (pc := 28) (i := 1) dX11_hours_28 rfl rfl ?_
      refine e_icmp_ge (pc := 29) (tgt := 56) dX11_hours_29 (by decide) (fun hb => ?_) (fun hb => ?_)
      · rw [if_pos hb] at hf11
        cases hf11
        refine e_drop (i := 3) ?_
        have hh := hk11 _ (hx11 _ rfl)
        try dsimp only at hh
        exact hh
      · rw [if_neg hb] at hf11
        refine e_iloadn (pc := 32) (i := 2) dX11_hours_32 rfl rfl ?_
        refine e_aloadn (pc := 33) (i := 0) dX11_hours_33 rfl rfl ?_
        refine f_getr (pc := 34) (u := 1) (q := 0) dX11_hours_34 xf11_19 (sa_1_0 hs) rfl (sr_1_0_1 hs) ?_
        refine e_aloadn (pc := 37) (i := 0) dX11_hours_37 rfl rfl ?_
        refine f_getr (pc := 38) (u := 1) (q := 0) dX11_hours_38 xf11_32 (sa_1_0 hs) rfl (sr_1_0_4 hs) ?_
        refine e_iconst (pc := 41) dX11_hours_41 (x_R rfl) ?_
        obtain ⟨v13, N14, La15, hq15, hf11⟩ := x_bd3 hf11
        refine e_invV (pc := 42) (K1 := 0) (S1 := 0) (K := 1) (S := 6) (dd2 := 4) (av := [x_r (16 * 19 + 0), x_i 1]) (st := [x_i v4]) (id := 16 * 3 + 0) dX11_hours_42 xmX11_161 rfl (Or.inl ⟨1, 12, TX1, (sa_3_0 hs), rfl, by decide⟩) (f_cal (M := (x_ac M A2)) (us2 := [3, 19]) [1, 2] hn rfl (And.intro rfl (And.intro rfl trivial)) rfl rfl rfl (c_X1_passHour hst hs (by decide)  hq15)) (by decide) (Nat.le_of_ble_eq_true rfl) (Or.inl rfl) ?_
        show Ev g _ _ _ _ _ _ 45 [some (x_r (16 * 1 + 0)), some (x_i a), some (x_i v4), some (x_i v5)] [x_i v13, x_i v4] (al, ro, fl (ml (x_ac M A2) [1, 3, 19] [X1, N14, La15])) _ _ _ _
        refine e_invS (pc := 45) (K1 := 0) (S1 := 0) (K := 1) (S := 6) (dd2 := 0) (av := [x_i v13]) (st := [x_i v4]) dX11_hours_45 xmX11_165 rfl (p_bitCount hst hs) (by decide) (Nat.le_of_ble_eq_true rfl) (Or.inl rfl) ?_
        show Ev g _ _ _ _ _ _ 48 [some (x_r (16 * 1 + 0)), some (x_i a), some (x_i v4), some (x_i v5)] [x_i (x_bc v13), x_i v4] (al, ro, fl (ml (x_ac M A2) [1, 3, 19] [X1, N14, La15])) _ _ _ _
        refine e_iadd (pc := 48) dX11_hours_48 ?_
        refine e_istoren (pc := 49) (i := 2) dX11_hours_49 rfl (by decide) rfl ?_
        show Ev g _ _ _ _ _ _ 50 [some (x_r (16 * 1 + 0)), some (x_i a), some (x_i (x_add v4 (x_bc v13))), some (x_i v5)] [] (al, ro, fl (ml (x_ac M A2) [1, 3, 19] [X1, N14, La15])) _ _ _ _
        refine e_iinc (pc := 50) dX11_hours_50 rfl (by decide) rfl ?_
        show Ev g _ _ _ _ _ _ 53 [some (x_r (16 * 1 + 0)), some (x_i a), some (x_i (x_add v4 (x_bc v13))), some (x_i (x_add v5 1))] [] (al, ro, fl (ml (x_ac M A2) [1, 3, 19] [X1, N14, La15])) _ _ _ _
        refine e_goto (pc := 53) (tgt := 27) dX11_hours_53 (by decide) ?_
        cases hf11
        have hh := hi11 _ rfl
        try dsimp only at hh
        exact hh
    · rw [if_neg hb] at hG
      cases hG
      exact (e_throw (pc := 11) xt_0 dX11_hours_11 dX11_hours_14 dX11_hours_15 dX11_hours_18 (Nat.le_of_ble_eq_true rfl) (fun _ q => absurd q List.not_mem_nil))
