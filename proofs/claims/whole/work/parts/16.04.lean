set_option maxRecDepth 100000 in
set_option maxHeartbeats 4000000 in
theorem c_X5_readSum {g : xG} {al : List (Nat × Nat × Nat)} {ro : Nat → Nat → Option Nat} (hst : g.1.stackTraces = false) (hs : SH al ro) {M : Nat → xU} {T : xU} {Lb : xU}  {t : (xU × xU)} (hG : G5_readSum T Lb = some t) :
    Cal g yX5_readSum cX5_readSum 4 none 8 [x_r (16 * 2 + 0), x_r (16 * 20 + 0)] (al, ro, fl (ml M [2, 20] [T, Lb])) 0 0 (.inl none) (al, ro, fl (ml M [2, 20] [t.1, t.2])) := by
  have hn : ([2, 20] : List Nat).Nodup := by decide
  refine cal_of_ev (plainFor_of_name (by decide)) (x_c1 rfl) (Nat.le_of_ble_eq_true rfl) hst ?_
  show Ev g _ _ _ _ _ _ 0 [some (x_r (16 * 2 + 0)), some (x_r (16 * 20 + 0)), none, none] [] (al, ro, fl (ml M [2, 20] [T, Lb])) _ _ _ _
  rw [G5_readSum] at hG
  refine e_iconst (pc := 0) dX5_readSum_0 (x_R rfl) ?_
  refine e_istoren (pc := 1) (i := 2) dX5_readSum_1 rfl (by decide) rfl ?_
  show Ev g _ _ _ _ _ _ 2 [some (x_r (16 * 2 + 0)), some (x_r (16 * 20 + 0)), some (x_i 0), none] [] (al, ro, fl (ml M [2, 20] [T, Lb])) _ _ _ _
  obtain ⟨T4, Lb5, hl6, hG⟩ := x_bd2 hG
  have hk6 : ∀ q : (xU × xU), q = (T4, Lb5) → Ev g yX5_readSum cX5_readSum 4 none [] 8 84 [some (x_r (16 * 2 + 0)), some (x_r (16 * 20 + 0)), none, none] [] (al, ro, fl (ml M [2, 20] [q.1, q.2])) 0 0 (.inl none) (al, ro, fl (ml M [2, 20] [t.1, t.2])) := by
    intro q hq
    cases hq
    cases hG
    exact (e_return rfl dX5_readSum_84)
  clear hG
  refine e_whl G5_readSum_L2 (fun z : (Int × xU × xU) => Ev g yX5_readSum cX5_readSum 4 none [] 8 2 [some (x_r (16 * 2 + 0)), some (x_r (16 * 20 + 0)), some (x_i z.1), none] [] (al, ro, fl (ml M [2, 20] [z.2.1, z.2.2])) 0 0 (.inl none) (al, ro, fl (ml M [2, 20] [t.1, t.2]))) (fun q => q = (T4, Lb5)) ?_ xFU (0, T, Lb) _ hl6 rfl
  intro z t6 hf6 hi6 hx6
  obtain ⟨v1, T2, Lb3⟩ := z
  rw [G5_readSum_L2] at hf6
  show Ev g _ _ _ _ _ _ 2 [some (x_r (16 * 2 + 0)), some (x_r (16 * 20 + 0)), some (x_i v1), none] [] (al, ro, fl (ml M [2, 20] [T2, Lb3])) _ _ _ _
  refine e_iloadn (pc := 2) (i := 2) dX5_readSum_2 rfl rfl ?_
  refine e_sipush (pc := 3) dX5_readSum_3 (by decide +kernel) (x_R rfl) ?_
  refine e_icmp_ge (pc := 6) (tgt := 84) dX5_readSum_6 (by decide) (fun hb => ?_) (fun hb => ?_)
  · rw [if_pos hb] at hf6
    cases hf6
    refine e_drop (i := 2) ?_
    have hh := hk6 _ (hx6 _ rfl)
    try dsimp only at hh
    exact hh
  · rw [if_neg hb] at hf6
    refine e_aloadn (pc := 9) (i := 0) dX5_readSum_9 rfl rfl ?_
    obtain ⟨v8, hq8, hf6⟩ := x_bd1 hf6
    refine e_invV (pc := 10) (K1 := 0) (S1 := 0) (K := 0) (S := 0) (dd2 := 0) (av := []) (st := []) (id := 16 * 2 + 0) dX5_readSum_10 xmX5_48 rfl (Or.inl ⟨8, 8, TX10, (sa_2_0 hs), rfl, by decide⟩) (f_cal (M := M) (us2 := [2]) [0] hn rfl (And.intro rfl trivial) rfl rfl rfl (c_X10_isRight hst hs   hq8)) (by decide) (Nat.le_of_ble_eq_true rfl) (Or.inl rfl) ?_
    show Ev g _ _ _ _ _ _ 13 [some (x_r (16 * 2 + 0)), some (x_r (16 * 20 + 0)), some (x_i v1), none] [x_i v8] (al, ro, fl (ml M [2, 20] [T2, Lb3])) _ _ _ _
    refine e_if_eq (pc := 13) (tgt := 84) dX5_readSum_13 (by decide) (fun hb => ?_) (fun hb => ?_)
    · rw [if_pos hb] at hf6
      cases hf6
      refine e_drop (i := 2) ?_
      have hh := hk6 _ (hx6 _ rfl)
      try dsimp only at hh
      exact hh
    · rw [if_neg hb] at hf6
      refine e_iloadn (pc := 16) (i := 2) dX5_readSum_16 rfl rfl ?_
      refine e_if_eq (pc := 17) (tgt := 29) dX5_readSum_17 (by decide) (fun hb => ?_) (fun hb => ?_)
      · rw [if_pos hb] at hf6
        refine e_aloadn (pc := 29) (i := 0) dX5_readSum_29 rfl rfl ?_
        obtain ⟨v10, hq10, hf6⟩ := x_bd1 hf6
        refine e_invS (pc := 30) (K1 := 0) (S1 := 0) (K := 0) (S := 0) (dd2 := 7) (av := [x_r (16 * 2 + 0)]) (st := []) dX5_readSum_30 xmX5_101 rfl (f_cal (M := M) (us2 := [2]) [0] hn rfl (And.intro rfl trivial) rfl rfl rfl (c_X5_partHere hst hs   hq10)) (by decide) (Nat.le_of_ble_eq_true rfl) (Or.inl rfl) ?_
        show Ev g _ _ _ _ _ _ 33 [some (x_r (16 * 2 + 0)), some (x_r (16 * 20 + 0)), some (x_i v1), none] [x_i v10] (al, ro, fl (ml M [2, 20] [T2, Lb3])) _ _ _ _
        refine e_istoren (pc := 33) (i := 3) dX5_readSum_33 rfl (by decide) rfl ?_
        show Ev g _ _ _ _ _ _ 34 [some (x_r (16 * 2 + 0)), some (x_r (16 * 20 + 0)), some (x_i v1), some (x_i v10)] [] (al, ro, fl (ml M [2, 20] [T2, Lb3])) _ _ _ _
        refine e_aloadn (pc := 34) (i := 0) dX5_readSum_34 rfl rfl ?_
        obtain ⟨v12, hq12, hf6⟩ := x_bd1 hf6
        refine e_invV (pc := 35) (K1 := 0) (S1 := 0) (K := 0) (S := 0) (dd2 := 0) (av := []) (st := []) (id := 16 * 2 + 0) dX5_readSum_35 xmX5_105 rfl (Or.inl ⟨8, 8, TX10, (sa_2_0 hs), rfl, by decide⟩) (f_cal (M := M) (us2 := [2]) [0] hn rfl (And.intro rfl trivial) rfl rfl rfl (c_X10_isNumber hst hs   hq12)) (by decide) (Nat.le_of_ble_eq_true rfl) (Or.inl rfl) ?_
        show Ev g _ _ _ _ _ _ 38 [some (x_r (16 * 2 + 0)), some (x_r (16 * 20 + 0)), some (x_i v1), some (x_i v10)] [x_i v12] (al, ro, fl (ml M [2, 20] [T2, Lb3])) _ _ _ _
        obtain ⟨T14, Lb15, hr15, hf6⟩ := x_bd2 hf6
        have hjhr15 : Ev g yX5_readSum cX5_readSum 4 none [] 8 78 [some (x_r (16 * 2 + 0)), some (x_r (16 * 20 + 0)), some (x_i v1), some (x_i v10)] [] (al, ro, fl (ml M [2, 20] [T14, Lb15])) 0 0 (.inl none) (al, ro, fl (ml M [2, 20] [t.1, t.2])) := by
          refine e_iinc (pc := 78) dX5_readSum_78 rfl (by decide) rfl ?_
          show Ev g _ _ _ _ _ _ 81 [some (x_r (16 * 2 + 0)), some (x_r (16 * 20 + 0)), some (x_i (x_add v1 1)), some (x_i v10)] [] (al, ro, fl (ml M [2, 20] [T14, Lb15])) _ _ _ _
          refine e_goto (pc := 81) (tgt := 2) dX5_readSum_81 (by decide) ?_
          cases hf6
          refine e_drop (i := 3) ?_
          have hh := hi6 _ rfl
          try dsimp only at hh
          exact hh
        clear hf6
        refine e_if_eq (pc := 38) (tgt := 56) dX5_readSum_38 (by decide) (fun hb => ?_) (fun hb => ?_)
        · rw [if_pos hb] at hr15
          refine e_iloadn (pc := 56) (i := 3) dX5_readSum_56 rfl rfl ?_
          refine e_iconst (pc := 57) dX5_readSum_57 (x_R rfl) ?_
          refine e_icmp_eq (pc := 58) (tgt := 74) dX5_readSum_58 (by decide) (fun hb => ?_) (fun hb => ?_)
          · rw [if_pos hb] at hr15
            refine e_aloadn (pc := 74) (i := 0) dX5_readSum_74 rfl rfl ?_
            obtain ⟨T17, hq17, hr15⟩ := x_bd1 hr15
            refine e_invV (pc := 75) (K1 := 0) (S1 := 0) (K := 0) (S := 0) (dd2 := 0) (av := []) (st := []) (id := 16 * 2 + 0) dX5_readSum_75 xmX5_81 rfl (Or.inl ⟨8, 8, TX10, (sa_2_0 hs), rfl, by decide⟩) (f_cal (M := M) (us2 := [2]) [0] hn rfl (And.intro rfl trivial) rfl rfl rfl (c_X10_refuse hst hs   hq17)) (by decide) (Nat.le_of_ble_eq_true rfl) (Or.inl rfl) ?_
            show Ev g _ _ _ _ _ _ 78 [some (x_r (16 * 2 + 0)), some (x_r (16 * 20 + 0)), some (x_i v1), some (x_i v10)] [] (al, ro, fl (ml M [2, 20] [T17, Lb3])) _ _ _ _
            cases hr15
            exact hjhr15
          · rw [if_neg hb] at hr15
            refine e_aloadn (pc := 61) (i := 1) dX5_readSum_61 rfl rfl ?_
            refine e_iconst (pc := 62) dX5_readSum_62 (x_R rfl) ?_
            refine e_iloadn (pc := 63) (i := 3) dX5_readSum_63 rfl rfl ?_
            obtain ⟨Lb19, hq19, hr15⟩ := x_bd1 hr15
            refine e_invV (pc := 64) (K1 := 0) (S1 := 0) (K := 0) (S := 0) (dd2 := 0) (av := [x_i 1, x_i v10]) (st := []) (id := 16 * 20 + 0) dX5_readSum_64 xmX5_69 rfl (Or.inl ⟨3, 7, TX4, (sa_20_0 hs), rfl, by decide⟩) (f_cal (M := M) (us2 := [20]) [1] hn rfl (And.intro rfl trivial) rfl rfl rfl (c_X4_addStep hst hs   hq19)) (by decide) (Nat.le_of_ble_eq_true rfl) (Or.inl rfl) ?_
            show Ev g _ _ _ _ _ _ 67 [some (x_r (16 * 2 + 0)), some (x_r (16 * 20 + 0)), some (x_i v1), some (x_i v10)] [] (al, ro, fl (ml M [2, 20] [T2, Lb19])) _ _ _ _
            refine e_aloadn (pc := 67) (i := 0) dX5_readSum_67 rfl rfl ?_
            obtain ⟨T21, hq21, hr15⟩ := x_bd1 hr15
            refine e_invV (pc := 68) (K1 := 0) (S1 := 0) (K := 0) (S := 0) (dd2 := 0) (av := []) (st := []) (id := 16 * 2 + 0) dX5_readSum_68 xmX5_84 rfl (Or.inl ⟨8, 8, TX10, (sa_2_0 hs), rfl, by decide⟩) (f_cal (M := M) (us2 := [2]) [0] hn rfl (And.intro rfl trivial) rfl rfl rfl (c_X10_readNext hst hs   hq21)) (by decide) (Nat.le_of_ble_eq_true rfl) (Or.inl rfl) ?_
            show Ev g _ _ _ _ _ _ 71 [some (x_r (16 * 2 + 0)), some (x_r (16 * 20 + 0)), some (x_i v1), some (x_i v10)] [] (al, ro, fl (ml M [2, 20] [T21, Lb19])) _ _ _ _
            refine e_goto (pc := 71) (tgt := 78) dX5_readSum_71 (by decide) ?_
            cases hr15
            exact hjhr15
        · rw [if_neg hb] at hr15
          refine e_aloadn (pc := 41) (i := 1) dX5_readSum_41 rfl rfl ?_
          refine e_iconst (pc := 42) dX5_readSum_42 (x_R rfl) ?_
          refine e_aloadn (pc := 43) (i := 0) dX5_readSum_43 rfl rfl ?_
          refine e_sipush (pc := 44) dX5_readSum_44 (by decide +kernel) (x_R rfl) ?_
          obtain ⟨v23, T24, hq24, hr15⟩ := x_bd2 hr15
          refine e_invV (pc := 47) (K1 := 0) (S1 := 0) (K := 0) (S := 0) (dd2 := 1) (av := [x_i 999]) (st := [x_i 0, x_r (16 * 20 + 0)]) (id := 16 * 2 + 0) dX5_readSum_47 xmX5_36 rfl (Or.inl ⟨8, 8, TX10, (sa_2_0 hs), rfl, by decide⟩) (f_cal (M := M) (us2 := [2]) [0] hn rfl (And.intro rfl trivial) rfl rfl rfl (c_X10_takeNumber hst hs   hq24)) (by decide) (Nat.le_of_ble_eq_true rfl) (Or.inl rfl) ?_
          show Ev g _ _ _ _ _ _ 50 [some (x_r (16 * 2 + 0)), some (x_r (16 * 20 + 0)), some (x_i v1), some (x_i v10)] [x_i v23, x_i 0, x_r (16 * 20 + 0)] (al, ro, fl (ml M [2, 20] [T24, Lb3])) _ _ _ _
          obtain ⟨Lb26, hq26, hr15⟩ := x_bd1 hr15
          refine e_invV (pc := 50) (K1 := 0) (S1 := 0) (K := 0) (S := 0) (dd2 := 0) (av := [x_i 0, x_i v23]) (st := []) (id := 16 * 20 + 0) dX5_readSum_50 xmX5_69 rfl (Or.inl ⟨3, 7, TX4, (sa_20_0 hs), rfl, by decide⟩) (f_cal (M := M) (us2 := [20]) [1] hn rfl (And.intro rfl trivial) rfl rfl rfl (c_X4_addStep hst hs   hq26)) (by decide) (Nat.le_of_ble_eq_true rfl) (Or.inl rfl) ?_
          show Ev g _ _ _ _ _ _ 53 [some (x_r (16 * 2 + 0)), some (x_r (16 * 20 + 0)), some (x_i v1), some (x_i v10)] [] (al, ro, fl (ml M [2, 20] [T24, Lb26])) _ _ _ _
          refine e_goto (pc := 53) (tgt := 78) dX5_readSum_53 (by decide) ?_
          cases hr15
          exact hjhr15
      · rw [if_neg hb] at hf6
        refine e_aloadn (pc := 20) (i := 0) dX5_readSum_20 rfl rfl ?_
        refine e_bipush (pc := 21) dX5_readSum_21 (by decide +kernel) (x_R rfl) ?_
        obtain ⟨v28, T29, hq29, hf6⟩ := x_bd2 hf6
        refine e_invV (pc := 23) (K1 := 0) (S1 := 0) (K := 0) (S := 0) (dd2 := 1) (av := [x_i 43]) (st := []) (id := 16 * 2 + 0) dX5_readSum_23 xmX5_98 rfl (Or.inl ⟨8, 8, TX10, (sa_2_0 hs), rfl, by decide⟩) (f_cal (M := M) (us2 := [2]) [0] hn rfl (And.intro rfl trivial) rfl rfl rfl (c_X10_takeSign hst hs   hq29)) (by decide) (Nat.le_of_ble_eq_true rfl) (Or.inl rfl) ?_
        show Ev g _ _ _ _ _ _ 26 [some (x_r (16 * 2 + 0)), some (x_r (16 * 20 + 0)), some (x_i v1), none] [x_i v28] (al, ro, fl (ml M [2, 20] [T29, Lb3])) _ _ _ _
        refine e_if_eq (pc := 26) (tgt := 84) dX5_readSum_26 (by decide) (fun hb => ?_) (fun hb => ?_)
        · rw [if_pos hb] at hf6
          cases hf6
          refine e_drop (i := 2) ?_
          have hh := hk6 _ (hx6 _ rfl)
          try dsimp only at hh
          exact hh
        · rw [if_neg hb] at hf6
          refine e_aloadn (pc := 29) (i := 0) dX5_readSum_29 rfl rfl ?_
          obtain ⟨v31, hq31, hf6⟩ := x_bd1 hf6
          refine e_invS (pc := 30) (K1 := 0) (S1 := 0) (K := 0) (S := 0) (dd2 := 7) (av := [x_r (16 * 2 + 0)]) (st := []) dX5_readSum_30 xmX5_101 rfl (f_cal (M := M) (us2 := [2]) [0] hn rfl (And.intro rfl trivial) rfl rfl rfl (c_X5_partHere hst hs   hq31)) (by decide) (Nat.le_of_ble_eq_true rfl) (Or.inl rfl) ?_
          show Ev g _ _ _ _ _ _ 33 [some (x_r (16 * 2 + 0)), some (x_r (16 * 20 + 0)), some (x_i v1), none] [x_i v31] (al, ro, fl (ml M [2, 20] [T29, Lb3])) _ _ _ _
          refine e_istoren (pc := 33) (i := 3) dX5_readSum_33 rfl (by decide) rfl ?_
          show Ev g _ _ _ _ _ _ 34 [some (x_r (16 * 2 + 0)), some (x_r (16 * 20 + 0)), some (x_i v1), some (x_i v31)] [] (al, ro, fl (ml M [2, 20] [T29, Lb3])) _ _ _ _
          refine e_aloadn (pc := 34) (i := 0) dX5_readSum_34 rfl rfl ?_
          obtain ⟨v33, hq33, hf6⟩ := x_bd1 hf6
          refine e_invV (pc := 35) (K1 := 0) (S1 := 0) (K := 0) (S := 0) (dd2 := 0) (av := []) (st := []) (id := 16 * 2 + 0) dX5_readSum_35 xmX5_105 rfl (Or.inl ⟨8, 8, TX10, (sa_2_0 hs), rfl, by decide⟩) (f_cal (M := M) (us2 := [2]) [0] hn rfl (And.intro rfl trivial) rfl rfl rfl (c_X10_isNumber hst hs   hq33)) (by decide) (Nat.le_of_ble_eq_true rfl) (Or.inl rfl) ?_
          show Ev g _ _ _ _ _ _ 38 [some (x_r (16 * 2 + 0)), some (x_r (16 * 20 + 0)), some (x_i v1), some (x_i v31)] [x_i v33] (al, ro, fl (ml M [2, 20] [T29, Lb3])) _ _ _ _
          obtain ⟨T35, Lb36, hr36, hf6⟩ := x_bd2 hf6
          have hjhr36 : Ev g yX5_readSum cX5_readSum 4 none [] 8 78 [some (x_r (16 * 2 + 0)), some (x_r (16 * 20 + 0)), some (x_i v1), some (x_i v31)] [] (al, ro, fl (ml M [2, 20] [T35, Lb36])) 0 0 (.inl none) (al, ro, fl (ml M [2, 20] [t.1, t.2])) := by
            refine e_iinc (pc := 78) dX5_readSum_78 rfl (by decide) rfl ?_
            show Ev g _ _ _ _ _ _ 81 [some (x_r (16 * 2 + 0)), some (x_r (16 * 20 + 0)), some (x_i (x_add v1 1)), some (x_i v31)] [] (al, ro, fl (ml M [2, 20] [T35, Lb36])) _ _ _ _
            refine e_goto (pc := 81) (tgt := 2) dX5_readSum_81 (by decide) ?_
            cases hf6
            refine e_drop (i := 3) ?_
            have hh := hi6 _ rfl
            try dsimp only at hh
            exact hh
          clear hf6
          refine e_if_eq (pc := 38) (tgt := 56) dX5_readSum_38 (by decide) (fun hb => ?_) (fun hb => ?_)
          · rw [if_pos hb] at hr36
            refine e_iloadn (pc := 56) (i := 3) dX5_readSum_56 rfl rfl ?_
            refine e_iconst (pc := 57) dX5_readSum_57 (x_R rfl) ?_
            refine e_icmp_eq (pc := 58) (tgt := 74) dX5_readSum_58 (by decide) (fun hb => ?_) (fun hb => ?_)
            · rw [if_pos hb] at hr36
              refine e_aloadn (pc := 74) (i := 0) dX5_readSum_74 rfl rfl ?_
              obtain ⟨T38, hq38, hr36⟩ := x_bd1 hr36
              refine e_invV (pc := 75) (K1 := 0) (S1 := 0) (K := 0) (S := 0) (dd2 := 0) (av := []) (st := []) (id := 16 * 2 + 0) dX5_readSum_75 xmX5_81 rfl (Or.inl ⟨8, 8, TX10, (sa_2_0 hs), rfl, by decide⟩) (f_cal (M := M) (us2 := [2]) [0] hn rfl (And.intro rfl trivial) rfl rfl rfl (c_X10_refuse hst hs   hq38)) (by decide) (Nat.le_of_ble_eq_true rfl) (Or.inl rfl) ?_
              show Ev g _ _ _ _ _ _ 78 [some (x_r (16 * 2 + 0)), some (x_r (16 * 20 + 0)), some (x_i v1), some (x_i v31)] [] (al, ro, fl (ml M [2, 20] [T38, Lb3])) _ _ _ _
              cases hr36
              exact hjhr36
            · rw [if_neg hb] at hr36
              refine e_aloadn (pc := 61) (i := 1) dX5_readSum_61 rfl rfl ?_
              refine e_iconst (pc := 62) dX5_readSum_62 (x_R rfl) ?_
              refine e_iloadn (pc := 63) (i := 3) dX5_readSum_63 rfl rfl ?_
              obtain ⟨Lb40, hq40, hr36⟩ := x_bd1 hr36
              refine e_invV (pc := 64) (K1 := 0) (S1 := 0) (K := 0) (S := 0) (dd2 := 0) (av := [x_i 1, x_i v31]) (st := []) (id := 16 * 20 + 0) dX5_readSum_64 xmX5_69 rfl (Or.inl ⟨3, 7, TX4, (sa_20_0 hs), rfl, by decide⟩) (f_cal (M := M) (us2 := [20]) [1] hn rfl (And.intro rfl trivial) rfl rfl rfl (c_X4_addStep hst hs   hq40)) (by decide) (Nat.le_of_ble_eq_true rfl) (Or.inl rfl) ?_
              show Ev g _ _ _ _ _ _ 67 [some (x_r (16 * 2 + 0)), some (x_r (16 * 20 + 0)), some (x_i v1), some (x_i v31)] [] (al, ro, fl (ml M [2, 20] [T29, Lb40])) _ _ _ _
              refine e_aloadn (pc := 67) (i := 0) dX5_readSum_67 rfl rfl ?_
              obtain ⟨T42, hq42, hr36⟩ := x_bd1 hr36
              refine e_invV (pc := 68) (K1 := 0) (S1 := 0) (K := 0) (S := 0) (dd2 := 0) (av := []) (st := []) (id := 16 * 2 + 0) dX5_readSum_68 xmX5_84 rfl (Or.inl ⟨8, 8, TX10, (sa_2_0 hs), rfl, by decide⟩) (f_cal (M := M) (us2 := [2]) [0] hn rfl (And.intro rfl trivial) rfl rfl rfl (c_X10_readNext hst hs   hq42)) (by decide) (Nat.le_of_ble_eq_true rfl) (Or.inl rfl) ?_
              show Ev g _ _ _ _ _ _ 71 [some (x_r (16 * 2 + 0)), some (x_r (16 * 20 + 0)), some (x_i v1), some (x_i v31)] [] (al, ro, fl (ml M [2, 20] [T42, Lb40])) _ _ _ _
              refine e_goto (pc := 71) (tgt := 78) dX5_readSum_71 (by decide) ?_
              cases hr36
              exact hjhr36
          · rw [if_neg hb] at hr36
            refine e_aloadn (pc := 41) (i := 1) dX5_readSum_41 rfl rfl ?_
            refine e_iconst (pc := 42) dX5_readSum_42 (x_R rfl) ?_
            refine e_aloadn (pc := 43) (i := 0) dX5_readSum_43 rfl rfl ?_
            refine e_sipush (pc := 44) dX5_readSum_44 (by decide +kernel) (x_R rfl) ?_
            obtain ⟨v44, T45, hq45, hr36⟩ := x_bd2 hr36
            refine e_invV (pc := 47) (K1 := 0) (S1 := 0) (K := 0) (S := 0) (dd2 := 1) (av := [x_i 999]) (st := [x_i 0, x_r (16 * 20 + 0)]) (id := 16 * 2 + 0) dX5_readSum_47 xmX5_36 rfl (Or.inl ⟨8, 8, TX10, (sa_2_0 hs), rfl, by decide⟩) (f_cal (M := M) (us2 := [2]) [0] hn rfl (And.intro rfl trivial) rfl rfl rfl (c_X10_takeNumber hst hs   hq45)) (by decide) (Nat.le_of_ble_eq_true rfl) (Or.inl rfl) ?_
            show Ev g _ _ _ _ _ _ 50 [some (x_r (16 * 2 + 0)), some (x_r (16 * 20 + 0)), some (x_i v1), some (x_i v31)] [x_i v44, x_i 0, x_r (16 * 20 + 0)] (al, ro, fl (ml M [2, 20] [T45, Lb3])) _ _ _ _
            obtain ⟨Lb47, hq47, hr36⟩ := x_bd1 hr36
            refine e_invV (pc := 50) (K1 := 0) (S1 := 0) (K := 0) (S := 0) (dd2 := 0) (av := [x_i 0, x_i v44]) (st := []) (id := 16 * 20 + 0) dX5_readSum_50 xmX5_69 rfl (Or.inl ⟨3, 7, TX4, (sa_20_0 hs), rfl, by decide⟩) (f_cal (M := M) (us2 := [20]) [1] hn rfl (And.intro rfl trivial) rfl rfl rfl (c_X4_addStep hst hs   hq47)) (by decide) (Nat.le_of_ble_eq_true rfl) (Or.inl rfl) ?_
            show Ev g _ _ _ _ _ _ 53 [some (x_r (16 * 2 + 0)), some (x_r (16 * 20 + 0)), some (x_i v1), some (x_i v31)] [] (al, ro, fl (ml M [2, 20] [T45, Lb47])) _ _ _ _
            refine e_goto (pc := 53) (tgt := 78) dX5_readSum_53 (by decide) ?_
            cases hr36
            exact hjhr36
set_option maxRecDepth 100000 in
set_option maxHeartbeats 4000000 in
theorem c_X10_expectSign {g : xG} {al : List (Nat × Nat × Nat)} {ro : Nat → Nat → Option Nat} (hst : g.1.stackTraces = false) (hs : SH al ro) {M : Nat → xU} {a : Int} {T : xU}  {t : xU} (hG : G10_expectSign a T = some t) :
    Cal g yX10_expectSign cX10_expectSign 2 none 2 [x_r (16 * 2 + 0), x_i a] (al, ro, fl (ml M [2] [T])) 0 0 (.inl none) (al, ro, fl (ml M [2] [t])) := by
  have hn : ([2] : List Nat).Nodup := by decide
  refine cal_of_ev (plainFor_of_name (by decide)) (x_c1 rfl) (Nat.le_of_ble_eq_true rfl) hst ?_
  show Ev g _ _ _ _ _ _ 0 [some (x_r (16 * 2 + 0)), some (x_i a)] [] (al, ro, fl (ml M [2] [T])) _ _ _ _
  rw [G10_expectSign] at hG
  refine e_aloadn (pc := 0) (i := 0) dX10_expectSign_0 rfl rfl ?_
  refine e_iloadn (pc := 1) (i := 1) dX10_expectSign_1 rfl rfl ?_
  obtain ⟨v1, T2, hq2, hG⟩ := x_bd2 hG
  refine e_invV (pc := 2) (K1 := 0) (S1 := 0) (K := 0) (S := 0) (dd2 := 1) (av := [x_i a]) (st := []) (id := 16 * 2 + 0) dX10_expectSign_2 xmX10_79 rfl (Or.inl ⟨8, 8, TX10, (sa_2_0 hs), rfl, by decide⟩) (f_cal (M := M) (us2 := [2]) [0] hn rfl (And.intro rfl trivial) rfl rfl rfl (c_X10_takeSign hst hs   hq2)) (by decide) (Nat.le_of_ble_eq_true rfl) (Or.inl rfl) ?_
  show Ev g _ _ _ _ _ _ 5 [some (x_r (16 * 2 + 0)), some (x_i a)] [x_i v1] (al, ro, fl (ml M [2] [T2])) _ _ _ _
  obtain ⟨T4, hr4, hG⟩ := x_bd1 hG
  have hjhr4 : Ev g yX10_expectSign cX10_expectSign 2 none [] 2 12 [some (x_r (16 * 2 + 0)), some (x_i a)] [] (al, ro, fl (ml M [2] [T4])) 0 0 (.inl none) (al, ro, fl (ml M [2] [t])) := by
    cases hG
    exact (e_return rfl dX10_expectSign_12)
  clear hG
  refine e_if_ne (pc := 5) (tgt := 12) dX10_expectSign_5 (by decide) (fun hb => ?_) (fun hb => ?_)
  · rw [if_neg hb] at hr4
    cases hr4
    exact hjhr4
  · rw [if_pos hb] at hr4
    refine e_aloadn (pc := 8) (i := 0) dX10_expectSign_8 rfl rfl ?_
    obtain ⟨T6, hq6, hr4⟩ := x_bd1 hr4
    refine e_invV (pc := 9) (K1 := 0) (S1 := 0) (K := 0) (S := 0) (dd2 := 0) (av := []) (st := []) (id := 16 * 2 + 0) dX10_expectSign_9 xmX10_43 rfl (Or.inl ⟨8, 8, TX10, (sa_2_0 hs), rfl, by decide⟩) (f_cal (M := M) (us2 := [2]) [0] hn rfl (And.intro rfl trivial) rfl rfl rfl (c_X10_refuse hst hs   hq6)) (by decide) (Nat.le_of_ble_eq_true rfl) (Or.inl rfl) ?_
    show Ev g _ _ _ _ _ _ 12 [some (x_r (16 * 2 + 0)), some (x_i a)] [] (al, ro, fl (ml M [2] [T6])) _ _ _ _
    cases hr4
    exact hjhr4
