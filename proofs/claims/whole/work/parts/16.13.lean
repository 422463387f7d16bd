set_option maxRecDepth 100000 in
set_option maxHeartbeats 4000000 in
theorem c_X4_addLine {g : xG} {al : List (Nat × Nat × Nat)} {ro : Nat → Nat → Option Nat} (hst : g.1.stackTraces = false) (hs : SH al ro) {M : Nat → xU} {a : Int} {b : Int} {Lb : xU}  {t : xU} (hG : G4_addLine a b Lb = some t) :
    Cal g yX4_addLine cX4_addLine 3 none 0 [x_r (16 * 20 + 0), x_i a, x_i b] (al, ro, fl (ml M [20] [Lb])) 0 0 (.inl none) (al, ro, fl (ml M [20] [t])) := by
  have hn : ([20] : List Nat).Nodup := by decide
  refine cal_of_ev (plainFor_of_name (by decide)) (x_c1 rfl) (Nat.le_of_ble_eq_true rfl) hst ?_
  show Ev g _ _ _ _ _ _ 0 [some (x_r (16 * 20 + 0)), some (x_i a), some (x_i b)] [] (al, ro, fl (ml M [20] [Lb])) _ _ _ _
  rw [G4_addLine] at hG
  refine e_aloadn (pc := 0) (i := 0) dX4_addLine_0 rfl rfl ?_
  refine f_geti (pc := 1) (k := 0) (u := 20) (q := 0) dX4_addLine_1 xf4_27 (sa_20_0 hs) rfl hn rfl rfl (by decide) ?_
  show Ev g _ _ _ _ _ _ 4 [some (x_r (16 * 20 + 0)), some (x_i a), some (x_i b)] [x_i (Lb 0 6)] (al, ro, fl (ml M [20] [Lb])) _ _ _ _
  obtain ⟨Lb1, hr1, hG⟩ := x_bd1 hG
  have hjhr1 : Ev g yX4_addLine cX4_addLine 3 none [] 0 59 [some (x_r (16 * 20 + 0)), some (x_i a), some (x_i b)] [] (al, ro, fl (ml M [20] [Lb1])) 0 0 (.inl none) (al, ro, fl (ml M [20] [t])) := by
    cases hG
    exact (e_return rfl dX4_addLine_59)
  clear hG
  refine e_if_lt (pc := 4) (tgt := 59) dX4_addLine_4 (by decide) (fun hb => ?_) (fun hb => ?_)
  · rw [if_pos hb] at hr1
    cases hr1
    exact hjhr1
  · rw [if_neg hb] at hr1
    refine e_aloadn (pc := 7) (i := 0) dX4_addLine_7 rfl rfl ?_
    refine f_geti (pc := 8) (k := 0) (u := 20) (q := 0) dX4_addLine_8 xf4_27 (sa_20_0 hs) rfl hn rfl rfl (by decide) ?_
    show Ev g _ _ _ _ _ _ 11 [some (x_r (16 * 20 + 0)), some (x_i a), some (x_i b)] [x_i (Lb 0 6)] (al, ro, fl (ml M [20] [Lb])) _ _ _ _
    refine e_bipush (pc := 11) dX4_addLine_11 (by decide +kernel) (x_R rfl) ?_
    refine e_icmp_ge (pc := 13) (tgt := 59) dX4_addLine_13 (by decide) (fun hb => ?_) (fun hb => ?_)
    · rw [if_pos hb] at hr1
      cases hr1
      exact hjhr1
    · rw [if_neg hb] at hr1
      refine e_aloadn (pc := 16) (i := 0) dX4_addLine_16 rfl rfl ?_
      refine f_getr (pc := 17) (u := 20) (q := 0) dX4_addLine_17 xf4_11 (sa_20_0 hs) rfl (sr_20_0_0 hs) ?_
      refine e_aloadn (pc := 20) (i := 0) dX4_addLine_20 rfl rfl ?_
      refine f_geti (pc := 21) (k := 0) (u := 20) (q := 0) dX4_addLine_21 xf4_27 (sa_20_0 hs) rfl hn rfl rfl (by decide) ?_
      show Ev g _ _ _ _ _ _ 24 [some (x_r (16 * 20 + 0)), some (x_i a), some (x_i b)] [x_i (Lb 0 6), x_r (16 * 20 + 1)] (al, ro, fl (ml M [20] [Lb])) _ _ _ _
      refine e_iloadn (pc := 24) (i := 1) dX4_addLine_24 rfl rfl ?_
      obtain ⟨hc0, hr1⟩ := x_gd_some hr1
      refine f_iast (pc := 25) (k := 0) (u := 20) (q := 1) (len := 12) dX4_addLine_25 (sa_20_1 hs) hc0 hn rfl rfl rfl (by decide) ?_
      show Ev g _ _ _ _ _ _ 26 [some (x_r (16 * 20 + 0)), some (x_i a), some (x_i b)] [] (al, ro, fl (ml M [20] [(x_up Lb 1 ((Lb 0 6)).toNat a)])) _ _ _ _
      refine e_aloadn (pc := 26) (i := 0) dX4_addLine_26 rfl rfl ?_
      refine f_getr (pc := 27) (u := 20) (q := 0) dX4_addLine_27 xf4_15 (sa_20_0 hs) rfl (sr_20_0_1 hs) ?_
      refine e_aloadn (pc := 30) (i := 0) dX4_addLine_30 rfl rfl ?_
      refine f_geti (pc := 31) (k := 0) (u := 20) (q := 0) dX4_addLine_31 xf4_27 (sa_20_0 hs) rfl hn rfl rfl (by decide) ?_
      show Ev g _ _ _ _ _ _ 34 [some (x_r (16 * 20 + 0)), some (x_i a), some (x_i b)] [x_i ((x_up Lb 1 ((Lb 0 6)).toNat a) 0 6), x_r (16 * 20 + 2)] (al, ro, fl (ml M [20] [(x_up Lb 1 ((Lb 0 6)).toNat a)])) _ _ _ _
      refine e_iloadn (pc := 34) (i := 2) dX4_addLine_34 rfl rfl ?_
      obtain ⟨hc0, hr1⟩ := x_gd_some hr1
      refine f_iast (pc := 35) (k := 0) (u := 20) (q := 2) (len := 12) dX4_addLine_35 (sa_20_2 hs) hc0 hn rfl rfl rfl (by decide) ?_
      show Ev g _ _ _ _ _ _ 36 [some (x_r (16 * 20 + 0)), some (x_i a), some (x_i b)] [] (al, ro, fl (ml M [20] [(x_up (x_up Lb 1 ((Lb 0 6)).toNat a) 2 (((x_up Lb 1 ((Lb 0 6)).toNat a) 0 6)).toNat b)])) _ _ _ _
      refine e_aloadn (pc := 36) (i := 0) dX4_addLine_36 rfl rfl ?_
      refine f_getr (pc := 37) (u := 20) (q := 0) dX4_addLine_37 xf4_18 (sa_20_0 hs) rfl (sr_20_0_2 hs) ?_
      refine e_aloadn (pc := 40) (i := 0) dX4_addLine_40 rfl rfl ?_
      refine f_geti (pc := 41) (k := 0) (u := 20) (q := 0) dX4_addLine_41 xf4_27 (sa_20_0 hs) rfl hn rfl rfl (by decide) ?_
      show Ev g _ _ _ _ _ _ 44 [some (x_r (16 * 20 + 0)), some (x_i a), some (x_i b)] [x_i ((x_up (x_up Lb 1 ((Lb 0 6)).toNat a) 2 (((x_up Lb 1 ((Lb 0 6)).toNat a) 0 6)).toNat b) 0 6), x_r (16 * 20 + 3)] (al, ro, fl (ml M [20] [(x_up (x_up Lb 1 ((Lb 0 6)).toNat a) 2 (((x_up Lb 1 ((Lb 0 6)).toNat a) 0 6)).toNat b)])) _ _ _ _
      refine e_aloadn (pc := 44) (i := 0) dX4_addLine_44 rfl rfl ?_
      refine f_geti (pc := 45) (k := 0) (u := 20) (q := 0) dX4_addLine_45 xf4_31 (sa_20_0 hs) rfl hn rfl rfl (by decide) ?_
      show Ev g _ _ _ _ _ _ 48 [some (x_r (16 * 20 + 0)), some (x_i a), some (x_i b)] [x_i ((x_up (x_up Lb 1 ((Lb 0 6)).toNat a) 2 (((x_up Lb 1 ((Lb 0 6)).toNat a) 0 6)).toNat b) 0 5), x_i ((x_up (x_up Lb 1 ((Lb 0 6)).toNat a) 2 (((x_up Lb 1 ((Lb 0 6)).toNat a) 0 6)).toNat b) 0 6), x_r (16 * 20 + 3)] (al, ro, fl (ml M [20] [(x_up (x_up Lb 1 ((Lb 0 6)).toNat a) 2 (((x_up Lb 1 ((Lb 0 6)).toNat a) 0 6)).toNat b)])) _ _ _ _
      obtain ⟨hc0, hr1⟩ := x_gd_some hr1
      refine f_iast (pc := 48) (k := 0) (u := 20) (q := 3) (len := 12) dX4_addLine_48 (sa_20_3 hs) hc0 hn rfl rfl rfl (by decide) ?_
      show Ev g _ _ _ _ _ _ 49 [some (x_r (16 * 20 + 0)), some (x_i a), some (x_i b)] [] (al, ro, fl (ml M [20] [(x_up (x_up (x_up Lb 1 ((Lb 0 6)).toNat a) 2 (((x_up Lb 1 ((Lb 0 6)).toNat a) 0 6)).toNat b) 3 (((x_up (x_up Lb 1 ((Lb 0 6)).toNat a) 2 (((x_up Lb 1 ((Lb 0 6)).toNat a) 0 6)).toNat b) 0 6)).toNat ((x_up (x_up Lb 1 ((Lb 0 6)).toNat a) 2 (((x_up Lb 1 ((Lb 0 6)).toNat a) 0 6)).toNat b) 0 5))])) _ _ _ _
      refine e_aloadn (pc := 49) (i := 0) dX4_addLine_49 rfl rfl ?_
      refine e_dup (pc := 50) dX4_addLine_50 rfl ?_
      refine f_geti (pc := 51) (k := 0) (u := 20) (q := 0) dX4_addLine_51 xf4_27 (sa_20_0 hs) rfl hn rfl rfl (by decide) ?_
      show Ev g _ _ _ _ _ _ 54 [some (x_r (16 * 20 + 0)), some (x_i a), some (x_i b)] [x_i ((x_up (x_up (x_up Lb 1 ((Lb 0 6)).toNat a) 2 (((x_up Lb 1 ((Lb 0 6)).toNat a) 0 6)).toNat b) 3 (((x_up (x_up Lb 1 ((Lb 0 6)).toNat a) 2 (((x_up Lb 1 ((Lb 0 6)).toNat a) 0 6)).toNat b) 0 6)).toNat ((x_up (x_up Lb 1 ((Lb 0 6)).toNat a) 2 (((x_up Lb 1 ((Lb 0 6)).toNat a) 0 6)).toNat b) 0 5)) 0 6), x_r (16 * 20 + 0)] (al, ro, fl (ml M [20] [(x_up (x_up (x_up Lb 1 ((Lb 0 6)).toNat a) 2 (((x_up Lb 1 ((Lb 0 6)).toNat a) 0 6)).toNat b) 3 (((x_up (x_up Lb 1 ((Lb 0 6)).toNat a) 2 (((x_up Lb 1 ((Lb 0 6)).toNat a) 0 6)).toNat b) 0 6)).toNat ((x_up (x_up Lb 1 ((Lb 0 6)).toNat a) 2 (((x_up Lb 1 ((Lb 0 6)).toNat a) 0 6)).toNat b) 0 5))])) _ _ _ _
      refine e_iconst (pc := 54) dX4_addLine_54 (x_R rfl) ?_
      refine e_iadd (pc := 55) dX4_addLine_55 ?_
      refine f_puti (pc := 56) (k := 0) (u := 20) (q := 0) dX4_addLine_56 xf4_27 xw3_6 (sa_20_0 hs) hn rfl rfl rfl (by decide) ?_
      show Ev g _ _ _ _ _ _ 59 [some (x_r (16 * 20 + 0)), some (x_i a), some (x_i b)] [] (al, ro, fl (ml M [20] [(x_up (x_up (x_up (x_up Lb 1 ((Lb 0 6)).toNat a) 2 (((x_up Lb 1 ((Lb 0 6)).toNat a) 0 6)).toNat b) 3 (((x_up (x_up Lb 1 ((Lb 0 6)).toNat a) 2 (((x_up Lb 1 ((Lb 0 6)).toNat a) 0 6)).toNat b) 0 6)).toNat ((x_up (x_up Lb 1 ((Lb 0 6)).toNat a) 2 (((x_up Lb 1 ((Lb 0 6)).toNat a) 0 6)).toNat b) 0 5)) 0 6 (x_add ((x_up (x_up (x_up Lb 1 ((Lb 0 6)).toNat a) 2 (((x_up Lb 1 ((Lb 0 6)).toNat a) 0 6)).toNat b) 3 (((x_up (x_up Lb 1 ((Lb 0 6)).toNat a) 2 (((x_up Lb 1 ((Lb 0 6)).toNat a) 0 6)).toNat b) 0 6)).toNat ((x_up (x_up Lb 1 ((Lb 0 6)).toNat a) 2 (((x_up Lb 1 ((Lb 0 6)).toNat a) 0 6)).toNat b) 0 5)) 0 6) 1))])) _ _ _ _
      cases hr1
      exact hjhr1
set_option maxRecDepth 100000 in
set_option maxHeartbeats 4000000 in
theorem c_X5_readLine {g : xG} {al : List (Nat × Nat × Nat)} {ro : Nat → Nat → Option Nat} (hst : g.1.stackTraces = false) (hs : SH al ro) {M : Nat → xU} {T : xU} {Lb : xU}  {t : (xU × xU)} (hG : G5_readLine T Lb = some t) :
    Cal g yX5_readLine cX5_readLine 4 none 30 [x_r (16 * 2 + 0), x_r (16 * 20 + 0)] (al, ro, fl (ml M [2, 20] [T, Lb])) 0 0 (.inl none) (al, ro, fl (ml M [2, 20] [t.1, t.2])) := by
  have hn : ([2, 20] : List Nat).Nodup := by decide
  refine cal_of_ev (plainFor_of_name (by decide)) (x_c1 rfl) (Nat.le_of_ble_eq_true rfl) hst ?_
  show Ev g _ _ _ _ _ _ 0 [some (x_r (16 * 2 + 0)), some (x_r (16 * 20 + 0)), none, none] [] (al, ro, fl (ml M [2, 20] [T, Lb])) _ _ _ _
  rw [G5_readLine] at hG
  refine e_iconst (pc := 0) dX5_readLine_0 (x_R rfl) ?_
  refine e_istoren (pc := 1) (i := 2) dX5_readLine_1 rfl (by decide) rfl ?_
  show Ev g _ _ _ _ _ _ 2 [some (x_r (16 * 2 + 0)), some (x_r (16 * 20 + 0)), some (x_i 2), none] [] (al, ro, fl (ml M [2, 20] [T, Lb])) _ _ _ _
  refine e_iconst (pc := 2) dX5_readLine_2 (x_R rfl) ?_
  refine e_istoren (pc := 3) (i := 3) dX5_readLine_3 rfl (by decide) rfl ?_
  show Ev g _ _ _ _ _ _ 4 [some (x_r (16 * 2 + 0)), some (x_r (16 * 20 + 0)), some (x_i 2), some (x_i 0)] [] (al, ro, fl (ml M [2, 20] [T, Lb])) _ _ _ _
  refine e_aloadn (pc := 4) (i := 0) dX5_readLine_4 rfl rfl ?_
  refine e_ldcS (pc := 5) (i := 17) dX5_readLine_5 (by decide +kernel) (by decide) ?_
  obtain ⟨v1, T2, hq2, hG⟩ := x_bd2 hG
  refine e_invV (pc := 7) (K1 := 0) (S1 := 0) (K := 0) (S := 0) (dd2 := 7) (av := [x_r (x_s0 + 17)]) (st := []) (id := 16 * 2 + 0) dX5_readLine_7 xmX5_32 rfl (Or.inl ⟨8, 8, TX10, (sa_2_0 hs), rfl, by decide⟩) (f_cal (M := M) (us2 := [2]) [0] hn rfl (And.intro rfl trivial) rfl rfl rfl (c_X10_takeWord hst hs  (by decide) hq2)) (by decide) (Nat.le_of_ble_eq_true rfl) (Or.inl rfl) ?_
  show Ev g _ _ _ _ _ _ 10 [some (x_r (16 * 2 + 0)), some (x_r (16 * 20 + 0)), some (x_i 2), some (x_i 0)] [x_i v1] (al, ro, fl (ml M [2, 20] [T2, Lb])) _ _ _ _
  obtain ⟨v4, v5, T6, hr6, hG⟩ := x_bd3 hG
  have hjhr6 : Ev g yX5_readLine cX5_readLine 4 none [] 30 52 [some (x_r (16 * 2 + 0)), some (x_r (16 * 20 + 0)), some (x_i v4), some (x_i v5)] [] (al, ro, fl (ml M [2, 20] [T6, Lb])) 0 0 (.inl none) (al, ro, fl (ml M [2, 20] [t.1, t.2])) := by
    refine e_aloadn (pc := 52) (i := 0) dX5_readLine_52 rfl rfl ?_
    obtain ⟨v19, hq19, hG⟩ := x_bd1 hG
    refine e_invV (pc := 53) (K1 := 0) (S1 := 0) (K := 0) (S := 0) (dd2 := 0) (av := []) (st := []) (id := 16 * 2 + 0) dX5_readLine_53 xmX5_48 rfl (Or.inl ⟨8, 8, TX10, (sa_2_0 hs), rfl, by decide⟩) (f_cal (M := M) (us2 := [2]) [0] hn rfl (And.intro rfl trivial) rfl rfl rfl (c_X10_isRight hst hs   hq19)) (by decide) (Nat.le_of_ble_eq_true rfl) (Or.inl rfl) ?_
    show Ev g _ _ _ _ _ _ 56 [some (x_r (16 * 2 + 0)), some (x_r (16 * 20 + 0)), some (x_i v4), some (x_i v5)] [x_i v19] (al, ro, fl (ml M [2, 20] [T6, Lb])) _ _ _ _
    obtain ⟨T21, Lb22, hr22, hG⟩ := x_bd2 hG
    have hjhr22 : Ev g yX5_readLine cX5_readLine 4 none [] 30 74 [some (x_r (16 * 2 + 0)), some (x_r (16 * 20 + 0)), some (x_i v4), some (x_i v5)] [] (al, ro, fl (ml M [2, 20] [T21, Lb22])) 0 0 (.inl none) (al, ro, fl (ml M [2, 20] [t.1, t.2])) := by
      refine e_aloadn (pc := 74) (i := 1) dX5_readLine_74 rfl rfl ?_
      refine e_iloadn (pc := 75) (i := 2) dX5_readLine_75 rfl rfl ?_
      refine e_iloadn (pc := 76) (i := 3) dX5_readLine_76 rfl rfl ?_
      obtain ⟨Lb30, hq30, hG⟩ := x_bd1 hG
      refine e_invV (pc := 77) (K1 := 0) (S1 := 0) (K := 0) (S := 0) (dd2 := 0) (av := [x_i v4, x_i v5]) (st := []) (id := 16 * 20 + 0) dX5_readLine_77 xmX5_58 rfl (Or.inl ⟨3, 7, TX4, (sa_20_0 hs), rfl, by decide⟩) (f_cal (M := M) (us2 := [20]) [1] hn rfl (And.intro rfl trivial) rfl rfl rfl (c_X4_addLine hst hs   hq30)) (by decide) (Nat.le_of_ble_eq_true rfl) (Or.inl rfl) ?_
      show Ev g _ _ _ _ _ _ 80 [some (x_r (16 * 2 + 0)), some (x_r (16 * 20 + 0)), some (x_i v4), some (x_i v5)] [] (al, ro, fl (ml M [2, 20] [T21, Lb30])) _ _ _ _
      cases hG
      exact (e_return rfl dX5_readLine_80)
    clear hG
    refine e_if_eq (pc := 56) (tgt := 74) dX5_readLine_56 (by decide) (fun hb => ?_) (fun hb => ?_)
    · rw [if_pos hb] at hr22
      cases hr22
      exact hjhr22
    · rw [if_neg hb] at hr22
      refine e_aloadn (pc := 59) (i := 0) dX5_readLine_59 rfl rfl ?_
      refine e_ldcS (pc := 60) (i := 20) dX5_readLine_60 (by decide +kernel) (by decide) ?_
      obtain ⟨v24, T25, hq25, hr22⟩ := x_bd2 hr22
      refine e_invV (pc := 62) (K1 := 0) (S1 := 0) (K := 0) (S := 0) (dd2 := 7) (av := [x_r (x_s0 + 20)]) (st := []) (id := 16 * 2 + 0) dX5_readLine_62 xmX5_32 rfl (Or.inl ⟨8, 8, TX10, (sa_2_0 hs), rfl, by decide⟩) (f_cal (M := M) (us2 := [2]) [0] hn rfl (And.intro rfl trivial) rfl rfl rfl (c_X10_takeWord hst hs  (by decide) hq25)) (by decide) (Nat.le_of_ble_eq_true rfl) (Or.inl rfl) ?_
      show Ev g _ _ _ _ _ _ 65 [some (x_r (16 * 2 + 0)), some (x_r (16 * 20 + 0)), some (x_i v4), some (x_i v5)] [x_i v24] (al, ro, fl (ml M [2, 20] [T25, Lb])) _ _ _ _
      refine e_if_eq (pc := 65) (tgt := 74) dX5_readLine_65 (by decide) (fun hb => ?_) (fun hb => ?_)
      · rw [if_pos hb] at hr22
        cases hr22
        exact hjhr22
      · rw [if_neg hb] at hr22
        refine e_aloadn (pc := 68) (i := 0) dX5_readLine_68 rfl rfl ?_
        refine e_aloadn (pc := 69) (i := 1) dX5_readLine_69 rfl rfl ?_
        refine e_iconst (pc := 70) dX5_readLine_70 (x_R rfl) ?_
        obtain ⟨T27, Lb28, hq28, hr22⟩ := x_bd2 hr22
        refine e_invS (pc := 71) (K1 := 0) (S1 := 0) (K := 0) (S := 0) (dd2 := 29) (av := [x_r (16 * 2 + 0), x_r (16 * 20 + 0), x_i 0]) (st := []) dX5_readLine_71 xmX5_54 rfl (f_cal (M := M) (us2 := [2, 20]) [0, 1] hn rfl (And.intro rfl (And.intro rfl trivial)) rfl rfl rfl (c_X5_readAny hst hs   hq28)) (by decide) (Nat.le_of_ble_eq_true rfl) (Or.inl rfl) ?_
        show Ev g _ _ _ _ _ _ 74 [some (x_r (16 * 2 + 0)), some (x_r (16 * 20 + 0)), some (x_i v4), some (x_i v5)] [] (al, ro, fl (ml M [2, 20] [T27, Lb28])) _ _ _ _
        cases hr22
        exact hjhr22
  clear hG
  refine e_if_eq (pc := 10) (tgt := 25) dX5_readLine_10 (by decide) (fun hb => ?_) (fun hb => ?_)
  · rw [if_pos hb] at hr6
    refine e_aloadn (pc := 25) (i := 0) dX5_readLine_25 rfl rfl ?_
    refine e_ldcS (pc := 26) (i := 18) dX5_readLine_26 (by decide +kernel) (by decide) ?_
    obtain ⟨v8, T9, hq9, hr6⟩ := x_bd2 hr6
    refine e_invV (pc := 28) (K1 := 0) (S1 := 0) (K := 0) (S := 0) (dd2 := 7) (av := [x_r (x_s0 + 18)]) (st := []) (id := 16 * 2 + 0) dX5_readLine_28 xmX5_32 rfl (Or.inl ⟨8, 8, TX10, (sa_2_0 hs), rfl, by decide⟩) (f_cal (M := M) (us2 := [2]) [0] hn rfl (And.intro rfl trivial) rfl rfl rfl (c_X10_takeWord hst hs  (by decide) hq9)) (by decide) (Nat.le_of_ble_eq_true rfl) (Or.inl rfl) ?_
    show Ev g _ _ _ _ _ _ 31 [some (x_r (16 * 2 + 0)), some (x_r (16 * 20 + 0)), some (x_i 2), some (x_i 0)] [x_i v8] (al, ro, fl (ml M [2, 20] [T9, Lb])) _ _ _ _
    refine e_if_eq (pc := 31) (tgt := 46) dX5_readLine_31 (by decide) (fun hb => ?_) (fun hb => ?_)
    · rw [if_pos hb] at hr6
      refine e_aloadn (pc := 46) (i := 0) dX5_readLine_46 rfl rfl ?_
      refine e_ldcS (pc := 47) (i := 19) dX5_readLine_47 (by decide +kernel) (by decide) ?_
      obtain ⟨T11, hq11, hr6⟩ := x_bd1 hr6
      refine e_invV (pc := 49) (K1 := 0) (S1 := 0) (K := 0) (S := 0) (dd2 := 8) (av := [x_r (x_s0 + 19)]) (st := []) (id := 16 * 2 + 0) dX5_readLine_49 xmX5_44 rfl (Or.inl ⟨8, 8, TX10, (sa_2_0 hs), rfl, by decide⟩) (f_cal (M := M) (us2 := [2]) [0] hn rfl (And.intro rfl trivial) rfl rfl rfl (c_X10_expectWord hst hs  (by decide) hq11)) (by decide) (Nat.le_of_ble_eq_true rfl) (Or.inl rfl) ?_
      show Ev g _ _ _ _ _ _ 52 [some (x_r (16 * 2 + 0)), some (x_r (16 * 20 + 0)), some (x_i 2), some (x_i 0)] [] (al, ro, fl (ml M [2, 20] [T11, Lb])) _ _ _ _
      cases hr6
      exact hjhr6
    · rw [if_neg hb] at hr6
      refine e_iconst (pc := 34) dX5_readLine_34 (x_R rfl) ?_
      refine e_istoren (pc := 35) (i := 2) dX5_readLine_35 rfl (by decide) rfl ?_
      show Ev g _ _ _ _ _ _ 36 [some (x_r (16 * 2 + 0)), some (x_r (16 * 20 + 0)), some (x_i 1), some (x_i 0)] [] (al, ro, fl (ml M [2, 20] [T9, Lb])) _ _ _ _
      refine e_aloadn (pc := 36) (i := 0) dX5_readLine_36 rfl rfl ?_
      refine e_bipush (pc := 37) dX5_readLine_37 (by decide +kernel) (x_R rfl) ?_
      obtain ⟨v13, T14, hq14, hr6⟩ := x_bd2 hr6
      refine e_invV (pc := 39) (K1 := 0) (S1 := 0) (K := 0) (S := 0) (dd2 := 1) (av := [x_i 20]) (st := []) (id := 16 * 2 + 0) dX5_readLine_39 xmX5_36 rfl (Or.inl ⟨8, 8, TX10, (sa_2_0 hs), rfl, by decide⟩) (f_cal (M := M) (us2 := [2]) [0] hn rfl (And.intro rfl trivial) rfl rfl rfl (c_X10_takeNumber hst hs   hq14)) (by decide) (Nat.le_of_ble_eq_true rfl) (Or.inl rfl) ?_
      show Ev g _ _ _ _ _ _ 42 [some (x_r (16 * 2 + 0)), some (x_r (16 * 20 + 0)), some (x_i 1), some (x_i 0)] [x_i v13] (al, ro, fl (ml M [2, 20] [T14, Lb])) _ _ _ _
      refine e_istoren (pc := 42) (i := 3) dX5_readLine_42 rfl (by decide) rfl ?_
      show Ev g _ _ _ _ _ _ 43 [some (x_r (16 * 2 + 0)), some (x_r (16 * 20 + 0)), some (x_i 1), some (x_i v13)] [] (al, ro, fl (ml M [2, 20] [T14, Lb])) _ _ _ _
      refine e_goto (pc := 43) (tgt := 52) dX5_readLine_43 (by decide) ?_
      cases hr6
      exact hjhr6
  · rw [if_neg hb] at hr6
    refine e_iconst (pc := 13) dX5_readLine_13 (x_R rfl) ?_
    refine e_istoren (pc := 14) (i := 2) dX5_readLine_14 rfl (by decide) rfl ?_
    show Ev g _ _ _ _ _ _ 15 [some (x_r (16 * 2 + 0)), some (x_r (16 * 20 + 0)), some (x_i 0), some (x_i 0)] [] (al, ro, fl (ml M [2, 20] [T2, Lb])) _ _ _ _
    refine e_aloadn (pc := 15) (i := 0) dX5_readLine_15 rfl rfl ?_
    refine e_bipush (pc := 16) dX5_readLine_16 (by decide +kernel) (x_R rfl) ?_
    obtain ⟨v16, T17, hq17, hr6⟩ := x_bd2 hr6
    refine e_invV (pc := 18) (K1 := 0) (S1 := 0) (K := 0) (S := 0) (dd2 := 1) (av := [x_i 20]) (st := []) (id := 16 * 2 + 0) dX5_readLine_18 xmX5_36 rfl (Or.inl ⟨8, 8, TX10, (sa_2_0 hs), rfl, by decide⟩) (f_cal (M := M) (us2 := [2]) [0] hn rfl (And.intro rfl trivial) rfl rfl rfl (c_X10_takeNumber hst hs   hq17)) (by decide) (Nat.le_of_ble_eq_true rfl) (Or.inl rfl) ?_
    show Ev g _ _ _ _ _ _ 21 [some (x_r (16 * 2 + 0)), some (x_r (16 * 20 + 0)), some (x_i 0), some (x_i 0)] [x_i v16] (al, ro, fl (ml M [2, 20] [T17, Lb])) _ _ _ _
    refine e_istoren (pc := 21) (i := 3) dX5_readLine_21 rfl (by decide) rfl ?_
    show Ev g _ _ _ _ _ _ 22 [some (x_r (16 * 2 + 0)), some (x_r (16 * 20 + 0)), some (x_i 0), some (x_i v16)] [] (al, ro, fl (ml M [2, 20] [T17, Lb])) _ _ _ _
    refine e_goto (pc := 22) (tgt := 52) dX5_readLine_22 (by decide) ?_
    cases hr6
    exact hjhr6
set_option maxRecDepth 100000 in
set_option maxHeartbeats 4000000 in
theorem c_X5_readInto {g : xG} {al : List (Nat × Nat × Nat)} {ro : Nat → Nat → Option Nat} (hst : g.1.stackTraces = false) (hs : SH al ro) {M : Nat → xU} {T : xU} {Lb : xU}  {t : (Int × xU × xU)} (hG : G5_readInto T Lb = some t) :
    Cal g yX5_readInto cX5_readInto 3 (some .int) 31 [x_r (16 * 2 + 0), x_r (16 * 20 + 0)] (al, ro, fl (ml M [2, 20] [T, Lb])) 0 0 (.inl (some (x_i t.1))) (al, ro, fl (ml M [2, 20] [t.2.1, t.2.2])) := by
  have hn : ([2, 20] : List Nat).Nodup := by decide
  refine cal_of_ev (plainFor_of_name (by decide)) (x_c1 rfl) (Nat.le_of_ble_eq_true rfl) hst ?_
  show Ev g _ _ _ _ _ _ 0 [some (x_r (16 * 2 + 0)), some (x_r (16 * 20 + 0)), none] [] (al, ro, fl (ml M [2, 20] [T, Lb])) _ _ _ _
  rw [G5_readInto] at hG
  refine e_aloadn (pc := 0) (i := 1) dX5_readInto_0 rfl rfl ?_
  obtain ⟨Lb1, hq1, hG⟩ := x_bd1 hG
  refine e_invV (pc := 1) (K1 := 0) (S1 := 0) (K := 0) (S := 0) (dd2 := 0) (av := []) (st := []) (id := 16 * 20 + 0) dX5_readInto_1 xmX5_9 rfl (Or.inl ⟨3, 7, TX4, (sa_20_0 hs), rfl, by decide⟩) (f_cal (M := M) (us2 := [20]) [1] hn rfl (And.intro rfl trivial) rfl rfl rfl (c_X4_clear hst hs   hq1)) (by decide) (Nat.le_of_ble_eq_true rfl) (Or.inl rfl) ?_
  show Ev g _ _ _ _ _ _ 4 [some (x_r (16 * 2 + 0)), some (x_r (16 * 20 + 0)), none] [] (al, ro, fl (ml M [2, 20] [T, Lb1])) _ _ _ _
  refine e_iconst (pc := 4) dX5_readInto_4 (x_R rfl) ?_
  refine e_istoren (pc := 5) (i := 2) dX5_readInto_5 rfl (by decide) rfl ?_
  show Ev g _ _ _ _ _ _ 6 [some (x_r (16 * 2 + 0)), some (x_r (16 * 20 + 0)), some (x_i 0)] [] (al, ro, fl (ml M [2, 20] [T, Lb1])) _ _ _ _
  obtain ⟨T6, Lb7, hl8, hG⟩ := x_bd2 hG
  have hk8 : ∀ q : (xU × xU), q = (T6, Lb7) → Ev g yX5_readInto cX5_readInto 3 (some .int) [] 31 33 [some (x_r (16 * 2 + 0)), some (x_r (16 * 20 + 0)), none] [] (al, ro, fl (ml M [2, 20] [q.1, q.2])) 0 0 (.inl (some (x_i t.1))) (al, ro, fl (ml M [2, 20] [t.2.1, t.2.2])) := by
    intro q hq
    cases hq
    refine e_aloadn (pc := 33) (i := 0) dX5_readInto_33 rfl rfl ?_
    refine f_geti (pc := 34) (k := 0) (u := 2) (q := 0) dX5_readInto_34 xf5_26 (sa_2_0 hs) rfl hn rfl rfl (by decide) ?_
    show Ev g _ _ _ _ _ _ 37 [some (x_r (16 * 2 + 0)), some (x_r (16 * 20 + 0)), none] [x_i (T6 0 7)] (al, ro, fl (ml M [2, 20] [T6, Lb7])) _ _ _ _
    cases hG
    exact (e_ireturn rfl dX5_readInto_37 rfl)
  clear hG
  refine e_whl G5_readInto_L6 (fun z : (Int × xU × xU) => Ev g yX5_readInto cX5_readInto 3 (some .int) [] 31 6 [some (x_r (16 * 2 + 0)), some (x_r (16 * 20 + 0)), some (x_i z.1)] [] (al, ro, fl (ml M [2, 20] [z.2.1, z.2.2])) 0 0 (.inl (some (x_i t.1))) (al, ro, fl (ml M [2, 20] [t.2.1, t.2.2]))) (fun q => q = (T6, Lb7)) ?_ xFU (0, T, Lb1) _ hl8 rfl
  intro z t8 hf8 hi8 hx8
  obtain ⟨v3, T4, Lb5⟩ := z
  rw [G5_readInto_L6] at hf8
  show Ev g _ _ _ _ _ _ 6 [some (x_r (16 * 2 + 0)), some (x_r (16 * 20 + 0)), some (x_i v3)] [] (al, ro, fl (ml M [2, 20] [T4, Lb5])) _ _ _ _
  refine e_iloadn (pc := 6) (i := 2) dX5_readInto_6 rfl rfl ?_
  refine e_bipush (pc := 7) dX5_readInto_7 (by decide +kernel) (x_R rfl) ?_
  refine e_icmp_gt (pc := 9) (tgt := 33) dX5_readInto_9 (by decide) (fun hb => ?_) (fun hb => ?_)
  · rw [if_pos hb] at hf8
    cases hf8
    refine e_drop (i := 2) ?_
    exact hk8 _ (hx8 _ rfl)
  · rw [if_neg hb] at hf8
    refine e_aloadn (pc := 12) (i := 0) dX5_readInto_12 rfl rfl ?_
    refine e_iloadn (pc := 13) (i := 2) dX5_readInto_13 rfl rfl ?_
    refine e_bipush (pc := 14) dX5_readInto_14 (by decide +kernel) (x_R rfl) ?_
    obtain ⟨v10, T11, hq11, hf8⟩ := x_bd2 hf8
    refine e_invV (pc := 16) (K1 := 0) (S1 := 0) (K := 0) (S := 0) (dd2 := 3) (av := [x_i v3, x_i 12]) (st := []) (id := 16 * 2 + 0) dX5_readInto_16 xmX5_14 rfl (Or.inl ⟨8, 8, TX10, (sa_2_0 hs), rfl, by decide⟩) (f_cal (M := M) (us2 := [2]) [0] hn rfl (And.intro rfl trivial) rfl rfl rfl (c_X10_startsLine hst hs   hq11)) (by decide) (Nat.le_of_ble_eq_true rfl) (Or.inl rfl) ?_
    show Ev g _ _ _ _ _ _ 19 [some (x_r (16 * 2 + 0)), some (x_r (16 * 20 + 0)), some (x_i v3)] [x_i v10] (al, ro, fl (ml M [2, 20] [T11, Lb5])) _ _ _ _
    refine e_if_eq (pc := 19) (tgt := 33) dX5_readInto_19 (by decide) (fun hb => ?_) (fun hb => ?_)
    · rw [if_pos hb] at hf8
      cases hf8
      refine e_drop (i := 2) ?_
      exact hk8 _ (hx8 _ rfl)
    · rw [if_neg hb] at hf8
      refine e_aloadn (pc := 22) (i := 0) dX5_readInto_22 rfl rfl ?_
      refine e_aloadn (pc := 23) (i := 1) dX5_readInto_23 rfl rfl ?_
      obtain ⟨T13, Lb14, hq14, hf8⟩ := x_bd2 hf8
      refine e_invS (pc := 24) (K1 := 0) (S1 := 0) (K := 0) (S := 0) (dd2 := 30) (av := [x_r (16 * 2 + 0), x_r (16 * 20 + 0)]) (st := []) dX5_readInto_24 xmX5_20 rfl (f_cal (M := M) (us2 := [2, 20]) [0, 1] hn rfl (And.intro rfl (And.intro rfl trivial)) rfl rfl rfl (c_X5_readLine hst hs   hq14)) (by decide) (Nat.le_of_ble_eq_true rfl) (Or.inl rfl) ?_
      show Ev g _ _ _ _ _ _ 27 [some (x_r (16 * 2 + 0)), some (x_r (16 * 20 + 0)), some (x_i v3)] [] (al, ro, fl (ml M [2, 20] [T13, Lb14])) _ _ _ _
      refine e_iinc (pc := 27) dX5_readInto_27 rfl (by decide) rfl ?_
      show Ev g _ _ _ _ _ _ 30 [some (x_r (16 * 2 + 0)), some (x_r (16 * 20 + 0)), some (x_i (x_add v3 1))] [] (al, ro, fl (ml M [2, 20] [T13, Lb14])) _ _ _ _
      refine e_goto (pc := 30) (tgt := 6) dX5_readInto_30 (by decide) ?_
      cases hf8
      exact hi8 _ rfl
set_option maxRecDepth 100000 in
set_option maxHeartbeats 4000000 in
theorem c_X6_told {g : xG} {al : List (Nat × Nat × Nat)} {ro : Nat → Nat → Option Nat} (hst : g.1.stackTraces = false) (hs : SH al ro) {u : Nat} (hu : 3 ≤ u ∧ u ≤ 18) {M : Nat → xU} {a : Int} {b : Int} {C : xU}  {t : Int} (hG : G6_told a b C = some t) :
    Cal g yX6_told cX6_told 4 (some .int) 1 [x_r (16 * u + 3), x_i a, x_i b] (al, ro, fl (ml M [u] [C])) 0 0 (.inl (some (x_i t))) (al, ro, fl (ml M [u] [C])) := by
  have hn : ([u] : List Nat).Nodup := by simp
  refine cal_of_ev (plainFor_of_name (by decide)) (x_c1 rfl) (Nat.le_of_ble_eq_true rfl) hst ?_
  show Ev g _ _ _ _ _ _ 0 [some (x_r (16 * u + 3)), some (x_i a), some (x_i b), none] [] (al, ro, fl (ml M [u] [C])) _ _ _ _
  rw [G6_told] at hG
  refine e_iloadn (pc := 0) (i := 1) dX6_told_0 rfl rfl ?_
  refine e_if_lt (pc := 1) (tgt := 12) dX6_told_1 (by decide) (fun hb => ?_) (fun hb => ?_)
  · rw [if_pos hb] at hG
    refine e_iconst (pc := 12) dX6_told_12 (x_R rfl) ?_
    cases hG
    exact (e_ireturn rfl dX6_told_13 rfl)
  · rw [if_neg hb] at hG
    refine e_iloadn (pc := 4) (i := 1) dX6_told_4 rfl rfl ?_
    refine e_aloadn (pc := 5) (i := 0) dX6_told_5 rfl rfl ?_
    refine f_geti (pc := 6) (k := 0) (u := u) (q := 3) dX6_told_6 xf6_19 (sc_a3 hs hu) rfl hn rfl rfl (by decide) ?_
    show Ev g _ _ _ _ _ _ 9 [some (x_r (16 * u + 3)), some (x_i a), some (x_i b), none] [x_i (C 3 1), x_i a] (al, ro, fl (ml M [u] [C])) _ _ _ _
    refine e_icmp_lt (pc := 9) (tgt := 14) dX6_told_9 (by decide) (fun hb => ?_) (fun hb => ?_)
    · rw [if_pos hb] at hG
      refine e_aloadn (pc := 14) (i := 0) dX6_told_14 rfl rfl ?_
      refine f_getr (pc := 15) (u := u) (q := 3) dX6_told_15 xf6_11 (sc_a3 hs hu) rfl (sc_r3_0 hs hu) ?_
      refine e_aloadn (pc := 18) (i := 0) dX6_told_18 rfl rfl ?_
      refine f_geti (pc := 19) (k := 0) (u := u) (q := 3) dX6_told_19 xf6_23 (sc_a3 hs hu) rfl hn rfl rfl (by decide) ?_
      show Ev g _ _ _ _ _ _ 22 [some (x_r (16 * u + 3)), some (x_i a), some (x_i b), none] [x_i (C 3 2), x_r (16 * u + 4)] (al, ro, fl (ml M [u] [C])) _ _ _ _
      refine e_iconst (pc := 22) dX6_told_22 (x_R rfl) ?_
      refine e_isub (pc := 23) dX6_told_23 ?_
      refine e_iloadn (pc := 24) (i := 1) dX6_told_24 rfl rfl ?_
      refine e_isub (pc := 25) dX6_told_25 ?_
      refine e_bipush (pc := 26) dX6_told_26 (by decide +kernel) (x_R rfl) ?_
      refine e_invS (pc := 28) (K1 := 0) (S1 := 0) (K := 0) (S := 0) (dd2 := 0) (av := [x_i (x_sub (x_sub (C 3 2) 1) a), x_i 60]) (st := [x_r (16 * u + 4)]) dX6_told_28 xmX6_32 rfl (p_floorMod hst hs (by decide)) (by decide) (Nat.le_of_ble_eq_true rfl) (Or.inl rfl) ?_
      show Ev g _ _ _ _ _ _ 31 [some (x_r (16 * u + 3)), some (x_i a), some (x_i b), none] [x_i (x_mod (x_sub (x_sub (C 3 2) 1) a) 60), x_r (16 * u + 4)] (al, ro, fl (ml M [u] [C])) _ _ _ _
      obtain ⟨hc0, hG⟩ := x_gd_some hG
      refine f_iald (pc := 31) (k := 0) (u := u) (q := 4) (len := 60) dX6_told_31 (sc_a4 hs hu) hc0 hn rfl rfl (by decide) ?_
      show Ev g _ _ _ _ _ _ 32 [some (x_r (16 * u + 3)), some (x_i a), some (x_i b), none] [x_i (C 4 ((x_mod (x_sub (x_sub (C 3 2) 1) a) 60)).toNat)] (al, ro, fl (ml M [u] [C])) _ _ _ _
      refine e_istoren (pc := 32) (i := 3) dX6_told_32 rfl (by decide) rfl ?_
      show Ev g _ _ _ _ _ _ 33 [some (x_r (16 * u + 3)), some (x_i a), some (x_i b), some (x_i (C 4 ((x_mod (x_sub (x_sub (C 3 2) 1) a) 60)).toNat))] [] (al, ro, fl (ml M [u] [C])) _ _ _ _
      refine e_iloadn (pc := 33) (i := 2) dX6_told_33 rfl rfl ?_
      by_cases hb0 : b = 0
      · rw [if_pos hb0] at hG
        refine e_tabIn (pc := 34) (tgt := 64) dX6_told_34 (by omega) (by omega) (by rw [hb0]; rfl) (by decide) ?_
        refine e_iloadn (pc := 64) (i := 3) dX6_told_64 rfl rfl ?_
        refine e_bipush (pc := 65) dX6_told_65 (by decide +kernel) (x_R rfl) ?_
        refine e_ishr (pc := 67) dX6_told_67 ?_
        cases hG
        exact (e_ireturn rfl dX6_told_68 rfl)
      rw [if_neg hb0] at hG
      by_cases hb1 : b = 1
      · rw [if_pos hb1] at hG
        refine e_tabIn (pc := 34) (tgt := 69) dX6_told_34 (by omega) (by omega) (by rw [hb1]; rfl) (by decide) ?_
        refine e_iloadn (pc := 69) (i := 3) dX6_told_69 rfl rfl ?_
        refine e_bipush (pc := 70) dX6_told_70 (by decide +kernel) (x_R rfl) ?_
        refine e_ishr (pc := 72) dX6_told_72 ?_
        refine e_bipush (pc := 73) dX6_told_73 (by decide +kernel) (x_R rfl) ?_
        refine e_iand (pc := 75) dX6_told_75 ?_
        cases hG
        exact (e_ireturn rfl dX6_told_76 rfl)
      rw [if_neg hb1] at hG
      by_cases hb2 : b = 2
      · rw [if_pos hb2] at hG
        refine e_tabIn (pc := 34) (tgt := 77) dX6_told_34 (by omega) (by omega) (by rw [hb2]; rfl) (by decide) ?_
        refine e_iloadn (pc := 77) (i := 3) dX6_told_77 rfl rfl ?_
        refine e_bipush (pc := 78) dX6_told_78 (by decide +kernel) (x_R rfl) ?_
        refine e_ishr (pc := 80) dX6_told_80 ?_
        refine e_iconst (pc := 81) dX6_told_81 (x_R rfl) ?_
        refine e_iand (pc := 82) dX6_told_82 ?_
        cases hG
        exact (e_ireturn rfl dX6_told_83 rfl)
      rw [if_neg hb2] at hG
      by_cases hb3 : b = 3
      · rw [if_pos hb3] at hG
        refine e_tabIn (pc := 34) (tgt := 84) dX6_told_34 (by omega) (by omega) (by rw [hb3]; rfl) (by decide) ?_
        refine e_iloadn (pc := 84) (i := 3) dX6_told_84 rfl rfl ?_
        refine e_iconst (pc := 85) dX6_told_85 (x_R rfl) ?_
        refine e_ishr (pc := 86) dX6_told_86 ?_
        refine e_bipush (pc := 87) dX6_told_87 (by decide +kernel) (x_R rfl) ?_
        refine e_iand (pc := 89) dX6_told_89 ?_
        cases hG
        exact (e_ireturn rfl dX6_told_90 rfl)
      rw [if_neg hb3] at hG
      refine e_tabOut (pc := 34) (tgt := 91) dX6_told_34 (by omega) (by decide) ?_
      refine e_iloadn (pc := 91) (i := 3) dX6_told_91 rfl rfl ?_
      refine e_bipush (pc := 92) dX6_told_92 (by decide +kernel) (x_R rfl) ?_
      refine e_iand (pc := 94) dX6_told_94 ?_
      cases hG
      exact (e_ireturn rfl dX6_told_95 rfl)
    · rw [if_neg hb] at hG
      refine e_iconst (pc := 12) dX6_told_12 (x_R rfl) ?_
      cases hG
      exact (e_ireturn rfl dX6_told_13 rfl)
set_option maxRecDepth 100000 in
set_option maxHeartbeats 4000000 in
theorem c_X6_rowsOf {g : xG} {al : List (Nat × Nat × Nat)} {ro : Nat → Nat → Option Nat} (hst : g.1.stackTraces = false) (hs : SH al ro) {u : Nat} (hu : 3 ≤ u ∧ u ≤ 18) {M : Nat → xU} {a : Int} {C : xU}  {t : Int} (hG : G6_rowsOf a C = some t) :
    Cal g yX6_rowsOf cX6_rowsOf 4 (some .int) 2 [x_r (16 * u + 3), x_i a] (al, ro, fl (ml M [u] [C])) 0 0 (.inl (some (x_i t))) (al, ro, fl (ml M [u] [C])) := by
  have hn : ([u] : List Nat).Nodup := by simp
  refine cal_of_ev (plainFor_of_name (by decide)) (x_c1 rfl) (Nat.le_of_ble_eq_true rfl) hst ?_
  show Ev g _ _ _ _ _ _ 0 [some (x_r (16 * u + 3)), some (x_i a), none, none] [] (al, ro, fl (ml M [u] [C])) _ _ _ _
  rw [G6_rowsOf] at hG
  refine e_iconst (pc := 0) dX6_rowsOf_0 (x_R rfl) ?_
  refine e_istoren (pc := 1) (i := 2) dX6_rowsOf_1 rfl (by decide) rfl ?_
  show Ev g _ _ _ _ _ _ 2 [some (x_r (16 * u + 3)), some (x_i a), some (x_i 0), none] [] (al, ro, fl (ml M [u] [C])) _ _ _ _
  refine e_iconst (pc := 2) dX6_rowsOf_2 (x_R rfl) ?_
  refine e_istoren (pc := 3) (i := 3) dX6_rowsOf_3 rfl (by decide) rfl ?_
  show Ev g _ _ _ _ _ _ 4 [some (x_r (16 * u + 3)), some (x_i a), some (x_i 0), some (x_i 0)] [] (al, ro, fl (ml M [u] [C])) _ _ _ _
  obtain ⟨v3, hl4, hG⟩ := x_bd1 hG
  have hk4 : ∀ q : Int, q = v3 → Ev g yX6_rowsOf cX6_rowsOf 4 (some .int) [] 2 31 [some (x_r (16 * u + 3)), some (x_i a), some (x_i q), none] [] (al, ro, fl (ml M [u] [C])) 0 0 (.inl (some (x_i t))) (al, ro, fl (ml M [u] [C])) := by
    intro q hq
    replace hq := hq.symm
    subst hq
    refine e_iloadn (pc := 31) (i := 2) dX6_rowsOf_31 rfl rfl ?_
    cases hG
    exact (e_ireturn rfl dX6_rowsOf_32 rfl)
  clear hG
  refine e_whl (G6_rowsOf_L4 a C) (fun z : (Int × Int) => Ev g yX6_rowsOf cX6_rowsOf 4 (some .int) [] 2 4 [some (x_r (16 * u + 3)), some (x_i a), some (x_i z.1), some (x_i z.2)] [] (al, ro, fl (ml M [u] [C])) 0 0 (.inl (some (x_i t))) (al, ro, fl (ml M [u] [C]))) (fun q => q = v3) ?_ xFU (0, 0) _ hl4 rfl
  intro z t4 hf4 hi4 hx4
  obtain ⟨v1, v2⟩ := z
  rw [G6_rowsOf_L4] at hf4
  show Ev g _ _ _ _ _ _ 4 [some (x_r (16 * u + 3)), some (x_i a), some (x_i v1), some (x_i v2)] [] (al, ro, fl (ml M [u] [C])) _ _ _ _
  refine e_iloadn (pc := 4) (i := 3) dX6_rowsOf_4 rfl rfl ?_
  refine e_aloadn (pc := 5) (i := 0) dX6_rowsOf_5 rfl rfl ?_
  refine f_geti (pc := 6) (k := 0) (u := u) (q := 3) dX6_rowsOf_6 xf6_19 (sc_a3 hs hu) rfl hn rfl rfl (by decide) ?_
  show Ev g _ _ _ _ _ _ 9 [some (x_r (16 * u + 3)), some (x_i a), some (x_i v1), some (x_i v2)] [x_i (C 3 1), x_i v2] (al, ro, fl (ml M [u] [C])) _ _ _ _
  refine e_icmp_ge (pc := 9) (tgt := 31) dX6_rowsOf_9 (by decide) (fun hb => ?_) (fun hb => ?_)
  · rw [if_pos hb] at hf4
    cases hf4
    refine e_drop (i := 3) ?_
    exact hk4 _ (hx4 _ rfl)
  · rw [if_neg hb] at hf4
    refine e_aloadn (pc := 12) (i := 0) dX6_rowsOf_12 rfl rfl ?_
    refine e_iloadn (pc := 13) (i := 3) dX6_rowsOf_13 rfl rfl ?_
    refine e_iconst (pc := 14) dX6_rowsOf_14 (x_R rfl) ?_
    obtain ⟨v6, hq6, hf4⟩ := x_bd1 hf4
    refine e_invV (pc := 15) (K1 := 0) (S1 := 0) (K := 0) (S := 0) (dd2 := 1) (av := [x_i v2, x_i 3]) (st := []) (id := 16 * u + 3) dX6_rowsOf_15 xmX6_35 rfl (Or.inl ⟨4, 3, TX6, (sc_a3 hs hu), rfl, by decide⟩) (f_cal (M := M) (us2 := [u]) [0] hn rfl (And.intro rfl trivial) rfl rfl rfl (c_X6_told hst hs hu  hq6)) (by decide) (Nat.le_of_ble_eq_true rfl) (Or.inl rfl) ?_
    show Ev g _ _ _ _ _ _ 18 [some (x_r (16 * u + 3)), some (x_i a), some (x_i v1), some (x_i v2)] [x_i v6] (al, ro, fl (ml M [u] [C])) _ _ _ _
    refine e_iloadn (pc := 18) (i := 1) dX6_rowsOf_18 rfl rfl ?_
    obtain ⟨v8, hr8, hf4⟩ := x_bd1 hf4
    have hjhr8 : Ev g yX6_rowsOf cX6_rowsOf 4 (some .int) [] 2 25 [some (x_r (16 * u + 3)), some (x_i a), some (x_i v8), some (x_i v2)] [] (al, ro, fl (ml M [u] [C])) 0 0 (.inl (some (x_i t))) (al, ro, fl (ml M [u] [C])) := by
      refine e_iinc (pc := 25) dX6_rowsOf_25 rfl (by decide) rfl ?_
      show Ev g _ _ _ _ _ _ 28 [some (x_r (16 * u + 3)), some (x_i a), some (x_i v8), some (x_i (x_add v2 1))] [] (al, ro, fl (ml M [u] [C])) _ _ _ _
      refine e_goto (pc := 28) (tgt := 4) dX6_rowsOf_28 (by decide) ?_
      cases hf4
      exact hi4 _ rfl
    clear hf4
    refine e_icmp_ne (pc := 19) (tgt := 25) dX6_rowsOf_19 (by decide) (fun hb => ?_) (fun hb => ?_)
    · rw [if_neg hb] at hr8
      cases hr8
      exact hjhr8
    · rw [if_pos hb] at hr8
      refine e_iinc (pc := 22) dX6_rowsOf_22 rfl (by decide) rfl ?_
      show Ev g _ _ _ _ _ _ 25 [some (x_r (16 * u + 3)), some (x_i a), some (x_i (x_add v1 1)), some (x_i v2)] [] (al, ro, fl (ml M [u] [C])) _ _ _ _
      cases hr8
      exact hjhr8
set_option maxRecDepth 100000 in
set_option maxHeartbeats 4000000 in
theorem c_X6_latestFlagOf {g : xG} {al : List (Nat × Nat × Nat)} {ro : Nat → Nat → Option Nat} (hst : g.1.stackTraces = false) (hs : SH al ro) {u : Nat} (hu : 3 ≤ u ∧ u ≤ 18) {M : Nat → xU} {a : Int} {C : xU}  {t : Int} (hG : G6_latestFlagOf a C = some t) :
    Cal g yX6_latestFlagOf cX6_latestFlagOf 3 (some .int) 2 [x_r (16 * u + 3), x_i a] (al, ro, fl (ml M [u] [C])) 0 0 (.inl (some (x_i t))) (al, ro, fl (ml M [u] [C])) := by
  have hn : ([u] : List Nat).Nodup := by simp
  refine cal_of_ev (plainFor_of_name (by decide)) (x_c1 rfl) (Nat.le_of_ble_eq_true rfl) hst ?_
  show Ev g _ _ _ _ _ _ 0 [some (x_r (16 * u + 3)), some (x_i a), none] [] (al, ro, fl (ml M [u] [C])) _ _ _ _
  rw [G6_latestFlagOf] at hG
  refine e_iconst (pc := 0) dX6_latestFlagOf_0 (x_R rfl) ?_
  refine e_istoren (pc := 1) (i := 2) dX6_latestFlagOf_1 rfl (by decide) rfl ?_
  show Ev g _ _ _ _ _ _ 2 [some (x_r (16 * u + 3)), some (x_i a), some (x_i 0)] [] (al, ro, fl (ml M [u] [C])) _ _ _ _
  obtain ⟨r2, hl2, hG⟩ := x_lrd hG
  have hk2 : ∀ q : Unit, r2 = .inl q → Ev g yX6_latestFlagOf cX6_latestFlagOf 3 (some .int) [] 2 33 [some (x_r (16 * u + 3)), some (x_i a), none] [] (al, ro, fl (ml M [u] [C])) 0 0 (.inl (some (x_i t))) (al, ro, fl (ml M [u] [C])) := by
    intro q hq
    subst hq
    replace hG := x_lr_l hG
    replace hG := x_ed1 hG
    refine e_iconst (pc := 33) dX6_latestFlagOf_33 (x_R rfl) ?_
    cases hG
    exact (e_ireturn rfl dX6_latestFlagOf_34 rfl)
  have hv2 : ∀ q : Int, r2 = .inr q → some q = some t := by
    intro q hq
    subst hq
    exact x_lr_r hG
  clear hG
  refine e_whl (G6_latestFlagOf_L2 a C) (fun z : Int => Ev g yX6_latestFlagOf cX6_latestFlagOf 3 (some .int) [] 2 2 [some (x_r (16 * u + 3)), some (x_i a), some (x_i z)] [] (al, ro, fl (ml M [u] [C])) 0 0 (.inl (some (x_i t))) (al, ro, fl (ml M [u] [C]))) (fun q => q = r2) ?_ xFU 0 _ hl2 rfl
  intro z t2 hf2 hi2 hx2
  obtain ⟨v1, hzz⟩ : ∃ y, y = z := ⟨z, rfl⟩
  subst hzz
  rw [G6_latestFlagOf_L2] at hf2
  show Ev g _ _ _ _ _ _ 2 [some (x_r (16 * u + 3)), some (x_i a), some (x_i v1)] [] (al, ro, fl (ml M [u] [C])) _ _ _ _
  refine e_iloadn (pc := 2) (i := 2) dX6_latestFlagOf_2 rfl rfl ?_
  refine e_aloadn (pc := 3) (i := 0) dX6_latestFlagOf_3 rfl rfl ?_
  refine f_geti (pc := 4) (k := 0) (u := u) (q := 3) dX6_latestFlagOf_4 xf6_19 (sc_a3 hs hu) rfl hn rfl rfl (by decide) ?_
  show Ev g _ _ _ _ _ _ 7 [some (x_r (16 * u + 3)), some (x_i a), some (x_i v1)] [x_i (C 3 1), x_i v1] (al, ro, fl (ml M [u] [C])) _ _ _ _
  refine e_icmp_ge (pc := 7) (tgt := 33) dX6_latestFlagOf_7 (by decide) (fun hb => ?_) (fun hb => ?_)
  · rw [if_pos hb] at hf2
    cases hf2
    refine e_drop (i := 2) ?_
    exact hk2 _ (hx2 _ rfl).symm
  · rw [if_neg hb] at hf2
    refine e_aloadn (pc := 10) (i := 0) dX6_latestFlagOf_10 rfl rfl ?_
    refine e_iloadn (pc := 11) (i := 2) dX6_latestFlagOf_11 rfl rfl ?_
    refine e_iconst (pc := 12) dX6_latestFlagOf_12 (x_R rfl) ?_
    obtain ⟨v4, hq4, hf2⟩ := x_bd1 hf2
    refine e_invV (pc := 13) (K1 := 0) (S1 := 0) (K := 0) (S := 0) (dd2 := 1) (av := [x_i v1, x_i 3]) (st := []) (id := 16 * u + 3) dX6_latestFlagOf_13 xmX6_35 rfl (Or.inl ⟨4, 3, TX6, (sc_a3 hs hu), rfl, by decide⟩) (f_cal (M := M) (us2 := [u]) [0] hn rfl (And.intro rfl trivial) rfl rfl rfl (c_X6_told hst hs hu  hq4)) (by decide) (Nat.le_of_ble_eq_true rfl) (Or.inl rfl) ?_
    show Ev g _ _ _ _ _ _ 16 [some (x_r (16 * u + 3)), some (x_i a), some (x_i v1)] [x_i v4] (al, ro, fl (ml M [u] [C])) _ _ _ _
    refine e_iloadn (pc := 16) (i := 1) dX6_latestFlagOf_16 rfl rfl ?_
    refine e_icmp_ne (pc := 17) (tgt := 27) dX6_latestFlagOf_17 (by decide) (fun hb => ?_) (fun hb => ?_)
    · rw [if_neg hb] at hf2
      refine e_iinc (pc := 27) dX6_latestFlagOf_27 rfl (by decide) rfl ?_
      show Ev g _ _ _ _ _ _ 30 [some (x_r (16 * u + 3)), some (x_i a), some (x_i (x_add v1 1))] [] (al, ro, fl (ml M [u] [C])) _ _ _ _
      refine e_goto (pc := 30) (tgt := 2) dX6_latestFlagOf_30 (by decide) ?_
      cases hf2
      exact hi2 _ rfl
    · rw [if_pos hb] at hf2
      refine e_aloadn (pc := 20) (i := 0) dX6_latestFlagOf_20 rfl rfl ?_
      refine e_iloadn (pc := 21) (i := 2) dX6_latestFlagOf_21 rfl rfl ?_
      refine e_iconst (pc := 22) dX6_latestFlagOf_22 (x_R rfl) ?_
      obtain ⟨v6, hq6, hf2⟩ := x_bd1 hf2
      refine e_invV (pc := 23) (K1 := 0) (S1 := 0) (K := 0) (S := 0) (dd2 := 1) (av := [x_i v1, x_i 4]) (st := []) (id := 16 * u + 3) dX6_latestFlagOf_23 xmX6_35 rfl (Or.inl ⟨4, 3, TX6, (sc_a3 hs hu), rfl, by decide⟩) (f_cal (M := M) (us2 := [u]) [0] hn rfl (And.intro rfl trivial) rfl rfl rfl (c_X6_told hst hs hu  hq6)) (by decide) (Nat.le_of_ble_eq_true rfl) (Or.inl rfl) ?_
      show Ev g _ _ _ _ _ _ 26 [some (x_r (16 * u + 3)), some (x_i a), some (x_i v1)] [x_i v6] (al, ro, fl (ml M [u] [C])) _ _ _ _
      cases hf2
      have hz := hv2 _ (hx2 _ rfl).symm
      cases hz
      exact (e_ireturn rfl dX6_latestFlagOf_26 rfl)
set_option maxRecDepth 100000 in
set_option maxHeartbeats 4000000 in
theorem c_X7_answerOf {g : xG} {al : List (Nat × Nat × Nat)} {ro : Nat → Nat → Option Nat} (hst : g.1.stackTraces = false) (hs : SH al ro) {M : Nat → xU} {a : Int} {b : Int} {Ri : xU}  {t : Int} (hG : G7_answerOf a b Ri = some t) :
    Cal g yX7_answerOf cX7_answerOf 3 (some .int) 0 [x_r (16 * 24 + 0), x_i a, x_i b] (al, ro, fl (ml M [24] [Ri])) 0 0 (.inl (some (x_i t))) (al, ro, fl (ml M [24] [Ri])) := by
  have hn : ([24] : List Nat).Nodup := by decide
  refine cal_of_ev (plainFor_of_name (by decide)) (x_c1 rfl) (Nat.le_of_ble_eq_true rfl) hst ?_
  show Ev g _ _ _ _ _ _ 0 [some (x_r (16 * 24 + 0)), some (x_i a), some (x_i b)] [] (al, ro, fl (ml M [24] [Ri])) _ _ _ _
  rw [G7_answerOf] at hG
  refine e_aloadn (pc := 0) (i := 0) dX7_answerOf_0 rfl rfl ?_
  refine f_geti (pc := 1) (k := 0) (u := 24) (q := 0) dX7_answerOf_1 xf7_22 (sa_24_0 hs) rfl hn rfl rfl (by decide) ?_
  show Ev g _ _ _ _ _ _ 4 [some (x_r (16 * 24 + 0)), some (x_i a), some (x_i b)] [x_i (Ri 0 4)] (al, ro, fl (ml M [24] [Ri])) _ _ _ _
  refine e_if_eq (pc := 4) (tgt := 34) dX7_answerOf_4 (by decide) (fun hb => ?_) (fun hb => ?_)
  · rw [if_pos hb] at hG
    refine e_iloadn (pc := 34) (i := 1) dX7_answerOf_34 rfl rfl ?_
    refine e_iconst (pc := 35) dX7_answerOf_35 (x_R rfl) ?_
    refine e_idiv (pc := 36) dX7_answerOf_36 (by decide) ?_
    refine e_iloadn (pc := 37) (i := 2) dX7_answerOf_37 rfl rfl ?_
    refine e_imul (pc := 38) dX7_answerOf_38 ?_
    refine e_iloadn (pc := 39) (i := 1) dX7_answerOf_39 rfl rfl ?_
    refine e_iconst (pc := 40) dX7_answerOf_40 (x_R rfl) ?_
    refine e_irem (pc := 41) dX7_answerOf_41 (by decide) ?_
    refine e_iadd (pc := 42) dX7_answerOf_42 ?_
    refine e_iconst (pc := 43) dX7_answerOf_43 (x_R rfl) ?_
    refine e_irem (pc := 44) dX7_answerOf_44 (by decide) ?_
    cases hG
    exact (e_ireturn rfl dX7_answerOf_45 rfl)
  · rw [if_neg hb] at hG
    refine e_iloadn (pc := 7) (i := 1) dX7_answerOf_7 rfl rfl ?_
    refine e_bipush (pc := 8) dX7_answerOf_8 (by decide +kernel) (x_R rfl) ?_
    refine e_idiv (pc := 10) dX7_answerOf_10 (by decide) ?_
    refine e_iloadn (pc := 11) (i := 2) dX7_answerOf_11 rfl rfl ?_
    refine e_iloadn (pc := 12) (i := 1) dX7_answerOf_12 rfl rfl ?_
    refine e_bipush (pc := 13) dX7_answerOf_13 (by decide +kernel) (x_R rfl) ?_
    refine e_irem (pc := 15) dX7_answerOf_15 (by decide) ?_
    refine e_imul (pc := 16) dX7_answerOf_16 ?_
    refine e_iadd (pc := 17) dX7_answerOf_17 ?_
    refine e_bipush (pc := 18) dX7_answerOf_18 (by decide +kernel) (x_R rfl) ?_
    refine e_irem (pc := 20) dX7_answerOf_20 (by decide) ?_
    refine e_aloadn (pc := 21) (i := 0) dX7_answerOf_21 rfl rfl ?_
    refine f_geti (pc := 22) (k := 0) (u := 24) (q := 0) dX7_answerOf_22 xf7_26 (sa_24_0 hs) rfl hn rfl rfl (by decide) ?_
    show Ev g _ _ _ _ _ _ 25 [some (x_r (16 * 24 + 0)), some (x_i a), some (x_i b)] [x_i (Ri 0 5), x_i (x_rem (x_add (x_div a 9) (x_mul b (x_rem a 9))) 16)] (al, ro, fl (ml M [24] [Ri])) _ _ _ _
    obtain ⟨v1, hr1, hG⟩ := x_bd1 hG
    have hjhr1 : Ev g yX7_answerOf cX7_answerOf 3 (some .int) [] 0 33 [some (x_r (16 * 24 + 0)), some (x_i a), some (x_i b)] [x_i v1] (al, ro, fl (ml M [24] [Ri])) 0 0 (.inl (some (x_i t))) (al, ro, fl (ml M [24] [Ri])) := by
      cases hG
      exact (e_ireturn rfl dX7_answerOf_33 rfl)
    clear hG
    refine e_icmp_ne (pc := 25) (tgt := 32) dX7_answerOf_25 (by decide) (fun hb => ?_) (fun hb => ?_)
    · rw [if_neg hb] at hr1
      refine e_iconst (pc := 32) dX7_answerOf_32 (x_R rfl) ?_
      cases hr1
      exact hjhr1
    · rw [if_pos hb] at hr1
      refine e_iconst (pc := 28) dX7_answerOf_28 (x_R rfl) ?_
      refine e_goto (pc := 29) (tgt := 33) dX7_answerOf_29 (by decide) ?_
      cases hr1
      exact hjhr1
set_option maxRecDepth 100000 in
set_option maxHeartbeats 4000000 in
theorem c_X7_doesFit {g : xG} {al : List (Nat × Nat × Nat)} {ro : Nat → Nat → Option Nat} (hst : g.1.stackTraces = false) (hs : SH al ro) {M : Nat → xU} {a : Int} {Ri : xU}  {t : Int} (hG : G7_doesFit a Ri = some t) :
    Cal g yX7_doesFit cX7_doesFit 3 (some .boolean) 1 [x_r (16 * 24 + 0), x_i a] (al, ro, fl (ml M [24] [Ri])) 0 0 (.inl (some (x_i t))) (al, ro, fl (ml M [24] [Ri])) := by
  have hn : ([24] : List Nat).Nodup := by decide
  refine cal_of_ev (plainFor_of_name (by decide)) (x_c1 rfl) (Nat.le_of_ble_eq_true rfl) hst ?_
  show Ev g _ _ _ _ _ _ 0 [some (x_r (16 * 24 + 0)), some (x_i a), none] [] (al, ro, fl (ml M [24] [Ri])) _ _ _ _
  rw [G7_doesFit] at hG
  refine e_iconst (pc := 0) dX7_doesFit_0 (x_R rfl) ?_
  refine e_istoren (pc := 1) (i := 2) dX7_doesFit_1 rfl (by decide) rfl ?_
  show Ev g _ _ _ _ _ _ 2 [some (x_r (16 * 24 + 0)), some (x_i a), some (x_i 0)] [] (al, ro, fl (ml M [24] [Ri])) _ _ _ _
  obtain ⟨r2, hl2, hG⟩ := x_lrd hG
  have hk2 : ∀ q : Unit, r2 = .inl q → Ev g yX7_doesFit cX7_doesFit 3 (some .boolean) [] 1 50 [some (x_r (16 * 24 + 0)), some (x_i a), none] [] (al, ro, fl (ml M [24] [Ri])) 0 0 (.inl (some (x_i t))) (al, ro, fl (ml M [24] [Ri])) := by
    intro q hq
    subst hq
    replace hG := x_lr_l hG
    replace hG := x_ed1 hG
    refine e_iconst (pc := 50) dX7_doesFit_50 (x_R rfl) ?_
    cases hG
    exact (e_ireturn rfl dX7_doesFit_51 (x_bool (by decide)).1)
  have hv2 : ∀ q : Int, r2 = .inr q → some q = some t := by
    intro q hq
    subst hq
    exact x_lr_r hG
  clear hG
  refine e_whl (G7_doesFit_L2 a Ri) (fun z : Int => Ev g yX7_doesFit cX7_doesFit 3 (some .boolean) [] 1 2 [some (x_r (16 * 24 + 0)), some (x_i a), some (x_i z)] [] (al, ro, fl (ml M [24] [Ri])) 0 0 (.inl (some (x_i t))) (al, ro, fl (ml M [24] [Ri]))) (fun q => q = r2) ?_ xFU 0 _ hl2 rfl
  intro z t2 hf2 hi2 hx2
  obtain ⟨v1, hzz⟩ : ∃ y, y = z := ⟨z, rfl⟩
  subst hzz
  rw [G7_doesFit_L2] at hf2
  show Ev g _ _ _ _ _ _ 2 [some (x_r (16 * 24 + 0)), some (x_i a), some (x_i v1)] [] (al, ro, fl (ml M [24] [Ri])) _ _ _ _
  refine e_iloadn (pc := 2) (i := 2) dX7_doesFit_2 rfl rfl ?_
  refine e_iconst (pc := 3) dX7_doesFit_3 (x_R rfl) ?_
  refine e_iadd (pc := 4) dX7_doesFit_4 ?_
  refine e_aloadn (pc := 5) (i := 0) dX7_doesFit_5 rfl rfl ?_
  refine f_geti (pc := 6) (k := 0) (u := 24) (q := 0) dX7_doesFit_6 xf7_37 (sa_24_0 hs) rfl hn rfl rfl (by decide) ?_
  show Ev g _ _ _ _ _ _ 9 [some (x_r (16 * 24 + 0)), some (x_i a), some (x_i v1)] [x_i (Ri 0 3), x_i (x_add v1 1)] (al, ro, fl (ml M [24] [Ri])) _ _ _ _
  refine e_icmp_ge (pc := 9) (tgt := 50) dX7_doesFit_9 (by decide) (fun hb => ?_) (fun hb => ?_)
  · rw [if_pos hb] at hf2
    cases hf2
    refine e_drop (i := 2) ?_
    exact hk2 _ (hx2 _ rfl).symm
  · rw [if_neg hb] at hf2
    refine e_iloadn (pc := 12) (i := 2) dX7_doesFit_12 rfl rfl ?_
    refine e_iconst (pc := 13) dX7_doesFit_13 (x_R rfl) ?_
    refine e_iadd (pc := 14) dX7_doesFit_14 ?_
    refine e_bipush (pc := 15) dX7_doesFit_15 (by decide +kernel) (x_R rfl) ?_
    refine e_icmp_ge (pc := 17) (tgt := 50) dX7_doesFit_17 (by decide) (fun hb => ?_) (fun hb => ?_)
    · rw [if_pos hb] at hf2
      cases hf2
      refine e_drop (i := 2) ?_
      exact hk2 _ (hx2 _ rfl).symm
    · rw [if_neg hb] at hf2
      refine e_aloadn (pc := 20) (i := 0) dX7_doesFit_20 rfl rfl ?_
      refine e_iloadn (pc := 21) (i := 1) dX7_doesFit_21 rfl rfl ?_
      refine e_aloadn (pc := 22) (i := 0) dX7_doesFit_22 rfl rfl ?_
      refine f_getr (pc := 23) (u := 24) (q := 0) dX7_doesFit_23 xf7_11 (sa_24_0 hs) rfl (sr_24_0_0 hs) ?_
      refine e_iloadn (pc := 26) (i := 2) dX7_doesFit_26 rfl rfl ?_
      obtain ⟨hc0, hf2⟩ := x_gd_some hf2
      refine f_iald (pc := 27) (k := 0) (u := 24) (q := 1) (len := 40) dX7_doesFit_27 (sa_24_1 hs) hc0 hn rfl rfl (by decide) ?_
      show Ev g _ _ _ _ _ _ 28 [some (x_r (16 * 24 + 0)), some (x_i a), some (x_i v1)] [x_i (Ri 1 (v1).toNat), x_i a, x_r (16 * 24 + 0)] (al, ro, fl (ml M [24] [Ri])) _ _ _ _
      obtain ⟨v4, hq4, hf2⟩ := x_bd1 hf2
      refine e_invV (pc := 28) (K1 := 0) (S1 := 0) (K := 0) (S := 0) (dd2 := 0) (av := [x_i a, x_i (Ri 1 (v1).toNat)]) (st := []) (id := 16 * 24 + 0) dX7_doesFit_28 xmX7_57 rfl (Or.inl ⟨5, 8, TX7, (sa_24_0 hs), rfl, by decide⟩) (f_cal (M := M) (us2 := [24]) [0] hn rfl (And.intro rfl trivial) rfl rfl rfl (c_X7_answerOf hst hs   hq4)) (by decide) (Nat.le_of_ble_eq_true rfl) (Or.inl rfl) ?_
      show Ev g _ _ _ _ _ _ 31 [some (x_r (16 * 24 + 0)), some (x_i a), some (x_i v1)] [x_i v4] (al, ro, fl (ml M [24] [Ri])) _ _ _ _
      refine e_aloadn (pc := 31) (i := 0) dX7_doesFit_31 rfl rfl ?_
      refine f_getr (pc := 32) (u := 24) (q := 0) dX7_doesFit_32 xf7_11 (sa_24_0 hs) rfl (sr_24_0_0 hs) ?_
      refine e_iloadn (pc := 35) (i := 2) dX7_doesFit_35 rfl rfl ?_
      refine e_iconst (pc := 36) dX7_doesFit_36 (x_R rfl) ?_
      refine e_iadd (pc := 37) dX7_doesFit_37 ?_
      obtain ⟨hc0, hf2⟩ := x_gd_some hf2
      refine f_iald (pc := 38) (k := 0) (u := 24) (q := 1) (len := 40) dX7_doesFit_38 (sa_24_1 hs) hc0 hn rfl rfl (by decide) ?_
      show Ev g _ _ _ _ _ _ 39 [some (x_r (16 * 24 + 0)), some (x_i a), some (x_i v1)] [x_i (Ri 1 ((x_add v1 1)).toNat), x_i v4] (al, ro, fl (ml M [24] [Ri])) _ _ _ _
      refine e_icmp_eq (pc := 39) (tgt := 44) dX7_doesFit_39 (by decide) (fun hb => ?_) (fun hb => ?_)
      · rw [if_pos hb] at hf2
        refine e_iinc (pc := 44) dX7_doesFit_44 rfl (by decide) rfl ?_
        show Ev g _ _ _ _ _ _ 47 [some (x_r (16 * 24 + 0)), some (x_i a), some (x_i (x_add v1 2))] [] (al, ro, fl (ml M [24] [Ri])) _ _ _ _
        refine e_goto (pc := 47) (tgt := 2) dX7_doesFit_47 (by decide) ?_
        cases hf2
        exact hi2 _ rfl
      · rw [if_neg hb] at hf2
        refine e_iconst (pc := 42) dX7_doesFit_42 (x_R rfl) ?_
        cases hf2
        have hz := hv2 _ (hx2 _ rfl).symm
        cases hz
        exact (e_ireturn rfl dX7_doesFit_43 (x_bool (by decide)).1)
set_option maxRecDepth 100000 in
set_option maxHeartbeats 4000000 in
theorem c_X7_findFitting {g : xG} {al : List (Nat × Nat × Nat)} {ro : Nat → Nat → Option Nat} (hst : g.1.stackTraces = false) (hs : SH al ro) {M : Nat → xU} {Ri : xU}  {t : xU} (hG : G7_findFitting Ri = some t) :
    Cal g yX7_findFitting cX7_findFitting 2 none 2 [x_r (16 * 24 + 0)] (al, ro, fl (ml M [24] [Ri])) 0 0 (.inl none) (al, ro, fl (ml M [24] [t])) := by
  have hn : ([24] : List Nat).Nodup := by decide
  refine cal_of_ev (plainFor_of_name (by decide)) (x_c1 rfl) (Nat.le_of_ble_eq_true rfl) hst ?_
  show Ev g _ _ _ _ _ _ 0 [some (x_r (16 * 24 + 0)), none] [] (al, ro, fl (ml M [24] [Ri])) _ _ _ _
  rw [G7_findFitting] at hG
  refine e_aloadn (pc := 0) (i := 0) dX7_findFitting_0 rfl rfl ?_
  refine e_iconst (pc := 1) dX7_findFitting_1 (x_R rfl) ?_
  refine f_puti (pc := 2) (k := 0) (u := 24) (q := 0) dX7_findFitting_2 xf7_50 xw5_7 (sa_24_0 hs) hn rfl rfl rfl (by decide) ?_
  show Ev g _ _ _ _ _ _ 5 [some (x_r (16 * 24 + 0)), none] [] (al, ro, fl (ml M [24] [(x_up Ri 0 7 0)])) _ _ _ _
  refine e_iconst (pc := 5) dX7_findFitting_5 (x_R rfl) ?_
  refine e_istoren (pc := 6) (i := 1) dX7_findFitting_6 rfl (by decide) rfl ?_
  show Ev g _ _ _ _ _ _ 7 [some (x_r (16 * 24 + 0)), some (x_i 0)] [] (al, ro, fl (ml M [24] [(x_up Ri 0 7 0)])) _ _ _ _
  obtain ⟨Ri3, hl4, hG⟩ := x_bd1 hG
  have hk4 : ∀ q : xU, q = Ri3 → Ev g yX7_findFitting cX7_findFitting 2 none [] 2 58 [some (x_r (16 * 24 + 0)), none] [] (al, ro, fl (ml M [24] [q])) 0 0 (.inl none) (al, ro, fl (ml M [24] [t])) := by
    intro q hq
    replace hq := hq.symm
    subst hq
    cases hG
    exact (e_return rfl dX7_findFitting_58)
  clear hG
  refine e_whl G7_findFitting_L7 (fun z : (Int × xU) => Ev g yX7_findFitting cX7_findFitting 2 none [] 2 7 [some (x_r (16 * 24 + 0)), some (x_i z.1)] [] (al, ro, fl (ml M [24] [z.2])) 0 0 (.inl none) (al, ro, fl (ml M [24] [t]))) (fun q => q = Ri3) ?_ xFU (0, (x_up Ri 0 7 0)) _ hl4 rfl
  intro z t4 hf4 hi4 hx4
  obtain ⟨v1, Ri2⟩ := z
  rw [G7_findFitting_L7] at hf4
  show Ev g _ _ _ _ _ _ 7 [some (x_r (16 * 24 + 0)), some (x_i v1)] [] (al, ro, fl (ml M [24] [Ri2])) _ _ _ _
  refine e_iloadn (pc := 7) (i := 1) dX7_findFitting_7 rfl rfl ?_
  refine e_aloadn (pc := 8) (i := 0) dX7_findFitting_8 rfl rfl ?_
  refine f_geti (pc := 9) (k := 0) (u := 24) (q := 0) dX7_findFitting_9 xf7_30 (sa_24_0 hs) rfl hn rfl rfl (by decide) ?_
  show Ev g _ _ _ _ _ _ 12 [some (x_r (16 * 24 + 0)), some (x_i v1)] [x_i (Ri2 0 6), x_i v1] (al, ro, fl (ml M [24] [Ri2])) _ _ _ _
  refine e_icmp_ge (pc := 12) (tgt := 58) dX7_findFitting_12 (by decide) (fun hb => ?_) (fun hb => ?_)
  · rw [if_pos hb] at hf4
    cases hf4
    refine e_drop (i := 1) ?_
    exact hk4 _ (hx4 _ rfl)
  · rw [if_neg hb] at hf4
    refine e_iloadn (pc := 15) (i := 1) dX7_findFitting_15 rfl rfl ?_
    refine e_sipush (pc := 16) dX7_findFitting_16 (by decide +kernel) (x_R rfl) ?_
    refine e_icmp_ge (pc := 19) (tgt := 58) dX7_findFitting_19 (by decide) (fun hb => ?_) (fun hb => ?_)
    · rw [if_pos hb] at hf4
      cases hf4
      refine e_drop (i := 1) ?_
      exact hk4 _ (hx4 _ rfl)
    · rw [if_neg hb] at hf4
      refine e_aloadn (pc := 22) (i := 0) dX7_findFitting_22 rfl rfl ?_
      refine f_getr (pc := 23) (u := 24) (q := 0) dX7_findFitting_23 xf7_15 (sa_24_0 hs) rfl (sr_24_0_1 hs) ?_
      refine e_iloadn (pc := 26) (i := 1) dX7_findFitting_26 rfl rfl ?_
      refine e_aloadn (pc := 27) (i := 0) dX7_findFitting_27 rfl rfl ?_
      refine e_iloadn (pc := 28) (i := 1) dX7_findFitting_28 rfl rfl ?_
      obtain ⟨v6, hq6, hf4⟩ := x_bd1 hf4
      refine e_invV (pc := 29) (K1 := 0) (S1 := 0) (K := 0) (S := 0) (dd2 := 1) (av := [x_i v1]) (st := [x_i v1, x_r (16 * 24 + 2)]) (id := 16 * 24 + 0) dX7_findFitting_29 xmX7_53 rfl (Or.inl ⟨5, 8, TX7, (sa_24_0 hs), rfl, by decide⟩) (f_cal (M := M) (us2 := [24]) [0] hn rfl (And.intro rfl trivial) rfl rfl rfl (c_X7_doesFit hst hs   hq6)) (by decide) (Nat.le_of_ble_eq_true rfl) (Or.inl rfl) ?_
      show Ev g _ _ _ _ _ _ 32 [some (x_r (16 * 24 + 0)), some (x_i v1)] [x_i v6, x_i v1, x_r (16 * 24 + 2)] (al, ro, fl (ml M [24] [Ri2])) _ _ _ _
      obtain ⟨hc0, hf4⟩ := x_gd_some hf4
      obtain ⟨hc1, hf4⟩ := x_gd_some hf4
      refine f_zast (pc := 32) (k := 0) (u := 24) (q := 2) (len := 144) dX7_findFitting_32 (sa_24_2 hs) hc0 hc1 hn rfl rfl rfl (by decide) ?_
      show Ev g _ _ _ _ _ _ 33 [some (x_r (16 * 24 + 0)), some (x_i v1)] [] (al, ro, fl (ml M [24] [(x_up Ri2 2 (v1).toNat v6)])) _ _ _ _
      refine e_aloadn (pc := 33) (i := 0) dX7_findFitting_33 rfl rfl ?_
      refine f_getr (pc := 34) (u := 24) (q := 0) dX7_findFitting_34 xf7_15 (sa_24_0 hs) rfl (sr_24_0_1 hs) ?_
      refine e_iloadn (pc := 37) (i := 1) dX7_findFitting_37 rfl rfl ?_
      obtain ⟨hc0, hf4⟩ := x_gd_some hf4
      refine f_zald (pc := 38) (k := 0) (u := 24) (q := 2) (len := 144) dX7_findFitting_38 (sa_24_2 hs) hc0 hn rfl rfl (by decide) ?_
      show Ev g _ _ _ _ _ _ 39 [some (x_r (16 * 24 + 0)), some (x_i v1)] [x_i ((x_up Ri2 2 (v1).toNat v6) 2 (v1).toNat)] (al, ro, fl (ml M [24] [(x_up Ri2 2 (v1).toNat v6)])) _ _ _ _
      obtain ⟨Ri8, hr8, hf4⟩ := x_bd1 hf4
      have hjhr8 : Ev g yX7_findFitting cX7_findFitting 2 none [] 2 52 [some (x_r (16 * 24 + 0)), some (x_i v1)] [] (al, ro, fl (ml M [24] [Ri8])) 0 0 (.inl none) (al, ro, fl (ml M [24] [t])) := by
        refine e_iinc (pc := 52) dX7_findFitting_52 rfl (by decide) rfl ?_
        show Ev g _ _ _ _ _ _ 55 [some (x_r (16 * 24 + 0)), some (x_i (x_add v1 1))] [] (al, ro, fl (ml M [24] [Ri8])) _ _ _ _
        refine e_goto (pc := 55) (tgt := 7) dX7_findFitting_55 (by decide) ?_
        cases hf4
        exact hi4 _ rfl
      clear hf4
      refine e_if_eq (pc := 39) (tgt := 52) dX7_findFitting_39 (by decide) (fun hb => ?_) (fun hb => ?_)
      · rw [if_pos hb] at hr8
        cases hr8
        exact hjhr8
      · rw [if_neg hb] at hr8
        refine e_aloadn (pc := 42) (i := 0) dX7_findFitting_42 rfl rfl ?_
        refine e_dup (pc := 43) dX7_findFitting_43 rfl ?_
        refine f_geti (pc := 44) (k := 0) (u := 24) (q := 0) dX7_findFitting_44 xf7_50 (sa_24_0 hs) rfl hn rfl rfl (by decide) ?_
        show Ev g _ _ _ _ _ _ 47 [some (x_r (16 * 24 + 0)), some (x_i v1)] [x_i ((x_up Ri2 2 (v1).toNat v6) 0 7), x_r (16 * 24 + 0)] (al, ro, fl (ml M [24] [(x_up Ri2 2 (v1).toNat v6)])) _ _ _ _
        refine e_iconst (pc := 47) dX7_findFitting_47 (x_R rfl) ?_
        refine e_iadd (pc := 48) dX7_findFitting_48 ?_
        refine f_puti (pc := 49) (k := 0) (u := 24) (q := 0) dX7_findFitting_49 xf7_50 xw5_7 (sa_24_0 hs) hn rfl rfl rfl (by decide) ?_
        show Ev g _ _ _ _ _ _ 52 [some (x_r (16 * 24 + 0)), some (x_i v1)] [] (al, ro, fl (ml M [24] [(x_up (x_up Ri2 2 (v1).toNat v6) 0 7 (x_add ((x_up Ri2 2 (v1).toNat v6) 0 7) 1))])) _ _ _ _
        cases hr8
        exact hjhr8
set_option maxRecDepth 100000 in
set_option maxHeartbeats 4000000 in
theorem c_X7_readRows {g : xG} {al : List (Nat × Nat × Nat)} {ro : Nat → Nat → Option Nat} (hst : g.1.stackTraces = false) (hs : SH al ro) {M : Nat → xU} {a : Int} {T : xU} {Ri : xU}  {t : (Int × xU)} (hG : G7_readRows a T Ri = some t) :
    Cal g yX7_readRows cX7_readRows 4 (some .boolean) 3 [x_r (16 * 24 + 0), x_r (16 * 2 + 0), x_i a] (al, ro, fl (ml M [2, 24] [T, Ri])) 0 0 (.inl (some (x_i t.1))) (al, ro, fl (ml M [2, 24] [T, t.2])) := by
  have hn : ([2, 24] : List Nat).Nodup := by decide
  refine cal_of_ev (plainFor_of_name (by decide)) (x_c1 rfl) (Nat.le_of_ble_eq_true rfl) hst ?_
  show Ev g _ _ _ _ _ _ 0 [some (x_r (16 * 24 + 0)), some (x_r (16 * 2 + 0)), some (x_i a), none] [] (al, ro, fl (ml M [2, 24] [T, Ri])) _ _ _ _
  rw [G7_readRows] at hG
  refine e_aloadn (pc := 0) (i := 0) dX7_readRows_0 rfl rfl ?_
  refine e_iconst (pc := 1) dX7_readRows_1 (x_R rfl) ?_
  refine f_puti (pc := 2) (k := 1) (u := 24) (q := 0) dX7_readRows_2 xf7_37 xw5_3 (sa_24_0 hs) hn rfl rfl rfl (by decide) ?_
  show Ev g _ _ _ _ _ _ 5 [some (x_r (16 * 24 + 0)), some (x_r (16 * 2 + 0)), some (x_i a), none] [] (al, ro, fl (ml M [2, 24] [T, (x_up Ri 0 3 0)])) _ _ _ _
  refine e_aloadn (pc := 5) (i := 1) dX7_readRows_5 rfl rfl ?_
  refine f_geti (pc := 6) (k := 0) (u := 2) (q := 0) dX7_readRows_6 xf7_40 (sa_2_0 hs) rfl hn rfl rfl (by decide) ?_
  show Ev g _ _ _ _ _ _ 9 [some (x_r (16 * 24 + 0)), some (x_r (16 * 2 + 0)), some (x_i a), none] [x_i (T 0 2)] (al, ro, fl (ml M [2, 24] [T, (x_up Ri 0 3 0)])) _ _ _ _
  refine e_bipush (pc := 9) dX7_readRows_9 (by decide +kernel) (x_R rfl) ?_
  refine e_icmp_gt (pc := 11) (tgt := 23) dX7_readRows_11 (by decide) (fun hb => ?_) (fun hb => ?_)
  · rw [if_pos hb] at hG
    refine e_iconst (pc := 23) dX7_readRows_23 (x_R rfl) ?_
    cases hG
    exact (e_ireturn rfl dX7_readRows_24 (x_bool (by decide)).1)
  · rw [if_neg hb] at hG
    refine e_aloadn (pc := 14) (i := 1) dX7_readRows_14 rfl rfl ?_
    refine f_geti (pc := 15) (k := 0) (u := 2) (q := 0) dX7_readRows_15 xf7_40 (sa_2_0 hs) rfl hn rfl rfl (by decide) ?_
    show Ev g _ _ _ _ _ _ 18 [some (x_r (16 * 24 + 0)), some (x_r (16 * 2 + 0)), some (x_i a), none] [x_i (T 0 2)] (al, ro, fl (ml M [2, 24] [T, (x_up Ri 0 3 0)])) _ _ _ _
    refine e_iconst (pc := 18) dX7_readRows_18 (x_R rfl) ?_
    refine e_irem (pc := 19) dX7_readRows_19 (by decide) ?_
    refine e_if_eq (pc := 20) (tgt := 25) dX7_readRows_20 (by decide) (fun hb => ?_) (fun hb => ?_)
    · rw [if_pos hb] at hG
      refine e_iconst (pc := 25) dX7_readRows_25 (x_R rfl) ?_
      refine e_istoren (pc := 26) (i := 3) dX7_readRows_26 rfl (by decide) rfl ?_
      show Ev g _ _ _ _ _ _ 27 [some (x_r (16 * 24 + 0)), some (x_r (16 * 2 + 0)), some (x_i a), some (x_i 0)] [] (al, ro, fl (ml M [2, 24] [T, (x_up Ri 0 3 0)])) _ _ _ _
      obtain ⟨r4, hl4, hG⟩ := x_lrd hG
      have hk4 : ∀ q : xU, r4 = .inl q → Ev g yX7_readRows cX7_readRows 4 (some .boolean) [] 3 100 [some (x_r (16 * 24 + 0)), some (x_r (16 * 2 + 0)), some (x_i a), none] [] (al, ro, fl (ml M [2, 24] [T, q])) 0 0 (.inl (some (x_i t.1))) (al, ro, fl (ml M [2, 24] [T, t.2])) := by
        intro q hq
        subst hq
        replace hG := x_lr_l hG
        obtain ⟨Ri3, hqq⟩ : ∃ z, z = q := ⟨q, rfl⟩
        subst hqq
        replace hG := x_ed1 hG
        refine e_aloadn (pc := 100) (i := 0) dX7_readRows_100 rfl rfl ?_
        obtain ⟨Ri10, hq10, hG⟩ := x_bd1 hG
        refine e_invV (pc := 101) (K1 := 0) (S1 := 0) (K := 0) (S := 0) (dd2 := 2) (av := []) (st := []) (id := 16 * 24 + 0) dX7_readRows_101 xmX7_47 rfl (Or.inl ⟨5, 8, TX7, (sa_24_0 hs), rfl, by decide⟩) (f_cal (M := M) (us2 := [24]) [1] hn rfl (And.intro rfl trivial) rfl rfl rfl (c_X7_findFitting hst hs   hq10)) (by decide) (Nat.le_of_ble_eq_true rfl) (Or.inl rfl) ?_
        show Ev g _ _ _ _ _ _ 104 [some (x_r (16 * 24 + 0)), some (x_r (16 * 2 + 0)), some (x_i a), none] [] (al, ro, fl (ml M [2, 24] [T, Ri10])) _ _ _ _
        refine e_iconst (pc := 104) dX7_readRows_104 (x_R rfl) ?_
        cases hG
        exact (e_ireturn rfl dX7_readRows_105 (x_bool (by decide)).1)
      have hv4 : ∀ q : (Int × xU), r4 = .inr q → some q = some t := by
        intro q hq
        subst hq
        exact x_lr_r hG
      clear hG
      refine e_whl (G7_readRows_L27 a T) (fun z : (Int × xU) => Ev g yX7_readRows cX7_readRows 4 (some .boolean) [] 3 27 [some (x_r (16 * 24 + 0)), some (x_r (16 * 2 + 0)), some (x_i a), some (x_i z.1)] [] (al, ro, fl (ml M [2, 24] [T, z.2])) 0 0 (.inl (some (x_i t.1))) (al, ro, fl (ml M [2, 24] [T, t.2]))) (fun q => q = r4) ?_ xFU (0, (x_up Ri 0 3 0)) _ hl4 rfl
      intro z t4 hf4 hi4 hx4
      obtain ⟨v1, Ri2⟩ := z
      rw [G7_readRows_L27] at hf4
      show Ev g _ _ _ _ _ _ 27 [some (x_r (16 * 24 + 0)), some (x_r (16 * 2 + 0)), some (x_i a), some (x_i v1)] [] (al, ro, fl (ml M [2, 24] [T, Ri2])) _ _ _ _
      refine e_iloadn (pc := 27) (i := 3) dX7_readRows_27 rfl rfl ?_
      refine e_aloadn (pc := 28) (i := 1) dX7_readRows_28 rfl rfl ?_
      refine f_geti (pc := 29) (k := 0) (u := 2) (q := 0) dX7_readRows_29 xf7_40 (sa_2_0 hs) rfl hn rfl rfl (by decide) ?_
      show Ev g _ _ _ _ _ _ 32 [some (x_r (16 * 24 + 0)), some (x_r (16 * 2 + 0)), some (x_i a), some (x_i v1)] [x_i (T 0 2), x_i v1] (al, ro, fl (ml M [2, 24] [T, Ri2])) _ _ _ _
      refine e_icmp_ge (pc := 32) (tgt := 100) dX7_readRows_32 (by decide) (fun hb => ?_) (fun hb => ?_)
      · rw [if_pos hb] at hf4
        cases hf4
        refine e_drop (i := 3) ?_
        exact hk4 _ (hx4 _ rfl).symm
      · rw [if_neg hb] at hf4
        refine e_iloadn (pc := 35) (i := 3) dX7_readRows_35 rfl rfl ?_
        refine e_bipush (pc := 36) dX7_readRows_36 (by decide +kernel) (x_R rfl) ?_
        refine e_icmp_ge (pc := 38) (tgt := 100) dX7_readRows_38 (by decide) (fun hb => ?_) (fun hb => ?_)
        · rw [if_pos hb] at hf4
          cases hf4
          refine e_drop (i := 3) ?_
          exact hk4 _ (hx4 _ rfl).symm
        · rw [if_neg hb] at hf4
          refine e_aloadn (pc := 41) (i := 0) dX7_readRows_41 rfl rfl ?_
          refine f_getr (pc := 42) (u := 24) (q := 0) dX7_readRows_42 xf7_11 (sa_24_0 hs) rfl (sr_24_0_0 hs) ?_
          refine e_iloadn (pc := 45) (i := 3) dX7_readRows_45 rfl rfl ?_
          refine e_aloadn (pc := 46) (i := 1) dX7_readRows_46 rfl rfl ?_
          refine e_iloadn (pc := 47) (i := 3) dX7_readRows_47 rfl rfl ?_
          obtain ⟨v6, hq6, hf4⟩ := x_bd1 hf4
          refine e_invV (pc := 48) (K1 := 0) (S1 := 0) (K := 0) (S := 0) (dd2 := 0) (av := [x_i v1]) (st := [x_i v1, x_r (16 * 24 + 1)]) (id := 16 * 2 + 0) dX7_readRows_48 xmX7_43 rfl (Or.inl ⟨8, 8, TX10, (sa_2_0 hs), rfl, by decide⟩) (f_cal (M := M) (us2 := [2]) [0] hn rfl (And.intro rfl trivial) rfl rfl rfl (c_X10_byteAt hst hs   hq6)) (by decide) (Nat.le_of_ble_eq_true rfl) (Or.inl rfl) ?_
          show Ev g _ _ _ _ _ _ 51 [some (x_r (16 * 24 + 0)), some (x_r (16 * 2 + 0)), some (x_i a), some (x_i v1)] [x_i v6, x_i v1, x_r (16 * 24 + 1)] (al, ro, fl (ml M [2, 24] [T, Ri2])) _ _ _ _
          obtain ⟨hc0, hf4⟩ := x_gd_some hf4
          refine f_iast (pc := 51) (k := 1) (u := 24) (q := 1) (len := 40) dX7_readRows_51 (sa_24_1 hs) hc0 hn rfl rfl rfl (by decide) ?_
          show Ev g _ _ _ _ _ _ 52 [some (x_r (16 * 24 + 0)), some (x_r (16 * 2 + 0)), some (x_i a), some (x_i v1)] [] (al, ro, fl (ml M [2, 24] [T, (x_up Ri2 1 (v1).toNat v6)])) _ _ _ _
          refine e_aloadn (pc := 52) (i := 0) dX7_readRows_52 rfl rfl ?_
          refine f_getr (pc := 53) (u := 24) (q := 0) dX7_readRows_53 xf7_11 (sa_24_0 hs) rfl (sr_24_0_0 hs) ?_
          refine e_iloadn (pc := 56) (i := 3) dX7_readRows_56 rfl rfl ?_
          obtain ⟨hc0, hf4⟩ := x_gd_some hf4
          refine f_iald (pc := 57) (k := 1) (u := 24) (q := 1) (len := 40) dX7_readRows_57 (sa_24_1 hs) hc0 hn rfl rfl (by decide) ?_
          show Ev g _ _ _ _ _ _ 58 [some (x_r (16 * 24 + 0)), some (x_r (16 * 2 + 0)), some (x_i a), some (x_i v1)] [x_i ((x_up Ri2 1 (v1).toNat v6) 1 (v1).toNat)] (al, ro, fl (ml M [2, 24] [T, (x_up Ri2 1 (v1).toNat v6)])) _ _ _ _
          refine e_if_lt (pc := 58) (tgt := 82) dX7_readRows_58 (by decide) (fun hb => ?_) (fun hb => ?_)
          · rw [if_pos hb] at hf4
            refine e_iconst (pc := 82) dX7_readRows_82 (x_R rfl) ?_
            cases hf4
            have hz := hv4 _ (hx4 _ rfl).symm
            cases hz
            exact (e_ireturn rfl dX7_readRows_83 (x_bool (by decide)).1)
          · rw [if_neg hb] at hf4
            refine e_aloadn (pc := 61) (i := 0) dX7_readRows_61 rfl rfl ?_
            refine f_getr (pc := 62) (u := 24) (q := 0) dX7_readRows_62 xf7_11 (sa_24_0 hs) rfl (sr_24_0_0 hs) ?_
            refine e_iloadn (pc := 65) (i := 3) dX7_readRows_65 rfl rfl ?_
            obtain ⟨hc0, hf4⟩ := x_gd_some hf4
            refine f_iald (pc := 66) (k := 1) (u := 24) (q := 1) (len := 40) dX7_readRows_66 (sa_24_1 hs) hc0 hn rfl rfl (by decide) ?_
            show Ev g _ _ _ _ _ _ 67 [some (x_r (16 * 24 + 0)), some (x_r (16 * 2 + 0)), some (x_i a), some (x_i v1)] [x_i ((x_up Ri2 1 (v1).toNat v6) 1 (v1).toNat)] (al, ro, fl (ml M [2, 24] [T, (x_up Ri2 1 (v1).toNat v6)])) _ _ _ _
            refine e_iloadn (pc := 67) (i := 3) dX7_readRows_67 rfl rfl ?_
            refine e_iconst (pc := 68) dX7_readRows_68 (x_R rfl) ?_
            refine e_irem (pc := 69) dX7_readRows_69 (by decide) ?_
            obtain ⟨v8, hr8, hf4⟩ := x_bd1 hf4
            have hjhr8 : Ev g yX7_readRows cX7_readRows 4 (some .boolean) [] 3 79 [some (x_r (16 * 24 + 0)), some (x_r (16 * 2 + 0)), some (x_i a), some (x_i v1)] [x_i v8, x_i ((x_up Ri2 1 (v1).toNat v6) 1 (v1).toNat)] (al, ro, fl (ml M [2, 24] [T, (x_up Ri2 1 (v1).toNat v6)])) 0 0 (.inl (some (x_i t.1))) (al, ro, fl (ml M [2, 24] [T, t.2])) := by
              refine e_icmp_le (pc := 79) (tgt := 84) dX7_readRows_79 (by decide) (fun hb => ?_) (fun hb => ?_)
              · rw [if_pos hb] at hf4
                refine e_aloadn (pc := 84) (i := 0) dX7_readRows_84 rfl rfl ?_
                refine e_dup (pc := 85) dX7_readRows_85 rfl ?_
                refine f_geti (pc := 86) (k := 1) (u := 24) (q := 0) dX7_readRows_86 xf7_37 (sa_24_0 hs) rfl hn rfl rfl (by decide) ?_
                show Ev g _ _ _ _ _ _ 89 [some (x_r (16 * 24 + 0)), some (x_r (16 * 2 + 0)), some (x_i a), some (x_i v1)] [x_i ((x_up Ri2 1 (v1).toNat v6) 0 3), x_r (16 * 24 + 0)] (al, ro, fl (ml M [2, 24] [T, (x_up Ri2 1 (v1).toNat v6)])) _ _ _ _
                refine e_iconst (pc := 89) dX7_readRows_89 (x_R rfl) ?_
                refine e_iadd (pc := 90) dX7_readRows_90 ?_
                refine f_puti (pc := 91) (k := 1) (u := 24) (q := 0) dX7_readRows_91 xf7_37 xw5_3 (sa_24_0 hs) hn rfl rfl rfl (by decide) ?_
                show Ev g _ _ _ _ _ _ 94 [some (x_r (16 * 24 + 0)), some (x_r (16 * 2 + 0)), some (x_i a), some (x_i v1)] [] (al, ro, fl (ml M [2, 24] [T, (x_up (x_up Ri2 1 (v1).toNat v6) 0 3 (x_add ((x_up Ri2 1 (v1).toNat v6) 0 3) 1))])) _ _ _ _
                refine e_iinc (pc := 94) dX7_readRows_94 rfl (by decide) rfl ?_
                show Ev g _ _ _ _ _ _ 97 [some (x_r (16 * 24 + 0)), some (x_r (16 * 2 + 0)), some (x_i a), some (x_i (x_add v1 1))] [] (al, ro, fl (ml M [2, 24] [T, (x_up (x_up Ri2 1 (v1).toNat v6) 0 3 (x_add ((x_up Ri2 1 (v1).toNat v6) 0 3) 1))])) _ _ _ _
                refine e_goto (pc := 97) (tgt := 27) dX7_readRows_97 (by decide) ?_
                cases hf4
                exact hi4 _ rfl
              · rw [if_neg hb] at hf4
                refine e_iconst (pc := 82) dX7_readRows_82 (x_R rfl) ?_
                cases hf4
                have hz := hv4 _ (hx4 _ rfl).symm
                cases hz
                exact (e_ireturn rfl dX7_readRows_83 (x_bool (by decide)).1)
            clear hf4
            refine e_if_ne (pc := 70) (tgt := 78) dX7_readRows_70 (by decide) (fun hb => ?_) (fun hb => ?_)
            · rw [if_neg hb] at hr8
              refine e_iloadn (pc := 78) (i := 2) dX7_readRows_78 rfl rfl ?_
              cases hr8
              exact hjhr8
            · rw [if_pos hb] at hr8
              refine e_bipush (pc := 73) dX7_readRows_73 (by decide +kernel) (x_R rfl) ?_
              refine e_goto (pc := 75) (tgt := 79) dX7_readRows_75 (by decide) ?_
              cases hr8
              exact hjhr8
    · rw [if_neg hb] at hG
      refine e_iconst (pc := 23) dX7_readRows_23 (x_R rfl) ?_
      cases hG
      exact (e_ireturn rfl dX7_readRows_24 (x_bool (by decide)).1)
