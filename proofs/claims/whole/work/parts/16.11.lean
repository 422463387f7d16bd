set_option maxRecDepth 100000 in
set_option maxHeartbeats 4000000 in
theorem c_X2_readMonk {g : xG} {al : List (Nat × Nat × Nat)} {ro : Nat → Nat → Option Nat} (hst : g.1.stackTraces = false) (hs : SH al ro) {M : Nat → xU} {T : xU} {Dr : xU}  {t : (xU × xU)} (hG : G2_readMonk T Dr = some t) :
    Cal g yX2_readMonk cX2_readMonk 6 none 9 [x_r (16 * 2 + 0), x_r (16 * 4 + 0)] (al, ro, fl (ml M [2, 4] [T, Dr])) 0 0 (.inl none) (al, ro, fl (ml M [2, 4] [t.1, t.2])) := by
  have hn : ([2, 4] : List Nat).Nodup := by decide
  refine cal_of_ev (plainFor_of_name (by decide)) (x_c1 rfl) (Nat.le_of_ble_eq_true rfl) hst ?_
  show Ev g _ _ _ _ _ _ 0 [some (x_r (16 * 2 + 0)), some (x_r (16 * 4 + 0)), none, none, none, none] [] (al, ro, fl (ml M [2, 4] [T, Dr])) _ _ _ _
  rw [G2_readMonk] at hG
  refine e_aloadn (pc := 0) (i := 1) dX2_readMonk_0 rfl rfl ?_
  refine f_geti (pc := 1) (k := 1) (u := 4) (q := 0) dX2_readMonk_1 xf2_83 (sa_4_0 hs) rfl hn rfl rfl (by decide) ?_
  show Ev g _ _ _ _ _ _ 4 [some (x_r (16 * 2 + 0)), some (x_r (16 * 4 + 0)), none, none, none, none] [x_i (Dr 0 3)] (al, ro, fl (ml M [2, 4] [T, Dr])) _ _ _ _
  refine e_bipush (pc := 4) dX2_readMonk_4 (by decide +kernel) (x_R rfl) ?_
  refine e_icmp_lt (pc := 6) (tgt := 14) dX2_readMonk_6 (by decide) (fun hb => ?_) (fun hb => ?_)
  · rw [if_pos hb] at hG
    refine e_aloadn (pc := 14) (i := 0) dX2_readMonk_14 rfl rfl ?_
    refine e_ldcS (pc := 15) (i := 0) (tx := "monk") dX2_readMonk_15 (List.mem_of_getElem? (i := 0) rfl) (by decide) ?_
    obtain ⟨T1, hq1, hG⟩ := x_bd1 hG
    refine e_invV (pc := 17) (K1 := 0) (S1 := 0) (K := 0) (S := 0) (dd2 := 8) (av := [x_r (x_s0 + 0)]) (st := []) (id := 16 * 2 + 0) dX2_readMonk_17 xmX2_86 rfl (Or.inl ⟨8, 8, TX10, (sa_2_0 hs), rfl, by decide⟩) (f_cal (M := M) (us2 := [2]) [0] hn rfl (And.intro rfl trivial) rfl rfl rfl (c_X10_expectWord hst hs  (by decide) hq1)) (by decide) (Nat.le_of_ble_eq_true rfl) (Or.inl rfl) ?_
    show Ev g _ _ _ _ _ _ 20 [some (x_r (16 * 2 + 0)), some (x_r (16 * 4 + 0)), none, none, none, none] [] (al, ro, fl (ml M [2, 4] [T1, Dr])) _ _ _ _
    refine e_aloadn (pc := 20) (i := 0) dX2_readMonk_20 rfl rfl ?_
    refine e_ldcS (pc := 21) (i := 1) (tx := "at") dX2_readMonk_21 (List.mem_of_getElem? (i := 1) rfl) (by decide) ?_
    obtain ⟨T3, hq3, hG⟩ := x_bd1 hG
    refine e_invV (pc := 23) (K1 := 0) (S1 := 0) (K := 0) (S := 0) (dd2 := 8) (av := [x_r (x_s0 + 1)]) (st := []) (id := 16 * 2 + 0) dX2_readMonk_23 xmX2_86 rfl (Or.inl ⟨8, 8, TX10, (sa_2_0 hs), rfl, by decide⟩) (f_cal (M := M) (us2 := [2]) [0] hn rfl (And.intro rfl trivial) rfl rfl rfl (c_X10_expectWord hst hs  (by decide) hq3)) (by decide) (Nat.le_of_ble_eq_true rfl) (Or.inl rfl) ?_
    show Ev g _ _ _ _ _ _ 26 [some (x_r (16 * 2 + 0)), some (x_r (16 * 4 + 0)), none, none, none, none] [] (al, ro, fl (ml M [2, 4] [T3, Dr])) _ _ _ _
    refine e_aloadn (pc := 26) (i := 0) dX2_readMonk_26 rfl rfl ?_
    refine e_bipush (pc := 27) dX2_readMonk_27 (by decide +kernel) (x_R rfl) ?_
    obtain ⟨v5, T6, hq6, hG⟩ := x_bd2 hG
    refine e_invV (pc := 29) (K1 := 0) (S1 := 0) (K := 0) (S := 0) (dd2 := 1) (av := [x_i 15]) (st := []) (id := 16 * 2 + 0) dX2_readMonk_29 xmX2_39 rfl (Or.inl ⟨8, 8, TX10, (sa_2_0 hs), rfl, by decide⟩) (f_cal (M := M) (us2 := [2]) [0] hn rfl (And.intro rfl trivial) rfl rfl rfl (c_X10_takeNumber hst hs   hq6)) (by decide) (Nat.le_of_ble_eq_true rfl) (Or.inl rfl) ?_
    show Ev g _ _ _ _ _ _ 32 [some (x_r (16 * 2 + 0)), some (x_r (16 * 4 + 0)), none, none, none, none] [x_i v5] (al, ro, fl (ml M [2, 4] [T6, Dr])) _ _ _ _
    refine e_istoren (pc := 32) (i := 2) dX2_readMonk_32 rfl (by decide) rfl ?_
    show Ev g _ _ _ _ _ _ 33 [some (x_r (16 * 2 + 0)), some (x_r (16 * 4 + 0)), some (x_i v5), none, none, none] [] (al, ro, fl (ml M [2, 4] [T6, Dr])) _ _ _ _
    refine e_aloadn (pc := 33) (i := 0) dX2_readMonk_33 rfl rfl ?_
    refine e_ldcS (pc := 34) (i := 2) (tx := "stall") dX2_readMonk_34 (List.mem_of_getElem? (i := 2) rfl) (by decide) ?_
    obtain ⟨T8, hq8, hG⟩ := x_bd1 hG
    refine e_invV (pc := 36) (K1 := 0) (S1 := 0) (K := 0) (S := 0) (dd2 := 8) (av := [x_r (x_s0 + 2)]) (st := []) (id := 16 * 2 + 0) dX2_readMonk_36 xmX2_86 rfl (Or.inl ⟨8, 8, TX10, (sa_2_0 hs), rfl, by decide⟩) (f_cal (M := M) (us2 := [2]) [0] hn rfl (And.intro rfl trivial) rfl rfl rfl (c_X10_expectWord hst hs  (by decide) hq8)) (by decide) (Nat.le_of_ble_eq_true rfl) (Or.inl rfl) ?_
    show Ev g _ _ _ _ _ _ 39 [some (x_r (16 * 2 + 0)), some (x_r (16 * 4 + 0)), some (x_i v5), none, none, none] [] (al, ro, fl (ml M [2, 4] [T8, Dr])) _ _ _ _
    refine e_aloadn (pc := 39) (i := 1) dX2_readMonk_39 rfl rfl ?_
    refine e_aloadn (pc := 40) (i := 0) dX2_readMonk_40 rfl rfl ?_
    obtain ⟨v10, hq10, hG⟩ := x_bd1 hG
    refine e_invV (pc := 41) (K1 := 0) (S1 := 0) (K := 0) (S := 0) (dd2 := 0) (av := []) (st := [x_r (16 * 4 + 0)]) (id := 16 * 2 + 0) dX2_readMonk_41 xmX2_94 rfl (Or.inl ⟨8, 8, TX10, (sa_2_0 hs), rfl, by decide⟩) (f_cal (M := M) (us2 := [2]) [0] hn rfl (And.intro rfl trivial) rfl rfl rfl (c_X10_numberHere hst hs   hq10)) (by decide) (Nat.le_of_ble_eq_true rfl) (Or.inl rfl) ?_
    show Ev g _ _ _ _ _ _ 44 [some (x_r (16 * 2 + 0)), some (x_r (16 * 4 + 0)), some (x_i v5), none, none, none] [x_i v10, x_r (16 * 4 + 0)] (al, ro, fl (ml M [2, 4] [T8, Dr])) _ _ _ _
    obtain ⟨v12, hq12, hG⟩ := x_bd1 hG
    refine e_invV (pc := 44) (K1 := 0) (S1 := 0) (K := 0) (S := 0) (dd2 := 1) (av := [x_i v10]) (st := []) (id := 16 * 4 + 0) dX2_readMonk_44 xmX2_97 rfl (Or.inl ⟨1, 12, TX1, (sa_4_0 hs), rfl, by decide⟩) (f_cal (M := M) (us2 := [4]) [1] hn rfl (And.intro rfl trivial) rfl rfl rfl (c_X1_hasStall hst hs (by decide)  hq12)) (by decide) (Nat.le_of_ble_eq_true rfl) (Or.inl rfl) ?_
    show Ev g _ _ _ _ _ _ 47 [some (x_r (16 * 2 + 0)), some (x_r (16 * 4 + 0)), some (x_i v5), none, none, none] [x_i v12] (al, ro, fl (ml M [2, 4] [T8, Dr])) _ _ _ _
    obtain ⟨T14, hr14, hG⟩ := x_bd1 hG
    have hjhr14 : Ev g yX2_readMonk cX2_readMonk 6 none [] 9 54 [some (x_r (16 * 2 + 0)), some (x_r (16 * 4 + 0)), some (x_i v5), none, none, none] [] (al, ro, fl (ml M [2, 4] [T14, Dr])) 0 0 (.inl none) (al, ro, fl (ml M [2, 4] [t.1, t.2])) := by
      refine e_aloadn (pc := 54) (i := 0) dX2_readMonk_54 rfl rfl ?_
      refine e_bipush (pc := 55) dX2_readMonk_55 (by decide +kernel) (x_R rfl) ?_
      obtain ⟨v18, T19, hq19, hG⟩ := x_bd2 hG
      refine e_invV (pc := 57) (K1 := 0) (S1 := 0) (K := 0) (S := 0) (dd2 := 1) (av := [x_i 11]) (st := []) (id := 16 * 2 + 0) dX2_readMonk_57 xmX2_39 rfl (Or.inl ⟨8, 8, TX10, (sa_2_0 hs), rfl, by decide⟩) (f_cal (M := M) (us2 := [2]) [0] hn rfl (And.intro rfl trivial) rfl rfl rfl (c_X10_takeNumber hst hs   hq19)) (by decide) (Nat.le_of_ble_eq_true rfl) (Or.inl rfl) ?_
      show Ev g _ _ _ _ _ _ 60 [some (x_r (16 * 2 + 0)), some (x_r (16 * 4 + 0)), some (x_i v5), none, none, none] [x_i v18] (al, ro, fl (ml M [2, 4] [T19, Dr])) _ _ _ _
      refine e_istoren (pc := 60) (i := 3) dX2_readMonk_60 rfl (by decide) rfl ?_
      show Ev g _ _ _ _ _ _ 61 [some (x_r (16 * 2 + 0)), some (x_r (16 * 4 + 0)), some (x_i v5), some (x_i v18), none, none] [] (al, ro, fl (ml M [2, 4] [T19, Dr])) _ _ _ _
      refine e_aloadn (pc := 61) (i := 0) dX2_readMonk_61 rfl rfl ?_
      refine e_ldcS (pc := 62) (i := 3) (tx := "pace") dX2_readMonk_62 (List.mem_of_getElem? (i := 3) rfl) (by decide) ?_
      obtain ⟨v21, T22, hq22, hG⟩ := x_bd2 hG
      refine e_invV (pc := 64) (K1 := 0) (S1 := 0) (K := 0) (S := 0) (dd2 := 7) (av := [x_r (x_s0 + 3)]) (st := []) (id := 16 * 2 + 0) dX2_readMonk_64 xmX2_36 rfl (Or.inl ⟨8, 8, TX10, (sa_2_0 hs), rfl, by decide⟩) (f_cal (M := M) (us2 := [2]) [0] hn rfl (And.intro rfl trivial) rfl rfl rfl (c_X10_takeWord hst hs  (by decide) hq22)) (by decide) (Nat.le_of_ble_eq_true rfl) (Or.inl rfl) ?_
      show Ev g _ _ _ _ _ _ 67 [some (x_r (16 * 2 + 0)), some (x_r (16 * 4 + 0)), some (x_i v5), some (x_i v18), none, none] [x_i v21] (al, ro, fl (ml M [2, 4] [T22, Dr])) _ _ _ _
      obtain ⟨v24, T25, hr25, hG⟩ := x_bd2 hG
      have hjhr25 : Ev g yX2_readMonk cX2_readMonk 6 none [] 9 80 [some (x_r (16 * 2 + 0)), some (x_r (16 * 4 + 0)), some (x_i v5), some (x_i v18), none, none] [x_i v24] (al, ro, fl (ml M [2, 4] [T25, Dr])) 0 0 (.inl none) (al, ro, fl (ml M [2, 4] [t.1, t.2])) := by
        refine e_istore (pc := 80) (i := 4) dX2_readMonk_80 (by decide) rfl ?_
        show Ev g _ _ _ _ _ _ 82 [some (x_r (16 * 2 + 0)), some (x_r (16 * 4 + 0)), some (x_i v5), some (x_i v18), some (x_i v24), none] [] (al, ro, fl (ml M [2, 4] [T25, Dr])) _ _ _ _
        refine e_aloadn (pc := 82) (i := 0) dX2_readMonk_82 rfl rfl ?_
        refine e_ldcS (pc := 83) (i := 4) (tx := "likes") dX2_readMonk_83 (List.mem_of_getElem? (i := 4) rfl) (by decide) ?_
        obtain ⟨v30, T31, hq31, hG⟩ := x_bd2 hG
        refine e_invV (pc := 85) (K1 := 0) (S1 := 0) (K := 0) (S := 0) (dd2 := 7) (av := [x_r (x_s0 + 4)]) (st := []) (id := 16 * 2 + 0) dX2_readMonk_85 xmX2_36 rfl (Or.inl ⟨8, 8, TX10, (sa_2_0 hs), rfl, by decide⟩) (f_cal (M := M) (us2 := [2]) [0] hn rfl (And.intro rfl trivial) rfl rfl rfl (c_X10_takeWord hst hs  (by decide) hq31)) (by decide) (Nat.le_of_ble_eq_true rfl) (Or.inl rfl) ?_
        show Ev g _ _ _ _ _ _ 88 [some (x_r (16 * 2 + 0)), some (x_r (16 * 4 + 0)), some (x_i v5), some (x_i v18), some (x_i v24), none] [x_i v30] (al, ro, fl (ml M [2, 4] [T31, Dr])) _ _ _ _
        obtain ⟨v33, T34, hr34, hG⟩ := x_bd2 hG
        have hjhr34 : Ev g yX2_readMonk cX2_readMonk 6 none [] 9 99 [some (x_r (16 * 2 + 0)), some (x_r (16 * 4 + 0)), some (x_i v5), some (x_i v18), some (x_i v24), none] [x_i v33] (al, ro, fl (ml M [2, 4] [T34, Dr])) 0 0 (.inl none) (al, ro, fl (ml M [2, 4] [t.1, t.2])) := by
          refine e_istore (pc := 99) (i := 5) dX2_readMonk_99 (by decide) rfl ?_
          show Ev g _ _ _ _ _ _ 101 [some (x_r (16 * 2 + 0)), some (x_r (16 * 4 + 0)), some (x_i v5), some (x_i v18), some (x_i v24), some (x_i v33)] [] (al, ro, fl (ml M [2, 4] [T34, Dr])) _ _ _ _
          refine e_aloadn (pc := 101) (i := 1) dX2_readMonk_101 rfl rfl ?_
          refine e_iloadn (pc := 102) (i := 2) dX2_readMonk_102 rfl rfl ?_
          refine e_iloadn (pc := 103) (i := 3) dX2_readMonk_103 rfl rfl ?_
          refine e_iload (pc := 104) dX2_readMonk_104 rfl ?_
          refine e_iload (pc := 106) dX2_readMonk_106 rfl ?_
          obtain ⟨Dr39, hq39, hG⟩ := x_bd1 hG
          refine e_invV (pc := 108) (K1 := 0) (S1 := 0) (K := 0) (S := 0) (dd2 := 1) (av := [x_i v5, x_i v18, x_i v24, x_i v33]) (st := []) (id := 16 * 4 + 0) dX2_readMonk_108 xmX2_108 rfl (Or.inl ⟨1, 12, TX1, (sa_4_0 hs), rfl, by decide⟩) (f_cal (M := M) (us2 := [4]) [1] hn rfl (And.intro rfl trivial) rfl rfl rfl (c_X1_addMonk hst hs (by decide)  hq39)) (by decide) (Nat.le_of_ble_eq_true rfl) (Or.inl rfl) ?_
          show Ev g _ _ _ _ _ _ 111 [some (x_r (16 * 2 + 0)), some (x_r (16 * 4 + 0)), some (x_i v5), some (x_i v18), some (x_i v24), some (x_i v33)] [] (al, ro, fl (ml M [2, 4] [T34, Dr39])) _ _ _ _
          cases hG
          exact (e_return rfl dX2_readMonk_111)
        clear hG
        refine e_if_eq (pc := 88) (tgt := 98) dX2_readMonk_88 (by decide) (fun hb => ?_) (fun hb => ?_)
        · rw [if_pos hb] at hr34
          refine e_iconst (pc := 98) dX2_readMonk_98 (x_R rfl) ?_
          cases hr34
          exact hjhr34
        · rw [if_neg hb] at hr34
          refine e_aloadn (pc := 91) (i := 0) dX2_readMonk_91 rfl rfl ?_
          obtain ⟨v36, T37, hq37, hr34⟩ := x_bd2 hr34
          refine e_invV (pc := 92) (K1 := 0) (S1 := 0) (K := 0) (S := 0) (dd2 := 1) (av := []) (st := []) (id := 16 * 2 + 0) dX2_readMonk_92 xmX2_105 rfl (Or.inl ⟨8, 8, TX10, (sa_2_0 hs), rfl, by decide⟩) (f_cal (M := M) (us2 := [2]) [0] hn rfl (And.intro rfl trivial) rfl rfl rfl (c_X10_takeMonths hst hs   hq37)) (by decide) (Nat.le_of_ble_eq_true rfl) (Or.inl rfl) ?_
          show Ev g _ _ _ _ _ _ 95 [some (x_r (16 * 2 + 0)), some (x_r (16 * 4 + 0)), some (x_i v5), some (x_i v18), some (x_i v24), none] [x_i v36] (al, ro, fl (ml M [2, 4] [T37, Dr])) _ _ _ _
          refine e_goto (pc := 95) (tgt := 99) dX2_readMonk_95 (by decide) ?_
          cases hr34
          exact hjhr34
      clear hG
      refine e_if_eq (pc := 67) (tgt := 79) dX2_readMonk_67 (by decide) (fun hb => ?_) (fun hb => ?_)
      · rw [if_pos hb] at hr25
        refine e_iconst (pc := 79) dX2_readMonk_79 (x_R rfl) ?_
        cases hr25
        exact hjhr25
      · rw [if_neg hb] at hr25
        refine e_aloadn (pc := 70) (i := 0) dX2_readMonk_70 rfl rfl ?_
        refine e_bipush (pc := 71) dX2_readMonk_71 (by decide +kernel) (x_R rfl) ?_
        obtain ⟨v27, T28, hq28, hr25⟩ := x_bd2 hr25
        refine e_invV (pc := 73) (K1 := 0) (S1 := 0) (K := 0) (S := 0) (dd2 := 1) (av := [x_i 8]) (st := []) (id := 16 * 2 + 0) dX2_readMonk_73 xmX2_39 rfl (Or.inl ⟨8, 8, TX10, (sa_2_0 hs), rfl, by decide⟩) (f_cal (M := M) (us2 := [2]) [0] hn rfl (And.intro rfl trivial) rfl rfl rfl (c_X10_takeNumber hst hs   hq28)) (by decide) (Nat.le_of_ble_eq_true rfl) (Or.inl rfl) ?_
        show Ev g _ _ _ _ _ _ 76 [some (x_r (16 * 2 + 0)), some (x_r (16 * 4 + 0)), some (x_i v5), some (x_i v18), none, none] [x_i v27] (al, ro, fl (ml M [2, 4] [T28, Dr])) _ _ _ _
        refine e_goto (pc := 76) (tgt := 80) dX2_readMonk_76 (by decide) ?_
        cases hr25
        exact hjhr25
    clear hG
    refine e_if_eq (pc := 47) (tgt := 54) dX2_readMonk_47 (by decide) (fun hb => ?_) (fun hb => ?_)
    · rw [if_pos hb] at hr14
      cases hr14
      exact hjhr14
    · rw [if_neg hb] at hr14
      refine e_aloadn (pc := 50) (i := 0) dX2_readMonk_50 rfl rfl ?_
      obtain ⟨T16, hq16, hr14⟩ := x_bd1 hr14
      refine e_invV (pc := 51) (K1 := 0) (S1 := 0) (K := 0) (S := 0) (dd2 := 0) (av := []) (st := []) (id := 16 * 2 + 0) dX2_readMonk_51 xmX2_80 rfl (Or.inl ⟨8, 8, TX10, (sa_2_0 hs), rfl, by decide⟩) (f_cal (M := M) (us2 := [2]) [0] hn rfl (And.intro rfl trivial) rfl rfl rfl (c_X10_refuse hst hs   hq16)) (by decide) (Nat.le_of_ble_eq_true rfl) (Or.inl rfl) ?_
      show Ev g _ _ _ _ _ _ 54 [some (x_r (16 * 2 + 0)), some (x_r (16 * 4 + 0)), some (x_i v5), none, none, none] [] (al, ro, fl (ml M [2, 4] [T16, Dr])) _ _ _ _
      cases hr14
      exact hjhr14
  · rw [if_neg hb] at hG
    refine e_aloadn (pc := 9) (i := 0) dX2_readMonk_9 rfl rfl ?_
    obtain ⟨T41, hq41, hG⟩ := x_bd1 hG
    refine e_invV (pc := 10) (K1 := 0) (S1 := 0) (K := 0) (S := 0) (dd2 := 0) (av := []) (st := []) (id := 16 * 2 + 0) dX2_readMonk_10 xmX2_80 rfl (Or.inl ⟨8, 8, TX10, (sa_2_0 hs), rfl, by decide⟩) (f_cal (M := M) (us2 := [2]) [0] hn rfl (And.intro rfl trivial) rfl rfl rfl (c_X10_refuse hst hs   hq41)) (by decide) (Nat.le_of_ble_eq_true rfl) (Or.inl rfl) ?_
    show Ev g _ _ _ _ _ _ 13 [some (x_r (16 * 2 + 0)), some (x_r (16 * 4 + 0)), none, none, none, none] [] (al, ro, fl (ml M [2, 4] [T41, Dr])) _ _ _ _
    cases hG
    exact (e_return rfl dX2_readMonk_13)
set_option maxRecDepth 100000 in
set_option maxHeartbeats 4000000 in
theorem c_X10_takeSeason {g : xG} {al : List (Nat × Nat × Nat)} {ro : Nat → Nat → Option Nat} (hst : g.1.stackTraces = false) (hs : SH al ro) {M : Nat → xU} {T : xU}  {t : (Int × xU)} (hG : G10_takeSeason T = some t) :
    Cal g yX10_takeSeason cX10_takeSeason 2 (some .int) 7 [x_r (16 * 2 + 0)] (al, ro, fl (ml M [2] [T])) 0 0 (.inl (some (x_i t.1))) (al, ro, fl (ml M [2] [t.2])) := by
  have hn : ([2] : List Nat).Nodup := by decide
  refine cal_of_ev (plainFor_of_name (by decide)) (x_c1 rfl) (Nat.le_of_ble_eq_true rfl) hst ?_
  show Ev g _ _ _ _ _ _ 0 [some (x_r (16 * 2 + 0)), none] [] (al, ro, fl (ml M [2] [T])) _ _ _ _
  rw [G10_takeSeason] at hG
  refine e_iconst (pc := 0) dX10_takeSeason_0 (x_R rfl) ?_
  refine e_istoren (pc := 1) (i := 1) dX10_takeSeason_1 rfl (by decide) rfl ?_
  show Ev g _ _ _ _ _ _ 2 [some (x_r (16 * 2 + 0)), some (x_i (-1))] [] (al, ro, fl (ml M [2] [T])) _ _ _ _
  refine e_aloadn (pc := 2) (i := 0) dX10_takeSeason_2 rfl rfl ?_
  refine e_ldcS (pc := 3) (i := 8) (tx := "spring") dX10_takeSeason_3 (List.mem_of_getElem? (i := 8) rfl) (by decide) ?_
  obtain ⟨v1, hq1, hG⟩ := x_bd1 hG
  refine e_invV (pc := 5) (K1 := 0) (S1 := 0) (K := 0) (S := 0) (dd2 := 6) (av := [x_r (x_s0 + 8)]) (st := []) (id := 16 * 2 + 0) dX10_takeSeason_5 xmX10_68 rfl (Or.inl ⟨8, 8, TX10, (sa_2_0 hs), rfl, by decide⟩) (f_cal (M := M) (us2 := [2]) [0] hn rfl (And.intro rfl trivial) rfl rfl rfl (c_X10_isWord hst hs  (by decide) hq1)) (by decide) (Nat.le_of_ble_eq_true rfl) (Or.inl rfl) ?_
  show Ev g _ _ _ _ _ _ 8 [some (x_r (16 * 2 + 0)), some (x_i (-1))] [x_i v1] (al, ro, fl (ml M [2] [T])) _ _ _ _
  obtain ⟨v3, hr3, hG⟩ := x_bd1 hG
  have hjhr3 : Ev g yX10_takeSeason cX10_takeSeason 2 (some .int) [] 7 55 [some (x_r (16 * 2 + 0)), some (x_i v3)] [] (al, ro, fl (ml M [2] [T])) 0 0 (.inl (some (x_i t.1))) (al, ro, fl (ml M [2] [t.2])) := by
    refine e_iloadn (pc := 55) (i := 1) dX10_takeSeason_55 rfl rfl ?_
    refine e_iconst (pc := 56) dX10_takeSeason_56 (x_R rfl) ?_
    obtain ⟨T11, hr11, hG⟩ := x_bd1 hG
    have hjhr11 : Ev g yX10_takeSeason cX10_takeSeason 2 (some .int) [] 7 71 [some (x_r (16 * 2 + 0)), some (x_i v3)] [] (al, ro, fl (ml M [2] [T11])) 0 0 (.inl (some (x_i t.1))) (al, ro, fl (ml M [2] [t.2])) := by
      refine e_iloadn (pc := 71) (i := 1) dX10_takeSeason_71 rfl rfl ?_
      cases hG
      exact (e_ireturn rfl dX10_takeSeason_72 rfl)
    clear hG
    refine e_icmp_ne (pc := 57) (tgt := 67) dX10_takeSeason_57 (by decide) (fun hb => ?_) (fun hb => ?_)
    · rw [if_neg hb] at hr11
      refine e_aloadn (pc := 67) (i := 0) dX10_takeSeason_67 rfl rfl ?_
      obtain ⟨T13, hq13, hr11⟩ := x_bd1 hr11
      refine e_invV (pc := 68) (K1 := 0) (S1 := 0) (K := 0) (S := 0) (dd2 := 0) (av := []) (st := []) (id := 16 * 2 + 0) dX10_takeSeason_68 xmX10_32 rfl (Or.inl ⟨8, 8, TX10, (sa_2_0 hs), rfl, by decide⟩) (f_cal (M := M) (us2 := [2]) [0] hn rfl (And.intro rfl trivial) rfl rfl rfl (c_X10_readNext hst hs   hq13)) (by decide) (Nat.le_of_ble_eq_true rfl) (Or.inl rfl) ?_
      show Ev g _ _ _ _ _ _ 71 [some (x_r (16 * 2 + 0)), some (x_i v3)] [] (al, ro, fl (ml M [2] [T13])) _ _ _ _
      cases hr11
      exact hjhr11
    · rw [if_pos hb] at hr11
      refine e_aloadn (pc := 60) (i := 0) dX10_takeSeason_60 rfl rfl ?_
      obtain ⟨T15, hq15, hr11⟩ := x_bd1 hr11
      refine e_invV (pc := 61) (K1 := 0) (S1 := 0) (K := 0) (S := 0) (dd2 := 0) (av := []) (st := []) (id := 16 * 2 + 0) dX10_takeSeason_61 xmX10_43 rfl (Or.inl ⟨8, 8, TX10, (sa_2_0 hs), rfl, by decide⟩) (f_cal (M := M) (us2 := [2]) [0] hn rfl (And.intro rfl trivial) rfl rfl rfl (c_X10_refuse hst hs   hq15)) (by decide) (Nat.le_of_ble_eq_true rfl) (Or.inl rfl) ?_
      show Ev g _ _ _ _ _ _ 64 [some (x_r (16 * 2 + 0)), some (x_i v3)] [] (al, ro, fl (ml M [2] [T15])) _ _ _ _
      refine e_goto (pc := 64) (tgt := 71) dX10_takeSeason_64 (by decide) ?_
      cases hr11
      exact hjhr11
  clear hG
  refine e_if_eq (pc := 8) (tgt := 16) dX10_takeSeason_8 (by decide) (fun hb => ?_) (fun hb => ?_)
  · rw [if_pos hb] at hr3
    refine e_aloadn (pc := 16) (i := 0) dX10_takeSeason_16 rfl rfl ?_
    refine e_ldcS (pc := 17) (i := 9) (tx := "summer") dX10_takeSeason_17 (List.mem_of_getElem? (i := 9) rfl) (by decide) ?_
    obtain ⟨v5, hq5, hr3⟩ := x_bd1 hr3
    refine e_invV (pc := 19) (K1 := 0) (S1 := 0) (K := 0) (S := 0) (dd2 := 6) (av := [x_r (x_s0 + 9)]) (st := []) (id := 16 * 2 + 0) dX10_takeSeason_19 xmX10_68 rfl (Or.inl ⟨8, 8, TX10, (sa_2_0 hs), rfl, by decide⟩) (f_cal (M := M) (us2 := [2]) [0] hn rfl (And.intro rfl trivial) rfl rfl rfl (c_X10_isWord hst hs  (by decide) hq5)) (by decide) (Nat.le_of_ble_eq_true rfl) (Or.inl rfl) ?_
    show Ev g _ _ _ _ _ _ 22 [some (x_r (16 * 2 + 0)), some (x_i (-1))] [x_i v5] (al, ro, fl (ml M [2] [T])) _ _ _ _
    refine e_if_eq (pc := 22) (tgt := 30) dX10_takeSeason_22 (by decide) (fun hb => ?_) (fun hb => ?_)
    · rw [if_pos hb] at hr3
      refine e_aloadn (pc := 30) (i := 0) dX10_takeSeason_30 rfl rfl ?_
      refine e_ldcS (pc := 31) (i := 10) (tx := "autumn") dX10_takeSeason_31 (List.mem_of_getElem? (i := 10) rfl) (by decide) ?_
      obtain ⟨v7, hq7, hr3⟩ := x_bd1 hr3
      refine e_invV (pc := 33) (K1 := 0) (S1 := 0) (K := 0) (S := 0) (dd2 := 6) (av := [x_r (x_s0 + 10)]) (st := []) (id := 16 * 2 + 0) dX10_takeSeason_33 xmX10_68 rfl (Or.inl ⟨8, 8, TX10, (sa_2_0 hs), rfl, by decide⟩) (f_cal (M := M) (us2 := [2]) [0] hn rfl (And.intro rfl trivial) rfl rfl rfl (c_X10_isWord hst hs  (by decide) hq7)) (by decide) (Nat.le_of_ble_eq_true rfl) (Or.inl rfl) ?_
      show Ev g _ _ _ _ _ _ 36 [some (x_r (16 * 2 + 0)), some (x_i (-1))] [x_i v7] (al, ro, fl (ml M [2] [T])) _ _ _ _
      refine e_if_eq (pc := 36) (tgt := 44) dX10_takeSeason_36 (by decide) (fun hb => ?_) (fun hb => ?_)
      · rw [if_pos hb] at hr3
        refine e_aloadn (pc := 44) (i := 0) dX10_takeSeason_44 rfl rfl ?_
        refine e_ldcS (pc := 45) (i := 11) (tx := "winter") dX10_takeSeason_45 (List.mem_of_getElem? (i := 11) rfl) (by decide) ?_
        obtain ⟨v9, hq9, hr3⟩ := x_bd1 hr3
        refine e_invV (pc := 47) (K1 := 0) (S1 := 0) (K := 0) (S := 0) (dd2 := 6) (av := [x_r (x_s0 + 11)]) (st := []) (id := 16 * 2 + 0) dX10_takeSeason_47 xmX10_68 rfl (Or.inl ⟨8, 8, TX10, (sa_2_0 hs), rfl, by decide⟩) (f_cal (M := M) (us2 := [2]) [0] hn rfl (And.intro rfl trivial) rfl rfl rfl (c_X10_isWord hst hs  (by decide) hq9)) (by decide) (Nat.le_of_ble_eq_true rfl) (Or.inl rfl) ?_
        show Ev g _ _ _ _ _ _ 50 [some (x_r (16 * 2 + 0)), some (x_i (-1))] [x_i v9] (al, ro, fl (ml M [2] [T])) _ _ _ _
        refine e_if_eq (pc := 50) (tgt := 55) dX10_takeSeason_50 (by decide) (fun hb => ?_) (fun hb => ?_)
        · rw [if_pos hb] at hr3
          cases hr3
          exact hjhr3
        · rw [if_neg hb] at hr3
          refine e_iconst (pc := 53) dX10_takeSeason_53 (x_R rfl) ?_
          refine e_istoren (pc := 54) (i := 1) dX10_takeSeason_54 rfl (by decide) rfl ?_
          show Ev g _ _ _ _ _ _ 55 [some (x_r (16 * 2 + 0)), some (x_i 3)] [] (al, ro, fl (ml M [2] [T])) _ _ _ _
          cases hr3
          exact hjhr3
      · rw [if_neg hb] at hr3
        refine e_iconst (pc := 39) dX10_takeSeason_39 (x_R rfl) ?_
        refine e_istoren (pc := 40) (i := 1) dX10_takeSeason_40 rfl (by decide) rfl ?_
        show Ev g _ _ _ _ _ _ 41 [some (x_r (16 * 2 + 0)), some (x_i 2)] [] (al, ro, fl (ml M [2] [T])) _ _ _ _
        refine e_goto (pc := 41) (tgt := 55) dX10_takeSeason_41 (by decide) ?_
        cases hr3
        exact hjhr3
    · rw [if_neg hb] at hr3
      refine e_iconst (pc := 25) dX10_takeSeason_25 (x_R rfl) ?_
      refine e_istoren (pc := 26) (i := 1) dX10_takeSeason_26 rfl (by decide) rfl ?_
      show Ev g _ _ _ _ _ _ 27 [some (x_r (16 * 2 + 0)), some (x_i 1)] [] (al, ro, fl (ml M [2] [T])) _ _ _ _
      refine e_goto (pc := 27) (tgt := 55) dX10_takeSeason_27 (by decide) ?_
      cases hr3
      exact hjhr3
  · rw [if_neg hb] at hr3
    refine e_iconst (pc := 11) dX10_takeSeason_11 (x_R rfl) ?_
    refine e_istoren (pc := 12) (i := 1) dX10_takeSeason_12 rfl (by decide) rfl ?_
    show Ev g _ _ _ _ _ _ 13 [some (x_r (16 * 2 + 0)), some (x_i 0)] [] (al, ro, fl (ml M [2] [T])) _ _ _ _
    refine e_goto (pc := 13) (tgt := 55) dX10_takeSeason_13 (by decide) ?_
    cases hr3
    exact hjhr3
set_option maxRecDepth 100000 in
set_option maxHeartbeats 4000000 in
theorem c_X10_takeMood {g : xG} {al : List (Nat × Nat × Nat)} {ro : Nat → Nat → Option Nat} (hst : g.1.stackTraces = false) (hs : SH al ro) {M : Nat → xU} {T : xU}  {t : (Int × xU)} (hG : G10_takeMood T = some t) :
    Cal g yX10_takeMood cX10_takeMood 1 (some .int) 8 [x_r (16 * 2 + 0)] (al, ro, fl (ml M [2] [T])) 0 0 (.inl (some (x_i t.1))) (al, ro, fl (ml M [2] [t.2])) := by
  have hn : ([2] : List Nat).Nodup := by decide
  refine cal_of_ev (plainFor_of_name (by decide)) (x_c1 rfl) (Nat.le_of_ble_eq_true rfl) hst ?_
  show Ev g _ _ _ _ _ _ 0 [some (x_r (16 * 2 + 0))] [] (al, ro, fl (ml M [2] [T])) _ _ _ _
  rw [G10_takeMood] at hG
  refine e_aloadn (pc := 0) (i := 0) dX10_takeMood_0 rfl rfl ?_
  refine e_ldcS (pc := 1) (i := 7) (tx := "own") dX10_takeMood_1 (List.mem_of_getElem? (i := 7) rfl) (by decide) ?_
  obtain ⟨v1, T2, hq2, hG⟩ := x_bd2 hG
  refine e_invV (pc := 3) (K1 := 0) (S1 := 0) (K := 0) (S := 0) (dd2 := 7) (av := [x_r (x_s0 + 7)]) (st := []) (id := 16 * 2 + 0) dX10_takeMood_3 xmX10_72 rfl (Or.inl ⟨8, 8, TX10, (sa_2_0 hs), rfl, by decide⟩) (f_cal (M := M) (us2 := [2]) [0] hn rfl (And.intro rfl trivial) rfl rfl rfl (c_X10_takeWord hst hs  (by decide) hq2)) (by decide) (Nat.le_of_ble_eq_true rfl) (Or.inl rfl) ?_
  show Ev g _ _ _ _ _ _ 6 [some (x_r (16 * 2 + 0))] [x_i v1] (al, ro, fl (ml M [2] [T2])) _ _ _ _
  obtain ⟨v4, T5, hr5, hG⟩ := x_bd2 hG
  have hjhr5 : Ev g yX10_takeMood cX10_takeMood 1 (some .int) [] 8 17 [some (x_r (16 * 2 + 0))] [x_i v4] (al, ro, fl (ml M [2] [T5])) 0 0 (.inl (some (x_i t.1))) (al, ro, fl (ml M [2] [t.2])) := by
    cases hG
    exact (e_ireturn rfl dX10_takeMood_17 rfl)
  clear hG
  refine e_if_eq (pc := 6) (tgt := 13) dX10_takeMood_6 (by decide) (fun hb => ?_) (fun hb => ?_)
  · rw [if_pos hb] at hr5
    refine e_aloadn (pc := 13) (i := 0) dX10_takeMood_13 rfl rfl ?_
    obtain ⟨v7, T8, hq8, hr5⟩ := x_bd2 hr5
    refine e_invV (pc := 14) (K1 := 0) (S1 := 0) (K := 0) (S := 0) (dd2 := 7) (av := []) (st := []) (id := 16 * 2 + 0) dX10_takeMood_14 xmX10_102 rfl (Or.inl ⟨8, 8, TX10, (sa_2_0 hs), rfl, by decide⟩) (f_cal (M := M) (us2 := [2]) [0] hn rfl (And.intro rfl trivial) rfl rfl rfl (c_X10_takeSeason hst hs   hq8)) (by decide) (Nat.le_of_ble_eq_true rfl) (Or.inl rfl) ?_
    show Ev g _ _ _ _ _ _ 17 [some (x_r (16 * 2 + 0))] [x_i v7] (al, ro, fl (ml M [2] [T8])) _ _ _ _
    cases hr5
    exact hjhr5
  · rw [if_neg hb] at hr5
    refine e_iconst (pc := 9) dX10_takeMood_9 (x_R rfl) ?_
    refine e_goto (pc := 10) (tgt := 17) dX10_takeMood_10 (by decide) ?_
    cases hr5
    exact hjhr5
set_option maxRecDepth 100000 in
set_option maxHeartbeats 4000000 in
theorem c_X2_readLine {g : xG} {al : List (Nat × Nat × Nat)} {ro : Nat → Nat → Option Nat} (hst : g.1.stackTraces = false) (hs : SH al ro) {M : Nat → xU} {T : xU} {Dr : xU}  {t : (xU × xU)} (hG : G2_readLine T Dr = some t) :
    Cal g yX2_readLine cX2_readLine 3 none 10 [x_r (16 * 2 + 0), x_r (16 * 4 + 0)] (al, ro, fl (ml M [2, 4] [T, Dr])) 0 0 (.inl none) (al, ro, fl (ml M [2, 4] [t.1, t.2])) := by
  have hn : ([2, 4] : List Nat).Nodup := by decide
  refine cal_of_ev (plainFor_of_name (by decide)) (x_c1 rfl) (Nat.le_of_ble_eq_true rfl) hst ?_
  show Ev g _ _ _ _ _ _ 0 [some (x_r (16 * 2 + 0)), some (x_r (16 * 4 + 0)), none] [] (al, ro, fl (ml M [2, 4] [T, Dr])) _ _ _ _
  rw [G2_readLine] at hG
  refine e_aloadn (pc := 0) (i := 0) dX2_readLine_0 rfl rfl ?_
  refine e_ldcS (pc := 1) (i := 0) (tx := "monk") dX2_readLine_1 (List.mem_of_getElem? (i := 0) rfl) (by decide) ?_
  obtain ⟨v1, hq1, hG⟩ := x_bd1 hG
  refine e_invV (pc := 3) (K1 := 0) (S1 := 0) (K := 0) (S := 0) (dd2 := 6) (av := [x_r (x_s0 + 0)]) (st := []) (id := 16 * 2 + 0) dX2_readLine_3 xmX2_27 rfl (Or.inl ⟨8, 8, TX10, (sa_2_0 hs), rfl, by decide⟩) (f_cal (M := M) (us2 := [2]) [0] hn rfl (And.intro rfl trivial) rfl rfl rfl (c_X10_isWord hst hs  (by decide) hq1)) (by decide) (Nat.le_of_ble_eq_true rfl) (Or.inl rfl) ?_
  show Ev g _ _ _ _ _ _ 6 [some (x_r (16 * 2 + 0)), some (x_r (16 * 4 + 0)), none] [x_i v1] (al, ro, fl (ml M [2, 4] [T, Dr])) _ _ _ _
  obtain ⟨T3, Dr4, hr4, hG⟩ := x_bd2 hG
  have hjhr4 : Ev g yX2_readLine cX2_readLine 3 none [] 10 181 [some (x_r (16 * 2 + 0)), some (x_r (16 * 4 + 0)), none] [] (al, ro, fl (ml M [2, 4] [T3, Dr4])) 0 0 (.inl none) (al, ro, fl (ml M [2, 4] [t.1, t.2])) := by
    cases hG
    exact (e_return rfl dX2_readLine_181)
  clear hG
  refine e_if_eq (pc := 6) (tgt := 17) dX2_readLine_6 (by decide) (fun hb => ?_) (fun hb => ?_)
  · rw [if_pos hb] at hr4
    refine e_aloadn (pc := 17) (i := 0) dX2_readLine_17 rfl rfl ?_
    refine e_ldcS (pc := 18) (i := 5) (tx := "bell") dX2_readLine_18 (List.mem_of_getElem? (i := 5) rfl) (by decide) ?_
    obtain ⟨v6, T7, hq7, hr4⟩ := x_bd2 hr4
    refine e_invV (pc := 20) (K1 := 0) (S1 := 0) (K := 0) (S := 0) (dd2 := 7) (av := [x_r (x_s0 + 5)]) (st := []) (id := 16 * 2 + 0) dX2_readLine_20 xmX2_36 rfl (Or.inl ⟨8, 8, TX10, (sa_2_0 hs), rfl, by decide⟩) (f_cal (M := M) (us2 := [2]) [0] hn rfl (And.intro rfl trivial) rfl rfl rfl (c_X10_takeWord hst hs  (by decide) hq7)) (by decide) (Nat.le_of_ble_eq_true rfl) (Or.inl rfl) ?_
    show Ev g _ _ _ _ _ _ 23 [some (x_r (16 * 2 + 0)), some (x_r (16 * 4 + 0)), none] [x_i v6] (al, ro, fl (ml M [2, 4] [T7, Dr])) _ _ _ _
    refine e_if_eq (pc := 23) (tgt := 39) dX2_readLine_23 (by decide) (fun hb => ?_) (fun hb => ?_)
    · rw [if_pos hb] at hr4
      refine e_aloadn (pc := 39) (i := 0) dX2_readLine_39 rfl rfl ?_
      refine e_ldcS (pc := 40) (i := 6) (tx := "mood") dX2_readLine_40 (List.mem_of_getElem? (i := 6) rfl) (by decide) ?_
      obtain ⟨v9, T10, hq10, hr4⟩ := x_bd2 hr4
      refine e_invV (pc := 42) (K1 := 0) (S1 := 0) (K := 0) (S := 0) (dd2 := 7) (av := [x_r (x_s0 + 6)]) (st := []) (id := 16 * 2 + 0) dX2_readLine_42 xmX2_36 rfl (Or.inl ⟨8, 8, TX10, (sa_2_0 hs), rfl, by decide⟩) (f_cal (M := M) (us2 := [2]) [0] hn rfl (And.intro rfl trivial) rfl rfl rfl (c_X10_takeWord hst hs  (by decide) hq10)) (by decide) (Nat.le_of_ble_eq_true rfl) (Or.inl rfl) ?_
      show Ev g _ _ _ _ _ _ 45 [some (x_r (16 * 2 + 0)), some (x_r (16 * 4 + 0)), none] [x_i v9] (al, ro, fl (ml M [2, 4] [T10, Dr])) _ _ _ _
      refine e_if_eq (pc := 45) (tgt := 59) dX2_readLine_45 (by decide) (fun hb => ?_) (fun hb => ?_)
      · rw [if_pos hb] at hr4
        refine e_aloadn (pc := 59) (i := 0) dX2_readLine_59 rfl rfl ?_
        refine e_ldcS (pc := 60) (i := 12) (tx := "fickle") dX2_readLine_60 (List.mem_of_getElem? (i := 12) rfl) (by decide) ?_
        obtain ⟨v12, T13, hq13, hr4⟩ := x_bd2 hr4
        refine e_invV (pc := 62) (K1 := 0) (S1 := 0) (K := 0) (S := 0) (dd2 := 7) (av := [x_r (x_s0 + 12)]) (st := []) (id := 16 * 2 + 0) dX2_readLine_62 xmX2_36 rfl (Or.inl ⟨8, 8, TX10, (sa_2_0 hs), rfl, by decide⟩) (f_cal (M := M) (us2 := [2]) [0] hn rfl (And.intro rfl trivial) rfl rfl rfl (c_X10_takeWord hst hs  (by decide) hq13)) (by decide) (Nat.le_of_ble_eq_true rfl) (Or.inl rfl) ?_
        show Ev g _ _ _ _ _ _ 65 [some (x_r (16 * 2 + 0)), some (x_r (16 * 4 + 0)), none] [x_i v12] (al, ro, fl (ml M [2, 4] [T13, Dr])) _ _ _ _
        refine e_if_eq (pc := 65) (tgt := 81) dX2_readLine_65 (by decide) (fun hb => ?_) (fun hb => ?_)
        · rw [if_pos hb] at hr4
          refine e_aloadn (pc := 81) (i := 0) dX2_readLine_81 rfl rfl ?_
          refine e_ldcS (pc := 82) (i := 13) (tx := "grass") dX2_readLine_82 (List.mem_of_getElem? (i := 13) rfl) (by decide) ?_
          obtain ⟨v15, T16, hq16, hr4⟩ := x_bd2 hr4
          refine e_invV (pc := 84) (K1 := 0) (S1 := 0) (K := 0) (S := 0) (dd2 := 7) (av := [x_r (x_s0 + 13)]) (st := []) (id := 16 * 2 + 0) dX2_readLine_84 xmX2_36 rfl (Or.inl ⟨8, 8, TX10, (sa_2_0 hs), rfl, by decide⟩) (f_cal (M := M) (us2 := [2]) [0] hn rfl (And.intro rfl trivial) rfl rfl rfl (c_X10_takeWord hst hs  (by decide) hq16)) (by decide) (Nat.le_of_ble_eq_true rfl) (Or.inl rfl) ?_
          show Ev g _ _ _ _ _ _ 87 [some (x_r (16 * 2 + 0)), some (x_r (16 * 4 + 0)), none] [x_i v15] (al, ro, fl (ml M [2, 4] [T16, Dr])) _ _ _ _
          refine e_if_eq (pc := 87) (tgt := 103) dX2_readLine_87 (by decide) (fun hb => ?_) (fun hb => ?_)
          · rw [if_pos hb] at hr4
            refine e_aloadn (pc := 103) (i := 0) dX2_readLine_103 rfl rfl ?_
            refine e_ldcS (pc := 104) (i := 14) (tx := "store") dX2_readLine_104 (List.mem_of_getElem? (i := 14) rfl) (by decide) ?_
            obtain ⟨v18, T19, hq19, hr4⟩ := x_bd2 hr4
            refine e_invV (pc := 106) (K1 := 0) (S1 := 0) (K := 0) (S := 0) (dd2 := 7) (av := [x_r (x_s0 + 14)]) (st := []) (id := 16 * 2 + 0) dX2_readLine_106 xmX2_36 rfl (Or.inl ⟨8, 8, TX10, (sa_2_0 hs), rfl, by decide⟩) (f_cal (M := M) (us2 := [2]) [0] hn rfl (And.intro rfl trivial) rfl rfl rfl (c_X10_takeWord hst hs  (by decide) hq19)) (by decide) (Nat.le_of_ble_eq_true rfl) (Or.inl rfl) ?_
            show Ev g _ _ _ _ _ _ 109 [some (x_r (16 * 2 + 0)), some (x_r (16 * 4 + 0)), none] [x_i v18] (al, ro, fl (ml M [2, 4] [T19, Dr])) _ _ _ _
            refine e_if_eq (pc := 109) (tgt := 132) dX2_readLine_109 (by decide) (fun hb => ?_) (fun hb => ?_)
            · rw [if_pos hb] at hr4
              refine e_aloadn (pc := 132) (i := 0) dX2_readLine_132 rfl rfl ?_
              refine e_ldcS (pc := 133) (i := 15) (tx := "hour") dX2_readLine_133 (List.mem_of_getElem? (i := 15) rfl) (by decide) ?_
              obtain ⟨v21, T22, hq22, hr4⟩ := x_bd2 hr4
              refine e_invV (pc := 135) (K1 := 0) (S1 := 0) (K := 0) (S := 0) (dd2 := 7) (av := [x_r (x_s0 + 15)]) (st := []) (id := 16 * 2 + 0) dX2_readLine_135 xmX2_36 rfl (Or.inl ⟨8, 8, TX10, (sa_2_0 hs), rfl, by decide⟩) (f_cal (M := M) (us2 := [2]) [0] hn rfl (And.intro rfl trivial) rfl rfl rfl (c_X10_takeWord hst hs  (by decide) hq22)) (by decide) (Nat.le_of_ble_eq_true rfl) (Or.inl rfl) ?_
              show Ev g _ _ _ _ _ _ 138 [some (x_r (16 * 2 + 0)), some (x_r (16 * 4 + 0)), none] [x_i v21] (al, ro, fl (ml M [2, 4] [T22, Dr])) _ _ _ _
              refine e_if_eq (pc := 138) (tgt := 154) dX2_readLine_138 (by decide) (fun hb => ?_) (fun hb => ?_)
              · rw [if_pos hb] at hr4
                refine e_aloadn (pc := 154) (i := 0) dX2_readLine_154 rfl rfl ?_
                refine e_ldcS (pc := 155) (i := 16) (tx := "day") dX2_readLine_155 (List.mem_of_getElem? (i := 16) rfl) (by decide) ?_
                obtain ⟨v24, T25, hq25, hr4⟩ := x_bd2 hr4
                refine e_invV (pc := 157) (K1 := 0) (S1 := 0) (K := 0) (S := 0) (dd2 := 7) (av := [x_r (x_s0 + 16)]) (st := []) (id := 16 * 2 + 0) dX2_readLine_157 xmX2_36 rfl (Or.inl ⟨8, 8, TX10, (sa_2_0 hs), rfl, by decide⟩) (f_cal (M := M) (us2 := [2]) [0] hn rfl (And.intro rfl trivial) rfl rfl rfl (c_X10_takeWord hst hs  (by decide) hq25)) (by decide) (Nat.le_of_ble_eq_true rfl) (Or.inl rfl) ?_
                show Ev g _ _ _ _ _ _ 160 [some (x_r (16 * 2 + 0)), some (x_r (16 * 4 + 0)), none] [x_i v24] (al, ro, fl (ml M [2, 4] [T25, Dr])) _ _ _ _
                refine e_if_eq (pc := 160) (tgt := 177) dX2_readLine_160 (by decide) (fun hb => ?_) (fun hb => ?_)
                · rw [if_pos hb] at hr4
                  refine e_aloadn (pc := 177) (i := 0) dX2_readLine_177 rfl rfl ?_
                  obtain ⟨T27, hq27, hr4⟩ := x_bd1 hr4
                  refine e_invV (pc := 178) (K1 := 0) (S1 := 0) (K := 0) (S := 0) (dd2 := 0) (av := []) (st := []) (id := 16 * 2 + 0) dX2_readLine_178 xmX2_80 rfl (Or.inl ⟨8, 8, TX10, (sa_2_0 hs), rfl, by decide⟩) (f_cal (M := M) (us2 := [2]) [0] hn rfl (And.intro rfl trivial) rfl rfl rfl (c_X10_refuse hst hs   hq27)) (by decide) (Nat.le_of_ble_eq_true rfl) (Or.inl rfl) ?_
                  show Ev g _ _ _ _ _ _ 181 [some (x_r (16 * 2 + 0)), some (x_r (16 * 4 + 0)), none] [] (al, ro, fl (ml M [2, 4] [T27, Dr])) _ _ _ _
                  cases hr4
                  exact hjhr4
                · rw [if_neg hb] at hr4
                  refine e_aloadn (pc := 163) (i := 1) dX2_readLine_163 rfl rfl ?_
                  refine e_aloadn (pc := 164) (i := 0) dX2_readLine_164 rfl rfl ?_
                  refine e_sipush (pc := 165) dX2_readLine_165 (by decide +kernel) (x_R rfl) ?_
                  obtain ⟨v29, T30, hq30, hr4⟩ := x_bd2 hr4
                  refine e_invV (pc := 168) (K1 := 0) (S1 := 0) (K := 0) (S := 0) (dd2 := 1) (av := [x_i 999]) (st := [x_r (16 * 4 + 0)]) (id := 16 * 2 + 0) dX2_readLine_168 xmX2_39 rfl (Or.inl ⟨8, 8, TX10, (sa_2_0 hs), rfl, by decide⟩) (f_cal (M := M) (us2 := [2]) [0] hn rfl (And.intro rfl trivial) rfl rfl rfl (c_X10_takeNumber hst hs   hq30)) (by decide) (Nat.le_of_ble_eq_true rfl) (Or.inl rfl) ?_
                  show Ev g _ _ _ _ _ _ 171 [some (x_r (16 * 2 + 0)), some (x_r (16 * 4 + 0)), none] [x_i v29, x_r (16 * 4 + 0)] (al, ro, fl (ml M [2, 4] [T30, Dr])) _ _ _ _
                  refine f_puti (pc := 171) (k := 1) (u := 4) (q := 0) dX2_readLine_171 xf2_78 xw1_6 (sa_4_0 hs) hn rfl rfl rfl (by decide) ?_
                  show Ev g _ _ _ _ _ _ 174 [some (x_r (16 * 2 + 0)), some (x_r (16 * 4 + 0)), none] [] (al, ro, fl (ml M [2, 4] [T30, (x_up Dr 0 6 v29)])) _ _ _ _
                  refine e_goto (pc := 174) (tgt := 181) dX2_readLine_174 (by decide) ?_
                  cases hr4
                  exact hjhr4
              · rw [if_neg hb] at hr4
                refine e_aloadn (pc := 141) (i := 1) dX2_readLine_141 rfl rfl ?_
                refine e_aloadn (pc := 142) (i := 0) dX2_readLine_142 rfl rfl ?_
                refine e_bipush (pc := 143) dX2_readLine_143 (by decide +kernel) (x_R rfl) ?_
                obtain ⟨v32, T33, hq33, hr4⟩ := x_bd2 hr4
                refine e_invV (pc := 145) (K1 := 0) (S1 := 0) (K := 0) (S := 0) (dd2 := 1) (av := [x_i 23]) (st := [x_r (16 * 4 + 0)]) (id := 16 * 2 + 0) dX2_readLine_145 xmX2_39 rfl (Or.inl ⟨8, 8, TX10, (sa_2_0 hs), rfl, by decide⟩) (f_cal (M := M) (us2 := [2]) [0] hn rfl (And.intro rfl trivial) rfl rfl rfl (c_X10_takeNumber hst hs   hq33)) (by decide) (Nat.le_of_ble_eq_true rfl) (Or.inl rfl) ?_
                show Ev g _ _ _ _ _ _ 148 [some (x_r (16 * 2 + 0)), some (x_r (16 * 4 + 0)), none] [x_i v32, x_r (16 * 4 + 0)] (al, ro, fl (ml M [2, 4] [T33, Dr])) _ _ _ _
                refine f_puti (pc := 148) (k := 1) (u := 4) (q := 0) dX2_readLine_148 xf2_74 xw1_5 (sa_4_0 hs) hn rfl rfl rfl (by decide) ?_
                show Ev g _ _ _ _ _ _ 151 [some (x_r (16 * 2 + 0)), some (x_r (16 * 4 + 0)), none] [] (al, ro, fl (ml M [2, 4] [T33, (x_up Dr 0 5 v32)])) _ _ _ _
                refine e_goto (pc := 151) (tgt := 181) dX2_readLine_151 (by decide) ?_
                cases hr4
                exact hjhr4
            · rw [if_neg hb] at hr4
              refine e_aloadn (pc := 112) (i := 0) dX2_readLine_112 rfl rfl ?_
              obtain ⟨v35, T36, hq36, hr4⟩ := x_bd2 hr4
              refine e_invV (pc := 113) (K1 := 0) (S1 := 0) (K := 0) (S := 0) (dd2 := 7) (av := []) (st := []) (id := 16 * 2 + 0) dX2_readLine_113 xmX2_65 rfl (Or.inl ⟨8, 8, TX10, (sa_2_0 hs), rfl, by decide⟩) (f_cal (M := M) (us2 := [2]) [0] hn rfl (And.intro rfl trivial) rfl rfl rfl (c_X10_takeSeason hst hs   hq36)) (by decide) (Nat.le_of_ble_eq_true rfl) (Or.inl rfl) ?_
              show Ev g _ _ _ _ _ _ 116 [some (x_r (16 * 2 + 0)), some (x_r (16 * 4 + 0)), none] [x_i v35] (al, ro, fl (ml M [2, 4] [T36, Dr])) _ _ _ _
              refine e_istoren (pc := 116) (i := 2) dX2_readLine_116 rfl (by decide) rfl ?_
              show Ev g _ _ _ _ _ _ 117 [some (x_r (16 * 2 + 0)), some (x_r (16 * 4 + 0)), some (x_i v35)] [] (al, ro, fl (ml M [2, 4] [T36, Dr])) _ _ _ _
              refine e_aloadn (pc := 117) (i := 1) dX2_readLine_117 rfl rfl ?_
              refine e_iloadn (pc := 118) (i := 2) dX2_readLine_118 rfl rfl ?_
              refine e_aloadn (pc := 119) (i := 0) dX2_readLine_119 rfl rfl ?_
              refine e_sipush (pc := 120) dX2_readLine_120 (by decide +kernel) (x_R rfl) ?_
              obtain ⟨v38, T39, hq39, hr4⟩ := x_bd2 hr4
              refine e_invV (pc := 123) (K1 := 0) (S1 := 0) (K := 0) (S := 0) (dd2 := 1) (av := [x_i 999]) (st := [x_i v35, x_r (16 * 4 + 0)]) (id := 16 * 2 + 0) dX2_readLine_123 xmX2_39 rfl (Or.inl ⟨8, 8, TX10, (sa_2_0 hs), rfl, by decide⟩) (f_cal (M := M) (us2 := [2]) [0] hn rfl (And.intro rfl trivial) rfl rfl rfl (c_X10_takeNumber hst hs   hq39)) (by decide) (Nat.le_of_ble_eq_true rfl) (Or.inl rfl) ?_
              show Ev g _ _ _ _ _ _ 126 [some (x_r (16 * 2 + 0)), some (x_r (16 * 4 + 0)), some (x_i v35)] [x_i v38, x_i v35, x_r (16 * 4 + 0)] (al, ro, fl (ml M [2, 4] [T39, Dr])) _ _ _ _
              obtain ⟨Dr41, hq41, hr4⟩ := x_bd1 hr4
              refine e_invV (pc := 126) (K1 := 0) (S1 := 0) (K := 0) (S := 0) (dd2 := 0) (av := [x_i v35, x_i v38]) (st := []) (id := 16 * 4 + 0) dX2_readLine_126 xmX2_68 rfl (Or.inl ⟨1, 12, TX1, (sa_4_0 hs), rfl, by decide⟩) (f_cal (M := M) (us2 := [4]) [1] hn rfl (And.intro rfl trivial) rfl rfl rfl (c_X1_putStore hst hs (by decide)  hq41)) (by decide) (Nat.le_of_ble_eq_true rfl) (Or.inl rfl) ?_
              show Ev g _ _ _ _ _ _ 129 [some (x_r (16 * 2 + 0)), some (x_r (16 * 4 + 0)), some (x_i v35)] [] (al, ro, fl (ml M [2, 4] [T39, Dr41])) _ _ _ _
              refine e_goto (pc := 129) (tgt := 181) dX2_readLine_129 (by decide) ?_
              cases hr4
              refine e_drop (i := 2) ?_
              exact hjhr4
          · rw [if_neg hb] at hr4
            refine e_aloadn (pc := 90) (i := 1) dX2_readLine_90 rfl rfl ?_
            refine e_aloadn (pc := 91) (i := 0) dX2_readLine_91 rfl rfl ?_
            refine e_bipush (pc := 92) dX2_readLine_92 (by decide +kernel) (x_R rfl) ?_
            obtain ⟨v43, T44, hq44, hr4⟩ := x_bd2 hr4
            refine e_invV (pc := 94) (K1 := 0) (S1 := 0) (K := 0) (S := 0) (dd2 := 1) (av := [x_i 20]) (st := [x_r (16 * 4 + 0)]) (id := 16 * 2 + 0) dX2_readLine_94 xmX2_39 rfl (Or.inl ⟨8, 8, TX10, (sa_2_0 hs), rfl, by decide⟩) (f_cal (M := M) (us2 := [2]) [0] hn rfl (And.intro rfl trivial) rfl rfl rfl (c_X10_takeNumber hst hs   hq44)) (by decide) (Nat.le_of_ble_eq_true rfl) (Or.inl rfl) ?_
            show Ev g _ _ _ _ _ _ 97 [some (x_r (16 * 2 + 0)), some (x_r (16 * 4 + 0)), none] [x_i v43, x_r (16 * 4 + 0)] (al, ro, fl (ml M [2, 4] [T44, Dr])) _ _ _ _
            refine f_puti (pc := 97) (k := 1) (u := 4) (q := 0) dX2_readLine_97 xf2_61 xw1_10 (sa_4_0 hs) hn rfl rfl rfl (by decide) ?_
            show Ev g _ _ _ _ _ _ 100 [some (x_r (16 * 2 + 0)), some (x_r (16 * 4 + 0)), none] [] (al, ro, fl (ml M [2, 4] [T44, (x_up Dr 0 10 v43)])) _ _ _ _
            refine e_goto (pc := 100) (tgt := 181) dX2_readLine_100 (by decide) ?_
            cases hr4
            exact hjhr4
        · rw [if_neg hb] at hr4
          refine e_aloadn (pc := 68) (i := 1) dX2_readLine_68 rfl rfl ?_
          refine e_aloadn (pc := 69) (i := 0) dX2_readLine_69 rfl rfl ?_
          refine e_bipush (pc := 70) dX2_readLine_70 (by decide +kernel) (x_R rfl) ?_
          obtain ⟨v46, T47, hq47, hr4⟩ := x_bd2 hr4
          refine e_invV (pc := 72) (K1 := 0) (S1 := 0) (K := 0) (S := 0) (dd2 := 1) (av := [x_i 100]) (st := [x_r (16 * 4 + 0)]) (id := 16 * 2 + 0) dX2_readLine_72 xmX2_39 rfl (Or.inl ⟨8, 8, TX10, (sa_2_0 hs), rfl, by decide⟩) (f_cal (M := M) (us2 := [2]) [0] hn rfl (And.intro rfl trivial) rfl rfl rfl (c_X10_takeNumber hst hs   hq47)) (by decide) (Nat.le_of_ble_eq_true rfl) (Or.inl rfl) ?_
          show Ev g _ _ _ _ _ _ 75 [some (x_r (16 * 2 + 0)), some (x_r (16 * 4 + 0)), none] [x_i v46, x_r (16 * 4 + 0)] (al, ro, fl (ml M [2, 4] [T47, Dr])) _ _ _ _
          refine f_puti (pc := 75) (k := 1) (u := 4) (q := 0) dX2_readLine_75 xf2_57 xw1_9 (sa_4_0 hs) hn rfl rfl rfl (by decide) ?_
          show Ev g _ _ _ _ _ _ 78 [some (x_r (16 * 2 + 0)), some (x_r (16 * 4 + 0)), none] [] (al, ro, fl (ml M [2, 4] [T47, (x_up Dr 0 9 v46)])) _ _ _ _
          refine e_goto (pc := 78) (tgt := 181) dX2_readLine_78 (by decide) ?_
          cases hr4
          exact hjhr4
      · rw [if_neg hb] at hr4
        refine e_aloadn (pc := 48) (i := 1) dX2_readLine_48 rfl rfl ?_
        refine e_aloadn (pc := 49) (i := 0) dX2_readLine_49 rfl rfl ?_
        obtain ⟨v49, T50, hq50, hr4⟩ := x_bd2 hr4
        refine e_invV (pc := 50) (K1 := 0) (S1 := 0) (K := 0) (S := 0) (dd2 := 8) (av := []) (st := [x_r (16 * 4 + 0)]) (id := 16 * 2 + 0) dX2_readLine_50 xmX2_49 rfl (Or.inl ⟨8, 8, TX10, (sa_2_0 hs), rfl, by decide⟩) (f_cal (M := M) (us2 := [2]) [0] hn rfl (And.intro rfl trivial) rfl rfl rfl (c_X10_takeMood hst hs   hq50)) (by decide) (Nat.le_of_ble_eq_true rfl) (Or.inl rfl) ?_
        show Ev g _ _ _ _ _ _ 53 [some (x_r (16 * 2 + 0)), some (x_r (16 * 4 + 0)), none] [x_i v49, x_r (16 * 4 + 0)] (al, ro, fl (ml M [2, 4] [T50, Dr])) _ _ _ _
        refine f_puti (pc := 53) (k := 1) (u := 4) (q := 0) dX2_readLine_53 xf2_53 xw1_8 (sa_4_0 hs) hn rfl rfl rfl (by decide) ?_
        show Ev g _ _ _ _ _ _ 56 [some (x_r (16 * 2 + 0)), some (x_r (16 * 4 + 0)), none] [] (al, ro, fl (ml M [2, 4] [T50, (x_up Dr 0 8 v49)])) _ _ _ _
        refine e_goto (pc := 56) (tgt := 181) dX2_readLine_56 (by decide) ?_
        cases hr4
        exact hjhr4
    · rw [if_neg hb] at hr4
      refine e_aloadn (pc := 26) (i := 1) dX2_readLine_26 rfl rfl ?_
      refine e_aloadn (pc := 27) (i := 0) dX2_readLine_27 rfl rfl ?_
      refine e_bipush (pc := 28) dX2_readLine_28 (by decide +kernel) (x_R rfl) ?_
      obtain ⟨v52, T53, hq53, hr4⟩ := x_bd2 hr4
      refine e_invV (pc := 30) (K1 := 0) (S1 := 0) (K := 0) (S := 0) (dd2 := 1) (av := [x_i 15]) (st := [x_r (16 * 4 + 0)]) (id := 16 * 2 + 0) dX2_readLine_30 xmX2_39 rfl (Or.inl ⟨8, 8, TX10, (sa_2_0 hs), rfl, by decide⟩) (f_cal (M := M) (us2 := [2]) [0] hn rfl (And.intro rfl trivial) rfl rfl rfl (c_X10_takeNumber hst hs   hq53)) (by decide) (Nat.le_of_ble_eq_true rfl) (Or.inl rfl) ?_
      show Ev g _ _ _ _ _ _ 33 [some (x_r (16 * 2 + 0)), some (x_r (16 * 4 + 0)), none] [x_i v52, x_r (16 * 4 + 0)] (al, ro, fl (ml M [2, 4] [T53, Dr])) _ _ _ _
      refine f_puti (pc := 33) (k := 1) (u := 4) (q := 0) dX2_readLine_33 xf2_43 xw1_7 (sa_4_0 hs) hn rfl rfl rfl (by decide) ?_
      show Ev g _ _ _ _ _ _ 36 [some (x_r (16 * 2 + 0)), some (x_r (16 * 4 + 0)), none] [] (al, ro, fl (ml M [2, 4] [T53, (x_up Dr 0 7 v52)])) _ _ _ _
      refine e_goto (pc := 36) (tgt := 181) dX2_readLine_36 (by decide) ?_
      cases hr4
      exact hjhr4
  · rw [if_neg hb] at hr4
    refine e_aloadn (pc := 9) (i := 0) dX2_readLine_9 rfl rfl ?_
    refine e_aloadn (pc := 10) (i := 1) dX2_readLine_10 rfl rfl ?_
    obtain ⟨T55, Dr56, hq56, hr4⟩ := x_bd2 hr4
    refine e_invS (pc := 11) (K1 := 0) (S1 := 0) (K := 0) (S := 0) (dd2 := 9) (av := [x_r (16 * 2 + 0), x_r (16 * 4 + 0)]) (st := []) dX2_readLine_11 xmX2_31 rfl (f_cal (M := M) (us2 := [2, 4]) [0, 1] hn rfl (And.intro rfl (And.intro rfl trivial)) rfl rfl rfl (c_X2_readMonk hst hs   hq56)) (by decide) (Nat.le_of_ble_eq_true rfl) (Or.inl rfl) ?_
    show Ev g _ _ _ _ _ _ 14 [some (x_r (16 * 2 + 0)), some (x_r (16 * 4 + 0)), none] [] (al, ro, fl (ml M [2, 4] [T55, Dr56])) _ _ _ _
    refine e_goto (pc := 14) (tgt := 181) dX2_readLine_14 (by decide) ?_
    cases hr4
    exact hjhr4
set_option maxRecDepth 100000 in
set_option maxHeartbeats 4000000 in
theorem c_X2_readInto {g : xG} {al : List (Nat × Nat × Nat)} {ro : Nat → Nat → Option Nat} (hst : g.1.stackTraces = false) (hs : SH al ro) {M : Nat → xU} {T : xU} {Dr : xU}  {t : (Int × xU × xU)} (hG : G2_readInto T Dr = some t) :
    Cal g yX2_readInto cX2_readInto 3 (some .int) 11 [x_r (16 * 2 + 0), x_r (16 * 4 + 0)] (al, ro, fl (ml M [2, 4] [T, Dr])) 0 0 (.inl (some (x_i t.1))) (al, ro, fl (ml M [2, 4] [t.2.1, t.2.2])) := by
  have hn : ([2, 4] : List Nat).Nodup := by decide
  refine cal_of_ev (plainFor_of_name (by decide)) (x_c1 rfl) (Nat.le_of_ble_eq_true rfl) hst ?_
  show Ev g _ _ _ _ _ _ 0 [some (x_r (16 * 2 + 0)), some (x_r (16 * 4 + 0)), none] [] (al, ro, fl (ml M [2, 4] [T, Dr])) _ _ _ _
  rw [G2_readInto] at hG
  refine e_iconst (pc := 0) dX2_readInto_0 (x_R rfl) ?_
  refine e_istoren (pc := 1) (i := 2) dX2_readInto_1 rfl (by decide) rfl ?_
  show Ev g _ _ _ _ _ _ 2 [some (x_r (16 * 2 + 0)), some (x_r (16 * 4 + 0)), some (x_i 0)] [] (al, ro, fl (ml M [2, 4] [T, Dr])) _ _ _ _
  obtain ⟨T4, Dr5, hl6, hG⟩ := x_bd2 hG
  have hk6 : ∀ q : (xU × xU), q = (T4, Dr5) → Ev g yX2_readInto cX2_readInto 3 (some .int) [] 11 29 [some (x_r (16 * 2 + 0)), some (x_r (16 * 4 + 0)), none] [] (al, ro, fl (ml M [2, 4] [q.1, q.2])) 0 0 (.inl (some (x_i t.1))) (al, ro, fl (ml M [2, 4] [t.2.1, t.2.2])) := by
    intro q hq
    cases hq
    refine e_aloadn (pc := 29) (i := 0) dX2_readInto_29 rfl rfl ?_
    refine f_geti (pc := 30) (k := 0) (u := 2) (q := 0) dX2_readInto_30 xf2_21 (sa_2_0 hs) rfl hn rfl rfl (by decide) ?_
    show Ev g _ _ _ _ _ _ 33 [some (x_r (16 * 2 + 0)), some (x_r (16 * 4 + 0)), none] [x_i (T4 0 7)] (al, ro, fl (ml M [2, 4] [T4, Dr5])) _ _ _ _
    cases hG
    exact (e_ireturn rfl dX2_readInto_33 rfl)
  clear hG
  refine e_whl G2_readInto_L2 (fun z : (Int × xU × xU) => Ev g yX2_readInto cX2_readInto 3 (some .int) [] 11 2 [some (x_r (16 * 2 + 0)), some (x_r (16 * 4 + 0)), some (x_i z.1)] [] (al, ro, fl (ml M [2, 4] [z.2.1, z.2.2])) 0 0 (.inl (some (x_i t.1))) (al, ro, fl (ml M [2, 4] [t.2.1, t.2.2]))) (fun q => q = (T4, Dr5)) ?_ xFU (0, T, Dr) _ hl6 rfl
  intro z t6 hf6 hi6 hx6
  obtain ⟨v1, T2, Dr3⟩ := z
  rw [G2_readInto_L2] at hf6
  show Ev g _ _ _ _ _ _ 2 [some (x_r (16 * 2 + 0)), some (x_r (16 * 4 + 0)), some (x_i v1)] [] (al, ro, fl (ml M [2, 4] [T2, Dr3])) _ _ _ _
  refine e_iloadn (pc := 2) (i := 2) dX2_readInto_2 rfl rfl ?_
  refine e_bipush (pc := 3) dX2_readInto_3 (by decide +kernel) (x_R rfl) ?_
  refine e_icmp_gt (pc := 5) (tgt := 29) dX2_readInto_5 (by decide) (fun hb => ?_) (fun hb => ?_)
  · rw [if_pos hb] at hf6
    cases hf6
    refine e_drop (i := 2) ?_
    have hh := hk6 _ (hx6 _ rfl)
    try dsimp only at hh
    exact hh
  · rw [if_neg hb] at hf6
    refine e_aloadn (pc := 8) (i := 0) dX2_readInto_8 rfl rfl ?_
    refine e_iloadn (pc := 9) (i := 2) dX2_readInto_9 rfl rfl ?_
    refine e_bipush (pc := 10) dX2_readInto_10 (by decide +kernel) (x_R rfl) ?_
    obtain ⟨v8, T9, hq9, hf6⟩ := x_bd2 hf6
    refine e_invV (pc := 12) (K1 := 0) (S1 := 0) (K := 0) (S := 0) (dd2 := 3) (av := [x_i v1, x_i 14]) (st := []) (id := 16 * 2 + 0) dX2_readInto_12 xmX2_11 rfl (Or.inl ⟨8, 8, TX10, (sa_2_0 hs), rfl, by decide⟩) (f_cal (M := M) (us2 := [2]) [0] hn rfl (And.intro rfl trivial) rfl rfl rfl (c_X10_startsLine hst hs   hq9)) (by decide) (Nat.le_of_ble_eq_true rfl) (Or.inl rfl) ?_
    show Ev g _ _ _ _ _ _ 15 [some (x_r (16 * 2 + 0)), some (x_r (16 * 4 + 0)), some (x_i v1)] [x_i v8] (al, ro, fl (ml M [2, 4] [T9, Dr3])) _ _ _ _
    refine e_if_eq (pc := 15) (tgt := 29) dX2_readInto_15 (by decide) (fun hb => ?_) (fun hb => ?_)
    · rw [if_pos hb] at hf6
      cases hf6
      refine e_drop (i := 2) ?_
      have hh := hk6 _ (hx6 _ rfl)
      try dsimp only at hh
      exact hh
    · rw [if_neg hb] at hf6
      refine e_aloadn (pc := 18) (i := 0) dX2_readInto_18 rfl rfl ?_
      refine e_aloadn (pc := 19) (i := 1) dX2_readInto_19 rfl rfl ?_
      obtain ⟨T11, Dr12, hq12, hf6⟩ := x_bd2 hf6
      refine e_invS (pc := 20) (K1 := 0) (S1 := 0) (K := 0) (S := 0) (dd2 := 10) (av := [x_r (16 * 2 + 0), x_r (16 * 4 + 0)]) (st := []) dX2_readInto_20 xmX2_17 rfl (f_cal (M := M) (us2 := [2, 4]) [0, 1] hn rfl (And.intro rfl (And.intro rfl trivial)) rfl rfl rfl (c_X2_readLine hst hs   hq12)) (by decide) (Nat.le_of_ble_eq_true rfl) (Or.inl rfl) ?_
      show Ev g _ _ _ _ _ _ 23 [some (x_r (16 * 2 + 0)), some (x_r (16 * 4 + 0)), some (x_i v1)] [] (al, ro, fl (ml M [2, 4] [T11, Dr12])) _ _ _ _
      refine e_iinc (pc := 23) dX2_readInto_23 rfl (by decide) rfl ?_
      show Ev g _ _ _ _ _ _ 26 [some (x_r (16 * 2 + 0)), some (x_r (16 * 4 + 0)), some (x_i (x_add v1 1))] [] (al, ro, fl (ml M [2, 4] [T11, Dr12])) _ _ _ _
      refine e_goto (pc := 26) (tgt := 2) dX2_readInto_26 (by decide) ?_
      cases hf6
      have hh := hi6 _ rfl
      try dsimp only at hh
      exact hh
set_option maxRecDepth 100000 in
set_option maxHeartbeats 4000000 in
theorem c_X3_look {g : xG} {al : List (Nat × Nat × Nat)} {ro : Nat → Nat → Option Nat} (hst : g.1.stackTraces = false) (hs : SH al ro) {M : Nat → xU} {N : xU} {Th : xU}  {t : xU} (hG : G3_look N Th = some t) :
    Cal g yX3_look cX3_look 2 none 3 [x_r (16 * 22 + 0), x_r (16 * 3 + 0)] (al, ro, fl (ml M [3, 18] [N, Th])) 0 0 (.inl none) (al, ro, fl (ml M [3, 18] [N, t])) := by
  have hn : ([3, 18] : List Nat).Nodup := by decide
  refine cal_of_ev (plainFor_of_name (by decide)) (x_c1 rfl) (Nat.le_of_ble_eq_true rfl) hst ?_
  show Ev g _ _ _ _ _ _ 0 [some (x_r (16 * 22 + 0)), some (x_r (16 * 3 + 0))] [] (al, ro, fl (ml M [3, 18] [N, Th])) _ _ _ _
  rw [G3_look] at hG
  refine e_aloadn (pc := 0) (i := 0) dX3_look_0 rfl rfl ?_
  refine f_getr (pc := 1) (u := 22) (q := 0) dX3_look_1 xf3_12 (sa_22_0 hs) rfl (sr_22_0_0 hs) ?_
  refine e_aloadn (pc := 4) (i := 1) dX3_look_4 rfl rfl ?_
  obtain ⟨Th1, hq1, hG⟩ := x_bd1 hG
  refine e_invV (pc := 5) (K1 := 0) (S1 := 0) (K := 0) (S := 0) (dd2 := 2) (av := [x_r (16 * 3 + 0)]) (st := []) (id := 16 * 18 + 0) dX3_look_5 xmX3_26 rfl (Or.inl ⟨1, 12, TX1, (sa_18_0 hs), rfl, by decide⟩) (f_cal (M := M) (us2 := [18, 3]) [1, 0] hn rfl (And.intro rfl (And.intro rfl trivial)) rfl rfl rfl (c_X1_copyFrom hst hs (by decide) (by decide) (by decide)  hq1)) (by decide) (Nat.le_of_ble_eq_true rfl) (Or.inl rfl) ?_
  show Ev g _ _ _ _ _ _ 8 [some (x_r (16 * 22 + 0)), some (x_r (16 * 3 + 0))] [] (al, ro, fl (ml M [3, 18] [N, Th1])) _ _ _ _
  cases hG
  exact (e_return rfl dX3_look_8)
set_option maxRecDepth 100000 in
set_option maxHeartbeats 4000000 in
theorem c_X3_passHours {g : xG} {al : List (Nat × Nat × Nat)} {ro : Nat → Nat → Option Nat} (hst : g.1.stackTraces = false) (hs : SH al ro) {M : Nat → xU} {a : Int} {b : Int} {Th : xU} {La : xU}  {t : (xU × xU)} (hG : G3_passHours a b Th La = some t) :
    Cal g yX3_passHours cX3_passHours 5 none 5 [x_r (16 * 22 + 0), x_r (16 * 19 + 0), x_i a, x_i b] (al, ro, fl (ml M [18, 19] [Th, La])) 0 0 (.inl none) (al, ro, fl (ml M [18, 19] [t.1, t.2])) := by
  have hn : ([18, 19] : List Nat).Nodup := by decide
  refine cal_of_ev (plainFor_of_name (by decide)) (x_c1 rfl) (Nat.le_of_ble_eq_true rfl) hst ?_
  show Ev g _ _ _ _ _ _ 0 [some (x_r (16 * 22 + 0)), some (x_r (16 * 19 + 0)), some (x_i a), some (x_i b), none] [] (al, ro, fl (ml M [18, 19] [Th, La])) _ _ _ _
  rw [G3_passHours] at hG
  refine e_iconst (pc := 0) dX3_passHours_0 (x_R rfl) ?_
  refine e_istore (pc := 1) (i := 4) dX3_passHours_1 (by decide) rfl ?_
  show Ev g _ _ _ _ _ _ 3 [some (x_r (16 * 22 + 0)), some (x_r (16 * 19 + 0)), some (x_i a), some (x_i b), some (x_i 0)] [] (al, ro, fl (ml M [18, 19] [Th, La])) _ _ _ _
  obtain ⟨Th4, La5, hl6, hG⟩ := x_bd2 hG
  have hk6 : ∀ q : (xU × xU), q = (Th4, La5) → Ev g yX3_passHours cX3_passHours 5 none [] 5 25 [some (x_r (16 * 22 + 0)), some (x_r (16 * 19 + 0)), some (x_i a), some (x_i b), none] [] (al, ro, fl (ml M [18, 19] [q.1, q.2])) 0 0 (.inl none) (al, ro, fl (ml M [18, 19] [t.1, t.2])) := by
    intro q hq
    cases hq
    cases hG
    exact (e_return rfl dX3_passHours_25)
  clear hG
  refine e_whl (G3_passHours_L3 a b) (fun z : (Int × xU × xU) => Ev g yX3_passHours cX3_passHours 5 none [] 5 3 [some (x_r (16 * 22 + 0)), some (x_r (16 * 19 + 0)), some (x_i a), some (x_i b), some (x_i z.1)] [] (al, ro, fl (ml M [18, 19] [z.2.1, z.2.2])) 0 0 (.inl none) (al, ro, fl (ml M [18, 19] [t.1, t.2]))) (fun q => q = (Th4, La5)) ?_ xFU (0, Th, La) _ hl6 rfl
  intro z t6 hf6 hi6 hx6
  obtain ⟨v1, Th2, La3⟩ := z
  rw [G3_passHours_L3] at hf6
  show Ev g _ _ _ _ _ _ 3 [some (x_r (16 * 22 + 0)), some (x_r (16 * 19 + 0)), some (x_i a), some (x_i b), some (x_i v1)] [] (al, ro, fl (ml M [18, 19] [Th2, La3])) _ _ _ _
  refine e_iload (pc := 3) dX3_passHours_3 rfl ?_
  refine e_iloadn (pc := 5) (i := 2) dX3_passHours_5 rfl rfl ?_
  refine e_icmp_ge (pc := 6) (tgt := 25) dX3_passHours_6 (by decide) (fun hb => ?_) (fun hb => ?_)
  · rw [if_pos hb] at hf6
    cases hf6
    refine e_drop (i := 4) ?_
    have hh := hk6 _ (hx6 _ rfl)
    try dsimp only at hh
    exact hh
  · rw [if_neg hb] at hf6
    refine e_aloadn (pc := 9) (i := 0) dX3_passHours_9 rfl rfl ?_
    refine f_getr (pc := 10) (u := 22) (q := 0) dX3_passHours_10 xf3_12 (sa_22_0 hs) rfl (sr_22_0_0 hs) ?_
    refine e_aloadn (pc := 13) (i := 1) dX3_passHours_13 rfl rfl ?_
    refine e_iloadn (pc := 14) (i := 3) dX3_passHours_14 rfl rfl ?_
    obtain ⟨v8, Th9, La10, hq10, hf6⟩ := x_bd3 hf6
    refine e_invV (pc := 15) (K1 := 0) (S1 := 0) (K := 0) (S := 0) (dd2 := 4) (av := [x_r (16 * 19 + 0), x_i b]) (st := []) (id := 16 * 18 + 0) dX3_passHours_15 xmX3_30 rfl (Or.inl ⟨1, 12, TX1, (sa_18_0 hs), rfl, by decide⟩) (f_cal (M := M) (us2 := [18, 19]) [0, 1] hn rfl (And.intro rfl (And.intro rfl trivial)) rfl rfl rfl (c_X1_passHour hst hs (by decide)  hq10)) (by decide) (Nat.le_of_ble_eq_true rfl) (Or.inl rfl) ?_
    show Ev g _ _ _ _ _ _ 18 [some (x_r (16 * 22 + 0)), some (x_r (16 * 19 + 0)), some (x_i a), some (x_i b), some (x_i v1)] [x_i v8] (al, ro, fl (ml M [18, 19] [Th9, La10])) _ _ _ _
    refine e_pop (pc := 18) dX3_passHours_18 rfl ?_
    refine e_iinc (pc := 19) dX3_passHours_19 rfl (by decide) rfl ?_
    show Ev g _ _ _ _ _ _ 22 [some (x_r (16 * 22 + 0)), some (x_r (16 * 19 + 0)), some (x_i a), some (x_i b), some (x_i (x_add v1 1))] [] (al, ro, fl (ml M [18, 19] [Th9, La10])) _ _ _ _
    refine e_goto (pc := 22) (tgt := 3) dX3_passHours_22 (by decide) ?_
    cases hf6
    have hh := hi6 _ rfl
    try dsimp only at hh
    exact hh
set_option maxRecDepth 100000 in
set_option maxHeartbeats 4000000 in
theorem c_X3_firstAt {g : xG} {al : List (Nat × Nat × Nat)} {ro : Nat → Nat → Option Nat} (hst : g.1.stackTraces = false) (hs : SH al ro) {M : Nat → xU} {a : Int} {b : Int} {N : xU} {Th : xU} {La : xU}  {t : (Int × xU × xU)} (hG : G3_firstAt a b N Th La = some t) :
    Cal g yX3_firstAt cX3_firstAt 6 (some .int) 5 [x_r (16 * 22 + 0), x_r (16 * 3 + 0), x_r (16 * 19 + 0), x_i a, x_i b] (al, ro, fl (ml M [3, 18, 19] [N, Th, La])) 0 0 (.inl (some (x_i t.1))) (al, ro, fl (ml M [3, 18, 19] [N, t.2.1, t.2.2])) := by
  have hn : ([3, 18, 19] : List Nat).Nodup := by decide
  refine cal_of_ev (plainFor_of_name (by decide)) (x_c1 rfl) (Nat.le_of_ble_eq_true rfl) hst ?_
  show Ev g _ _ _ _ _ _ 0 [some (x_r (16 * 22 + 0)), some (x_r (16 * 3 + 0)), some (x_r (16 * 19 + 0)), some (x_i a), some (x_i b), none] [] (al, ro, fl (ml M [3, 18, 19] [N, Th, La])) _ _ _ _
  rw [G3_firstAt] at hG
  refine e_aloadn (pc := 0) (i := 0) dX3_firstAt_0 rfl rfl ?_
  refine e_aloadn (pc := 1) (i := 1) dX3_firstAt_1 rfl rfl ?_
  obtain ⟨Th1, hq1, hG⟩ := x_bd1 hG
  refine e_invV (pc := 2) (K1 := 0) (S1 := 0) (K := 0) (S := 0) (dd2 := 3) (av := [x_r (16 * 3 + 0)]) (st := []) (id := 16 * 22 + 0) dX3_firstAt_2 xmX3_34 rfl (Or.inl ⟨2, 3, TX3, (sa_22_0 hs), rfl, by decide⟩) (f_cal (M := M) (us2 := [3, 18]) [0, 1] hn rfl (And.intro rfl (And.intro rfl trivial)) rfl rfl rfl (c_X3_look hst hs   hq1)) (by decide) (Nat.le_of_ble_eq_true rfl) (Or.inl rfl) ?_
  show Ev g _ _ _ _ _ _ 5 [some (x_r (16 * 22 + 0)), some (x_r (16 * 3 + 0)), some (x_r (16 * 19 + 0)), some (x_i a), some (x_i b), none] [] (al, ro, fl (ml M [3, 18, 19] [N, Th1, La])) _ _ _ _
  refine e_iconst (pc := 5) dX3_firstAt_5 (x_R rfl) ?_
  refine e_istore (pc := 6) (i := 5) dX3_firstAt_6 (by decide) rfl ?_
  show Ev g _ _ _ _ _ _ 8 [some (x_r (16 * 22 + 0)), some (x_r (16 * 3 + 0)), some (x_r (16 * 19 + 0)), some (x_i a), some (x_i b), some (x_i 0)] [] (al, ro, fl (ml M [3, 18, 19] [N, Th1, La])) _ _ _ _
  obtain ⟨r8, hl8, hG⟩ := x_lrd hG
  have hk8 : ∀ q : (xU × xU), r8 = .inl q → Ev g yX3_firstAt cX3_firstAt 6 (some .int) [] 5 47 [some (x_r (16 * 22 + 0)), some (x_r (16 * 3 + 0)), some (x_r (16 * 19 + 0)), some (x_i a), some (x_i b), none] [] (al, ro, fl (ml M [3, 18, 19] [N, q.1, q.2])) 0 0 (.inl (some (x_i t.1))) (al, ro, fl (ml M [3, 18, 19] [N, t.2.1, t.2.2])) := by
    intro q hq
    subst hq
    replace hG := x_lr_l hG
    obtain ⟨Th6, La7⟩ := q
    replace hG := x_ed2 hG
    refine e_iconst (pc := 47) dX3_firstAt_47 (x_R rfl) ?_
    cases hG
    exact (e_ireturn rfl dX3_firstAt_48 rfl)
  have hv8 : ∀ q : (Int × xU × xU), r8 = .inr q → some q = some t := by
    intro q hq
    subst hq
    exact x_lr_r hG
  clear hG
  refine e_whl (G3_firstAt_L8 a b) (fun z : (Int × xU × xU) => Ev g yX3_firstAt cX3_firstAt 6 (some .int) [] 5 8 [some (x_r (16 * 22 + 0)), some (x_r (16 * 3 + 0)), some (x_r (16 * 19 + 0)), some (x_i a), some (x_i b), some (x_i z.1)] [] (al, ro, fl (ml M [3, 18, 19] [N, z.2.1, z.2.2])) 0 0 (.inl (some (x_i t.1))) (al, ro, fl (ml M [3, 18, 19] [N, t.2.1, t.2.2]))) (fun q => q = r8) ?_ xFU (0, Th1, La) _ hl8 rfl
  intro z t8 hf8 hi8 hx8
  obtain ⟨v3, Th4, La5⟩ := z
  rw [G3_firstAt_L8] at hf8
  show Ev g _ _ _ _ _ _ 8 [some (x_r (16 * 22 + 0)), some (x_r (16 * 3 + 0)), some (x_r (16 * 19 + 0)), some (x_i a), some (x_i b), some (x_i v3)] [] (al, ro, fl (ml M [3, 18, 19] [N, Th4, La5])) _ _ _ _
  refine e_iload (pc := 8) dX3_firstAt_8 rfl ?_
  refine e_bipush (pc := 10) dX3_firstAt_10 (by decide +kernel) (x_R rfl) ?_
  refine e_icmp_gt (pc := 12) (tgt := 47) dX3_firstAt_12 (by decide) (fun hb => ?_) (fun hb => ?_)
  · rw [if_pos hb] at hf8
    cases hf8
    refine e_drop (i := 5) ?_
    have hh := hk8 _ (hx8 _ rfl).symm
    try dsimp only at hh
    exact hh
  · rw [if_neg hb] at hf8
    refine e_aloadn (pc := 15) (i := 0) dX3_firstAt_15 rfl rfl ?_
    refine f_getr (pc := 16) (u := 22) (q := 0) dX3_firstAt_16 xf3_12 (sa_22_0 hs) rfl (sr_22_0_0 hs) ?_
    refine e_iloadn (pc := 19) (i := 3) dX3_firstAt_19 rfl rfl ?_
    refine e_iload (pc := 20) dX3_firstAt_20 rfl ?_
    obtain ⟨v10, hq10, hf8⟩ := x_bd1 hf8
    refine e_invV (pc := 22) (K1 := 0) (S1 := 0) (K := 0) (S := 0) (dd2 := 1) (av := [x_i a, x_i b]) (st := []) (id := 16 * 18 + 0) dX3_firstAt_22 xmX3_37 rfl (Or.inl ⟨1, 12, TX1, (sa_18_0 hs), rfl, by decide⟩) (f_cal (M := M) (us2 := [18]) [1] hn rfl (And.intro rfl trivial) rfl rfl rfl (c_X1_isAt hst hs (by decide)  hq10)) (by decide) (Nat.le_of_ble_eq_true rfl) (Or.inl rfl) ?_
    show Ev g _ _ _ _ _ _ 25 [some (x_r (16 * 22 + 0)), some (x_r (16 * 3 + 0)), some (x_r (16 * 19 + 0)), some (x_i a), some (x_i b), some (x_i v3)] [x_i v10] (al, ro, fl (ml M [3, 18, 19] [N, Th4, La5])) _ _ _ _
    refine e_if_eq (pc := 25) (tgt := 31) dX3_firstAt_25 (by decide) (fun hb => ?_) (fun hb => ?_)
    · rw [if_pos hb] at hf8
      refine e_aloadn (pc := 31) (i := 0) dX3_firstAt_31 rfl rfl ?_
      refine f_getr (pc := 32) (u := 22) (q := 0) dX3_firstAt_32 xf3_12 (sa_22_0 hs) rfl (sr_22_0_0 hs) ?_
      refine e_aloadn (pc := 35) (i := 2) dX3_firstAt_35 rfl rfl ?_
      refine e_iconst (pc := 36) dX3_firstAt_36 (x_R rfl) ?_
      obtain ⟨v12, Th13, La14, hq14, hf8⟩ := x_bd3 hf8
      refine e_invV (pc := 37) (K1 := 0) (S1 := 0) (K := 0) (S := 0) (dd2 := 4) (av := [x_r (16 * 19 + 0), x_i 0]) (st := []) (id := 16 * 18 + 0) dX3_firstAt_37 xmX3_30 rfl (Or.inl ⟨1, 12, TX1, (sa_18_0 hs), rfl, by decide⟩) (f_cal (M := M) (us2 := [18, 19]) [1, 2] hn rfl (And.intro rfl (And.intro rfl trivial)) rfl rfl rfl (c_X1_passHour hst hs (by decide)  hq14)) (by decide) (Nat.le_of_ble_eq_true rfl) (Or.inl rfl) ?_
      show Ev g _ _ _ _ _ _ 40 [some (x_r (16 * 22 + 0)), some (x_r (16 * 3 + 0)), some (x_r (16 * 19 + 0)), some (x_i a), some (x_i b), some (x_i v3)] [x_i v12] (al, ro, fl (ml M [3, 18, 19] [N, Th13, La14])) _ _ _ _
      refine e_pop (pc := 40) dX3_firstAt_40 rfl ?_
      refine e_iinc (pc := 41) dX3_firstAt_41 rfl (by decide) rfl ?_
      show Ev g _ _ _ _ _ _ 44 [some (x_r (16 * 22 + 0)), some (x_r (16 * 3 + 0)), some (x_r (16 * 19 + 0)), some (x_i a), some (x_i b), some (x_i (x_add v3 1))] [] (al, ro, fl (ml M [3, 18, 19] [N, Th13, La14])) _ _ _ _
      refine e_goto (pc := 44) (tgt := 8) dX3_firstAt_44 (by decide) ?_
      cases hf8
      have hh := hi8 _ rfl
      try dsimp only at hh
      exact hh
    · rw [if_neg hb] at hf8
      refine e_iload (pc := 28) dX3_firstAt_28 rfl ?_
      cases hf8
      have hz := hv8 _ (hx8 _ rfl).symm
      cases hz
      exact (e_ireturn rfl dX3_firstAt_30 rfl)
