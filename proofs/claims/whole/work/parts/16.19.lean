set_option maxRecDepth 100000 in
set_option maxHeartbeats 4000000 in
theorem c_X11_starves {g : xG} {al : List (Nat × Nat × Nat)} {ro : Nat → Nat → Option Nat} (hst : g.1.stackTraces = false) (hs : SH al ro) {M : Nat → xU} {N : xU} {Th : xU} {La : xU}  {t : (Int × xU × xU)} (hG : G11_starves N Th La = some t) :
    Cal g yX11_starves cX11_starves 1 (some .int) 6 [x_r (16 * 1 + 0)] (al, ro, fl (ml M [3, 18, 19] [N, Th, La])) 0 0 (.inl (some (x_i t.1))) (al, ro, fl (ml M [3, 18, 19] [N, t.2.1, t.2.2])) := by
  have hn : ([3, 18, 19] : List Nat).Nodup := by decide
  refine cal_of_ev (plainFor_of_name (by decide)) (x_c1 rfl) (Nat.le_of_ble_eq_true rfl) hst ?_
  show Ev g _ _ _ _ _ _ 0 [some (x_r (16 * 1 + 0))] [] (al, ro, fl (ml M [3, 18, 19] [N, Th, La])) _ _ _ _
  rw [G11_starves] at hG
  refine e_aloadn (pc := 0) (i := 0) dX11_starves_0 rfl rfl ?_
  refine f_getr (pc := 1) (u := 1) (q := 0) dX11_starves_1 xf11_49 (sa_1_0 hs) rfl (sr_1_0_8 hs) ?_
  refine e_aloadn (pc := 4) (i := 0) dX11_starves_4 rfl rfl ?_
  refine f_getr (pc := 5) (u := 1) (q := 0) dX11_starves_5 xf11_19 (sa_1_0 hs) rfl (sr_1_0_1 hs) ?_
  refine e_aloadn (pc := 8) (i := 0) dX11_starves_8 rfl rfl ?_
  refine f_getr (pc := 9) (u := 1) (q := 0) dX11_starves_9 xf11_32 (sa_1_0 hs) rfl (sr_1_0_4 hs) ?_
  obtain ⟨v1, Th2, La3, hq3, hG⟩ := x_bd3 hG
  refine e_invV (pc := 12) (K1 := 0) (S1 := 0) (K := 0) (S := 0) (dd2 := 5) (av := [x_r (16 * 3 + 0), x_r (16 * 19 + 0)]) (st := []) (id := 16 * 22 + 0) dX11_starves_12 xmX11_229 rfl (Or.inl ⟨2, 3, TX3, (sa_22_0 hs), rfl, by decide⟩) (f_cal (M := M) (us2 := [3, 18, 19]) [0, 1, 2] hn rfl (And.intro rfl (And.intro rfl (And.intro rfl trivial))) rfl rfl rfl (c_X3_firstHunger hst hs   hq3)) (by decide) (Nat.le_of_ble_eq_true rfl) (Or.inl rfl) ?_
  show Ev g _ _ _ _ _ _ 15 [some (x_r (16 * 1 + 0))] [x_i v1] (al, ro, fl (ml M [3, 18, 19] [N, Th2, La3])) _ _ _ _
  cases hG
  exact (e_ireturn rfl dX11_starves_15 rfl)
set_option maxRecDepth 100000 in
set_option maxHeartbeats 4000000 in
theorem c_X11_far {g : xG} {al : List (Nat × Nat × Nat)} {ro : Nat → Nat → Option Nat} (hst : g.1.stackTraces = false) (hs : SH al ro) {M : Nat → xU} {a : Int} {b : Int} {N : xU}  {t : (Int ⊕ Nat)} (hG : G11_far a b N = some t) :
    Cal g yX11_far cX11_far 3 (some .int) 3 [x_r (16 * 1 + 0), x_i a, x_i b] (al, ro, fl (ml M [3] [N])) 2 12 (x_oi t) (al, ro, fl (ml M [3] [N])) := by
  have hn : ([3] : List Nat).Nodup := by decide
  refine cal_of_ev (plainFor_of_name (by decide)) (x_c1 rfl) (Nat.le_of_ble_eq_true rfl) hst ?_
  show Ev g _ _ _ _ _ _ 0 [some (x_r (16 * 1 + 0)), some (x_i a), some (x_i b)] [] (al, ro, fl (ml M [3] [N])) _ _ _ _
  rw [G11_far] at hG
  refine e_iloadn (pc := 0) (i := 1) dX11_far_0 rfl rfl ?_
  obtain ⟨o1, hq1, hG⟩ := x_bd1 hG
  cases o1 with
  | some E3 =>
    replace hG := x_tv_s hG
    cases hG
    exact (e_wide (K0 := 1) (S0 := 6) (by decide) (by decide) (e_invSX (pc := 1) (dd2 := 0) (av := [x_i a]) (st := []) dX11_far_1 xmX11_152 rfl (f_cal (M := M) (us2 := []) [] hn rfl trivial rfl rfl rfl (c_X11_needFlag hst hs   hq1)) (by decide) (Nat.le_of_ble_eq_true rfl) (fun _ q => absurd q List.not_mem_nil)))
  | none =>
    replace hG := x_tv_n hG
    refine e_invS (pc := 1) (K1 := 1) (S1 := 6) (K := 1) (S := 6) (dd2 := 0) (av := [x_i a]) (st := []) dX11_far_1 xmX11_152 rfl (f_cal (M := M) (us2 := []) [] hn rfl trivial rfl rfl rfl (c_X11_needFlag hst hs   hq1)) (by decide) (Nat.le_of_ble_eq_true rfl) (Or.inl rfl) ?_
    show Ev g _ _ _ _ _ _ 4 [some (x_r (16 * 1 + 0)), some (x_i a), some (x_i b)] [] (al, ro, fl (ml M [3] [N])) _ _ _ _
    refine e_iloadn (pc := 4) (i := 2) dX11_far_4 rfl rfl ?_
    obtain ⟨o4, hq4, hG⟩ := x_bd1 hG
    cases o4 with
    | some E6 =>
      replace hG := x_tv_s hG
      cases hG
      exact (e_invSX (pc := 5) (dd2 := 0) (av := [x_i b]) (st := []) dX11_far_5 xmX11_152 rfl (f_cal (M := M) (us2 := []) [] hn rfl trivial rfl rfl rfl (c_X11_needFlag hst hs   hq4)) (by decide) (Nat.le_of_ble_eq_true rfl) (fun _ q => absurd q List.not_mem_nil))
    | none =>
      replace hG := x_tv_n hG
      refine e_invS (pc := 5) (K1 := 1) (S1 := 6) (K := 0) (S := 0) (dd2 := 0) (av := [x_i b]) (st := []) dX11_far_5 xmX11_152 rfl (f_cal (M := M) (us2 := []) [] hn rfl trivial rfl rfl rfl (c_X11_needFlag hst hs   hq4)) (by decide) (Nat.le_of_ble_eq_true rfl) (Or.inl rfl) ?_
      show Ev g _ _ _ _ _ _ 8 [some (x_r (16 * 1 + 0)), some (x_i a), some (x_i b)] [] (al, ro, fl (ml M [3] [N])) _ _ _ _
      refine e_aloadn (pc := 8) (i := 0) dX11_far_8 rfl rfl ?_
      refine f_getr (pc := 9) (u := 1) (q := 0) dX11_far_9 xf11_19 (sa_1_0 hs) rfl (sr_1_0_1 hs) ?_
      refine e_iloadn (pc := 12) (i := 1) dX11_far_12 rfl rfl ?_
      refine e_iloadn (pc := 13) (i := 2) dX11_far_13 rfl rfl ?_
      obtain ⟨v7, hq7, hG⟩ := x_bd1 hG
      refine e_invV (pc := 14) (K1 := 0) (S1 := 0) (K := 0) (S := 0) (dd2 := 2) (av := [x_i a, x_i b]) (st := []) (id := 16 * 3 + 0) dX11_far_14 xmX11_233 rfl (Or.inl ⟨1, 12, TX1, (sa_3_0 hs), rfl, by decide⟩) (f_cal (M := M) (us2 := [3]) [0] hn rfl (And.intro rfl trivial) rfl rfl rfl (c_X1_farOf hst hs (by decide)  hq7)) (by decide) (Nat.le_of_ble_eq_true rfl) (Or.inl rfl) ?_
      show Ev g _ _ _ _ _ _ 17 [some (x_r (16 * 1 + 0)), some (x_i a), some (x_i b)] [x_i v7] (al, ro, fl (ml M [3] [N])) _ _ _ _
      cases hG
      exact (e_ireturn rfl dX11_far_17 rfl)
set_option maxRecDepth 100000 in
set_option maxHeartbeats 4000000 in
theorem c_X11_road {g : xG} {al : List (Nat × Nat × Nat)} {ro : Nat → Nat → Option Nat} (hst : g.1.stackTraces = false) (hs : SH al ro) {M : Nat → xU} {a : Int} {b : Int} {T : xU} {N : xU} {Ro : xU}  {t : ((Int ⊕ Nat) × xU × xU)} (hG : G11_road a b T N Ro = some t) :
    Cal g yX11_road cX11_road 4 (some .int) 7 [x_r (16 * 1 + 0), x_i a, x_i b] (al, ro, fl (ml M [2, 3, 26] [T, N, Ro])) 2 12 (x_oi t.1) (al, ro, fl (ml M [2, 3, 26] [t.2.1, N, t.2.2])) := by
  have hn : ([2, 3, 26] : List Nat).Nodup := by decide
  refine cal_of_ev (plainFor_of_name (by decide)) (x_c1 rfl) (Nat.le_of_ble_eq_true rfl) hst ?_
  show Ev g _ _ _ _ _ _ 0 [some (x_r (16 * 1 + 0)), some (x_i a), some (x_i b), none] [] (al, ro, fl (ml M [2, 3, 26] [T, N, Ro])) _ _ _ _
  rw [G11_road] at hG
  refine e_aloadn (pc := 0) (i := 0) dX11_road_0 rfl rfl ?_
  refine f_getr (pc := 1) (u := 1) (q := 0) dX11_road_1 xf11_77 (sa_1_0 hs) rfl (sr_1_0_12 hs) ?_
  refine e_aloadn (pc := 4) (i := 0) dX11_road_4 rfl rfl ?_
  refine f_getr (pc := 5) (u := 1) (q := 0) dX11_road_5 xf11_10 (sa_1_0 hs) rfl (sr_1_0_0 hs) ?_
  obtain ⟨v1, Ro2, hq2, hG⟩ := x_bd2 hG
  refine e_invV (pc := 8) (K1 := 0) (S1 := 0) (K := 2) (S := 12) (dd2 := 1) (av := [x_r (16 * 2 + 0)]) (st := []) (id := 16 * 26 + 0) dX11_road_8 xmX11_236 rfl (Or.inl ⟨6, 3, TX8, (sa_26_0 hs), rfl, by decide⟩) (f_cal (M := M) (us2 := [2, 26]) [0, 2] hn rfl (And.intro rfl (And.intro rfl trivial)) rfl rfl rfl (c_X8_readFlags hst hs   hq2)) (by decide) (Nat.le_of_ble_eq_true rfl) (Or.inl rfl) ?_
  show Ev g _ _ _ _ _ _ 11 [some (x_r (16 * 1 + 0)), some (x_i a), some (x_i b), none] [x_i v1] (al, ro, fl (ml M [2, 3, 26] [T, N, Ro2])) _ _ _ _
  refine e_istoren (pc := 11) (i := 3) dX11_road_11 rfl (by decide) rfl ?_
  show Ev g _ _ _ _ _ _ 12 [some (x_r (16 * 1 + 0)), some (x_i a), some (x_i b), some (x_i v1)] [] (al, ro, fl (ml M [2, 3, 26] [T, N, Ro2])) _ _ _ _
  refine e_aloadn (pc := 12) (i := 0) dX11_road_12 rfl rfl ?_
  refine f_getr (pc := 13) (u := 1) (q := 0) dX11_road_13 xf11_10 (sa_1_0 hs) rfl (sr_1_0_0 hs) ?_
  obtain ⟨T4, hq4, hG⟩ := x_bd1 hG
  refine e_invV (pc := 16) (K1 := 0) (S1 := 0) (K := 2) (S := 12) (dd2 := 0) (av := []) (st := []) (id := 16 * 2 + 0) dX11_road_16 xmX11_102 rfl (Or.inl ⟨8, 8, TX10, (sa_2_0 hs), rfl, by decide⟩) (f_cal (M := M) (us2 := [2]) [0] hn rfl (And.intro rfl trivial) rfl rfl rfl (c_X10_useUp hst hs   hq4)) (by decide) (Nat.le_of_ble_eq_true rfl) (Or.inl rfl) ?_
  show Ev g _ _ _ _ _ _ 19 [some (x_r (16 * 1 + 0)), some (x_i a), some (x_i b), some (x_i v1)] [] (al, ro, fl (ml M [2, 3, 26] [T4, N, Ro2])) _ _ _ _
  refine e_iloadn (pc := 19) (i := 1) dX11_road_19 rfl rfl ?_
  obtain ⟨o6, hq6, hG⟩ := x_bd1 hG
  cases o6 with
  | some E8 =>
    replace hG := x_tv_s hG
    cases hG
    exact (e_wide (K0 := 1) (S0 := 6) (by decide) (by decide) (e_invSX (pc := 20) (dd2 := 0) (av := [x_i a]) (st := []) dX11_road_20 xmX11_152 rfl (f_cal (M := M) (us2 := []) [] hn rfl trivial rfl rfl rfl (c_X11_needFlag hst hs   hq6)) (by decide) (Nat.le_of_ble_eq_true rfl) (fun _ q => absurd q List.not_mem_nil)))
  | none =>
    replace hG := x_tv_n hG
    refine e_invS (pc := 20) (K1 := 1) (S1 := 6) (K := 1) (S := 6) (dd2 := 0) (av := [x_i a]) (st := []) dX11_road_20 xmX11_152 rfl (f_cal (M := M) (us2 := []) [] hn rfl trivial rfl rfl rfl (c_X11_needFlag hst hs   hq6)) (by decide) (Nat.le_of_ble_eq_true rfl) (Or.inl rfl) ?_
    show Ev g _ _ _ _ _ _ 23 [some (x_r (16 * 1 + 0)), some (x_i a), some (x_i b), some (x_i v1)] [] (al, ro, fl (ml M [2, 3, 26] [T4, N, Ro2])) _ _ _ _
    refine e_iloadn (pc := 23) (i := 3) dX11_road_23 rfl rfl ?_
    refine e_if_ne (pc := 24) (tgt := 35) dX11_road_24 (by decide) (fun hb => ?_) (fun hb => ?_)
    · rw [if_neg hb] at hG
      refine e_iloadn (pc := 35) (i := 2) dX11_road_35 rfl rfl ?_
      obtain ⟨v9, Ro10, hr10, hG⟩ := x_bd2 hG
      have hjhr10 : Ev g yX11_road cX11_road 4 (some .int) [] 7 66 [some (x_r (16 * 1 + 0)), some (x_i a), some (x_i b), some (x_i v1)] [x_i v9] (al, ro, fl (ml M [2, 3, 26] [T4, N, Ro10])) 1 6 (x_oi t.1) (al, ro, fl (ml M [2, 3, 26] [t.2.1, N, t.2.2])) := by
        cases hG
        exact (e_wide (K0 := 0) (S0 := 0) (by decide) (by decide) (e_ireturn rfl dX11_road_66 rfl))
      clear hG
      refine e_if_eq (pc := 36) (tgt := 54) dX11_road_36 (by decide) (fun hb => ?_) (fun hb => ?_)
      · rw [if_pos hb] at hr10
        refine e_aloadn (pc := 54) (i := 0) dX11_road_54 rfl rfl ?_
        refine f_getr (pc := 55) (u := 1) (q := 0) dX11_road_55 xf11_77 (sa_1_0 hs) rfl (sr_1_0_12 hs) ?_
        refine e_aloadn (pc := 58) (i := 0) dX11_road_58 rfl rfl ?_
        refine f_getr (pc := 59) (u := 1) (q := 0) dX11_road_59 xf11_19 (sa_1_0 hs) rfl (sr_1_0_1 hs) ?_
        refine e_iloadn (pc := 62) (i := 1) dX11_road_62 rfl rfl ?_
        obtain ⟨v12, Ro13, hq13, hr10⟩ := x_bd2 hr10
        refine e_invV (pc := 63) (K1 := 0) (S1 := 0) (K := 1) (S := 6) (dd2 := 5) (av := [x_r (16 * 3 + 0), x_i a]) (st := []) (id := 16 * 26 + 0) dX11_road_63 xmX11_243 rfl (Or.inl ⟨6, 3, TX8, (sa_26_0 hs), rfl, by decide⟩) (f_cal (M := M) (us2 := [3, 26]) [1, 2] hn rfl (And.intro rfl (And.intro rfl trivial)) rfl rfl rfl (c_X8_leastWay hst hs   hq13)) (by decide) (Nat.le_of_ble_eq_true rfl) (Or.inl rfl) ?_
        show Ev g _ _ _ _ _ _ 66 [some (x_r (16 * 1 + 0)), some (x_i a), some (x_i b), some (x_i v1)] [x_i v12] (al, ro, fl (ml M [2, 3, 26] [T4, N, Ro13])) _ _ _ _
        cases hr10
        exact hjhr10
      · rw [if_neg hb] at hr10
        refine e_aloadn (pc := 39) (i := 0) dX11_road_39 rfl rfl ?_
        refine f_getr (pc := 40) (u := 1) (q := 0) dX11_road_40 xf11_77 (sa_1_0 hs) rfl (sr_1_0_12 hs) ?_
        refine e_aloadn (pc := 43) (i := 0) dX11_road_43 rfl rfl ?_
        refine f_getr (pc := 44) (u := 1) (q := 0) dX11_road_44 xf11_19 (sa_1_0 hs) rfl (sr_1_0_1 hs) ?_
        refine e_iloadn (pc := 47) (i := 1) dX11_road_47 rfl rfl ?_
        obtain ⟨v15, Ro16, hq16, hr10⟩ := x_bd2 hr10
        refine e_invV (pc := 48) (K1 := 0) (S1 := 0) (K := 1) (S := 6) (dd2 := 6) (av := [x_r (16 * 3 + 0), x_i a]) (st := []) (id := 16 * 26 + 0) dX11_road_48 xmX11_240 rfl (Or.inl ⟨6, 3, TX8, (sa_26_0 hs), rfl, by decide⟩) (f_cal (M := M) (us2 := [3, 26]) [1, 2] hn rfl (And.intro rfl (And.intro rfl trivial)) rfl rfl rfl (c_X8_firstFlag hst hs   hq16)) (by decide) (Nat.le_of_ble_eq_true rfl) (Or.inl rfl) ?_
        show Ev g _ _ _ _ _ _ 51 [some (x_r (16 * 1 + 0)), some (x_i a), some (x_i b), some (x_i v1)] [x_i v15] (al, ro, fl (ml M [2, 3, 26] [T4, N, Ro16])) _ _ _ _
        refine e_goto (pc := 51) (tgt := 66) dX11_road_51 (by decide) ?_
        cases hr10
        exact hjhr10
    · rw [if_pos hb] at hG
      cases hG
      exact (e_throw (pc := 27) xt_0 dX11_road_27 dX11_road_30 dX11_road_31 dX11_road_34 (Nat.le_of_ble_eq_true rfl) (fun _ q => absurd q List.not_mem_nil))
set_option maxRecDepth 100000 in
set_option maxHeartbeats 4000000 in
theorem c_X11_seats {g : xG} {al : List (Nat × Nat × Nat)} {ro : Nat → Nat → Option Nat} (hst : g.1.stackTraces = false) (hs : SH al ro) {M : Nat → xU} {a : Int} {N : xU} {St : xU}  {t : ((Int ⊕ Nat) × xU)} (hG : G11_seats a N St = some t) :
    Cal g yX11_seats cX11_seats 2 (some .int) 4 [x_r (16 * 1 + 0), x_i a] (al, ro, fl (ml M [3, 23] [N, St])) 1 6 (x_oi t.1) (al, ro, fl (ml M [3, 23] [N, t.2])) := by
  have hn : ([3, 23] : List Nat).Nodup := by decide
  refine cal_of_ev (plainFor_of_name (by decide)) (x_c1 rfl) (Nat.le_of_ble_eq_true rfl) hst ?_
  show Ev g _ _ _ _ _ _ 0 [some (x_r (16 * 1 + 0)), some (x_i a)] [] (al, ro, fl (ml M [3, 23] [N, St])) _ _ _ _
  rw [G11_seats] at hG
  refine e_iloadn (pc := 0) (i := 1) dX11_seats_0 rfl rfl ?_
  refine e_iconst (pc := 1) dX11_seats_1 (x_R rfl) ?_
  refine e_icmp_ne (pc := 2) (tgt := 17) dX11_seats_2 (by decide) (fun hb => ?_) (fun hb => ?_)
  · rw [if_neg hb] at hG
    refine e_aloadn (pc := 17) (i := 0) dX11_seats_17 rfl rfl ?_
    refine e_iloadn (pc := 18) (i := 1) dX11_seats_18 rfl rfl ?_
    obtain ⟨o1, hq1, hG⟩ := x_bd1 hG
    cases o1 with
    | some E3 =>
      replace hG := x_tv_s hG
      cases hG
      exact (e_invVX (pc := 19) (dd2 := 0) (av := [x_i a]) (st := []) (id := 16 * 1 + 0) dX11_seats_19 xmX11_128 rfl (Or.inl ⟨9, 17, TX11, (sa_1_0 hs), rfl, by decide⟩) (f_cal (M := M) (us2 := [3]) [0] hn rfl (And.intro rfl trivial) rfl rfl rfl (c_X11_needMonk hst hs   hq1)) (by decide) (Nat.le_of_ble_eq_true rfl) (fun _ q => absurd q List.not_mem_nil))
    | none =>
      replace hG := x_tv_n hG
      refine e_invV (pc := 19) (K1 := 1) (S1 := 6) (K := 0) (S := 0) (dd2 := 0) (av := [x_i a]) (st := []) (id := 16 * 1 + 0) dX11_seats_19 xmX11_128 rfl (Or.inl ⟨9, 17, TX11, (sa_1_0 hs), rfl, by decide⟩) (f_cal (M := M) (us2 := [3]) [0] hn rfl (And.intro rfl trivial) rfl rfl rfl (c_X11_needMonk hst hs   hq1)) (by decide) (Nat.le_of_ble_eq_true rfl) (Or.inl rfl) ?_
      show Ev g _ _ _ _ _ _ 22 [some (x_r (16 * 1 + 0)), some (x_i a)] [] (al, ro, fl (ml M [3, 23] [N, St])) _ _ _ _
      refine e_aloadn (pc := 22) (i := 0) dX11_seats_22 rfl rfl ?_
      refine f_getr (pc := 23) (u := 1) (q := 0) dX11_seats_23 xf11_56 (sa_1_0 hs) rfl (sr_1_0_9 hs) ?_
      refine e_aloadn (pc := 26) (i := 0) dX11_seats_26 rfl rfl ?_
      refine f_getr (pc := 27) (u := 1) (q := 0) dX11_seats_27 xf11_19 (sa_1_0 hs) rfl (sr_1_0_1 hs) ?_
      refine e_iloadn (pc := 30) (i := 1) dX11_seats_30 rfl rfl ?_
      obtain ⟨v4, St5, hq5, hG⟩ := x_bd2 hG
      refine e_invV (pc := 31) (K1 := 0) (S1 := 0) (K := 0) (S := 0) (dd2 := 3) (av := [x_r (16 * 3 + 0), x_i a]) (st := []) (id := 16 * 23 + 0) dX11_seats_31 xmX11_250 rfl (Or.inl ⟨7, 4, TX9, (sa_23_0 hs), rfl, by decide⟩) (f_cal (M := M) (us2 := [3, 23]) [0, 1] hn rfl (And.intro rfl (And.intro rfl trivial)) rfl rfl rfl (c_X9_seatOf hst hs   hq5)) (by decide) (Nat.le_of_ble_eq_true rfl) (Or.inl rfl) ?_
      show Ev g _ _ _ _ _ _ 34 [some (x_r (16 * 1 + 0)), some (x_i a)] [x_i v4] (al, ro, fl (ml M [3, 23] [N, St5])) _ _ _ _
      cases hG
      exact (e_ireturn rfl dX11_seats_34 rfl)
  · rw [if_pos hb] at hG
    refine e_aloadn (pc := 5) (i := 0) dX11_seats_5 rfl rfl ?_
    refine f_getr (pc := 6) (u := 1) (q := 0) dX11_seats_6 xf11_56 (sa_1_0 hs) rfl (sr_1_0_9 hs) ?_
    refine e_aloadn (pc := 9) (i := 0) dX11_seats_9 rfl rfl ?_
    refine f_getr (pc := 10) (u := 1) (q := 0) dX11_seats_10 xf11_19 (sa_1_0 hs) rfl (sr_1_0_1 hs) ?_
    obtain ⟨v7, St8, hq8, hG⟩ := x_bd2 hG
    refine e_invV (pc := 13) (K1 := 0) (S1 := 0) (K := 1) (S := 6) (dd2 := 2) (av := [x_r (16 * 3 + 0)]) (st := []) (id := 16 * 23 + 0) dX11_seats_13 xmX11_246 rfl (Or.inl ⟨7, 4, TX9, (sa_23_0 hs), rfl, by decide⟩) (f_cal (M := M) (us2 := [3, 23]) [0, 1] hn rfl (And.intro rfl (And.intro rfl trivial)) rfl rfl rfl (c_X9_mostSeated hst hs   hq8)) (by decide) (Nat.le_of_ble_eq_true rfl) (Or.inl rfl) ?_
    show Ev g _ _ _ _ _ _ 16 [some (x_r (16 * 1 + 0)), some (x_i a)] [x_i v7] (al, ro, fl (ml M [3, 23] [N, St8])) _ _ _ _
    cases hG
    exact (e_wide (K0 := 0) (S0 := 0) (by decide) (by decide) (e_ireturn rfl dX11_seats_16 rfl))
set_option maxRecDepth 100000 in
set_option maxHeartbeats 4000000 in
theorem c_X11_shown {g : xG} {al : List (Nat × Nat × Nat)} {ro : Nat → Nat → Option Nat} (hst : g.1.stackTraces = false) (hs : SH al ro) {M : Nat → xU} {N : xU} {St : xU}  {t : (Int × xU)} (hG : G11_shown N St = some t) :
    Cal g yX11_shown cX11_shown 1 (some .int) 3 [x_r (16 * 1 + 0)] (al, ro, fl (ml M [3, 23] [N, St])) 0 0 (.inl (some (x_i t.1))) (al, ro, fl (ml M [3, 23] [N, t.2])) := by
  have hn : ([3, 23] : List Nat).Nodup := by decide
  refine cal_of_ev (plainFor_of_name (by decide)) (x_c1 rfl) (Nat.le_of_ble_eq_true rfl) hst ?_
  show Ev g _ _ _ _ _ _ 0 [some (x_r (16 * 1 + 0))] [] (al, ro, fl (ml M [3, 23] [N, St])) _ _ _ _
  rw [G11_shown] at hG
  refine e_aloadn (pc := 0) (i := 0) dX11_shown_0 rfl rfl ?_
  refine f_getr (pc := 1) (u := 1) (q := 0) dX11_shown_1 xf11_56 (sa_1_0 hs) rfl (sr_1_0_9 hs) ?_
  refine e_aloadn (pc := 4) (i := 0) dX11_shown_4 rfl rfl ?_
  refine f_getr (pc := 5) (u := 1) (q := 0) dX11_shown_5 xf11_19 (sa_1_0 hs) rfl (sr_1_0_1 hs) ?_
  obtain ⟨v1, St2, hq2, hG⟩ := x_bd2 hG
  refine e_invV (pc := 8) (K1 := 0) (S1 := 0) (K := 0) (S := 0) (dd2 := 2) (av := [x_r (16 * 3 + 0)]) (st := []) (id := 16 * 23 + 0) dX11_shown_8 xmX11_253 rfl (Or.inl ⟨7, 4, TX9, (sa_23_0 hs), rfl, by decide⟩) (f_cal (M := M) (us2 := [3, 23]) [0, 1] hn rfl (And.intro rfl (And.intro rfl trivial)) rfl rfl rfl (c_X9_fewestWithTooFew hst hs   hq2)) (by decide) (Nat.le_of_ble_eq_true rfl) (Or.inl rfl) ?_
  show Ev g _ _ _ _ _ _ 11 [some (x_r (16 * 1 + 0))] [x_i v1] (al, ro, fl (ml M [3, 23] [N, St2])) _ _ _ _
  cases hG
  exact (e_ireturn rfl dX11_shown_11 rfl)
set_option maxRecDepth 100000 in
set_option maxHeartbeats 4000000 in
theorem c_X11_serves {g : xG} {al : List (Nat × Nat × Nat)} {ro : Nat → Nat → Option Nat} (hst : g.1.stackTraces = false) (hs : SH al ro) {M : Nat → xU} {a : Int} {N : xU}  {t : (Int ⊕ Nat)} (hG : G11_serves a N = some t) :
    Cal g yX11_serves cX11_serves 4 (some .int) 2 [x_r (16 * 1 + 0), x_i a] (al, ro, fl (ml M [3] [N])) 1 6 (x_oi t) (al, ro, fl (ml M [3] [N])) := by
  have hn : ([3] : List Nat).Nodup := by decide
  refine cal_of_ev (plainFor_of_name (by decide)) (x_c1 rfl) (Nat.le_of_ble_eq_true rfl) hst ?_
  show Ev g _ _ _ _ _ _ 0 [some (x_r (16 * 1 + 0)), some (x_i a), none, none] [] (al, ro, fl (ml M [3] [N])) _ _ _ _
  rw [G11_serves] at hG
  refine e_iloadn (pc := 0) (i := 1) dX11_serves_0 rfl rfl ?_
  refine e_if_lt (pc := 1) (tgt := 10) dX11_serves_1 (by decide) (fun hb => ?_) (fun hb => ?_)
  · rw [if_pos hb] at hG
    cases hG
    exact (e_throw (pc := 10) xt_1 dX11_serves_10 dX11_serves_13 dX11_serves_14 dX11_serves_17 (Nat.le_of_ble_eq_true rfl) (fun _ q => absurd q List.not_mem_nil))
  · rw [if_neg hb] at hG
    refine e_iloadn (pc := 4) (i := 1) dX11_serves_4 rfl rfl ?_
    refine e_bipush (pc := 5) dX11_serves_5 (by decide +kernel) (x_R rfl) ?_
    refine e_icmp_lt (pc := 7) (tgt := 18) dX11_serves_7 (by decide) (fun hb => ?_) (fun hb => ?_)
    · rw [if_pos hb] at hG
      refine e_iconst (pc := 18) dX11_serves_18 (x_R rfl) ?_
      refine e_istoren (pc := 19) (i := 2) dX11_serves_19 rfl (by decide) rfl ?_
      show Ev g _ _ _ _ _ _ 20 [some (x_r (16 * 1 + 0)), some (x_i a), some (x_i 0), none] [] (al, ro, fl (ml M [3] [N])) _ _ _ _
      refine e_iconst (pc := 20) dX11_serves_20 (x_R rfl) ?_
      refine e_istoren (pc := 21) (i := 3) dX11_serves_21 rfl (by decide) rfl ?_
      show Ev g _ _ _ _ _ _ 22 [some (x_r (16 * 1 + 0)), some (x_i a), some (x_i 0), some (x_i 0)] [] (al, ro, fl (ml M [3] [N])) _ _ _ _
      obtain ⟨v3, hl4, hG⟩ := x_bd1 hG
      have hk4 : ∀ q : Int, q = v3 → Ev g yX11_serves cX11_serves 4 (some .int) [] 2 57 [some (x_r (16 * 1 + 0)), some (x_i a), some (x_i q), none] [] (al, ro, fl (ml M [3] [N])) 1 6 (x_oi t) (al, ro, fl (ml M [3] [N])) := by
        intro q hq
        replace hq := hq.symm
        subst hq
        refine e_iloadn (pc := 57) (i := 2) dX11_serves_57 rfl rfl ?_
        cases hG
        exact (e_wide (K0 := 0) (S0 := 0) (by decide) (by decide) (e_ireturn rfl dX11_serves_58 rfl))
      clear hG
      refine e_whl (G11_serves_L22 a N) (fun z : (Int × Int) => Ev g yX11_serves cX11_serves 4 (some .int) [] 2 22 [some (x_r (16 * 1 + 0)), some (x_i a), some (x_i z.1), some (x_i z.2)] [] (al, ro, fl (ml M [3] [N])) 1 6 (x_oi t) (al, ro, fl (ml M [3] [N]))) (fun q => q = v3) ?_ xFU (0, 0) _ hl4 rfl
      intro z t4 hf4 hi4 hx4
      obtain ⟨v1, v2⟩ := z
      rw [G11_serves_L22] at hf4
      show Ev g _ _ _ _ _ _ 22 [some (x_r (16 * 1 + 0)), some (x_i a), some (x_i v1), some (x_i v2)] [] (al, ro, fl (ml M [3] [N])) _ _ _ _
      refine e_iloadn (pc := 22) (i := 3) dX11_serves_22 rfl rfl ?_
      refine e_aloadn (pc := 23) (i := 0) dX11_serves_23 rfl rfl ?_
      refine f_getr (pc := 24) (u := 1) (q := 0) dX11_serves_24 xf11_19 (sa_1_0 hs) rfl (sr_1_0_1 hs) ?_
      refine f_geti (pc := 27) (k := 0) (u := 3) (q := 0) dX11_serves_27 xf11_200 (sa_3_0 hs) rfl hn rfl rfl (by decide) ?_
      show Ev g _ _ _ _ _ _ 30 [some (x_r (16 * 1 + 0)), some (x_i a), some (x_i v1), some (x_i v2)] [x_i (N 0 3), x_i v2] (al, ro, fl (ml M [3] [N])) _ _ _ _
      refine e_icmp_ge (pc := 30) (tgt := 57) dX11_serves_30 (by decide) (fun hb => ?_) (fun hb => ?_)
      · rw [if_pos hb] at hf4
        cases hf4
        refine e_drop (i := 3) ?_
        have hh := hk4 _ (hx4 _ rfl)
        try dsimp only at hh
        exact hh
      · rw [if_neg hb] at hf4
        refine e_aloadn (pc := 33) (i := 0) dX11_serves_33 rfl rfl ?_
        refine f_getr (pc := 34) (u := 1) (q := 0) dX11_serves_34 xf11_19 (sa_1_0 hs) rfl (sr_1_0_1 hs) ?_
        refine e_iloadn (pc := 37) (i := 3) dX11_serves_37 rfl rfl ?_
        refine e_iloadn (pc := 38) (i := 1) dX11_serves_38 rfl rfl ?_
        obtain ⟨v6, hq6, hf4⟩ := x_bd1 hf4
        refine e_invV (pc := 39) (K1 := 0) (S1 := 0) (K := 1) (S := 6) (dd2 := 1) (av := [x_i v2, x_i a]) (st := []) (id := 16 * 3 + 0) dX11_serves_39 xmX11_259 rfl (Or.inl ⟨1, 12, TX1, (sa_3_0 hs), rfl, by decide⟩) (f_cal (M := M) (us2 := [3]) [0] hn rfl (And.intro rfl trivial) rfl rfl rfl (c_X1_doesLike hst hs (by decide)  hq6)) (by decide) (Nat.le_of_ble_eq_true rfl) (Or.inl rfl) ?_
        show Ev g _ _ _ _ _ _ 42 [some (x_r (16 * 1 + 0)), some (x_i a), some (x_i v1), some (x_i v2)] [x_i v6] (al, ro, fl (ml M [3] [N])) _ _ _ _
        obtain ⟨v8, hr8, hf4⟩ := x_bd1 hf4
        have hjhr8 : Ev g yX11_serves cX11_serves 4 (some .int) [] 2 51 [some (x_r (16 * 1 + 0)), some (x_i a), some (x_i v8), some (x_i v2)] [] (al, ro, fl (ml M [3] [N])) 1 6 (x_oi t) (al, ro, fl (ml M [3] [N])) := by
          refine e_iinc (pc := 51) dX11_serves_51 rfl (by decide) rfl ?_
          show Ev g _ _ _ _ _ _ 54 [some (x_r (16 * 1 + 0)), some (x_i a), some (x_i v8), some (x_i (x_add v2 1))] [] (al, ro, fl (ml M [3] [N])) _ _ _ _
          refine e_goto (pc := 54) (tgt := 22) dX11_serves_54 (by decide) ?_
          cases hf4
          have hh := hi4 _ rfl
          try dsimp only at hh
          exact hh
        clear hf4
        refine e_if_eq (pc := 42) (tgt := 51) dX11_serves_42 (by decide) (fun hb => ?_) (fun hb => ?_)
        · rw [if_pos hb] at hr8
          cases hr8
          exact hjhr8
        · rw [if_neg hb] at hr8
          refine e_iloadn (pc := 45) (i := 2) dX11_serves_45 rfl rfl ?_
          refine e_iconst (pc := 46) dX11_serves_46 (x_R rfl) ?_
          refine e_iloadn (pc := 47) (i := 3) dX11_serves_47 rfl rfl ?_
          refine e_ishl (pc := 48) dX11_serves_48 ?_
          refine e_ior (pc := 49) dX11_serves_49 ?_
          refine e_istoren (pc := 50) (i := 2) dX11_serves_50 rfl (by decide) rfl ?_
          show Ev g _ _ _ _ _ _ 51 [some (x_r (16 * 1 + 0)), some (x_i a), some (x_i (x_or v1 (x_shl 1 v2))), some (x_i v2)] [] (al, ro, fl (ml M [3] [N])) _ _ _ _
          cases hr8
          exact hjhr8
    · rw [if_neg hb] at hG
      cases hG
      exact (e_throw (pc := 10) xt_1 dX11_serves_10 dX11_serves_13 dX11_serves_14 dX11_serves_17 (Nat.le_of_ble_eq_true rfl) (fun _ q => absurd q List.not_mem_nil))
set_option maxRecDepth 100000 in
set_option maxHeartbeats 4000000 in
theorem c_X11_trade {g : xG} {al : List (Nat × Nat × Nat)} {ro : Nat → Nat → Option Nat} (hst : g.1.stackTraces = false) (hs : SH al ro) {M : Nat → xU} {a : Int} {b : Int} {N : xU} {St : xU}  {t : ((Int ⊕ Nat) × xU)} (hG : G11_trade a b N St = some t) :
    Cal g yX11_trade cX11_trade 3 (some .int) 5 [x_r (16 * 1 + 0), x_i a, x_i b] (al, ro, fl (ml M [3, 23] [N, St])) 1 6 (x_oi t.1) (al, ro, fl (ml M [3, 23] [N, t.2])) := by
  have hn : ([3, 23] : List Nat).Nodup := by decide
  refine cal_of_ev (plainFor_of_name (by decide)) (x_c1 rfl) (Nat.le_of_ble_eq_true rfl) hst ?_
  show Ev g _ _ _ _ _ _ 0 [some (x_r (16 * 1 + 0)), some (x_i a), some (x_i b)] [] (al, ro, fl (ml M [3, 23] [N, St])) _ _ _ _
  rw [G11_trade] at hG
  refine e_aloadn (pc := 0) (i := 0) dX11_trade_0 rfl rfl ?_
  refine e_iloadn (pc := 1) (i := 1) dX11_trade_1 rfl rfl ?_
  obtain ⟨o1, hq1, hG⟩ := x_bd1 hG
  cases o1 with
  | some E3 =>
    replace hG := x_tv_s hG
    cases hG
    exact (e_invVX (pc := 2) (dd2 := 0) (av := [x_i a]) (st := []) (id := 16 * 1 + 0) dX11_trade_2 xmX11_128 rfl (Or.inl ⟨9, 17, TX11, (sa_1_0 hs), rfl, by decide⟩) (f_cal (M := M) (us2 := [3]) [0] hn rfl (And.intro rfl trivial) rfl rfl rfl (c_X11_needMonk hst hs   hq1)) (by decide) (Nat.le_of_ble_eq_true rfl) (fun _ q => absurd q List.not_mem_nil))
  | none =>
    replace hG := x_tv_n hG
    refine e_invV (pc := 2) (K1 := 1) (S1 := 6) (K := 0) (S := 0) (dd2 := 0) (av := [x_i a]) (st := []) (id := 16 * 1 + 0) dX11_trade_2 xmX11_128 rfl (Or.inl ⟨9, 17, TX11, (sa_1_0 hs), rfl, by decide⟩) (f_cal (M := M) (us2 := [3]) [0] hn rfl (And.intro rfl trivial) rfl rfl rfl (c_X11_needMonk hst hs   hq1)) (by decide) (Nat.le_of_ble_eq_true rfl) (Or.inl rfl) ?_
    show Ev g _ _ _ _ _ _ 5 [some (x_r (16 * 1 + 0)), some (x_i a), some (x_i b)] [] (al, ro, fl (ml M [3, 23] [N, St])) _ _ _ _
    refine e_aloadn (pc := 5) (i := 0) dX11_trade_5 rfl rfl ?_
    refine f_getr (pc := 6) (u := 1) (q := 0) dX11_trade_6 xf11_56 (sa_1_0 hs) rfl (sr_1_0_9 hs) ?_
    refine e_aloadn (pc := 9) (i := 0) dX11_trade_9 rfl rfl ?_
    refine f_getr (pc := 10) (u := 1) (q := 0) dX11_trade_10 xf11_19 (sa_1_0 hs) rfl (sr_1_0_1 hs) ?_
    obtain ⟨St4, hq4, hG⟩ := x_bd1 hG
    refine e_invV (pc := 13) (K1 := 0) (S1 := 0) (K := 0) (S := 0) (dd2 := 4) (av := [x_r (16 * 3 + 0)]) (st := []) (id := 16 * 23 + 0) dX11_trade_13 xmX11_262 rfl (Or.inl ⟨7, 4, TX9, (sa_23_0 hs), rfl, by decide⟩) (f_cal (M := M) (us2 := [3, 23]) [0, 1] hn rfl (And.intro rfl (And.intro rfl trivial)) rfl rfl rfl (c_X9_tradeAll hst hs   hq4)) (by decide) (Nat.le_of_ble_eq_true rfl) (Or.inl rfl) ?_
    show Ev g _ _ _ _ _ _ 16 [some (x_r (16 * 1 + 0)), some (x_i a), some (x_i b)] [] (al, ro, fl (ml M [3, 23] [N, St4])) _ _ _ _
    refine e_iloadn (pc := 16) (i := 2) dX11_trade_16 rfl rfl ?_
    obtain ⟨v6, hr6, hG⟩ := x_bd1 hG
    have hjhr6 : Ev g yX11_trade cX11_trade 3 (some .int) [] 5 39 [some (x_r (16 * 1 + 0)), some (x_i a), some (x_i b)] [x_i v6] (al, ro, fl (ml M [3, 23] [N, St4])) 0 0 (x_oi t.1) (al, ro, fl (ml M [3, 23] [N, t.2])) := by
      cases hG
      exact (e_ireturn rfl dX11_trade_39 rfl)
    clear hG
    refine e_if_eq (pc := 17) (tgt := 31) dX11_trade_17 (by decide) (fun hb => ?_) (fun hb => ?_)
    · rw [if_pos hb] at hr6
      refine e_aloadn (pc := 31) (i := 0) dX11_trade_31 rfl rfl ?_
      refine f_getr (pc := 32) (u := 1) (q := 0) dX11_trade_32 xf11_56 (sa_1_0 hs) rfl (sr_1_0_9 hs) ?_
      refine e_iloadn (pc := 35) (i := 1) dX11_trade_35 rfl rfl ?_
      obtain ⟨v8, hq8, hr6⟩ := x_bd1 hr6
      refine e_invV (pc := 36) (K1 := 0) (S1 := 0) (K := 0) (S := 0) (dd2 := 0) (av := [x_i a]) (st := []) (id := 16 * 23 + 0) dX11_trade_36 xmX11_268 rfl (Or.inl ⟨7, 4, TX9, (sa_23_0 hs), rfl, by decide⟩) (f_cal (M := M) (us2 := [23]) [1] hn rfl (And.intro rfl trivial) rfl rfl rfl (c_X9_giverOf hst hs   hq8)) (by decide) (Nat.le_of_ble_eq_true rfl) (Or.inl rfl) ?_
      show Ev g _ _ _ _ _ _ 39 [some (x_r (16 * 1 + 0)), some (x_i a), some (x_i b)] [x_i v8] (al, ro, fl (ml M [3, 23] [N, St4])) _ _ _ _
      cases hr6
      exact hjhr6
    · rw [if_neg hb] at hr6
      refine e_aloadn (pc := 20) (i := 0) dX11_trade_20 rfl rfl ?_
      refine f_getr (pc := 21) (u := 1) (q := 0) dX11_trade_21 xf11_56 (sa_1_0 hs) rfl (sr_1_0_9 hs) ?_
      refine e_iloadn (pc := 24) (i := 1) dX11_trade_24 rfl rfl ?_
      obtain ⟨v10, hq10, hr6⟩ := x_bd1 hr6
      refine e_invV (pc := 25) (K1 := 0) (S1 := 0) (K := 0) (S := 0) (dd2 := 0) (av := [x_i a]) (st := []) (id := 16 * 23 + 0) dX11_trade_25 xmX11_265 rfl (Or.inl ⟨7, 4, TX9, (sa_23_0 hs), rfl, by decide⟩) (f_cal (M := M) (us2 := [23]) [1] hn rfl (And.intro rfl trivial) rfl rfl rfl (c_X9_ringSizeOf hst hs   hq10)) (by decide) (Nat.le_of_ble_eq_true rfl) (Or.inl rfl) ?_
      show Ev g _ _ _ _ _ _ 28 [some (x_r (16 * 1 + 0)), some (x_i a), some (x_i b)] [x_i v10] (al, ro, fl (ml M [3, 23] [N, St4])) _ _ _ _
      refine e_goto (pc := 28) (tgt := 39) dX11_trade_28 (by decide) ?_
      cases hr6
      exact hjhr6
set_option maxRecDepth 100000 in
set_option maxHeartbeats 4000000 in
theorem c_X11_content {g : xG} {al : List (Nat × Nat × Nat)} {ro : Nat → Nat → Option Nat} (hst : g.1.stackTraces = false) (hs : SH al ro) {M : Nat → xU} {N : xU}  {t : Int} (hG : G11_content N = some t) :
    Cal g yX11_content cX11_content 3 (some .int) 2 [x_r (16 * 1 + 0)] (al, ro, fl (ml M [3] [N])) 0 0 (.inl (some (x_i t))) (al, ro, fl (ml M [3] [N])) := by
  have hn : ([3] : List Nat).Nodup := by decide
  refine cal_of_ev (plainFor_of_name (by decide)) (x_c1 rfl) (Nat.le_of_ble_eq_true rfl) hst ?_
  show Ev g _ _ _ _ _ _ 0 [some (x_r (16 * 1 + 0)), none, none] [] (al, ro, fl (ml M [3] [N])) _ _ _ _
  rw [G11_content] at hG
  refine e_iconst (pc := 0) dX11_content_0 (x_R rfl) ?_
  refine e_istoren (pc := 1) (i := 1) dX11_content_1 rfl (by decide) rfl ?_
  show Ev g _ _ _ _ _ _ 2 [some (x_r (16 * 1 + 0)), some (x_i 0), none] [] (al, ro, fl (ml M [3] [N])) _ _ _ _
  refine e_iconst (pc := 2) dX11_content_2 (x_R rfl) ?_
  refine e_istoren (pc := 3) (i := 2) dX11_content_3 rfl (by decide) rfl ?_
  show Ev g _ _ _ _ _ _ 4 [some (x_r (16 * 1 + 0)), some (x_i 0), some (x_i 0)] [] (al, ro, fl (ml M [3] [N])) _ _ _ _
  obtain ⟨v3, hl4, hG⟩ := x_bd1 hG
  have hk4 : ∀ q : Int, q = v3 → Ev g yX11_content cX11_content 3 (some .int) [] 2 47 [some (x_r (16 * 1 + 0)), some (x_i q), none] [] (al, ro, fl (ml M [3] [N])) 0 0 (.inl (some (x_i t))) (al, ro, fl (ml M [3] [N])) := by
    intro q hq
    replace hq := hq.symm
    subst hq
    refine e_iloadn (pc := 47) (i := 1) dX11_content_47 rfl rfl ?_
    cases hG
    exact (e_ireturn rfl dX11_content_48 rfl)
  clear hG
  refine e_whl (G11_content_L4 N) (fun z : (Int × Int) => Ev g yX11_content cX11_content 3 (some .int) [] 2 4 [some (x_r (16 * 1 + 0)), some (x_i z.1), some (x_i z.2)] [] (al, ro, fl (ml M [3] [N])) 0 0 (.inl (some (x_i t))) (al, ro, fl (ml M [3] [N]))) (fun q => q = v3) ?_ xFU (0, 0) _ hl4 rfl
  intro z t4 hf4 hi4 hx4
  obtain ⟨v1, v2⟩ := z
  rw [G11_content_L4] at hf4
  show Ev g _ _ _ _ _ _ 4 [some (x_r (16 * 1 + 0)), some (x_i v1), some (x_i v2)] [] (al, ro, fl (ml M [3] [N])) _ _ _ _
  refine e_iloadn (pc := 4) (i := 2) dX11_content_4 rfl rfl ?_
  refine e_aloadn (pc := 5) (i := 0) dX11_content_5 rfl rfl ?_
  refine f_getr (pc := 6) (u := 1) (q := 0) dX11_content_6 xf11_19 (sa_1_0 hs) rfl (sr_1_0_1 hs) ?_
  refine f_geti (pc := 9) (k := 0) (u := 3) (q := 0) dX11_content_9 xf11_200 (sa_3_0 hs) rfl hn rfl rfl (by decide) ?_
  show Ev g _ _ _ _ _ _ 12 [some (x_r (16 * 1 + 0)), some (x_i v1), some (x_i v2)] [x_i (N 0 3), x_i v2] (al, ro, fl (ml M [3] [N])) _ _ _ _
  refine e_icmp_ge (pc := 12) (tgt := 47) dX11_content_12 (by decide) (fun hb => ?_) (fun hb => ?_)
  · rw [if_pos hb] at hf4
    cases hf4
    refine e_drop (i := 2) ?_
    have hh := hk4 _ (hx4 _ rfl)
    try dsimp only at hh
    exact hh
  · rw [if_neg hb] at hf4
    refine e_aloadn (pc := 15) (i := 0) dX11_content_15 rfl rfl ?_
    refine f_getr (pc := 16) (u := 1) (q := 0) dX11_content_16 xf11_19 (sa_1_0 hs) rfl (sr_1_0_1 hs) ?_
    refine e_iloadn (pc := 19) (i := 2) dX11_content_19 rfl rfl ?_
    refine e_aloadn (pc := 20) (i := 0) dX11_content_20 rfl rfl ?_
    refine f_getr (pc := 21) (u := 1) (q := 0) dX11_content_21 xf11_19 (sa_1_0 hs) rfl (sr_1_0_1 hs) ?_
    refine e_iconst (pc := 24) dX11_content_24 (x_R rfl) ?_
    refine e_iloadn (pc := 25) (i := 2) dX11_content_25 rfl rfl ?_
    obtain ⟨v6, hq6, hf4⟩ := x_bd1 hf4
    refine e_invV (pc := 26) (K1 := 0) (S1 := 0) (K := 0) (S := 0) (dd2 := 0) (av := [x_i 2, x_i v2]) (st := [x_i v2, x_r (16 * 3 + 0)]) (id := 16 * 3 + 0) dX11_content_26 xmX11_138 rfl (Or.inl ⟨1, 12, TX1, (sa_3_0 hs), rfl, by decide⟩) (f_cal (M := M) (us2 := [3]) [0] hn rfl (And.intro rfl trivial) rfl rfl rfl (c_X1_of hst hs (by decide)  hq6)) (by decide) (Nat.le_of_ble_eq_true rfl) (Or.inl rfl) ?_
    show Ev g _ _ _ _ _ _ 29 [some (x_r (16 * 1 + 0)), some (x_i v1), some (x_i v2)] [x_i v6, x_i v2, x_r (16 * 3 + 0)] (al, ro, fl (ml M [3] [N])) _ _ _ _
    obtain ⟨v8, hq8, hf4⟩ := x_bd1 hf4
    refine e_invV (pc := 29) (K1 := 0) (S1 := 0) (K := 0) (S := 0) (dd2 := 1) (av := [x_i v2, x_i v6]) (st := []) (id := 16 * 3 + 0) dX11_content_29 xmX11_259 rfl (Or.inl ⟨1, 12, TX1, (sa_3_0 hs), rfl, by decide⟩) (f_cal (M := M) (us2 := [3]) [0] hn rfl (And.intro rfl trivial) rfl rfl rfl (c_X1_doesLike hst hs (by decide)  hq8)) (by decide) (Nat.le_of_ble_eq_true rfl) (Or.inl rfl) ?_
    show Ev g _ _ _ _ _ _ 32 [some (x_r (16 * 1 + 0)), some (x_i v1), some (x_i v2)] [x_i v8] (al, ro, fl (ml M [3] [N])) _ _ _ _
    obtain ⟨v10, hr10, hf4⟩ := x_bd1 hf4
    have hjhr10 : Ev g yX11_content cX11_content 3 (some .int) [] 2 41 [some (x_r (16 * 1 + 0)), some (x_i v10), some (x_i v2)] [] (al, ro, fl (ml M [3] [N])) 0 0 (.inl (some (x_i t))) (al, ro, fl (ml M [3] [N])) := by
      refine e_iinc (pc := 41) dX11_content_41 rfl (by decide) rfl ?_
      show Ev g _ _ _ _ _ _ 44 [some (x_r (16 * 1 + 0)), some (x_i v10), some (x_i (x_add v2 1))] [] (al, ro, fl (ml M [3] [N])) _ _ _ _
      refine e_goto (pc := 44) (tgt := 4) dX11_content_44 (by decide) ?_
      cases hf4
      have hh := hi4 _ rfl
      try dsimp only at hh
      exact hh
    clear hf4
    refine e_if_eq (pc := 32) (tgt := 41) dX11_content_32 (by decide) (fun hb => ?_) (fun hb => ?_)
    · rw [if_pos hb] at hr10
      cases hr10
      exact hjhr10
    · rw [if_neg hb] at hr10
      refine e_iloadn (pc := 35) (i := 1) dX11_content_35 rfl rfl ?_
      refine e_iconst (pc := 36) dX11_content_36 (x_R rfl) ?_
      refine e_iloadn (pc := 37) (i := 2) dX11_content_37 rfl rfl ?_
      refine e_ishl (pc := 38) dX11_content_38 ?_
      refine e_ior (pc := 39) dX11_content_39 ?_
      refine e_istoren (pc := 40) (i := 1) dX11_content_40 rfl (by decide) rfl ?_
      show Ev g _ _ _ _ _ _ 41 [some (x_r (16 * 1 + 0)), some (x_i (x_or v1 (x_shl 1 v2))), some (x_i v2)] [] (al, ro, fl (ml M [3] [N])) _ _ _ _
      cases hr10
      exact hjhr10
set_option maxRecDepth 100000 in
set_option maxHeartbeats 4000000 in
theorem c_X11_needRows {g : xG} {al : List (Nat × Nat × Nat)} {ro : Nat → Nat → Option Nat} (hst : g.1.stackTraces = false) (hs : SH al ro) {M : Nat → xU} {a : Int} {T : xU}  {t : ((Option Nat) × xU)} (hG : G11_needRows a T = some t) :
    Cal g yX11_needRows cX11_needRows 2 none 1 [x_r (16 * 1 + 0), x_i a] (al, ro, fl (ml M [2] [T])) 1 6 (x_ov t.1) (al, ro, fl (ml M [2] [t.2])) := by
  have hn : ([2] : List Nat).Nodup := by decide
  refine cal_of_ev (plainFor_of_name (by decide)) (x_c1 rfl) (Nat.le_of_ble_eq_true rfl) hst ?_
  show Ev g _ _ _ _ _ _ 0 [some (x_r (16 * 1 + 0)), some (x_i a)] [] (al, ro, fl (ml M [2] [T])) _ _ _ _
  rw [G11_needRows] at hG
  refine e_aloadn (pc := 0) (i := 0) dX11_needRows_0 rfl rfl ?_
  refine f_getr (pc := 1) (u := 1) (q := 0) dX11_needRows_1 xf11_10 (sa_1_0 hs) rfl (sr_1_0_0 hs) ?_
  obtain ⟨T1, hq1, hG⟩ := x_bd1 hG
  refine e_invV (pc := 4) (K1 := 0) (S1 := 0) (K := 1) (S := 6) (dd2 := 0) (av := []) (st := []) (id := 16 * 2 + 0) dX11_needRows_4 xmX11_102 rfl (Or.inl ⟨8, 8, TX10, (sa_2_0 hs), rfl, by decide⟩) (f_cal (M := M) (us2 := [2]) [0] hn rfl (And.intro rfl trivial) rfl rfl rfl (c_X10_useUp hst hs   hq1)) (by decide) (Nat.le_of_ble_eq_true rfl) (Or.inl rfl) ?_
  show Ev g _ _ _ _ _ _ 7 [some (x_r (16 * 1 + 0)), some (x_i a)] [] (al, ro, fl (ml M [2] [T1])) _ _ _ _
  refine e_iloadn (pc := 7) (i := 1) dX11_needRows_7 rfl rfl ?_
  refine e_if_ne (pc := 8) (tgt := 19) dX11_needRows_8 (by decide) (fun hb => ?_) (fun hb => ?_)
  · rw [if_neg hb] at hG
    cases hG
    exact (e_wide (K0 := 0) (S0 := 0) (by decide) (by decide) (e_return rfl dX11_needRows_19))
  · rw [if_pos hb] at hG
    cases hG
    exact (e_throw (pc := 11) xt_0 dX11_needRows_11 dX11_needRows_14 dX11_needRows_15 dX11_needRows_18 (Nat.le_of_ble_eq_true rfl) (fun _ q => absurd q List.not_mem_nil))
set_option maxRecDepth 100000 in
set_option maxHeartbeats 4000000 in
theorem c_X11_seen {g : xG} {al : List (Nat × Nat × Nat)} {ro : Nat → Nat → Option Nat} (hst : g.1.stackTraces = false) (hs : SH al ro) {M : Nat → xU} {a : Int} {T : xU} {N : xU} {Ri : xU}  {t : ((Int ⊕ Nat) × xU × xU)} (hG : G11_seen a T N Ri = some t) :
    Cal g yX11_seen cX11_seen 2 (some .int) 5 [x_r (16 * 1 + 0), x_i a] (al, ro, fl (ml M [2, 3, 24] [T, N, Ri])) 1 6 (x_oi t.1) (al, ro, fl (ml M [2, 3, 24] [t.2.1, N, t.2.2])) := by
  have hn : ([2, 3, 24] : List Nat).Nodup := by decide
  refine cal_of_ev (plainFor_of_name (by decide)) (x_c1 rfl) (Nat.le_of_ble_eq_true rfl) hst ?_
  show Ev g _ _ _ _ _ _ 0 [some (x_r (16 * 1 + 0)), some (x_i a)] [] (al, ro, fl (ml M [2, 3, 24] [T, N, Ri])) _ _ _ _
  rw [G11_seen] at hG
  refine e_aloadn (pc := 0) (i := 0) dX11_seen_0 rfl rfl ?_
  refine e_aloadn (pc := 1) (i := 0) dX11_seen_1 rfl rfl ?_
  refine f_getr (pc := 2) (u := 1) (q := 0) dX11_seen_2 xf11_63 (sa_1_0 hs) rfl (sr_1_0_10 hs) ?_
  refine e_aloadn (pc := 5) (i := 0) dX11_seen_5 rfl rfl ?_
  refine f_getr (pc := 6) (u := 1) (q := 0) dX11_seen_6 xf11_10 (sa_1_0 hs) rfl (sr_1_0_0 hs) ?_
  refine e_aloadn (pc := 9) (i := 0) dX11_seen_9 rfl rfl ?_
  refine f_getr (pc := 10) (u := 1) (q := 0) dX11_seen_10 xf11_19 (sa_1_0 hs) rfl (sr_1_0_1 hs) ?_
  refine f_geti (pc := 13) (k := 1) (u := 3) (q := 0) dX11_seen_13 xf11_184 (sa_3_0 hs) rfl hn rfl rfl (by decide) ?_
  show Ev g _ _ _ _ _ _ 16 [some (x_r (16 * 1 + 0)), some (x_i a)] [x_i (N 0 7), x_r (16 * 2 + 0), x_r (16 * 24 + 0), x_r (16 * 1 + 0)] (al, ro, fl (ml M [2, 3, 24] [T, N, Ri])) _ _ _ _
  obtain ⟨v1, Ri2, hq2, hG⟩ := x_bd2 hG
  refine e_invV (pc := 16) (K1 := 0) (S1 := 0) (K := 1) (S := 6) (dd2 := 4) (av := [x_r (16 * 2 + 0), x_i (N 0 7)]) (st := [x_r (16 * 1 + 0)]) (id := 16 * 24 + 0) dX11_seen_16 xmX11_271 rfl (Or.inl ⟨5, 8, TX7, (sa_24_0 hs), rfl, by decide⟩) (f_cal (M := M) (us2 := [2, 24]) [0, 2] hn rfl (And.intro rfl (And.intro rfl trivial)) rfl rfl rfl (c_X7_readWalk hst hs   hq2)) (by decide) (Nat.le_of_ble_eq_true rfl) (Or.inl rfl) ?_
  show Ev g _ _ _ _ _ _ 19 [some (x_r (16 * 1 + 0)), some (x_i a)] [x_i v1, x_r (16 * 1 + 0)] (al, ro, fl (ml M [2, 3, 24] [T, N, Ri2])) _ _ _ _
  obtain ⟨o4, T5, hq5, hG⟩ := x_bd2 hG
  cases o4 with
  | some E7 =>
    replace hG := x_tv_s hG
    cases hG
    exact (e_invVX (pc := 19) (dd2 := 1) (av := [x_i v1]) (st := []) (id := 16 * 1 + 0) dX11_seen_19 xmX11_275 rfl (Or.inl ⟨9, 17, TX11, (sa_1_0 hs), rfl, by decide⟩) (f_cal (M := M) (us2 := [2]) [0] hn rfl (And.intro rfl trivial) rfl rfl rfl (c_X11_needRows hst hs   hq5)) (by decide) (Nat.le_of_ble_eq_true rfl) (fun _ q => absurd q List.not_mem_nil))
  | none =>
    replace hG := x_tv_n hG
    refine e_invV (pc := 19) (K1 := 1) (S1 := 6) (K := 0) (S := 0) (dd2 := 1) (av := [x_i v1]) (st := []) (id := 16 * 1 + 0) dX11_seen_19 xmX11_275 rfl (Or.inl ⟨9, 17, TX11, (sa_1_0 hs), rfl, by decide⟩) (f_cal (M := M) (us2 := [2]) [0] hn rfl (And.intro rfl trivial) rfl rfl rfl (c_X11_needRows hst hs   hq5)) (by decide) (Nat.le_of_ble_eq_true rfl) (Or.inl rfl) ?_
    show Ev g _ _ _ _ _ _ 22 [some (x_r (16 * 1 + 0)), some (x_i a)] [] (al, ro, fl (ml M [2, 3, 24] [T5, N, Ri2])) _ _ _ _
    refine e_iloadn (pc := 22) (i := 1) dX11_seen_22 rfl rfl ?_
    obtain ⟨v8, hr8, hG⟩ := x_bd1 hG
    have hjhr8 : Ev g yX11_seen cX11_seen 2 (some .int) [] 5 43 [some (x_r (16 * 1 + 0)), some (x_i a)] [x_i v8] (al, ro, fl (ml M [2, 3, 24] [T5, N, Ri2])) 0 0 (x_oi t.1) (al, ro, fl (ml M [2, 3, 24] [t.2.1, N, t.2.2])) := by
      cases hG
      exact (e_ireturn rfl dX11_seen_43 rfl)
    clear hG
    refine e_if_eq (pc := 23) (tgt := 36) dX11_seen_23 (by decide) (fun hb => ?_) (fun hb => ?_)
    · rw [if_pos hb] at hr8
      refine e_aloadn (pc := 36) (i := 0) dX11_seen_36 rfl rfl ?_
      refine f_getr (pc := 37) (u := 1) (q := 0) dX11_seen_37 xf11_63 (sa_1_0 hs) rfl (sr_1_0_10 hs) ?_
      refine f_geti (pc := 40) (k := 2) (u := 24) (q := 0) dX11_seen_40 xf11_282 (sa_24_0 hs) rfl hn rfl rfl (by decide) ?_
      show Ev g _ _ _ _ _ _ 43 [some (x_r (16 * 1 + 0)), some (x_i a)] [x_i (Ri2 0 7)] (al, ro, fl (ml M [2, 3, 24] [T5, N, Ri2])) _ _ _ _
      cases hr8
      exact hjhr8
    · rw [if_neg hb] at hr8
      refine e_aloadn (pc := 26) (i := 0) dX11_seen_26 rfl rfl ?_
      refine f_getr (pc := 27) (u := 1) (q := 0) dX11_seen_27 xf11_63 (sa_1_0 hs) rfl (sr_1_0_10 hs) ?_
      obtain ⟨v10, hq10, hr8⟩ := x_bd1 hr8
      refine e_invV (pc := 30) (K1 := 0) (S1 := 0) (K := 0) (S := 0) (dd2 := 0) (av := []) (st := []) (id := 16 * 24 + 0) dX11_seen_30 xmX11_279 rfl (Or.inl ⟨5, 8, TX7, (sa_24_0 hs), rfl, by decide⟩) (f_cal (M := M) (us2 := [24]) [2] hn rfl (And.intro rfl trivial) rfl rfl rfl (c_X7_beginnings hst hs   hq10)) (by decide) (Nat.le_of_ble_eq_true rfl) (Or.inl rfl) ?_
      show Ev g _ _ _ _ _ _ 33 [some (x_r (16 * 1 + 0)), some (x_i a)] [x_i v10] (al, ro, fl (ml M [2, 3, 24] [T5, N, Ri2])) _ _ _ _
      refine e_goto (pc := 33) (tgt := 43) dX11_seen_33 (by decide) ?_
      cases hr8
      exact hjhr8
set_option maxRecDepth 100000 in
set_option maxHeartbeats 4000000 in
theorem c_X11_ask {g : xG} {al : List (Nat × Nat × Nat)} {ro : Nat → Nat → Option Nat} (hst : g.1.stackTraces = false) (hs : SH al ro) {M : Nat → xU} {T : xU} {N : xU} {Ri : xU}  {t : ((Int ⊕ Nat) × xU × xU)} (hG : G11_ask T N Ri = some t) :
    Cal g yX11_ask cX11_ask 1 (some .int) 5 [x_r (16 * 1 + 0)] (al, ro, fl (ml M [2, 3, 24] [T, N, Ri])) 1 6 (x_oi t.1) (al, ro, fl (ml M [2, 3, 24] [t.2.1, N, t.2.2])) := by
  have hn : ([2, 3, 24] : List Nat).Nodup := by decide
  refine cal_of_ev (plainFor_of_name (by decide)) (x_c1 rfl) (Nat.le_of_ble_eq_true rfl) hst ?_
  show Ev g _ _ _ _ _ _ 0 [some (x_r (16 * 1 + 0))] [] (al, ro, fl (ml M [2, 3, 24] [T, N, Ri])) _ _ _ _
  rw [G11_ask] at hG
  refine e_aloadn (pc := 0) (i := 0) dX11_ask_0 rfl rfl ?_
  refine e_aloadn (pc := 1) (i := 0) dX11_ask_1 rfl rfl ?_
  refine f_getr (pc := 2) (u := 1) (q := 0) dX11_ask_2 xf11_63 (sa_1_0 hs) rfl (sr_1_0_10 hs) ?_
  refine e_aloadn (pc := 5) (i := 0) dX11_ask_5 rfl rfl ?_
  refine f_getr (pc := 6) (u := 1) (q := 0) dX11_ask_6 xf11_10 (sa_1_0 hs) rfl (sr_1_0_0 hs) ?_
  refine e_aloadn (pc := 9) (i := 0) dX11_ask_9 rfl rfl ?_
  refine f_getr (pc := 10) (u := 1) (q := 0) dX11_ask_10 xf11_19 (sa_1_0 hs) rfl (sr_1_0_1 hs) ?_
  refine f_geti (pc := 13) (k := 1) (u := 3) (q := 0) dX11_ask_13 xf11_184 (sa_3_0 hs) rfl hn rfl rfl (by decide) ?_
  show Ev g _ _ _ _ _ _ 16 [some (x_r (16 * 1 + 0))] [x_i (N 0 7), x_r (16 * 2 + 0), x_r (16 * 24 + 0), x_r (16 * 1 + 0)] (al, ro, fl (ml M [2, 3, 24] [T, N, Ri])) _ _ _ _
  obtain ⟨v1, Ri2, hq2, hG⟩ := x_bd2 hG
  refine e_invV (pc := 16) (K1 := 0) (S1 := 0) (K := 1) (S := 6) (dd2 := 4) (av := [x_r (16 * 2 + 0), x_i (N 0 7)]) (st := [x_r (16 * 1 + 0)]) (id := 16 * 24 + 0) dX11_ask_16 xmX11_271 rfl (Or.inl ⟨5, 8, TX7, (sa_24_0 hs), rfl, by decide⟩) (f_cal (M := M) (us2 := [2, 24]) [0, 2] hn rfl (And.intro rfl (And.intro rfl trivial)) rfl rfl rfl (c_X7_readWalk hst hs   hq2)) (by decide) (Nat.le_of_ble_eq_true rfl) (Or.inl rfl) ?_
  show Ev g _ _ _ _ _ _ 19 [some (x_r (16 * 1 + 0))] [x_i v1, x_r (16 * 1 + 0)] (al, ro, fl (ml M [2, 3, 24] [T, N, Ri2])) _ _ _ _
  obtain ⟨o4, T5, hq5, hG⟩ := x_bd2 hG
  cases o4 with
  | some E7 =>
    replace hG := x_tv_s hG
    cases hG
    exact (e_invVX (pc := 19) (dd2 := 1) (av := [x_i v1]) (st := []) (id := 16 * 1 + 0) dX11_ask_19 xmX11_275 rfl (Or.inl ⟨9, 17, TX11, (sa_1_0 hs), rfl, by decide⟩) (f_cal (M := M) (us2 := [2]) [0] hn rfl (And.intro rfl trivial) rfl rfl rfl (c_X11_needRows hst hs   hq5)) (by decide) (Nat.le_of_ble_eq_true rfl) (fun _ q => absurd q List.not_mem_nil))
  | none =>
    replace hG := x_tv_n hG
    refine e_invV (pc := 19) (K1 := 1) (S1 := 6) (K := 0) (S := 0) (dd2 := 1) (av := [x_i v1]) (st := []) (id := 16 * 1 + 0) dX11_ask_19 xmX11_275 rfl (Or.inl ⟨9, 17, TX11, (sa_1_0 hs), rfl, by decide⟩) (f_cal (M := M) (us2 := [2]) [0] hn rfl (And.intro rfl trivial) rfl rfl rfl (c_X11_needRows hst hs   hq5)) (by decide) (Nat.le_of_ble_eq_true rfl) (Or.inl rfl) ?_
    show Ev g _ _ _ _ _ _ 22 [some (x_r (16 * 1 + 0))] [] (al, ro, fl (ml M [2, 3, 24] [T5, N, Ri2])) _ _ _ _
    refine e_aloadn (pc := 22) (i := 0) dX11_ask_22 rfl rfl ?_
    refine f_getr (pc := 23) (u := 1) (q := 0) dX11_ask_23 xf11_63 (sa_1_0 hs) rfl (sr_1_0_10 hs) ?_
    obtain ⟨v8, Ri9, hq9, hG⟩ := x_bd2 hG
    refine e_invV (pc := 26) (K1 := 0) (S1 := 0) (K := 0) (S := 0) (dd2 := 2) (av := []) (st := []) (id := 16 * 24 + 0) dX11_ask_26 xmX11_285 rfl (Or.inl ⟨5, 8, TX7, (sa_24_0 hs), rfl, by decide⟩) (f_cal (M := M) (us2 := [24]) [2] hn rfl (And.intro rfl trivial) rfl rfl rfl (c_X7_bestHour hst hs   hq9)) (by decide) (Nat.le_of_ble_eq_true rfl) (Or.inl rfl) ?_
    show Ev g _ _ _ _ _ _ 29 [some (x_r (16 * 1 + 0))] [x_i v8] (al, ro, fl (ml M [2, 3, 24] [T5, N, Ri9])) _ _ _ _
    cases hG
    exact (e_ireturn rfl dX11_ask_29 rfl)
set_option maxRecDepth 100000 in
set_option maxHeartbeats 4000000 in
theorem c_X11_rule {g : xG} {al : List (Nat × Nat × Nat)} {ro : Nat → Nat → Option Nat} (hst : g.1.stackTraces = false) (hs : SH al ro) {M : Nat → xU} {a : Int} {T : xU} {Ri : xU}  {t : ((Int ⊕ Nat) × xU × xU)} (hG : G11_rule a T Ri = some t) :
    Cal g yX11_rule cX11_rule 2 (some .int) 5 [x_r (16 * 1 + 0), x_i a] (al, ro, fl (ml M [2, 24] [T, Ri])) 1 6 (x_oi t.1) (al, ro, fl (ml M [2, 24] [t.2.1, t.2.2])) := by
  have hn : ([2, 24] : List Nat).Nodup := by decide
  refine cal_of_ev (plainFor_of_name (by decide)) (x_c1 rfl) (Nat.le_of_ble_eq_true rfl) hst ?_
  show Ev g _ _ _ _ _ _ 0 [some (x_r (16 * 1 + 0)), some (x_i a)] [] (al, ro, fl (ml M [2, 24] [T, Ri])) _ _ _ _
  rw [G11_rule] at hG
  refine e_aloadn (pc := 0) (i := 0) dX11_rule_0 rfl rfl ?_
  refine e_aloadn (pc := 1) (i := 0) dX11_rule_1 rfl rfl ?_
  refine f_getr (pc := 2) (u := 1) (q := 0) dX11_rule_2 xf11_63 (sa_1_0 hs) rfl (sr_1_0_10 hs) ?_
  refine e_aloadn (pc := 5) (i := 0) dX11_rule_5 rfl rfl ?_
  refine f_getr (pc := 6) (u := 1) (q := 0) dX11_rule_6 xf11_10 (sa_1_0 hs) rfl (sr_1_0_0 hs) ?_
  obtain ⟨v1, Ri2, hq2, hG⟩ := x_bd2 hG
  refine e_invV (pc := 9) (K1 := 0) (S1 := 0) (K := 1) (S := 6) (dd2 := 4) (av := [x_r (16 * 2 + 0)]) (st := [x_r (16 * 1 + 0)]) (id := 16 * 24 + 0) dX11_rule_9 xmX11_288 rfl (Or.inl ⟨5, 8, TX7, (sa_24_0 hs), rfl, by decide⟩) (f_cal (M := M) (us2 := [2, 24]) [0, 1] hn rfl (And.intro rfl (And.intro rfl trivial)) rfl rfl rfl (c_X7_readRule hst hs   hq2)) (by decide) (Nat.le_of_ble_eq_true rfl) (Or.inl rfl) ?_
  show Ev g _ _ _ _ _ _ 12 [some (x_r (16 * 1 + 0)), some (x_i a)] [x_i v1, x_r (16 * 1 + 0)] (al, ro, fl (ml M [2, 24] [T, Ri2])) _ _ _ _
  obtain ⟨o4, T5, hq5, hG⟩ := x_bd2 hG
  cases o4 with
  | some E7 =>
    replace hG := x_tv_s hG
    cases hG
    exact (e_invVX (pc := 12) (dd2 := 1) (av := [x_i v1]) (st := []) (id := 16 * 1 + 0) dX11_rule_12 xmX11_275 rfl (Or.inl ⟨9, 17, TX11, (sa_1_0 hs), rfl, by decide⟩) (f_cal (M := M) (us2 := [2]) [0] hn rfl (And.intro rfl trivial) rfl rfl rfl (c_X11_needRows hst hs   hq5)) (by decide) (Nat.le_of_ble_eq_true rfl) (fun _ q => absurd q List.not_mem_nil))
  | none =>
    replace hG := x_tv_n hG
    refine e_invV (pc := 12) (K1 := 1) (S1 := 6) (K := 0) (S := 0) (dd2 := 1) (av := [x_i v1]) (st := []) (id := 16 * 1 + 0) dX11_rule_12 xmX11_275 rfl (Or.inl ⟨9, 17, TX11, (sa_1_0 hs), rfl, by decide⟩) (f_cal (M := M) (us2 := [2]) [0] hn rfl (And.intro rfl trivial) rfl rfl rfl (c_X11_needRows hst hs   hq5)) (by decide) (Nat.le_of_ble_eq_true rfl) (Or.inl rfl) ?_
    show Ev g _ _ _ _ _ _ 15 [some (x_r (16 * 1 + 0)), some (x_i a)] [] (al, ro, fl (ml M [2, 24] [T5, Ri2])) _ _ _ _
    refine e_iloadn (pc := 15) (i := 1) dX11_rule_15 rfl rfl ?_
    obtain ⟨v8, hr8, hG⟩ := x_bd1 hG
    have hjhr8 : Ev g yX11_rule cX11_rule 2 (some .int) [] 5 36 [some (x_r (16 * 1 + 0)), some (x_i a)] [x_i v8] (al, ro, fl (ml M [2, 24] [T5, Ri2])) 0 0 (x_oi t.1) (al, ro, fl (ml M [2, 24] [t.2.1, t.2.2])) := by
      cases hG
      exact (e_ireturn rfl dX11_rule_36 rfl)
    clear hG
    refine e_if_eq (pc := 16) (tgt := 29) dX11_rule_16 (by decide) (fun hb => ?_) (fun hb => ?_)
    · rw [if_pos hb] at hr8
      refine e_aloadn (pc := 29) (i := 0) dX11_rule_29 rfl rfl ?_
      refine f_getr (pc := 30) (u := 1) (q := 0) dX11_rule_30 xf11_63 (sa_1_0 hs) rfl (sr_1_0_10 hs) ?_
      refine f_geti (pc := 33) (k := 1) (u := 24) (q := 0) dX11_rule_33 xf11_282 (sa_24_0 hs) rfl hn rfl rfl (by decide) ?_
      show Ev g _ _ _ _ _ _ 36 [some (x_r (16 * 1 + 0)), some (x_i a)] [x_i (Ri2 0 7)] (al, ro, fl (ml M [2, 24] [T5, Ri2])) _ _ _ _
      cases hr8
      exact hjhr8
    · rw [if_neg hb] at hr8
      refine e_aloadn (pc := 19) (i := 0) dX11_rule_19 rfl rfl ?_
      refine f_getr (pc := 20) (u := 1) (q := 0) dX11_rule_20 xf11_63 (sa_1_0 hs) rfl (sr_1_0_10 hs) ?_
      obtain ⟨v10, hq10, hr8⟩ := x_bd1 hr8
      refine e_invV (pc := 23) (K1 := 0) (S1 := 0) (K := 0) (S := 0) (dd2 := 0) (av := []) (st := []) (id := 16 * 24 + 0) dX11_rule_23 xmX11_291 rfl (Or.inl ⟨5, 8, TX7, (sa_24_0 hs), rfl, by decide⟩) (f_cal (M := M) (us2 := [24]) [1] hn rfl (And.intro rfl trivial) rfl rfl rfl (c_X7_firstFitting hst hs   hq10)) (by decide) (Nat.le_of_ble_eq_true rfl) (Or.inl rfl) ?_
      show Ev g _ _ _ _ _ _ 26 [some (x_r (16 * 1 + 0)), some (x_i a)] [x_i v10] (al, ro, fl (ml M [2, 24] [T5, Ri2])) _ _ _ _
      refine e_goto (pc := 26) (tgt := 36) dX11_rule_26 (by decide) ?_
      cases hr8
      exact hjhr8
set_option maxRecDepth 100000 in
set_option maxHeartbeats 4000000 in
theorem c_X11_tells {g : xG} {al : List (Nat × Nat × Nat)} {ro : Nat → Nat → Option Nat} (hst : g.1.stackTraces = false) (hs : SH al ro) {M : Nat → xU} {T : xU} {Ri : xU}  {t : ((Int ⊕ Nat) × xU × xU)} (hG : G11_tells T Ri = some t) :
    Cal g yX11_tells cX11_tells 1 (some .int) 5 [x_r (16 * 1 + 0)] (al, ro, fl (ml M [2, 24] [T, Ri])) 1 6 (x_oi t.1) (al, ro, fl (ml M [2, 24] [t.2.1, t.2.2])) := by
  have hn : ([2, 24] : List Nat).Nodup := by decide
  refine cal_of_ev (plainFor_of_name (by decide)) (x_c1 rfl) (Nat.le_of_ble_eq_true rfl) hst ?_
  show Ev g _ _ _ _ _ _ 0 [some (x_r (16 * 1 + 0))] [] (al, ro, fl (ml M [2, 24] [T, Ri])) _ _ _ _
  rw [G11_tells] at hG
  refine e_aloadn (pc := 0) (i := 0) dX11_tells_0 rfl rfl ?_
  refine e_aloadn (pc := 1) (i := 0) dX11_tells_1 rfl rfl ?_
  refine f_getr (pc := 2) (u := 1) (q := 0) dX11_tells_2 xf11_63 (sa_1_0 hs) rfl (sr_1_0_10 hs) ?_
  refine e_aloadn (pc := 5) (i := 0) dX11_tells_5 rfl rfl ?_
  refine f_getr (pc := 6) (u := 1) (q := 0) dX11_tells_6 xf11_10 (sa_1_0 hs) rfl (sr_1_0_0 hs) ?_
  obtain ⟨v1, Ri2, hq2, hG⟩ := x_bd2 hG
  refine e_invV (pc := 9) (K1 := 0) (S1 := 0) (K := 1) (S := 6) (dd2 := 4) (av := [x_r (16 * 2 + 0)]) (st := [x_r (16 * 1 + 0)]) (id := 16 * 24 + 0) dX11_tells_9 xmX11_288 rfl (Or.inl ⟨5, 8, TX7, (sa_24_0 hs), rfl, by decide⟩) (f_cal (M := M) (us2 := [2, 24]) [0, 1] hn rfl (And.intro rfl (And.intro rfl trivial)) rfl rfl rfl (c_X7_readRule hst hs   hq2)) (by decide) (Nat.le_of_ble_eq_true rfl) (Or.inl rfl) ?_
  show Ev g _ _ _ _ _ _ 12 [some (x_r (16 * 1 + 0))] [x_i v1, x_r (16 * 1 + 0)] (al, ro, fl (ml M [2, 24] [T, Ri2])) _ _ _ _
  obtain ⟨o4, T5, hq5, hG⟩ := x_bd2 hG
  cases o4 with
  | some E7 =>
    replace hG := x_tv_s hG
    cases hG
    exact (e_invVX (pc := 12) (dd2 := 1) (av := [x_i v1]) (st := []) (id := 16 * 1 + 0) dX11_tells_12 xmX11_275 rfl (Or.inl ⟨9, 17, TX11, (sa_1_0 hs), rfl, by decide⟩) (f_cal (M := M) (us2 := [2]) [0] hn rfl (And.intro rfl trivial) rfl rfl rfl (c_X11_needRows hst hs   hq5)) (by decide) (Nat.le_of_ble_eq_true rfl) (fun _ q => absurd q List.not_mem_nil))
  | none =>
    replace hG := x_tv_n hG
    refine e_invV (pc := 12) (K1 := 1) (S1 := 6) (K := 0) (S := 0) (dd2 := 1) (av := [x_i v1]) (st := []) (id := 16 * 1 + 0) dX11_tells_12 xmX11_275 rfl (Or.inl ⟨9, 17, TX11, (sa_1_0 hs), rfl, by decide⟩) (f_cal (M := M) (us2 := [2]) [0] hn rfl (And.intro rfl trivial) rfl rfl rfl (c_X11_needRows hst hs   hq5)) (by decide) (Nat.le_of_ble_eq_true rfl) (Or.inl rfl) ?_
    show Ev g _ _ _ _ _ _ 15 [some (x_r (16 * 1 + 0))] [] (al, ro, fl (ml M [2, 24] [T5, Ri2])) _ _ _ _
    refine e_aloadn (pc := 15) (i := 0) dX11_tells_15 rfl rfl ?_
    refine f_getr (pc := 16) (u := 1) (q := 0) dX11_tells_16 xf11_63 (sa_1_0 hs) rfl (sr_1_0_10 hs) ?_
    obtain ⟨v8, Ri9, hq9, hG⟩ := x_bd2 hG
    refine e_invV (pc := 19) (K1 := 0) (S1 := 0) (K := 0) (S := 0) (dd2 := 2) (av := []) (st := []) (id := 16 * 24 + 0) dX11_tells_19 xmX11_285 rfl (Or.inl ⟨5, 8, TX7, (sa_24_0 hs), rfl, by decide⟩) (f_cal (M := M) (us2 := [24]) [1] hn rfl (And.intro rfl trivial) rfl rfl rfl (c_X7_bestHour hst hs   hq9)) (by decide) (Nat.le_of_ble_eq_true rfl) (Or.inl rfl) ?_
    show Ev g _ _ _ _ _ _ 22 [some (x_r (16 * 1 + 0))] [x_i v8] (al, ro, fl (ml M [2, 24] [T5, Ri9])) _ _ _ _
    cases hG
    exact (e_ireturn rfl dX11_tells_22 rfl)
set_option maxRecDepth 100000 in
set_option maxHeartbeats 4000000 in
theorem c_X11_share {g : xG} {al : List (Nat × Nat × Nat)} {ro : Nat → Nat → Option Nat} (hst : g.1.stackTraces = false) (hs : SH al ro) {M : Nat → xU} {a : Int} {b : Int} {N : xU} {Th : xU}  {t : ((Int ⊕ Nat) × xU)} (hG : G11_share a b N Th = some t) :
    Cal g yX11_share cX11_share 3 (some .int) 4 [x_r (16 * 1 + 0), x_i a, x_i b] (al, ro, fl (ml M [3, 18] [N, Th])) 2 12 (x_oi t.1) (al, ro, fl (ml M [3, 18] [N, t.2])) := by
  have hn : ([3, 18] : List Nat).Nodup := by decide
  refine cal_of_ev (plainFor_of_name (by decide)) (x_c1 rfl) (Nat.le_of_ble_eq_true rfl) hst ?_
  show Ev g _ _ _ _ _ _ 0 [some (x_r (16 * 1 + 0)), some (x_i a), some (x_i b)] [] (al, ro, fl (ml M [3, 18] [N, Th])) _ _ _ _
  rw [G11_share] at hG
  refine e_iloadn (pc := 0) (i := 1) dX11_share_0 rfl rfl ?_
  obtain ⟨o1, hq1, hG⟩ := x_bd1 hG
  cases o1 with
  | some E3 =>
    replace hG := x_tv_s hG
    cases hG
    exact (e_wide (K0 := 1) (S0 := 6) (by decide) (by decide) (e_invSX (pc := 1) (dd2 := 0) (av := [x_i a]) (st := []) dX11_share_1 xmX11_146 rfl (f_cal (M := M) (us2 := []) [] hn rfl trivial rfl rfl rfl (c_X11_needWalk hst hs   hq1)) (by decide) (Nat.le_of_ble_eq_true rfl) (fun _ q => absurd q List.not_mem_nil)))
  | none =>
    replace hG := x_tv_n hG
    refine e_invS (pc := 1) (K1 := 1) (S1 := 6) (K := 1) (S := 6) (dd2 := 0) (av := [x_i a]) (st := []) dX11_share_1 xmX11_146 rfl (f_cal (M := M) (us2 := []) [] hn rfl trivial rfl rfl rfl (c_X11_needWalk hst hs   hq1)) (by decide) (Nat.le_of_ble_eq_true rfl) (Or.inl rfl) ?_
    show Ev g _ _ _ _ _ _ 4 [some (x_r (16 * 1 + 0)), some (x_i a), some (x_i b)] [] (al, ro, fl (ml M [3, 18] [N, Th])) _ _ _ _
    refine e_iloadn (pc := 4) (i := 2) dX11_share_4 rfl rfl ?_
    refine e_sipush (pc := 5) dX11_share_5 (by decide +kernel) (x_R rfl) ?_
    obtain ⟨o4, hq4, hG⟩ := x_bd1 hG
    cases o4 with
    | some E6 =>
      replace hG := x_tv_s hG
      cases hG
      exact (e_invSX (pc := 8) (dd2 := 0) (av := [x_i b, x_i 999]) (st := []) dX11_share_8 xmX11_187 rfl (f_cal (M := M) (us2 := []) [] hn rfl trivial rfl rfl rfl (c_X11_needWithin hst hs   hq4)) (by decide) (Nat.le_of_ble_eq_true rfl) (fun _ q => absurd q List.not_mem_nil))
    | none =>
      replace hG := x_tv_n hG
      refine e_invS (pc := 8) (K1 := 1) (S1 := 6) (K := 0) (S := 0) (dd2 := 0) (av := [x_i b, x_i 999]) (st := []) dX11_share_8 xmX11_187 rfl (f_cal (M := M) (us2 := []) [] hn rfl trivial rfl rfl rfl (c_X11_needWithin hst hs   hq4)) (by decide) (Nat.le_of_ble_eq_true rfl) (Or.inl rfl) ?_
      show Ev g _ _ _ _ _ _ 11 [some (x_r (16 * 1 + 0)), some (x_i a), some (x_i b)] [] (al, ro, fl (ml M [3, 18] [N, Th])) _ _ _ _
      refine e_aloadn (pc := 11) (i := 0) dX11_share_11 rfl rfl ?_
      refine f_getr (pc := 12) (u := 1) (q := 0) dX11_share_12 xf11_49 (sa_1_0 hs) rfl (sr_1_0_8 hs) ?_
      refine e_aloadn (pc := 15) (i := 0) dX11_share_15 rfl rfl ?_
      refine f_getr (pc := 16) (u := 1) (q := 0) dX11_share_16 xf11_19 (sa_1_0 hs) rfl (sr_1_0_1 hs) ?_
      obtain ⟨Th7, hq7, hG⟩ := x_bd1 hG
      refine e_invV (pc := 19) (K1 := 0) (S1 := 0) (K := 0) (S := 0) (dd2 := 3) (av := [x_r (16 * 3 + 0)]) (st := []) (id := 16 * 22 + 0) dX11_share_19 xmX11_214 rfl (Or.inl ⟨2, 3, TX3, (sa_22_0 hs), rfl, by decide⟩) (f_cal (M := M) (us2 := [3, 18]) [0, 1] hn rfl (And.intro rfl (And.intro rfl trivial)) rfl rfl rfl (c_X3_look hst hs   hq7)) (by decide) (Nat.le_of_ble_eq_true rfl) (Or.inl rfl) ?_
      show Ev g _ _ _ _ _ _ 22 [some (x_r (16 * 1 + 0)), some (x_i a), some (x_i b)] [] (al, ro, fl (ml M [3, 18] [N, Th7])) _ _ _ _
      refine e_aloadn (pc := 22) (i := 0) dX11_share_22 rfl rfl ?_
      refine f_getr (pc := 23) (u := 1) (q := 0) dX11_share_23 xf11_49 (sa_1_0 hs) rfl (sr_1_0_8 hs) ?_
      refine f_getr (pc := 26) (u := 22) (q := 0) dX11_share_26 xf11_294 (sa_22_0 hs) rfl (sr_22_0_0 hs) ?_
      refine e_iloadn (pc := 29) (i := 2) dX11_share_29 rfl rfl ?_
      obtain ⟨Th9, hq9, hG⟩ := x_bd1 hG
      refine e_invV (pc := 30) (K1 := 0) (S1 := 0) (K := 0) (S := 0) (dd2 := 2) (av := [x_i b]) (st := []) (id := 16 * 18 + 0) dX11_share_30 xmX11_297 rfl (Or.inl ⟨1, 12, TX1, (sa_18_0 hs), rfl, by decide⟩) (f_cal (M := M) (us2 := [18]) [1] hn rfl (And.intro rfl trivial) rfl rfl rfl (c_X1_shareOut hst hs (by decide)  hq9)) (by decide) (Nat.le_of_ble_eq_true rfl) (Or.inl rfl) ?_
      show Ev g _ _ _ _ _ _ 33 [some (x_r (16 * 1 + 0)), some (x_i a), some (x_i b)] [] (al, ro, fl (ml M [3, 18] [N, Th9])) _ _ _ _
      refine e_aloadn (pc := 33) (i := 0) dX11_share_33 rfl rfl ?_
      refine f_getr (pc := 34) (u := 1) (q := 0) dX11_share_34 xf11_49 (sa_1_0 hs) rfl (sr_1_0_8 hs) ?_
      refine f_getr (pc := 37) (u := 22) (q := 0) dX11_share_37 xf11_294 (sa_22_0 hs) rfl (sr_22_0_0 hs) ?_
      refine e_iloadn (pc := 40) (i := 1) dX11_share_40 rfl rfl ?_
      obtain ⟨v11, hq11, hG⟩ := x_bd1 hG
      refine e_invV (pc := 41) (K1 := 0) (S1 := 0) (K := 0) (S := 0) (dd2 := 0) (av := [x_i a]) (st := []) (id := 16 * 18 + 0) dX11_share_41 xmX11_149 rfl (Or.inl ⟨1, 12, TX1, (sa_18_0 hs), rfl, by decide⟩) (f_cal (M := M) (us2 := [18]) [1] hn rfl (And.intro rfl trivial) rfl rfl rfl (c_X1_storeOf hst hs (by decide)  hq11)) (by decide) (Nat.le_of_ble_eq_true rfl) (Or.inl rfl) ?_
      show Ev g _ _ _ _ _ _ 44 [some (x_r (16 * 1 + 0)), some (x_i a), some (x_i b)] [x_i v11] (al, ro, fl (ml M [3, 18] [N, Th9])) _ _ _ _
      cases hG
      exact (e_ireturn rfl dX11_share_44 rfl)
set_option maxRecDepth 100000 in
set_option maxHeartbeats 4000000 in
theorem c_X11_feeds {g : xG} {al : List (Nat × Nat × Nat)} {ro : Nat → Nat → Option Nat} (hst : g.1.stackTraces = false) (hs : SH al ro) {M : Nat → xU} {a : Int} {N : xU}  {t : (Int ⊕ Nat)} (hG : G11_feeds a N = some t) :
    Cal g yX11_feeds cX11_feeds 4 (some .int) 2 [x_r (16 * 1 + 0), x_i a] (al, ro, fl (ml M [3] [N])) 1 6 (x_oi t) (al, ro, fl (ml M [3] [N])) := by
  have hn : ([3] : List Nat).Nodup := by decide
  refine cal_of_ev (plainFor_of_name (by decide)) (x_c1 rfl) (Nat.le_of_ble_eq_true rfl) hst ?_
  show Ev g _ _ _ _ _ _ 0 [some (x_r (16 * 1 + 0)), some (x_i a), none, none] [] (al, ro, fl (ml M [3] [N])) _ _ _ _
  rw [G11_feeds] at hG
  refine e_iloadn (pc := 0) (i := 1) dX11_feeds_0 rfl rfl ?_
  obtain ⟨o1, hq1, hG⟩ := x_bd1 hG
  cases o1 with
  | some E3 =>
    replace hG := x_tv_s hG
    cases hG
    exact (e_invSX (pc := 1) (dd2 := 0) (av := [x_i a]) (st := []) dX11_feeds_1 xmX11_146 rfl (f_cal (M := M) (us2 := []) [] hn rfl trivial rfl rfl rfl (c_X11_needWalk hst hs   hq1)) (by decide) (Nat.le_of_ble_eq_true rfl) (fun _ q => absurd q List.not_mem_nil))
  | none =>
    replace hG := x_tv_n hG
    refine e_invS (pc := 1) (K1 := 1) (S1 := 6) (K := 0) (S := 0) (dd2 := 0) (av := [x_i a]) (st := []) dX11_feeds_1 xmX11_146 rfl (f_cal (M := M) (us2 := []) [] hn rfl trivial rfl rfl rfl (c_X11_needWalk hst hs   hq1)) (by decide) (Nat.le_of_ble_eq_true rfl) (Or.inl rfl) ?_
    show Ev g _ _ _ _ _ _ 4 [some (x_r (16 * 1 + 0)), some (x_i a), none, none] [] (al, ro, fl (ml M [3] [N])) _ _ _ _
    refine e_iconst (pc := 4) dX11_feeds_4 (x_R rfl) ?_
    refine e_istoren (pc := 5) (i := 2) dX11_feeds_5 rfl (by decide) rfl ?_
    show Ev g _ _ _ _ _ _ 6 [some (x_r (16 * 1 + 0)), some (x_i a), some (x_i 0), none] [] (al, ro, fl (ml M [3] [N])) _ _ _ _
    refine e_iconst (pc := 6) dX11_feeds_6 (x_R rfl) ?_
    refine e_istoren (pc := 7) (i := 3) dX11_feeds_7 rfl (by decide) rfl ?_
    show Ev g _ _ _ _ _ _ 8 [some (x_r (16 * 1 + 0)), some (x_i a), some (x_i 0), some (x_i 0)] [] (al, ro, fl (ml M [3] [N])) _ _ _ _
    obtain ⟨v6, hl7, hG⟩ := x_bd1 hG
    have hk7 : ∀ q : Int, q = v6 → Ev g yX11_feeds cX11_feeds 4 (some .int) [] 2 51 [some (x_r (16 * 1 + 0)), some (x_i a), some (x_i q), none] [] (al, ro, fl (ml M [3] [N])) 0 0 (x_oi t) (al, ro, fl (ml M [3] [N])) := by
      intro q hq
      replace hq := hq.symm
      subst hq
      refine e_iloadn (pc := 51) (i := 2) dX11_feeds_51 rfl rfl ?_
      obtain ⟨v15, hr15, hG⟩ := x_bd1 hG
      have hjhr15 : Ev g yX11_feeds cX11_feeds 4 (some .int) [] 2 69 [some (x_r (16 * 1 + 0)), some (x_i a), some (x_i v6), none] [x_i v15] (al, ro, fl (ml M [3] [N])) 0 0 (x_oi t) (al, ro, fl (ml M [3] [N])) := by
        cases hG
        exact (e_ireturn rfl dX11_feeds_69 rfl)
      clear hG
      refine e_if_ne (pc := 52) (tgt := 59) dX11_feeds_52 (by decide) (fun hb => ?_) (fun hb => ?_)
      · rw [if_neg hb] at hr15
        refine e_aloadn (pc := 59) (i := 0) dX11_feeds_59 rfl rfl ?_
        refine f_getr (pc := 60) (u := 1) (q := 0) dX11_feeds_60 xf11_19 (sa_1_0 hs) rfl (sr_1_0_1 hs) ?_
        refine e_iloadn (pc := 63) (i := 1) dX11_feeds_63 rfl rfl ?_
        obtain ⟨v17, hq17, hr15⟩ := x_bd1 hr15
        refine e_invV (pc := 64) (K1 := 0) (S1 := 0) (K := 0) (S := 0) (dd2 := 0) (av := [x_i a]) (st := []) (id := 16 * 3 + 0) dX11_feeds_64 xmX11_149 rfl (Or.inl ⟨1, 12, TX1, (sa_3_0 hs), rfl, by decide⟩) (f_cal (M := M) (us2 := [3]) [0] hn rfl (And.intro rfl trivial) rfl rfl rfl (c_X1_storeOf hst hs (by decide)  hq17)) (by decide) (Nat.le_of_ble_eq_true rfl) (Or.inl rfl) ?_
        show Ev g _ _ _ _ _ _ 67 [some (x_r (16 * 1 + 0)), some (x_i a), some (x_i v6), none] [x_i v17] (al, ro, fl (ml M [3] [N])) _ _ _ _
        refine e_iloadn (pc := 67) (i := 2) dX11_feeds_67 rfl rfl ?_
        obtain ⟨hc0, hr15⟩ := x_gd_some hr15
        refine e_idiv (pc := 68) dX11_feeds_68 hc0 ?_
        cases hr15
        exact hjhr15
      · rw [if_pos hb] at hr15
        refine e_iconst (pc := 55) dX11_feeds_55 (x_R rfl) ?_
        refine e_goto (pc := 56) (tgt := 69) dX11_feeds_56 (by decide) ?_
        cases hr15
        exact hjhr15
    clear hG
    refine e_whl (G11_feeds_L8 a N) (fun z : (Int × Int) => Ev g yX11_feeds cX11_feeds 4 (some .int) [] 2 8 [some (x_r (16 * 1 + 0)), some (x_i a), some (x_i z.1), some (x_i z.2)] [] (al, ro, fl (ml M [3] [N])) 0 0 (x_oi t) (al, ro, fl (ml M [3] [N]))) (fun q => q = v6) ?_ xFU (0, 0) _ hl7 rfl
    intro z t7 hf7 hi7 hx7
    obtain ⟨v4, v5⟩ := z
    rw [G11_feeds_L8] at hf7
    show Ev g _ _ _ _ _ _ 8 [some (x_r (16 * 1 + 0)), some (x_i a), some (x_i v4), some (x_i v5)] [] (al, ro, fl (ml M [3] [N])) _ _ _ _
    refine e_iloadn (pc := 8) (i := 3) dX11_feeds_8 rfl rfl ?_
    refine e_aloadn (pc := 9) (i := 0) dX11_feeds_9 rfl rfl ?_
    refine f_getr (pc := 10) (u := 1) (q := 0) dX11_feeds_10 xf11_19 (sa_1_0 hs) rfl (sr_1_0_1 hs) ?_
    refine f_geti (pc := 13) (k := 0) (u := 3) (q := 0) dX11_feeds_13 xf11_200 (sa_3_0 hs) rfl hn rfl rfl (by decide) ?_
    show Ev g _ _ _ _ _ _ 16 [some (x_r (16 * 1 + 0)), some (x_i a), some (x_i v4), some (x_i v5)] [x_i (N 0 3), x_i v5] (al, ro, fl (ml M [3] [N])) _ _ _ _
    refine e_icmp_ge (pc := 16) (tgt := 51) dX11_feeds_16 (by decide) (fun hb => ?_) (fun hb => ?_)
    · rw [if_pos hb] at hf7
      cases hf7
      refine e_drop (i := 3) ?_
      have hh := hk7 _ (hx7 _ rfl)
      try dsimp only at hh
      exact hh
    · rw [if_neg hb] at hf7
      refine e_aloadn (pc := 19) (i := 0) dX11_feeds_19 rfl rfl ?_
      refine f_getr (pc := 20) (u := 1) (q := 0) dX11_feeds_20 xf11_19 (sa_1_0 hs) rfl (sr_1_0_1 hs) ?_
      refine e_iloadn (pc := 23) (i := 3) dX11_feeds_23 rfl rfl ?_
      obtain ⟨v9, hq9, hf7⟩ := x_bd1 hf7
      refine e_invV (pc := 24) (K1 := 0) (S1 := 0) (K := 0) (S := 0) (dd2 := 1) (av := [x_i v5]) (st := []) (id := 16 * 3 + 0) dX11_feeds_24 xmX11_170 rfl (Or.inl ⟨1, 12, TX1, (sa_3_0 hs), rfl, by decide⟩) (f_cal (M := M) (us2 := [3]) [0] hn rfl (And.intro rfl trivial) rfl rfl rfl (c_X1_isLost hst hs (by decide)  hq9)) (by decide) (Nat.le_of_ble_eq_true rfl) (Or.inl rfl) ?_
      show Ev g _ _ _ _ _ _ 27 [some (x_r (16 * 1 + 0)), some (x_i a), some (x_i v4), some (x_i v5)] [x_i v9] (al, ro, fl (ml M [3] [N])) _ _ _ _
      obtain ⟨v11, hr11, hf7⟩ := x_bd1 hf7
      have hjhr11 : Ev g yX11_feeds cX11_feeds 4 (some .int) [] 2 45 [some (x_r (16 * 1 + 0)), some (x_i a), some (x_i v11), some (x_i v5)] [] (al, ro, fl (ml M [3] [N])) 0 0 (x_oi t) (al, ro, fl (ml M [3] [N])) := by
        refine e_iinc (pc := 45) dX11_feeds_45 rfl (by decide) rfl ?_
        show Ev g _ _ _ _ _ _ 48 [some (x_r (16 * 1 + 0)), some (x_i a), some (x_i v11), some (x_i (x_add v5 1))] [] (al, ro, fl (ml M [3] [N])) _ _ _ _
        refine e_goto (pc := 48) (tgt := 8) dX11_feeds_48 (by decide) ?_
        cases hf7
        have hh := hi7 _ rfl
        try dsimp only at hh
        exact hh
      clear hf7
      refine e_if_ne (pc := 27) (tgt := 45) dX11_feeds_27 (by decide) (fun hb => ?_) (fun hb => ?_)
      · rw [if_neg hb] at hr11
        cases hr11
        exact hjhr11
      · rw [if_pos hb] at hr11
        refine e_aloadn (pc := 30) (i := 0) dX11_feeds_30 rfl rfl ?_
        refine f_getr (pc := 31) (u := 1) (q := 0) dX11_feeds_31 xf11_19 (sa_1_0 hs) rfl (sr_1_0_1 hs) ?_
        refine e_iloadn (pc := 34) (i := 3) dX11_feeds_34 rfl rfl ?_
        obtain ⟨v13, hq13, hr11⟩ := x_bd1 hr11
        refine e_invV (pc := 35) (K1 := 0) (S1 := 0) (K := 0) (S := 0) (dd2 := 1) (av := [x_i v5]) (st := []) (id := 16 * 3 + 0) dX11_feeds_35 xmX11_300 rfl (Or.inl ⟨1, 12, TX1, (sa_3_0 hs), rfl, by decide⟩) (f_cal (M := M) (us2 := [3]) [0] hn rfl (And.intro rfl trivial) rfl rfl rfl (c_X1_walkOf hst hs (by decide)  hq13)) (by decide) (Nat.le_of_ble_eq_true rfl) (Or.inl rfl) ?_
        show Ev g _ _ _ _ _ _ 38 [some (x_r (16 * 1 + 0)), some (x_i a), some (x_i v4), some (x_i v5)] [x_i v13] (al, ro, fl (ml M [3] [N])) _ _ _ _
        refine e_iloadn (pc := 38) (i := 1) dX11_feeds_38 rfl rfl ?_
        refine e_icmp_ne (pc := 39) (tgt := 45) dX11_feeds_39 (by decide) (fun hb => ?_) (fun hb => ?_)
        · rw [if_neg hb] at hr11
          cases hr11
          exact hjhr11
        · rw [if_pos hb] at hr11
          refine e_iinc (pc := 42) dX11_feeds_42 rfl (by decide) rfl ?_
          show Ev g _ _ _ _ _ _ 45 [some (x_r (16 * 1 + 0)), some (x_i a), some (x_i (x_add v4 1)), some (x_i v5)] [] (al, ro, fl (ml M [3] [N])) _ _ _ _
          cases hr11
          exact hjhr11
