set_option maxRecDepth 100000 in
set_option maxHeartbeats 4000000 in
theorem c_X11_pairs {g : xG} {al : List (Nat × Nat × Nat)} {ro : Nat → Nat → Option Nat} (hst : g.1.stackTraces = false) (hs : SH al ro) {M : Nat → xU} {a : Int} {N : xU} {Br : xU}  {t : ((Int ⊕ Nat) × xU)} (hG : G11_pairs a N Br = some t) :
    Cal g yX11_pairs cX11_pairs 2 (some .int) 4 [x_r (16 * 1 + 0), x_i a] (al, ro, fl (ml M [3, 25] [N, Br])) 1 6 (x_oi t.1) (al, ro, fl (ml M [3, 25] [N, t.2])) := by
  have hn : ([3, 25] : List Nat).Nodup := by decide
  refine cal_of_ev (plainFor_of_name (by decide)) (x_c1 rfl) (Nat.le_of_ble_eq_true rfl) hst ?_
  show Ev g _ _ _ _ _ _ 0 [some (x_r (16 * 1 + 0)), some (x_i a)] [] (al, ro, fl (ml M [3, 25] [N, Br])) _ _ _ _
  rw [G11_pairs] at hG
  refine e_iloadn (pc := 0) (i := 1) dX11_pairs_0 rfl rfl ?_
  refine e_iconst (pc := 1) dX11_pairs_1 (x_R rfl) ?_
  refine e_icmp_ne (pc := 2) (tgt := 17) dX11_pairs_2 (by decide) (fun hb => ?_) (fun hb => ?_)
  · rw [if_neg hb] at hG
    refine e_aloadn (pc := 17) (i := 0) dX11_pairs_17 rfl rfl ?_
    refine e_iloadn (pc := 18) (i := 1) dX11_pairs_18 rfl rfl ?_
    obtain ⟨o1, hq1, hG⟩ := x_bd1 hG
    cases o1 with
    | some E3 =>
      replace hG := x_tv_s hG
      cases hG
      exact (e_invVX (pc := 19) (dd2 := 0) (av := [x_i a]) (st := []) (id := 16 * 1 + 0) dX11_pairs_19 xmX11_128 rfl (Or.inl ⟨9, 17, TX11, (sa_1_0 hs), rfl, by decide⟩) (f_cal (M := M) (us2 := [3]) [0] hn rfl (And.intro rfl trivial) rfl rfl rfl (c_X11_needMonk hst hs   hq1)) (by decide) (Nat.le_of_ble_eq_true rfl) (fun _ q => absurd q List.not_mem_nil))
    | none =>
      replace hG := x_tv_n hG
      refine e_invV (pc := 19) (K1 := 1) (S1 := 6) (K := 0) (S := 0) (dd2 := 0) (av := [x_i a]) (st := []) (id := 16 * 1 + 0) dX11_pairs_19 xmX11_128 rfl (Or.inl ⟨9, 17, TX11, (sa_1_0 hs), rfl, by decide⟩) (f_cal (M := M) (us2 := [3]) [0] hn rfl (And.intro rfl trivial) rfl rfl rfl (c_X11_needMonk hst hs   hq1)) (by decide) (Nat.le_of_ble_eq_true rfl) (Or.inl rfl) ?_
      show Ev g _ _ _ _ _ _ 22 [some (x_r (16 * 1 + 0)), some (x_i a)] [] (al, ro, fl (ml M [3, 25] [N, Br])) _ _ _ _
      refine e_aloadn (pc := 22) (i := 0) dX11_pairs_22 rfl rfl ?_
      refine f_getr (pc := 23) (u := 1) (q := 0) dX11_pairs_23 xf11_70 (sa_1_0 hs) rfl (sr_1_0_11 hs) ?_
      refine e_aloadn (pc := 26) (i := 0) dX11_pairs_26 rfl rfl ?_
      refine f_getr (pc := 27) (u := 1) (q := 0) dX11_pairs_27 xf11_19 (sa_1_0 hs) rfl (sr_1_0_1 hs) ?_
      refine e_iloadn (pc := 30) (i := 1) dX11_pairs_30 rfl rfl ?_
      obtain ⟨v4, Br5, hq5, hG⟩ := x_bd2 hG
      refine e_invV (pc := 31) (K1 := 0) (S1 := 0) (K := 0) (S := 0) (dd2 := 3) (av := [x_r (16 * 3 + 0), x_i a]) (st := []) (id := 16 * 25 + 0) dX11_pairs_31 xmX11_306 rfl (Or.inl ⟨0, 1, TX0, (sa_25_0 hs), rfl, by decide⟩) (f_cal (M := M) (us2 := [3, 25]) [0, 1] hn rfl (And.intro rfl (And.intro rfl trivial)) rfl rfl rfl (c_X0_partnerOf hst hs   hq5)) (by decide) (Nat.le_of_ble_eq_true rfl) (Or.inl rfl) ?_
      show Ev g _ _ _ _ _ _ 34 [some (x_r (16 * 1 + 0)), some (x_i a)] [x_i v4] (al, ro, fl (ml M [3, 25] [N, Br5])) _ _ _ _
      cases hG
      exact (e_ireturn rfl dX11_pairs_34 rfl)
  · rw [if_pos hb] at hG
    refine e_aloadn (pc := 5) (i := 0) dX11_pairs_5 rfl rfl ?_
    refine f_getr (pc := 6) (u := 1) (q := 0) dX11_pairs_6 xf11_70 (sa_1_0 hs) rfl (sr_1_0_11 hs) ?_
    refine e_aloadn (pc := 9) (i := 0) dX11_pairs_9 rfl rfl ?_
    refine f_getr (pc := 10) (u := 1) (q := 0) dX11_pairs_10 xf11_19 (sa_1_0 hs) rfl (sr_1_0_1 hs) ?_
    obtain ⟨v7, Br8, hq8, hG⟩ := x_bd2 hG
    refine e_invV (pc := 13) (K1 := 0) (S1 := 0) (K := 1) (S := 6) (dd2 := 2) (av := [x_r (16 * 3 + 0)]) (st := []) (id := 16 * 25 + 0) dX11_pairs_13 xmX11_303 rfl (Or.inl ⟨0, 1, TX0, (sa_25_0 hs), rfl, by decide⟩) (f_cal (M := M) (us2 := [3, 25]) [0, 1] hn rfl (And.intro rfl (And.intro rfl trivial)) rfl rfl rfl (c_X0_mostShared hst hs   hq8)) (by decide) (Nat.le_of_ble_eq_true rfl) (Or.inl rfl) ?_
    show Ev g _ _ _ _ _ _ 16 [some (x_r (16 * 1 + 0)), some (x_i a)] [x_i v7] (al, ro, fl (ml M [3, 25] [N, Br8])) _ _ _ _
    cases hG
    exact (e_wide (K0 := 0) (S0 := 0) (by decide) (by decide) (e_ireturn rfl dX11_pairs_16 rfl))
set_option maxRecDepth 100000 in
set_option maxHeartbeats 4000000 in
theorem c_X11_watch {g : xG} {al : List (Nat × Nat × Nat)} {ro : Nat → Nat → Option Nat} (hst : g.1.stackTraces = false) (hs : SH al ro) {M : Nat → xU} {N : xU}  {t : Int} (hG : G11_watch N = some t) :
    Cal g yX11_watch cX11_watch 1 (some .int) 5 [x_r (16 * 1 + 0)] (al, ro, fl (ml M [3] [N])) 0 0 (.inl (some (x_i t))) (al, ro, fl (ml M [3] [N])) := by
  have hn : ([3] : List Nat).Nodup := by decide
  refine cal_of_ev (plainFor_of_name (by decide)) (x_c1 rfl) (Nat.le_of_ble_eq_true rfl) hst ?_
  show Ev g _ _ _ _ _ _ 0 [some (x_r (16 * 1 + 0))] [] (al, ro, fl (ml M [3] [N])) _ _ _ _
  rw [G11_watch] at hG
  refine e_aloadn (pc := 0) (i := 0) dX11_watch_0 rfl rfl ?_
  refine f_getr (pc := 1) (u := 1) (q := 0) dX11_watch_1 xf11_70 (sa_1_0 hs) rfl (sr_1_0_11 hs) ?_
  refine e_aloadn (pc := 4) (i := 0) dX11_watch_4 rfl rfl ?_
  refine f_getr (pc := 5) (u := 1) (q := 0) dX11_watch_5 xf11_19 (sa_1_0 hs) rfl (sr_1_0_1 hs) ?_
  obtain ⟨v1, hq1, hG⟩ := x_bd1 hG
  refine e_invV (pc := 8) (K1 := 0) (S1 := 0) (K := 0) (S := 0) (dd2 := 4) (av := [x_r (16 * 3 + 0)]) (st := []) (id := 16 * 25 + 0) dX11_watch_8 xmX11_309 rfl (Or.inl ⟨0, 1, TX0, (sa_25_0 hs), rfl, by decide⟩) (f_cal (M := M) (us2 := [3]) [0] hn rfl (And.intro rfl trivial) rfl rfl rfl (c_X0_fewestWatching hst hs   hq1)) (by decide) (Nat.le_of_ble_eq_true rfl) (Or.inl rfl) ?_
  show Ev g _ _ _ _ _ _ 11 [some (x_r (16 * 1 + 0))] [x_i v1] (al, ro, fl (ml M [3] [N])) _ _ _ _
  cases hG
  exact (e_ireturn rfl dX11_watch_11 rfl)
set_option maxRecDepth 100000 in
set_option maxHeartbeats 4000000 in
theorem c_X11_chapter {g : xG} {al : List (Nat × Nat × Nat)} {ro : Nat → Nat → Option Nat} (hst : g.1.stackTraces = false) (hs : SH al ro) {M : Nat → xU} {a : Int} {N : xU}  {t : Int} (hG : G11_chapter a N = some t) :
    Cal g yX11_chapter cX11_chapter 2 (some .boolean) 3 [x_r (16 * 1 + 0), x_i a] (al, ro, fl (ml M [3] [N])) 0 0 (.inl (some (x_i t))) (al, ro, fl (ml M [3] [N])) := by
  have hn : ([3] : List Nat).Nodup := by decide
  refine cal_of_ev (plainFor_of_name (by decide)) (x_c1 rfl) (Nat.le_of_ble_eq_true rfl) hst ?_
  show Ev g _ _ _ _ _ _ 0 [some (x_r (16 * 1 + 0)), some (x_i a)] [] (al, ro, fl (ml M [3] [N])) _ _ _ _
  rw [G11_chapter] at hG
  refine e_aloadn (pc := 0) (i := 0) dX11_chapter_0 rfl rfl ?_
  refine f_getr (pc := 1) (u := 1) (q := 0) dX11_chapter_1 xf11_70 (sa_1_0 hs) rfl (sr_1_0_11 hs) ?_
  refine e_aloadn (pc := 4) (i := 0) dX11_chapter_4 rfl rfl ?_
  refine f_getr (pc := 5) (u := 1) (q := 0) dX11_chapter_5 xf11_19 (sa_1_0 hs) rfl (sr_1_0_1 hs) ?_
  refine e_iloadn (pc := 8) (i := 1) dX11_chapter_8 rfl rfl ?_
  obtain ⟨v1, hq1, hG⟩ := x_bd1 hG
  refine e_invV (pc := 9) (K1 := 0) (S1 := 0) (K := 0) (S := 0) (dd2 := 2) (av := [x_r (16 * 3 + 0), x_i a]) (st := []) (id := 16 * 25 + 0) dX11_chapter_9 xmX11_312 rfl (Or.inl ⟨0, 1, TX0, (sa_25_0 hs), rfl, by decide⟩) (f_cal (M := M) (us2 := [3]) [0] hn rfl (And.intro rfl trivial) rfl rfl rfl (c_X0_carries hst hs   hq1)) (by decide) (Nat.le_of_ble_eq_true rfl) (Or.inl rfl) ?_
  show Ev g _ _ _ _ _ _ 12 [some (x_r (16 * 1 + 0)), some (x_i a)] [x_i v1] (al, ro, fl (ml M [3] [N])) _ _ _ _
  obtain ⟨hc0, hG⟩ := x_gd_some hG
  cases hG
  exact (e_ireturn rfl dX11_chapter_12 (x_bool hc0).1)
set_option maxRecDepth 100000 in
set_option maxHeartbeats 4000000 in
theorem c_X11_swings {g : xG} {al : List (Nat × Nat × Nat)} {ro : Nat → Nat → Option Nat} (hst : g.1.stackTraces = false) (hs : SH al ro) {M : Nat → xU} {a : Int} {N : xU}  {t : (Int ⊕ Nat)} (hG : G11_swings a N = some t) :
    Cal g yX11_swings cX11_swings 2 (some .int) 4 [x_r (16 * 1 + 0), x_i a] (al, ro, fl (ml M [3] [N])) 1 6 (x_oi t) (al, ro, fl (ml M [3] [N])) := by
  have hn : ([3] : List Nat).Nodup := by decide
  refine cal_of_ev (plainFor_of_name (by decide)) (x_c1 rfl) (Nat.le_of_ble_eq_true rfl) hst ?_
  show Ev g _ _ _ _ _ _ 0 [some (x_r (16 * 1 + 0)), some (x_i a)] [] (al, ro, fl (ml M [3] [N])) _ _ _ _
  rw [G11_swings] at hG
  refine e_aloadn (pc := 0) (i := 0) dX11_swings_0 rfl rfl ?_
  refine e_iloadn (pc := 1) (i := 1) dX11_swings_1 rfl rfl ?_
  obtain ⟨o1, hq1, hG⟩ := x_bd1 hG
  cases o1 with
  | some E3 =>
    replace hG := x_tv_s hG
    cases hG
    exact (e_invVX (pc := 2) (dd2 := 0) (av := [x_i a]) (st := []) (id := 16 * 1 + 0) dX11_swings_2 xmX11_128 rfl (Or.inl ⟨9, 17, TX11, (sa_1_0 hs), rfl, by decide⟩) (f_cal (M := M) (us2 := [3]) [0] hn rfl (And.intro rfl trivial) rfl rfl rfl (c_X11_needMonk hst hs   hq1)) (by decide) (Nat.le_of_ble_eq_true rfl) (fun _ q => absurd q List.not_mem_nil))
  | none =>
    replace hG := x_tv_n hG
    refine e_invV (pc := 2) (K1 := 1) (S1 := 6) (K := 0) (S := 0) (dd2 := 0) (av := [x_i a]) (st := []) (id := 16 * 1 + 0) dX11_swings_2 xmX11_128 rfl (Or.inl ⟨9, 17, TX11, (sa_1_0 hs), rfl, by decide⟩) (f_cal (M := M) (us2 := [3]) [0] hn rfl (And.intro rfl trivial) rfl rfl rfl (c_X11_needMonk hst hs   hq1)) (by decide) (Nat.le_of_ble_eq_true rfl) (Or.inl rfl) ?_
    show Ev g _ _ _ _ _ _ 5 [some (x_r (16 * 1 + 0)), some (x_i a)] [] (al, ro, fl (ml M [3] [N])) _ _ _ _
    refine e_aloadn (pc := 5) (i := 0) dX11_swings_5 rfl rfl ?_
    refine f_getr (pc := 6) (u := 1) (q := 0) dX11_swings_6 xf11_70 (sa_1_0 hs) rfl (sr_1_0_11 hs) ?_
    refine e_aloadn (pc := 9) (i := 0) dX11_swings_9 rfl rfl ?_
    refine f_getr (pc := 10) (u := 1) (q := 0) dX11_swings_10 xf11_19 (sa_1_0 hs) rfl (sr_1_0_1 hs) ?_
    refine e_iloadn (pc := 13) (i := 1) dX11_swings_13 rfl rfl ?_
    obtain ⟨v4, hq4, hG⟩ := x_bd1 hG
    refine e_invV (pc := 14) (K1 := 0) (S1 := 0) (K := 0) (S := 0) (dd2 := 3) (av := [x_r (16 * 3 + 0), x_i a]) (st := []) (id := 16 * 25 + 0) dX11_swings_14 xmX11_316 rfl (Or.inl ⟨0, 1, TX0, (sa_25_0 hs), rfl, by decide⟩) (f_cal (M := M) (us2 := [3]) [0] hn rfl (And.intro rfl trivial) rfl rfl rfl (c_X0_swingsOf hst hs   hq4)) (by decide) (Nat.le_of_ble_eq_true rfl) (Or.inl rfl) ?_
    show Ev g _ _ _ _ _ _ 17 [some (x_r (16 * 1 + 0)), some (x_i a)] [x_i v4] (al, ro, fl (ml M [3] [N])) _ _ _ _
    cases hG
    exact (e_ireturn rfl dX11_swings_17 rfl)
set_option maxRecDepth 100000 in
set_option maxHeartbeats 4000000 in
theorem c_X11_elder {g : xG} {al : List (Nat × Nat × Nat)} {ro : Nat → Nat → Option Nat} (hst : g.1.stackTraces = false) (hs : SH al ro) {M : Nat → xU} {N : xU}  {t : Int} (hG : G11_elder N = some t) :
    Cal g yX11_elder cX11_elder 1 (some .int) 5 [x_r (16 * 1 + 0)] (al, ro, fl (ml M [3] [N])) 0 0 (.inl (some (x_i t))) (al, ro, fl (ml M [3] [N])) := by
  have hn : ([3] : List Nat).Nodup := by decide
  refine cal_of_ev (plainFor_of_name (by decide)) (x_c1 rfl) (Nat.le_of_ble_eq_true rfl) hst ?_
  show Ev g _ _ _ _ _ _ 0 [some (x_r (16 * 1 + 0))] [] (al, ro, fl (ml M [3] [N])) _ _ _ _
  rw [G11_elder] at hG
  refine e_aloadn (pc := 0) (i := 0) dX11_elder_0 rfl rfl ?_
  refine f_getr (pc := 1) (u := 1) (q := 0) dX11_elder_1 xf11_70 (sa_1_0 hs) rfl (sr_1_0_11 hs) ?_
  refine e_aloadn (pc := 4) (i := 0) dX11_elder_4 rfl rfl ?_
  refine f_getr (pc := 5) (u := 1) (q := 0) dX11_elder_5 xf11_19 (sa_1_0 hs) rfl (sr_1_0_1 hs) ?_
  obtain ⟨v1, hq1, hG⟩ := x_bd1 hG
  refine e_invV (pc := 8) (K1 := 0) (S1 := 0) (K := 0) (S := 0) (dd2 := 4) (av := [x_r (16 * 3 + 0)]) (st := []) (id := 16 * 25 + 0) dX11_elder_8 xmX11_319 rfl (Or.inl ⟨0, 1, TX0, (sa_25_0 hs), rfl, by decide⟩) (f_cal (M := M) (us2 := [3]) [0] hn rfl (And.intro rfl trivial) rfl rfl rfl (c_X0_mostSwinging hst hs   hq1)) (by decide) (Nat.le_of_ble_eq_true rfl) (Or.inl rfl) ?_
  show Ev g _ _ _ _ _ _ 11 [some (x_r (16 * 1 + 0))] [x_i v1] (al, ro, fl (ml M [3] [N])) _ _ _ _
  cases hG
  exact (e_ireturn rfl dX11_elder_11 rfl)
set_option maxRecDepth 100000 in
set_option maxHeartbeats 4000000 in
theorem c_X11_rests {g : xG} {al : List (Nat × Nat × Nat)} {ro : Nat → Nat → Option Nat} (hst : g.1.stackTraces = false) (hs : SH al ro) {M : Nat → xU} {a : Int} {N : xU}  {t : (Int ⊕ Nat)} (hG : G11_rests a N = some t) :
    Cal g yX11_rests cX11_rests 2 (some .int) 4 [x_r (16 * 1 + 0), x_i a] (al, ro, fl (ml M [3] [N])) 1 6 (x_oi t) (al, ro, fl (ml M [3] [N])) := by
  have hn : ([3] : List Nat).Nodup := by decide
  refine cal_of_ev (plainFor_of_name (by decide)) (x_c1 rfl) (Nat.le_of_ble_eq_true rfl) hst ?_
  show Ev g _ _ _ _ _ _ 0 [some (x_r (16 * 1 + 0)), some (x_i a)] [] (al, ro, fl (ml M [3] [N])) _ _ _ _
  rw [G11_rests] at hG
  refine e_aloadn (pc := 0) (i := 0) dX11_rests_0 rfl rfl ?_
  refine e_iloadn (pc := 1) (i := 1) dX11_rests_1 rfl rfl ?_
  obtain ⟨o1, hq1, hG⟩ := x_bd1 hG
  cases o1 with
  | some E3 =>
    replace hG := x_tv_s hG
    cases hG
    exact (e_invVX (pc := 2) (dd2 := 0) (av := [x_i a]) (st := []) (id := 16 * 1 + 0) dX11_rests_2 xmX11_128 rfl (Or.inl ⟨9, 17, TX11, (sa_1_0 hs), rfl, by decide⟩) (f_cal (M := M) (us2 := [3]) [0] hn rfl (And.intro rfl trivial) rfl rfl rfl (c_X11_needMonk hst hs   hq1)) (by decide) (Nat.le_of_ble_eq_true rfl) (fun _ q => absurd q List.not_mem_nil))
  | none =>
    replace hG := x_tv_n hG
    refine e_invV (pc := 2) (K1 := 1) (S1 := 6) (K := 0) (S := 0) (dd2 := 0) (av := [x_i a]) (st := []) (id := 16 * 1 + 0) dX11_rests_2 xmX11_128 rfl (Or.inl ⟨9, 17, TX11, (sa_1_0 hs), rfl, by decide⟩) (f_cal (M := M) (us2 := [3]) [0] hn rfl (And.intro rfl trivial) rfl rfl rfl (c_X11_needMonk hst hs   hq1)) (by decide) (Nat.le_of_ble_eq_true rfl) (Or.inl rfl) ?_
    show Ev g _ _ _ _ _ _ 5 [some (x_r (16 * 1 + 0)), some (x_i a)] [] (al, ro, fl (ml M [3] [N])) _ _ _ _
    refine e_aloadn (pc := 5) (i := 0) dX11_rests_5 rfl rfl ?_
    refine f_getr (pc := 6) (u := 1) (q := 0) dX11_rests_6 xf11_19 (sa_1_0 hs) rfl (sr_1_0_1 hs) ?_
    refine e_iloadn (pc := 9) (i := 1) dX11_rests_9 rfl rfl ?_
    obtain ⟨v4, hq4, hG⟩ := x_bd1 hG
    refine e_invV (pc := 10) (K1 := 0) (S1 := 0) (K := 0) (S := 0) (dd2 := 1) (av := [x_i a]) (st := []) (id := 16 * 3 + 0) dX11_rests_10 xmX11_170 rfl (Or.inl ⟨1, 12, TX1, (sa_3_0 hs), rfl, by decide⟩) (f_cal (M := M) (us2 := [3]) [0] hn rfl (And.intro rfl trivial) rfl rfl rfl (c_X1_isLost hst hs (by decide)  hq4)) (by decide) (Nat.le_of_ble_eq_true rfl) (Or.inl rfl) ?_
    show Ev g _ _ _ _ _ _ 13 [some (x_r (16 * 1 + 0)), some (x_i a)] [x_i v4] (al, ro, fl (ml M [3] [N])) _ _ _ _
    obtain ⟨v6, hr6, hG⟩ := x_bd1 hG
    have hjhr6 : Ev g yX11_rests cX11_rests 2 (some .int) [] 4 32 [some (x_r (16 * 1 + 0)), some (x_i a)] [x_i v6] (al, ro, fl (ml M [3] [N])) 0 0 (x_oi t) (al, ro, fl (ml M [3] [N])) := by
      cases hG
      exact (e_ireturn rfl dX11_rests_32 rfl)
    clear hG
    refine e_if_eq (pc := 13) (tgt := 20) dX11_rests_13 (by decide) (fun hb => ?_) (fun hb => ?_)
    · rw [if_pos hb] at hr6
      refine e_aloadn (pc := 20) (i := 0) dX11_rests_20 rfl rfl ?_
      refine f_getr (pc := 21) (u := 1) (q := 0) dX11_rests_21 xf11_70 (sa_1_0 hs) rfl (sr_1_0_11 hs) ?_
      refine e_aloadn (pc := 24) (i := 0) dX11_rests_24 rfl rfl ?_
      refine f_getr (pc := 25) (u := 1) (q := 0) dX11_rests_25 xf11_19 (sa_1_0 hs) rfl (sr_1_0_1 hs) ?_
      refine e_iloadn (pc := 28) (i := 1) dX11_rests_28 rfl rfl ?_
      obtain ⟨v8, hq8, hr6⟩ := x_bd1 hr6
      refine e_invV (pc := 29) (K1 := 0) (S1 := 0) (K := 0) (S := 0) (dd2 := 3) (av := [x_r (16 * 3 + 0), x_i a]) (st := []) (id := 16 * 25 + 0) dX11_rests_29 xmX11_322 rfl (Or.inl ⟨0, 1, TX0, (sa_25_0 hs), rfl, by decide⟩) (f_cal (M := M) (us2 := [3]) [0] hn rfl (And.intro rfl trivial) rfl rfl rfl (c_X0_restsOf hst hs   hq8)) (by decide) (Nat.le_of_ble_eq_true rfl) (Or.inl rfl) ?_
      show Ev g _ _ _ _ _ _ 32 [some (x_r (16 * 1 + 0)), some (x_i a)] [x_i v8] (al, ro, fl (ml M [3] [N])) _ _ _ _
      cases hr6
      exact hjhr6
    · rw [if_neg hb] at hr6
      refine e_iconst (pc := 16) dX11_rests_16 (x_R rfl) ?_
      refine e_goto (pc := 17) (tgt := 32) dX11_rests_17 (by decide) ?_
      cases hr6
      exact hjhr6
set_option maxRecDepth 100000 in
set_option maxHeartbeats 4000000 in
theorem c_X11_odds {g : xG} {al : List (Nat × Nat × Nat)} {ro : Nat → Nat → Option Nat} (hst : g.1.stackTraces = false) (hs : SH al ro) {M : Nat → xU} {a : Int} {b : Int} {N : xU} {Fo : xU}  {t : ((Int ⊕ Nat) × xU)} (hG : G11_odds a b N Fo = some t) :
    Cal g yX11_odds cX11_odds 3 (some .int) 1 [x_r (16 * 1 + 0), x_i a, x_i b] (al, ro, fl (ml M [3, 22] [N, Fo])) 2 12 (x_oi t.1) (al, ro, fl (ml M [3, 22] [N, t.2])) := by
  have hn : ([3, 22] : List Nat).Nodup := by decide
  refine cal_of_ev (plainFor_of_name (by decide)) (x_c1 rfl) (Nat.le_of_ble_eq_true rfl) hst ?_
  show Ev g _ _ _ _ _ _ 0 [some (x_r (16 * 1 + 0)), some (x_i a), some (x_i b)] [] (al, ro, fl (ml M [3, 22] [N, Fo])) _ _ _ _
  rw [G11_odds] at hG
  refine e_iloadn (pc := 0) (i := 1) dX11_odds_0 rfl rfl ?_
  refine e_bipush (pc := 1) dX11_odds_1 (by decide +kernel) (x_R rfl) ?_
  obtain ⟨o1, hq1, hG⟩ := x_bd1 hG
  cases o1 with
  | some E3 =>
    replace hG := x_tv_s hG
    cases hG
    exact (e_wide (K0 := 1) (S0 := 6) (by decide) (by decide) (e_invSX (pc := 3) (dd2 := 0) (av := [x_i a, x_i 6]) (st := []) dX11_odds_3 xmX11_187 rfl (f_cal (M := M) (us2 := []) [] hn rfl trivial rfl rfl rfl (c_X11_needWithin hst hs   hq1)) (by decide) (Nat.le_of_ble_eq_true rfl) (fun _ q => absurd q List.not_mem_nil)))
  | none =>
    replace hG := x_tv_n hG
    refine e_invS (pc := 3) (K1 := 1) (S1 := 6) (K := 1) (S := 6) (dd2 := 0) (av := [x_i a, x_i 6]) (st := []) dX11_odds_3 xmX11_187 rfl (f_cal (M := M) (us2 := []) [] hn rfl trivial rfl rfl rfl (c_X11_needWithin hst hs   hq1)) (by decide) (Nat.le_of_ble_eq_true rfl) (Or.inl rfl) ?_
    show Ev g _ _ _ _ _ _ 6 [some (x_r (16 * 1 + 0)), some (x_i a), some (x_i b)] [] (al, ro, fl (ml M [3, 22] [N, Fo])) _ _ _ _
    refine e_iloadn (pc := 6) (i := 2) dX11_odds_6 rfl rfl ?_
    refine e_bipush (pc := 7) dX11_odds_7 (by decide +kernel) (x_R rfl) ?_
    obtain ⟨o4, hq4, hG⟩ := x_bd1 hG
    cases o4 with
    | some E6 =>
      replace hG := x_tv_s hG
      cases hG
      exact (e_invSX (pc := 9) (dd2 := 0) (av := [x_i b, x_i 6]) (st := []) dX11_odds_9 xmX11_187 rfl (f_cal (M := M) (us2 := []) [] hn rfl trivial rfl rfl rfl (c_X11_needWithin hst hs   hq4)) (by decide) (Nat.le_of_ble_eq_true rfl) (fun _ q => absurd q List.not_mem_nil))
    | none =>
      replace hG := x_tv_n hG
      refine e_invS (pc := 9) (K1 := 1) (S1 := 6) (K := 0) (S := 0) (dd2 := 0) (av := [x_i b, x_i 6]) (st := []) dX11_odds_9 xmX11_187 rfl (f_cal (M := M) (us2 := []) [] hn rfl trivial rfl rfl rfl (c_X11_needWithin hst hs   hq4)) (by decide) (Nat.le_of_ble_eq_true rfl) (Or.inl rfl) ?_
      show Ev g _ _ _ _ _ _ 12 [some (x_r (16 * 1 + 0)), some (x_i a), some (x_i b)] [] (al, ro, fl (ml M [3, 22] [N, Fo])) _ _ _ _
      refine e_aloadn (pc := 12) (i := 0) dX11_odds_12 rfl rfl ?_
      refine f_getr (pc := 13) (u := 1) (q := 0) dX11_odds_13 xf11_49 (sa_1_0 hs) rfl (sr_1_0_8 hs) ?_
      refine e_aloadn (pc := 16) (i := 0) dX11_odds_16 rfl rfl ?_
      refine f_getr (pc := 17) (u := 1) (q := 0) dX11_odds_17 xf11_19 (sa_1_0 hs) rfl (sr_1_0_1 hs) ?_
      refine e_iloadn (pc := 20) (i := 1) dX11_odds_20 rfl rfl ?_
      refine e_iloadn (pc := 21) (i := 2) dX11_odds_21 rfl rfl ?_
      obtain ⟨v7, Fo8, hq8, hG⟩ := x_bd2 hG
      refine e_invV (pc := 22) (K1 := 0) (S1 := 0) (K := 0) (S := 0) (dd2 := 0) (av := [x_r (16 * 3 + 0), x_i a, x_i b]) (st := []) (id := 16 * 22 + 0) dX11_odds_22 xmX11_325 rfl (Or.inl ⟨2, 3, TX3, (sa_22_0 hs), rfl, by decide⟩) (f_cal (M := M) (us2 := [3, 22]) [0, 1] hn rfl (And.intro rfl (And.intro rfl trivial)) rfl rfl rfl (c_X3_oddsOf hst hs   hq8)) (by decide) (Nat.le_of_ble_eq_true rfl) (Or.inl rfl) ?_
      show Ev g _ _ _ _ _ _ 25 [some (x_r (16 * 1 + 0)), some (x_i a), some (x_i b)] [x_i v7] (al, ro, fl (ml M [3, 22] [N, Fo8])) _ _ _ _
      cases hG
      exact (e_ireturn rfl dX11_odds_25 rfl)
set_option maxRecDepth 100000 in
set_option maxHeartbeats 4000000 in
theorem c_X11_empty {g : xG} {al : List (Nat × Nat × Nat)} {ro : Nat → Nat → Option Nat} (hst : g.1.stackTraces = false) (hs : SH al ro) {M : Nat → xU} {N : xU}  {t : Int} (hG : G11_empty N = some t) :
    Cal g yX11_empty cX11_empty 3 (some .int) 2 [x_r (16 * 1 + 0)] (al, ro, fl (ml M [3] [N])) 0 0 (.inl (some (x_i t))) (al, ro, fl (ml M [3] [N])) := by
  have hn : ([3] : List Nat).Nodup := by decide
  refine cal_of_ev (plainFor_of_name (by decide)) (x_c1 rfl) (Nat.le_of_ble_eq_true rfl) hst ?_
  show Ev g _ _ _ _ _ _ 0 [some (x_r (16 * 1 + 0)), none, none] [] (al, ro, fl (ml M [3] [N])) _ _ _ _
  rw [G11_empty] at hG
  refine e_bipush (pc := 0) dX11_empty_0 (by decide +kernel) (x_R rfl) ?_
  refine e_istoren (pc := 2) (i := 1) dX11_empty_2 rfl (by decide) rfl ?_
  show Ev g _ _ _ _ _ _ 3 [some (x_r (16 * 1 + 0)), some (x_i 15), none] [] (al, ro, fl (ml M [3] [N])) _ _ _ _
  refine e_iconst (pc := 3) dX11_empty_3 (x_R rfl) ?_
  refine e_istoren (pc := 4) (i := 2) dX11_empty_4 rfl (by decide) rfl ?_
  show Ev g _ _ _ _ _ _ 5 [some (x_r (16 * 1 + 0)), some (x_i 15), some (x_i 0)] [] (al, ro, fl (ml M [3] [N])) _ _ _ _
  obtain ⟨v3, hl4, hG⟩ := x_bd1 hG
  have hk4 : ∀ q : Int, q = v3 → Ev g yX11_empty cX11_empty 3 (some .int) [] 2 37 [some (x_r (16 * 1 + 0)), some (x_i q), none] [] (al, ro, fl (ml M [3] [N])) 0 0 (.inl (some (x_i t))) (al, ro, fl (ml M [3] [N])) := by
    intro q hq
    replace hq := hq.symm
    subst hq
    refine e_iloadn (pc := 37) (i := 1) dX11_empty_37 rfl rfl ?_
    cases hG
    exact (e_ireturn rfl dX11_empty_38 rfl)
  clear hG
  refine e_whl (G11_empty_L5 N) (fun z : (Int × Int) => Ev g yX11_empty cX11_empty 3 (some .int) [] 2 5 [some (x_r (16 * 1 + 0)), some (x_i z.1), some (x_i z.2)] [] (al, ro, fl (ml M [3] [N])) 0 0 (.inl (some (x_i t))) (al, ro, fl (ml M [3] [N]))) (fun q => q = v3) ?_ xFU (15, 0) _ hl4 rfl
  intro z t4 hf4 hi4 hx4
  obtain ⟨v1, v2⟩ := z
  rw [G11_empty_L5] at hf4
  show Ev g _ _ _ _ _ _ 5 [some (x_r (16 * 1 + 0)), some (x_i v1), some (x_i v2)] [] (al, ro, fl (ml M [3] [N])) _ _ _ _
  refine e_iloadn (pc := 5) (i := 2) dX11_empty_5 rfl rfl ?_
  refine e_aloadn (pc := 6) (i := 0) dX11_empty_6 rfl rfl ?_
  refine f_getr (pc := 7) (u := 1) (q := 0) dX11_empty_7 xf11_19 (sa_1_0 hs) rfl (sr_1_0_1 hs) ?_
  refine f_geti (pc := 10) (k := 0) (u := 3) (q := 0) dX11_empty_10 xf11_200 (sa_3_0 hs) rfl hn rfl rfl (by decide) ?_
  show Ev g _ _ _ _ _ _ 13 [some (x_r (16 * 1 + 0)), some (x_i v1), some (x_i v2)] [x_i (N 0 3), x_i v2] (al, ro, fl (ml M [3] [N])) _ _ _ _
  refine e_icmp_ge (pc := 13) (tgt := 37) dX11_empty_13 (by decide) (fun hb => ?_) (fun hb => ?_)
  · rw [if_pos hb] at hf4
    cases hf4
    refine e_drop (i := 2) ?_
    have hh := hk4 _ (hx4 _ rfl)
    try dsimp only at hh
    exact hh
  · rw [if_neg hb] at hf4
    refine e_iloadn (pc := 16) (i := 1) dX11_empty_16 rfl rfl ?_
    refine e_iconst (pc := 17) dX11_empty_17 (x_R rfl) ?_
    refine e_aloadn (pc := 18) (i := 0) dX11_empty_18 rfl rfl ?_
    refine f_getr (pc := 19) (u := 1) (q := 0) dX11_empty_19 xf11_19 (sa_1_0 hs) rfl (sr_1_0_1 hs) ?_
    refine e_iloadn (pc := 22) (i := 2) dX11_empty_22 rfl rfl ?_
    obtain ⟨v6, hq6, hf4⟩ := x_bd1 hf4
    refine e_invV (pc := 23) (K1 := 0) (S1 := 0) (K := 0) (S := 0) (dd2 := 1) (av := [x_i v2]) (st := [x_i 1, x_i v1]) (id := 16 * 3 + 0) dX11_empty_23 xmX11_300 rfl (Or.inl ⟨1, 12, TX1, (sa_3_0 hs), rfl, by decide⟩) (f_cal (M := M) (us2 := [3]) [0] hn rfl (And.intro rfl trivial) rfl rfl rfl (c_X1_walkOf hst hs (by decide)  hq6)) (by decide) (Nat.le_of_ble_eq_true rfl) (Or.inl rfl) ?_
    show Ev g _ _ _ _ _ _ 26 [some (x_r (16 * 1 + 0)), some (x_i v1), some (x_i v2)] [x_i v6, x_i 1, x_i v1] (al, ro, fl (ml M [3] [N])) _ _ _ _
    refine e_ishl (pc := 26) dX11_empty_26 ?_
    refine e_iconst (pc := 27) dX11_empty_27 (x_R rfl) ?_
    refine e_ixor (pc := 28) dX11_empty_28 ?_
    refine e_iand (pc := 29) dX11_empty_29 ?_
    refine e_istoren (pc := 30) (i := 1) dX11_empty_30 rfl (by decide) rfl ?_
    show Ev g _ _ _ _ _ _ 31 [some (x_r (16 * 1 + 0)), some (x_i (x_and v1 (x_xor (x_shl 1 v6) (-1)))), some (x_i v2)] [] (al, ro, fl (ml M [3] [N])) _ _ _ _
    refine e_iinc (pc := 31) dX11_empty_31 rfl (by decide) rfl ?_
    show Ev g _ _ _ _ _ _ 34 [some (x_r (16 * 1 + 0)), some (x_i (x_and v1 (x_xor (x_shl 1 v6) (-1)))), some (x_i (x_add v2 1))] [] (al, ro, fl (ml M [3] [N])) _ _ _ _
    refine e_goto (pc := 34) (tgt := 5) dX11_empty_34 (by decide) ?_
    cases hf4
    have hh := hi4 _ rfl
    try dsimp only at hh
    exact hh
set_option maxRecDepth 100000 in
set_option maxHeartbeats 4000000 in
theorem c_X11_throng {g : xG} {al : List (Nat × Nat × Nat)} {ro : Nat → Nat → Option Nat} (hst : g.1.stackTraces = false) (hs : SH al ro) {M : Nat → xU} {N : xU}  {t : Int} (hG : G11_throng N = some t) :
    Cal g yX11_throng cX11_throng 3 (some .int) 3 [x_r (16 * 1 + 0)] (al, ro, fl (ml M [3] [N])) 0 0 (.inl (some (x_i t))) (al, ro, fl (ml M [3] [N])) := by
  have hn : ([3] : List Nat).Nodup := by decide
  refine cal_of_ev (plainFor_of_name (by decide)) (x_c1 rfl) (Nat.le_of_ble_eq_true rfl) hst ?_
  show Ev g _ _ _ _ _ _ 0 [some (x_r (16 * 1 + 0)), none, none] [] (al, ro, fl (ml M [3] [N])) _ _ _ _
  rw [G11_throng] at hG
  refine e_iconst (pc := 0) dX11_throng_0 (x_R rfl) ?_
  refine e_istoren (pc := 1) (i := 1) dX11_throng_1 rfl (by decide) rfl ?_
  show Ev g _ _ _ _ _ _ 2 [some (x_r (16 * 1 + 0)), some (x_i 0), none] [] (al, ro, fl (ml M [3] [N])) _ _ _ _
  refine e_iconst (pc := 2) dX11_throng_2 (x_R rfl) ?_
  refine e_istoren (pc := 3) (i := 2) dX11_throng_3 rfl (by decide) rfl ?_
  show Ev g _ _ _ _ _ _ 4 [some (x_r (16 * 1 + 0)), some (x_i 0), some (x_i 1)] [] (al, ro, fl (ml M [3] [N])) _ _ _ _
  obtain ⟨v3, hl4, hG⟩ := x_bd1 hG
  have hk4 : ∀ q : Int, q = v3 → Ev g yX11_throng cX11_throng 3 (some .int) [] 3 36 [some (x_r (16 * 1 + 0)), some (x_i q), none] [] (al, ro, fl (ml M [3] [N])) 0 0 (.inl (some (x_i t))) (al, ro, fl (ml M [3] [N])) := by
    intro q hq
    replace hq := hq.symm
    subst hq
    refine e_iloadn (pc := 36) (i := 1) dX11_throng_36 rfl rfl ?_
    cases hG
    exact (e_ireturn rfl dX11_throng_37 rfl)
  clear hG
  refine e_whl (G11_throng_L4 N) (fun z : (Int × Int) => Ev g yX11_throng cX11_throng 3 (some .int) [] 3 4 [some (x_r (16 * 1 + 0)), some (x_i z.1), some (x_i z.2)] [] (al, ro, fl (ml M [3] [N])) 0 0 (.inl (some (x_i t))) (al, ro, fl (ml M [3] [N]))) (fun q => q = v3) ?_ xFU (0, 1) _ hl4 rfl
  intro z t4 hf4 hi4 hx4
  obtain ⟨v1, v2⟩ := z
  rw [G11_throng_L4] at hf4
  show Ev g _ _ _ _ _ _ 4 [some (x_r (16 * 1 + 0)), some (x_i v1), some (x_i v2)] [] (al, ro, fl (ml M [3] [N])) _ _ _ _
  refine e_iloadn (pc := 4) (i := 2) dX11_throng_4 rfl rfl ?_
  refine e_iconst (pc := 5) dX11_throng_5 (x_R rfl) ?_
  refine e_icmp_ge (pc := 6) (tgt := 36) dX11_throng_6 (by decide) (fun hb => ?_) (fun hb => ?_)
  · rw [if_pos hb] at hf4
    cases hf4
    refine e_drop (i := 2) ?_
    have hh := hk4 _ (hx4 _ rfl)
    try dsimp only at hh
    exact hh
  · rw [if_neg hb] at hf4
    refine e_aloadn (pc := 9) (i := 0) dX11_throng_9 rfl rfl ?_
    refine f_getr (pc := 10) (u := 1) (q := 0) dX11_throng_10 xf11_19 (sa_1_0 hs) rfl (sr_1_0_1 hs) ?_
    refine e_iloadn (pc := 13) (i := 2) dX11_throng_13 rfl rfl ?_
    obtain ⟨v6, hq6, hf4⟩ := x_bd1 hf4
    refine e_invV (pc := 14) (K1 := 0) (S1 := 0) (K := 0) (S := 0) (dd2 := 2) (av := [x_i v2]) (st := []) (id := 16 * 3 + 0) dX11_throng_14 xmX11_329 rfl (Or.inl ⟨1, 12, TX1, (sa_3_0 hs), rfl, by decide⟩) (f_cal (M := M) (us2 := [3]) [0] hn rfl (And.intro rfl trivial) rfl rfl rfl (c_X1_monksIn hst hs (by decide)  hq6)) (by decide) (Nat.le_of_ble_eq_true rfl) (Or.inl rfl) ?_
    show Ev g _ _ _ _ _ _ 17 [some (x_r (16 * 1 + 0)), some (x_i v1), some (x_i v2)] [x_i v6] (al, ro, fl (ml M [3] [N])) _ _ _ _
    refine e_aloadn (pc := 17) (i := 0) dX11_throng_17 rfl rfl ?_
    refine f_getr (pc := 18) (u := 1) (q := 0) dX11_throng_18 xf11_19 (sa_1_0 hs) rfl (sr_1_0_1 hs) ?_
    refine e_iloadn (pc := 21) (i := 1) dX11_throng_21 rfl rfl ?_
    obtain ⟨v8, hq8, hf4⟩ := x_bd1 hf4
    refine e_invV (pc := 22) (K1 := 0) (S1 := 0) (K := 0) (S := 0) (dd2 := 2) (av := [x_i v1]) (st := [x_i v6]) (id := 16 * 3 + 0) dX11_throng_22 xmX11_329 rfl (Or.inl ⟨1, 12, TX1, (sa_3_0 hs), rfl, by decide⟩) (f_cal (M := M) (us2 := [3]) [0] hn rfl (And.intro rfl trivial) rfl rfl rfl (c_X1_monksIn hst hs (by decide)  hq8)) (by decide) (Nat.le_of_ble_eq_true rfl) (Or.inl rfl) ?_
    show Ev g _ _ _ _ _ _ 25 [some (x_r (16 * 1 + 0)), some (x_i v1), some (x_i v2)] [x_i v8, x_i v6] (al, ro, fl (ml M [3] [N])) _ _ _ _
    obtain ⟨v10, hr10, hf4⟩ := x_bd1 hf4
    have hjhr10 : Ev g yX11_throng cX11_throng 3 (some .int) [] 3 30 [some (x_r (16 * 1 + 0)), some (x_i v10), some (x_i v2)] [] (al, ro, fl (ml M [3] [N])) 0 0 (.inl (some (x_i t))) (al, ro, fl (ml M [3] [N])) := by
      refine e_iinc (pc := 30) dX11_throng_30 rfl (by decide) rfl ?_
      show Ev g _ _ _ _ _ _ 33 [some (x_r (16 * 1 + 0)), some (x_i v10), some (x_i (x_add v2 1))] [] (al, ro, fl (ml M [3] [N])) _ _ _ _
      refine e_goto (pc := 33) (tgt := 4) dX11_throng_33 (by decide) ?_
      cases hf4
      have hh := hi4 _ rfl
      try dsimp only at hh
      exact hh
    clear hf4
    refine e_icmp_le (pc := 25) (tgt := 30) dX11_throng_25 (by decide) (fun hb => ?_) (fun hb => ?_)
    · rw [if_pos hb] at hr10
      cases hr10
      exact hjhr10
    · rw [if_neg hb] at hr10
      refine e_iloadn (pc := 28) (i := 2) dX11_throng_28 rfl rfl ?_
      refine e_istoren (pc := 29) (i := 1) dX11_throng_29 rfl (by decide) rfl ?_
      show Ev g _ _ _ _ _ _ 30 [some (x_r (16 * 1 + 0)), some (x_i v2), some (x_i v2)] [] (al, ro, fl (ml M [3] [N])) _ _ _ _
      cases hr10
      exact hjhr10
set_option maxRecDepth 100000 in
set_option maxHeartbeats 4000000 in
theorem c_X11_gone {g : xG} {al : List (Nat × Nat × Nat)} {ro : Nat → Nat → Option Nat} (hst : g.1.stackTraces = false) (hs : SH al ro) {M : Nat → xU} {N : xU}  {t : Int} (hG : G11_gone N = some t) :
    Cal g yX11_gone cX11_gone 3 (some .int) 2 [x_r (16 * 1 + 0)] (al, ro, fl (ml M [3] [N])) 0 0 (.inl (some (x_i t))) (al, ro, fl (ml M [3] [N])) := by
  have hn : ([3] : List Nat).Nodup := by decide
  refine cal_of_ev (plainFor_of_name (by decide)) (x_c1 rfl) (Nat.le_of_ble_eq_true rfl) hst ?_
  show Ev g _ _ _ _ _ _ 0 [some (x_r (16 * 1 + 0)), none, none] [] (al, ro, fl (ml M [3] [N])) _ _ _ _
  rw [G11_gone] at hG
  refine e_iconst (pc := 0) dX11_gone_0 (x_R rfl) ?_
  refine e_istoren (pc := 1) (i := 1) dX11_gone_1 rfl (by decide) rfl ?_
  show Ev g _ _ _ _ _ _ 2 [some (x_r (16 * 1 + 0)), some (x_i 0), none] [] (al, ro, fl (ml M [3] [N])) _ _ _ _
  refine e_iconst (pc := 2) dX11_gone_2 (x_R rfl) ?_
  refine e_istoren (pc := 3) (i := 2) dX11_gone_3 rfl (by decide) rfl ?_
  show Ev g _ _ _ _ _ _ 4 [some (x_r (16 * 1 + 0)), some (x_i 0), some (x_i 0)] [] (al, ro, fl (ml M [3] [N])) _ _ _ _
  obtain ⟨v3, hl4, hG⟩ := x_bd1 hG
  have hk4 : ∀ q : Int, q = v3 → Ev g yX11_gone cX11_gone 3 (some .int) [] 2 38 [some (x_r (16 * 1 + 0)), some (x_i q), none] [] (al, ro, fl (ml M [3] [N])) 0 0 (.inl (some (x_i t))) (al, ro, fl (ml M [3] [N])) := by
    intro q hq
    replace hq := hq.symm
    subst hq
    refine e_iloadn (pc := 38) (i := 1) dX11_gone_38 rfl rfl ?_
    cases hG
    exact (e_ireturn rfl dX11_gone_39 rfl)
  clear hG
  refine e_whl (G11_gone_L4 N) (fun z : (Int × Int) => Ev g yX11_gone cX11_gone 3 (some .int) [] 2 4 [some (x_r (16 * 1 + 0)), some (x_i z.1), some (x_i z.2)] [] (al, ro, fl (ml M [3] [N])) 0 0 (.inl (some (x_i t))) (al, ro, fl (ml M [3] [N]))) (fun q => q = v3) ?_ xFU (0, 0) _ hl4 rfl
  intro z t4 hf4 hi4 hx4
  obtain ⟨v1, v2⟩ := z
  rw [G11_gone_L4] at hf4
  show Ev g _ _ _ _ _ _ 4 [some (x_r (16 * 1 + 0)), some (x_i v1), some (x_i v2)] [] (al, ro, fl (ml M [3] [N])) _ _ _ _
  refine e_iloadn (pc := 4) (i := 2) dX11_gone_4 rfl rfl ?_
  refine e_aloadn (pc := 5) (i := 0) dX11_gone_5 rfl rfl ?_
  refine f_getr (pc := 6) (u := 1) (q := 0) dX11_gone_6 xf11_19 (sa_1_0 hs) rfl (sr_1_0_1 hs) ?_
  refine f_geti (pc := 9) (k := 0) (u := 3) (q := 0) dX11_gone_9 xf11_200 (sa_3_0 hs) rfl hn rfl rfl (by decide) ?_
  show Ev g _ _ _ _ _ _ 12 [some (x_r (16 * 1 + 0)), some (x_i v1), some (x_i v2)] [x_i (N 0 3), x_i v2] (al, ro, fl (ml M [3] [N])) _ _ _ _
  refine e_icmp_ge (pc := 12) (tgt := 38) dX11_gone_12 (by decide) (fun hb => ?_) (fun hb => ?_)
  · rw [if_pos hb] at hf4
    cases hf4
    refine e_drop (i := 2) ?_
    have hh := hk4 _ (hx4 _ rfl)
    try dsimp only at hh
    exact hh
  · rw [if_neg hb] at hf4
    refine e_aloadn (pc := 15) (i := 0) dX11_gone_15 rfl rfl ?_
    refine f_getr (pc := 16) (u := 1) (q := 0) dX11_gone_16 xf11_19 (sa_1_0 hs) rfl (sr_1_0_1 hs) ?_
    refine e_iloadn (pc := 19) (i := 2) dX11_gone_19 rfl rfl ?_
    obtain ⟨v6, hq6, hf4⟩ := x_bd1 hf4
    refine e_invV (pc := 20) (K1 := 0) (S1 := 0) (K := 0) (S := 0) (dd2 := 1) (av := [x_i v2]) (st := []) (id := 16 * 3 + 0) dX11_gone_20 xmX11_170 rfl (Or.inl ⟨1, 12, TX1, (sa_3_0 hs), rfl, by decide⟩) (f_cal (M := M) (us2 := [3]) [0] hn rfl (And.intro rfl trivial) rfl rfl rfl (c_X1_isLost hst hs (by decide)  hq6)) (by decide) (Nat.le_of_ble_eq_true rfl) (Or.inl rfl) ?_
    show Ev g _ _ _ _ _ _ 23 [some (x_r (16 * 1 + 0)), some (x_i v1), some (x_i v2)] [x_i v6] (al, ro, fl (ml M [3] [N])) _ _ _ _
    obtain ⟨v8, hr8, hf4⟩ := x_bd1 hf4
    have hjhr8 : Ev g yX11_gone cX11_gone 3 (some .int) [] 2 32 [some (x_r (16 * 1 + 0)), some (x_i v8), some (x_i v2)] [] (al, ro, fl (ml M [3] [N])) 0 0 (.inl (some (x_i t))) (al, ro, fl (ml M [3] [N])) := by
      refine e_iinc (pc := 32) dX11_gone_32 rfl (by decide) rfl ?_
      show Ev g _ _ _ _ _ _ 35 [some (x_r (16 * 1 + 0)), some (x_i v8), some (x_i (x_add v2 1))] [] (al, ro, fl (ml M [3] [N])) _ _ _ _
      refine e_goto (pc := 35) (tgt := 4) dX11_gone_35 (by decide) ?_
      cases hf4
      have hh := hi4 _ rfl
      try dsimp only at hh
      exact hh
    clear hf4
    refine e_if_eq (pc := 23) (tgt := 32) dX11_gone_23 (by decide) (fun hb => ?_) (fun hb => ?_)
    · rw [if_pos hb] at hr8
      cases hr8
      exact hjhr8
    · rw [if_neg hb] at hr8
      refine e_iloadn (pc := 26) (i := 1) dX11_gone_26 rfl rfl ?_
      refine e_iconst (pc := 27) dX11_gone_27 (x_R rfl) ?_
      refine e_iloadn (pc := 28) (i := 2) dX11_gone_28 rfl rfl ?_
      refine e_ishl (pc := 29) dX11_gone_29 ?_
      refine e_ior (pc := 30) dX11_gone_30 ?_
      refine e_istoren (pc := 31) (i := 1) dX11_gone_31 rfl (by decide) rfl ?_
      show Ev g _ _ _ _ _ _ 32 [some (x_r (16 * 1 + 0)), some (x_i (x_or v1 (x_shl 1 v2))), some (x_i v2)] [] (al, ro, fl (ml M [3] [N])) _ _ _ _
      cases hr8
      exact hjhr8
set_option maxRecDepth 100000 in
set_option maxHeartbeats 4000000 in
theorem c_X11_round {g : xG} {al : List (Nat × Nat × Nat)} {ro : Nat → Nat → Option Nat} (hst : g.1.stackTraces = false) (hs : SH al ro) {M : Nat → xU} {a : Int} {N : xU}  {t : (Int ⊕ Nat)} (hG : G11_round a N = some t) :
    Cal g yX11_round cX11_round 4 (some .int) 1 [x_r (16 * 1 + 0), x_i a] (al, ro, fl (ml M [3] [N])) 1 6 (x_oi t) (al, ro, fl (ml M [3] [N])) := by
  have hn : ([3] : List Nat).Nodup := by decide
  refine cal_of_ev (plainFor_of_name (by decide)) (x_c1 rfl) (Nat.le_of_ble_eq_true rfl) hst ?_
  show Ev g _ _ _ _ _ _ 0 [some (x_r (16 * 1 + 0)), some (x_i a), none, none] [] (al, ro, fl (ml M [3] [N])) _ _ _ _
  rw [G11_round] at hG
  refine e_iloadn (pc := 0) (i := 1) dX11_round_0 rfl rfl ?_
  refine e_sipush (pc := 1) dX11_round_1 (by decide +kernel) (x_R rfl) ?_
  obtain ⟨o1, hq1, hG⟩ := x_bd1 hG
  cases o1 with
  | some E3 =>
    replace hG := x_tv_s hG
    cases hG
    exact (e_invSX (pc := 4) (dd2 := 0) (av := [x_i a, x_i 999]) (st := []) dX11_round_4 xmX11_187 rfl (f_cal (M := M) (us2 := []) [] hn rfl trivial rfl rfl rfl (c_X11_needWithin hst hs   hq1)) (by decide) (Nat.le_of_ble_eq_true rfl) (fun _ q => absurd q List.not_mem_nil))
  | none =>
    replace hG := x_tv_n hG
    refine e_invS (pc := 4) (K1 := 1) (S1 := 6) (K := 0) (S := 0) (dd2 := 0) (av := [x_i a, x_i 999]) (st := []) dX11_round_4 xmX11_187 rfl (f_cal (M := M) (us2 := []) [] hn rfl trivial rfl rfl rfl (c_X11_needWithin hst hs   hq1)) (by decide) (Nat.le_of_ble_eq_true rfl) (Or.inl rfl) ?_
    show Ev g _ _ _ _ _ _ 7 [some (x_r (16 * 1 + 0)), some (x_i a), none, none] [] (al, ro, fl (ml M [3] [N])) _ _ _ _
    refine e_iconst (pc := 7) dX11_round_7 (x_R rfl) ?_
    refine e_istoren (pc := 8) (i := 2) dX11_round_8 rfl (by decide) rfl ?_
    show Ev g _ _ _ _ _ _ 9 [some (x_r (16 * 1 + 0)), some (x_i a), some (x_i 0), none] [] (al, ro, fl (ml M [3] [N])) _ _ _ _
    refine e_iconst (pc := 9) dX11_round_9 (x_R rfl) ?_
    refine e_istoren (pc := 10) (i := 3) dX11_round_10 rfl (by decide) rfl ?_
    show Ev g _ _ _ _ _ _ 11 [some (x_r (16 * 1 + 0)), some (x_i a), some (x_i 0), some (x_i 0)] [] (al, ro, fl (ml M [3] [N])) _ _ _ _
    obtain ⟨v6, hl7, hG⟩ := x_bd1 hG
    have hk7 : ∀ q : Int, q = v6 → Ev g yX11_round cX11_round 4 (some .int) [] 1 48 [some (x_r (16 * 1 + 0)), some (x_i a), some (x_i q), none] [] (al, ro, fl (ml M [3] [N])) 0 0 (x_oi t) (al, ro, fl (ml M [3] [N])) := by
      intro q hq
      replace hq := hq.symm
      subst hq
      refine e_iloadn (pc := 48) (i := 2) dX11_round_48 rfl rfl ?_
      cases hG
      exact (e_ireturn rfl dX11_round_49 rfl)
    clear hG
    refine e_whl (G11_round_L11 a N) (fun z : (Int × Int) => Ev g yX11_round cX11_round 4 (some .int) [] 1 11 [some (x_r (16 * 1 + 0)), some (x_i a), some (x_i z.1), some (x_i z.2)] [] (al, ro, fl (ml M [3] [N])) 0 0 (x_oi t) (al, ro, fl (ml M [3] [N]))) (fun q => q = v6) ?_ xFU (0, 0) _ hl7 rfl
    intro z t7 hf7 hi7 hx7
    obtain ⟨v4, v5⟩ := z
    rw [G11_round_L11] at hf7
    show Ev g _ _ _ _ _ _ 11 [some (x_r (16 * 1 + 0)), some (x_i a), some (x_i v4), some (x_i v5)] [] (al, ro, fl (ml M [3] [N])) _ _ _ _
    refine e_iloadn (pc := 11) (i := 3) dX11_round_11 rfl rfl ?_
    refine e_aloadn (pc := 12) (i := 0) dX11_round_12 rfl rfl ?_
    refine f_getr (pc := 13) (u := 1) (q := 0) dX11_round_13 xf11_19 (sa_1_0 hs) rfl (sr_1_0_1 hs) ?_
    refine f_geti (pc := 16) (k := 0) (u := 3) (q := 0) dX11_round_16 xf11_200 (sa_3_0 hs) rfl hn rfl rfl (by decide) ?_
    show Ev g _ _ _ _ _ _ 19 [some (x_r (16 * 1 + 0)), some (x_i a), some (x_i v4), some (x_i v5)] [x_i (N 0 3), x_i v5] (al, ro, fl (ml M [3] [N])) _ _ _ _
    refine e_icmp_ge (pc := 19) (tgt := 48) dX11_round_19 (by decide) (fun hb => ?_) (fun hb => ?_)
    · rw [if_pos hb] at hf7
      cases hf7
      refine e_drop (i := 3) ?_
      have hh := hk7 _ (hx7 _ rfl)
      try dsimp only at hh
      exact hh
    · rw [if_neg hb] at hf7
      refine e_aloadn (pc := 22) (i := 0) dX11_round_22 rfl rfl ?_
      refine f_getr (pc := 23) (u := 1) (q := 0) dX11_round_23 xf11_19 (sa_1_0 hs) rfl (sr_1_0_1 hs) ?_
      refine e_bipush (pc := 26) dX11_round_26 (by decide +kernel) (x_R rfl) ?_
      refine e_iloadn (pc := 28) (i := 3) dX11_round_28 rfl rfl ?_
      obtain ⟨v9, hq9, hf7⟩ := x_bd1 hf7
      refine e_invV (pc := 29) (K1 := 0) (S1 := 0) (K := 0) (S := 0) (dd2 := 0) (av := [x_i 7, x_i v5]) (st := []) (id := 16 * 3 + 0) dX11_round_29 xmX11_138 rfl (Or.inl ⟨1, 12, TX1, (sa_3_0 hs), rfl, by decide⟩) (f_cal (M := M) (us2 := [3]) [0] hn rfl (And.intro rfl trivial) rfl rfl rfl (c_X1_of hst hs (by decide)  hq9)) (by decide) (Nat.le_of_ble_eq_true rfl) (Or.inl rfl) ?_
      show Ev g _ _ _ _ _ _ 32 [some (x_r (16 * 1 + 0)), some (x_i a), some (x_i v4), some (x_i v5)] [x_i v9] (al, ro, fl (ml M [3] [N])) _ _ _ _
      refine e_iloadn (pc := 32) (i := 1) dX11_round_32 rfl rfl ?_
      obtain ⟨v11, hr11, hf7⟩ := x_bd1 hf7
      have hjhr11 : Ev g yX11_round cX11_round 4 (some .int) [] 1 42 [some (x_r (16 * 1 + 0)), some (x_i a), some (x_i v11), some (x_i v5)] [] (al, ro, fl (ml M [3] [N])) 0 0 (x_oi t) (al, ro, fl (ml M [3] [N])) := by
        refine e_iinc (pc := 42) dX11_round_42 rfl (by decide) rfl ?_
        show Ev g _ _ _ _ _ _ 45 [some (x_r (16 * 1 + 0)), some (x_i a), some (x_i v11), some (x_i (x_add v5 1))] [] (al, ro, fl (ml M [3] [N])) _ _ _ _
        refine e_goto (pc := 45) (tgt := 11) dX11_round_45 (by decide) ?_
        cases hf7
        have hh := hi7 _ rfl
        try dsimp only at hh
        exact hh
      clear hf7
      refine e_icmp_lt (pc := 33) (tgt := 42) dX11_round_33 (by decide) (fun hb => ?_) (fun hb => ?_)
      · rw [if_pos hb] at hr11
        cases hr11
        exact hjhr11
      · rw [if_neg hb] at hr11
        refine e_iloadn (pc := 36) (i := 2) dX11_round_36 rfl rfl ?_
        refine e_iconst (pc := 37) dX11_round_37 (x_R rfl) ?_
        refine e_iloadn (pc := 38) (i := 3) dX11_round_38 rfl rfl ?_
        refine e_ishl (pc := 39) dX11_round_39 ?_
        refine e_ior (pc := 40) dX11_round_40 ?_
        refine e_istoren (pc := 41) (i := 2) dX11_round_41 rfl (by decide) rfl ?_
        show Ev g _ _ _ _ _ _ 42 [some (x_r (16 * 1 + 0)), some (x_i a), some (x_i (x_or v4 (x_shl 1 v5))), some (x_i v5)] [] (al, ro, fl (ml M [3] [N])) _ _ _ _
        cases hr11
        exact hjhr11
set_option maxRecDepth 100000 in
set_option maxHeartbeats 4000000 in
theorem c_X11_hungriest {g : xG} {al : List (Nat × Nat × Nat)} {ro : Nat → Nat → Option Nat} (hst : g.1.stackTraces = false) (hs : SH al ro) {M : Nat → xU} {N : xU}  {t : Int} (hG : G11_hungriest N = some t) :
    Cal g yX11_hungriest cX11_hungriest 4 (some .int) 1 [x_r (16 * 1 + 0)] (al, ro, fl (ml M [3] [N])) 0 0 (.inl (some (x_i t))) (al, ro, fl (ml M [3] [N])) := by
  have hn : ([3] : List Nat).Nodup := by decide
  refine cal_of_ev (plainFor_of_name (by decide)) (x_c1 rfl) (Nat.le_of_ble_eq_true rfl) hst ?_
  show Ev g _ _ _ _ _ _ 0 [some (x_r (16 * 1 + 0)), none, none, none] [] (al, ro, fl (ml M [3] [N])) _ _ _ _
  rw [G11_hungriest] at hG
  refine e_iconst (pc := 0) dX11_hungriest_0 (x_R rfl) ?_
  refine e_istoren (pc := 1) (i := 1) dX11_hungriest_1 rfl (by decide) rfl ?_
  show Ev g _ _ _ _ _ _ 2 [some (x_r (16 * 1 + 0)), some (x_i (-1)), none, none] [] (al, ro, fl (ml M [3] [N])) _ _ _ _
  refine e_iconst (pc := 2) dX11_hungriest_2 (x_R rfl) ?_
  refine e_istoren (pc := 3) (i := 2) dX11_hungriest_3 rfl (by decide) rfl ?_
  show Ev g _ _ _ _ _ _ 4 [some (x_r (16 * 1 + 0)), some (x_i (-1)), some (x_i 0), none] [] (al, ro, fl (ml M [3] [N])) _ _ _ _
  refine e_iconst (pc := 4) dX11_hungriest_4 (x_R rfl) ?_
  refine e_istoren (pc := 5) (i := 3) dX11_hungriest_5 rfl (by decide) rfl ?_
  show Ev g _ _ _ _ _ _ 6 [some (x_r (16 * 1 + 0)), some (x_i (-1)), some (x_i 0), some (x_i 0)] [] (al, ro, fl (ml M [3] [N])) _ _ _ _
  obtain ⟨v4, hl5, hG⟩ := x_bd1 hG
  have hk5 : ∀ q : Int, q = v4 → Ev g yX11_hungriest cX11_hungriest 4 (some .int) [] 1 50 [some (x_r (16 * 1 + 0)), some (x_i q), none, none] [] (al, ro, fl (ml M [3] [N])) 0 0 (.inl (some (x_i t))) (al, ro, fl (ml M [3] [N])) := by
    intro q hq
    replace hq := hq.symm
    subst hq
    refine e_iloadn (pc := 50) (i := 1) dX11_hungriest_50 rfl rfl ?_
    cases hG
    exact (e_ireturn rfl dX11_hungriest_51 rfl)
  clear hG
  refine e_whl (G11_hungriest_L6 N) (fun z : (Int × Int × Int) => Ev g yX11_hungriest cX11_hungriest 4 (some .int) [] 1 6 [some (x_r (16 * 1 + 0)), some (x_i z.1), some (x_i z.2.1), some (x_i z.2.2)] [] (al, ro, fl (ml M [3] [N])) 0 0 (.inl (some (x_i t))) (al, ro, fl (ml M [3] [N]))) (fun q => q = v4) ?_ xFU ((-1), 0, 0) _ hl5 rfl
  intro z t5 hf5 hi5 hx5
  obtain ⟨v1, v2, v3⟩ := z
  rw [G11_hungriest_L6] at hf5
  show Ev g _ _ _ _ _ _ 6 [some (x_r (16 * 1 + 0)), some (x_i v1), some (x_i v2), some (x_i v3)] [] (al, ro, fl (ml M [3] [N])) _ _ _ _
  refine e_iloadn (pc := 6) (i := 3) dX11_hungriest_6 rfl rfl ?_
  refine e_aloadn (pc := 7) (i := 0) dX11_hungriest_7 rfl rfl ?_
  refine f_getr (pc := 8) (u := 1) (q := 0) dX11_hungriest_8 xf11_19 (sa_1_0 hs) rfl (sr_1_0_1 hs) ?_
  refine f_geti (pc := 11) (k := 0) (u := 3) (q := 0) dX11_hungriest_11 xf11_200 (sa_3_0 hs) rfl hn rfl rfl (by decide) ?_
  show Ev g _ _ _ _ _ _ 14 [some (x_r (16 * 1 + 0)), some (x_i v1), some (x_i v2), some (x_i v3)] [x_i (N 0 3), x_i v3] (al, ro, fl (ml M [3] [N])) _ _ _ _
  refine e_icmp_ge (pc := 14) (tgt := 50) dX11_hungriest_14 (by decide) (fun hb => ?_) (fun hb => ?_)
  · rw [if_pos hb] at hf5
    cases hf5
    refine e_drop (i := 2) ?_
    refine e_drop (i := 3) ?_
    have hh := hk5 _ (hx5 _ rfl)
    try dsimp only at hh
    exact hh
  · rw [if_neg hb] at hf5
    refine e_aloadn (pc := 17) (i := 0) dX11_hungriest_17 rfl rfl ?_
    refine f_getr (pc := 18) (u := 1) (q := 0) dX11_hungriest_18 xf11_19 (sa_1_0 hs) rfl (sr_1_0_1 hs) ?_
    refine e_bipush (pc := 21) dX11_hungriest_21 (by decide +kernel) (x_R rfl) ?_
    refine e_iloadn (pc := 23) (i := 3) dX11_hungriest_23 rfl rfl ?_
    obtain ⟨v7, hq7, hf5⟩ := x_bd1 hf5
    refine e_invV (pc := 24) (K1 := 0) (S1 := 0) (K := 0) (S := 0) (dd2 := 0) (av := [x_i 6, x_i v3]) (st := []) (id := 16 * 3 + 0) dX11_hungriest_24 xmX11_138 rfl (Or.inl ⟨1, 12, TX1, (sa_3_0 hs), rfl, by decide⟩) (f_cal (M := M) (us2 := [3]) [0] hn rfl (And.intro rfl trivial) rfl rfl rfl (c_X1_of hst hs (by decide)  hq7)) (by decide) (Nat.le_of_ble_eq_true rfl) (Or.inl rfl) ?_
    show Ev g _ _ _ _ _ _ 27 [some (x_r (16 * 1 + 0)), some (x_i v1), some (x_i v2), some (x_i v3)] [x_i v7] (al, ro, fl (ml M [3] [N])) _ _ _ _
    refine e_iloadn (pc := 27) (i := 2) dX11_hungriest_27 rfl rfl ?_
    obtain ⟨v9, v10, hr10, hf5⟩ := x_bd2 hf5
    have hjhr10 : Ev g yX11_hungriest cX11_hungriest 4 (some .int) [] 1 44 [some (x_r (16 * 1 + 0)), some (x_i v9), some (x_i v10), some (x_i v3)] [] (al, ro, fl (ml M [3] [N])) 0 0 (.inl (some (x_i t))) (al, ro, fl (ml M [3] [N])) := by
      refine e_iinc (pc := 44) dX11_hungriest_44 rfl (by decide) rfl ?_
      show Ev g _ _ _ _ _ _ 47 [some (x_r (16 * 1 + 0)), some (x_i v9), some (x_i v10), some (x_i (x_add v3 1))] [] (al, ro, fl (ml M [3] [N])) _ _ _ _
      refine e_goto (pc := 47) (tgt := 6) dX11_hungriest_47 (by decide) ?_
      cases hf5
      have hh := hi5 _ rfl
      try dsimp only at hh
      exact hh
    clear hf5
    refine e_icmp_le (pc := 28) (tgt := 44) dX11_hungriest_28 (by decide) (fun hb => ?_) (fun hb => ?_)
    · rw [if_pos hb] at hr10
      cases hr10
      exact hjhr10
    · rw [if_neg hb] at hr10
      refine e_aloadn (pc := 31) (i := 0) dX11_hungriest_31 rfl rfl ?_
      refine f_getr (pc := 32) (u := 1) (q := 0) dX11_hungriest_32 xf11_19 (sa_1_0 hs) rfl (sr_1_0_1 hs) ?_
      refine e_bipush (pc := 35) dX11_hungriest_35 (by decide +kernel) (x_R rfl) ?_
      refine e_iloadn (pc := 37) (i := 3) dX11_hungriest_37 rfl rfl ?_
      obtain ⟨v12, hq12, hr10⟩ := x_bd1 hr10
      refine e_invV (pc := 38) (K1 := 0) (S1 := 0) (K := 0) (S := 0) (dd2 := 0) (av := [x_i 6, x_i v3]) (st := []) (id := 16 * 3 + 0) dX11_hungriest_38 xmX11_138 rfl (Or.inl ⟨1, 12, TX1, (sa_3_0 hs), rfl, by decide⟩) (f_cal (M := M) (us2 := [3]) [0] hn rfl (And.intro rfl trivial) rfl rfl rfl (c_X1_of hst hs (by decide)  hq12)) (by decide) (Nat.le_of_ble_eq_true rfl) (Or.inl rfl) ?_
      show Ev g _ _ _ _ _ _ 41 [some (x_r (16 * 1 + 0)), some (x_i v1), some (x_i v2), some (x_i v3)] [x_i v12] (al, ro, fl (ml M [3] [N])) _ _ _ _
      refine e_istoren (pc := 41) (i := 2) dX11_hungriest_41 rfl (by decide) rfl ?_
      show Ev g _ _ _ _ _ _ 42 [some (x_r (16 * 1 + 0)), some (x_i v1), some (x_i v12), some (x_i v3)] [] (al, ro, fl (ml M [3] [N])) _ _ _ _
      refine e_iloadn (pc := 42) (i := 3) dX11_hungriest_42 rfl rfl ?_
      refine e_istoren (pc := 43) (i := 1) dX11_hungriest_43 rfl (by decide) rfl ?_
      show Ev g _ _ _ _ _ _ 44 [some (x_r (16 * 1 + 0)), some (x_i v3), some (x_i v12), some (x_i v3)] [] (al, ro, fl (ml M [3] [N])) _ _ _ _
      cases hr10
      exact hjhr10
set_option maxRecDepth 100000 in
set_option maxHeartbeats 4000000 in
theorem c_X11_alike {g : xG} {al : List (Nat × Nat × Nat)} {ro : Nat → Nat → Option Nat} (hst : g.1.stackTraces = false) (hs : SH al ro) {M : Nat → xU} {N : xU}  {t : Int} (hG : G11_alike N = some t) :
    Cal g yX11_alike cX11_alike 4 (some .int) 1 [x_r (16 * 1 + 0)] (al, ro, fl (ml M [3] [N])) 0 0 (.inl (some (x_i t))) (al, ro, fl (ml M [3] [N])) := by
  have hn : ([3] : List Nat).Nodup := by decide
  refine cal_of_ev (plainFor_of_name (by decide)) (x_c1 rfl) (Nat.le_of_ble_eq_true rfl) hst ?_
  show Ev g _ _ _ _ _ _ 0 [some (x_r (16 * 1 + 0)), none, none, none] [] (al, ro, fl (ml M [3] [N])) _ _ _ _
  rw [G11_alike] at hG
  refine e_iconst (pc := 0) dX11_alike_0 (x_R rfl) ?_
  refine e_istoren (pc := 1) (i := 1) dX11_alike_1 rfl (by decide) rfl ?_
  show Ev g _ _ _ _ _ _ 2 [some (x_r (16 * 1 + 0)), some (x_i 0), none, none] [] (al, ro, fl (ml M [3] [N])) _ _ _ _
  refine e_iconst (pc := 2) dX11_alike_2 (x_R rfl) ?_
  refine e_istoren (pc := 3) (i := 2) dX11_alike_3 rfl (by decide) rfl ?_
  show Ev g _ _ _ _ _ _ 4 [some (x_r (16 * 1 + 0)), some (x_i 0), some (x_i 0), none] [] (al, ro, fl (ml M [3] [N])) _ _ _ _
  obtain ⟨v3, hl4, hG⟩ := x_bd1 hG
  have hk4 : ∀ q : Int, q = v3 → Ev g yX11_alike cX11_alike 4 (some .int) [] 1 79 [some (x_r (16 * 1 + 0)), some (x_i q), none, none] [] (al, ro, fl (ml M [3] [N])) 0 0 (.inl (some (x_i t))) (al, ro, fl (ml M [3] [N])) := by
    intro q hq
    replace hq := hq.symm
    subst hq
    refine e_iloadn (pc := 79) (i := 1) dX11_alike_79 rfl rfl ?_
    cases hG
    exact (e_ireturn rfl dX11_alike_80 rfl)
  clear hG
  refine e_whl (G11_alike_L4 N) (fun z : (Int × Int) => Ev g yX11_alike cX11_alike 4 (some .int) [] 1 4 [some (x_r (16 * 1 + 0)), some (x_i z.1), some (x_i z.2), none] [] (al, ro, fl (ml M [3] [N])) 0 0 (.inl (some (x_i t))) (al, ro, fl (ml M [3] [N]))) (fun q => q = v3) ?_ xFU (0, 0) _ hl4 rfl
  intro z t4 hf4 hi4 hx4
  obtain ⟨v1, v2⟩ := z
  rw [G11_alike_L4] at hf4
  show Ev g _ _ _ _ _ _ 4 [some (x_r (16 * 1 + 0)), some (x_i v1), some (x_i v2), none] [] (al, ro, fl (ml M [3] [N])) _ _ _ _
  refine e_iloadn (pc := 4) (i := 2) dX11_alike_4 rfl rfl ?_
  refine e_aloadn (pc := 5) (i := 0) dX11_alike_5 rfl rfl ?_
  refine f_getr (pc := 6) (u := 1) (q := 0) dX11_alike_6 xf11_19 (sa_1_0 hs) rfl (sr_1_0_1 hs) ?_
  refine f_geti (pc := 9) (k := 0) (u := 3) (q := 0) dX11_alike_9 xf11_200 (sa_3_0 hs) rfl hn rfl rfl (by decide) ?_
  show Ev g _ _ _ _ _ _ 12 [some (x_r (16 * 1 + 0)), some (x_i v1), some (x_i v2), none] [x_i (N 0 3), x_i v2] (al, ro, fl (ml M [3] [N])) _ _ _ _
  refine e_icmp_ge (pc := 12) (tgt := 79) dX11_alike_12 (by decide) (fun hb => ?_) (fun hb => ?_)
  · rw [if_pos hb] at hf4
    cases hf4
    refine e_drop (i := 2) ?_
    have hh := hk4 _ (hx4 _ rfl)
    try dsimp only at hh
    exact hh
  · rw [if_neg hb] at hf4
    refine e_iconst (pc := 15) dX11_alike_15 (x_R rfl) ?_
    refine e_istoren (pc := 16) (i := 3) dX11_alike_16 rfl (by decide) rfl ?_
    show Ev g _ _ _ _ _ _ 17 [some (x_r (16 * 1 + 0)), some (x_i v1), some (x_i v2), some (x_i 0)] [] (al, ro, fl (ml M [3] [N])) _ _ _ _
    obtain ⟨v8, hl9, hf4⟩ := x_bd1 hf4
    have hk9 : ∀ q : Int, q = v8 → Ev g yX11_alike cX11_alike 4 (some .int) [] 1 73 [some (x_r (16 * 1 + 0)), some (x_i q), some (x_i v2), none] [] (al, ro, fl (ml M [3] [N])) 0 0 (.inl (some (x_i t))) (al, ro, fl (ml M [3] [N])) := by
      intro q hq
      replace hq := hq.symm
      subst hq
      refine e_iinc (pc := 73) dX11_alike_73 rfl (by decide) rfl ?_
      show Ev g _ _ _ _ _ _ 76 [some (x_r (16 * 1 + 0)), some (x_i v8), some (x_i (x_add v2 1)), none] [] (al, ro, fl (ml M [3] [N])) _ _ _ _
      refine e_goto (pc := 76) (tgt := 4) dX11_alike_76 (by decide) ?_
      cases hf4
      have hh := hi4 _ rfl
      try dsimp only at hh
      exact hh
    clear hf4
    refine e_whl (G11_alike_L17 N v2) (fun z : (Int × Int) => Ev g yX11_alike cX11_alike 4 (some .int) [] 1 17 [some (x_r (16 * 1 + 0)), some (x_i z.1), some (x_i v2), some (x_i z.2)] [] (al, ro, fl (ml M [3] [N])) 0 0 (.inl (some (x_i t))) (al, ro, fl (ml M [3] [N]))) (fun q => q = v8) ?_ xFU (v1, 0) _ hl9 rfl
    intro z t9 hf9 hi9 hx9
    obtain ⟨v6, v7⟩ := z
    rw [G11_alike_L17] at hf9
    show Ev g _ _ _ _ _ _ 17 [some (x_r (16 * 1 + 0)), some (x_i v6), some (x_i v2), some (x_i v7)] [] (al, ro, fl (ml M [3] [N])) _ _ _ _
    refine e_iloadn (pc := 17) (i := 3) dX11_alike_17 rfl rfl ?_
    refine e_iloadn (pc := 18) (i := 2) dX11_alike_18 rfl rfl ?_
    refine e_icmp_ge (pc := 19) (tgt := 73) dX11_alike_19 (by decide) (fun hb => ?_) (fun hb => ?_)
    · rw [if_pos hb] at hf9
      cases hf9
      refine e_drop (i := 3) ?_
      have hh := hk9 _ (hx9 _ rfl)
      try dsimp only at hh
      exact hh
    · rw [if_neg hb] at hf9
      refine e_aloadn (pc := 22) (i := 0) dX11_alike_22 rfl rfl ?_
      refine f_getr (pc := 23) (u := 1) (q := 0) dX11_alike_23 xf11_19 (sa_1_0 hs) rfl (sr_1_0_1 hs) ?_
      refine e_iconst (pc := 26) dX11_alike_26 (x_R rfl) ?_
      refine e_iloadn (pc := 27) (i := 2) dX11_alike_27 rfl rfl ?_
      obtain ⟨v11, hq11, hf9⟩ := x_bd1 hf9
      refine e_invV (pc := 28) (K1 := 0) (S1 := 0) (K := 0) (S := 0) (dd2 := 0) (av := [x_i 1, x_i v2]) (st := []) (id := 16 * 3 + 0) dX11_alike_28 xmX11_138 rfl (Or.inl ⟨1, 12, TX1, (sa_3_0 hs), rfl, by decide⟩) (f_cal (M := M) (us2 := [3]) [0] hn rfl (And.intro rfl trivial) rfl rfl rfl (c_X1_of hst hs (by decide)  hq11)) (by decide) (Nat.le_of_ble_eq_true rfl) (Or.inl rfl) ?_
      show Ev g _ _ _ _ _ _ 31 [some (x_r (16 * 1 + 0)), some (x_i v6), some (x_i v2), some (x_i v7)] [x_i v11] (al, ro, fl (ml M [3] [N])) _ _ _ _
      refine e_aloadn (pc := 31) (i := 0) dX11_alike_31 rfl rfl ?_
      refine f_getr (pc := 32) (u := 1) (q := 0) dX11_alike_32 xf11_19 (sa_1_0 hs) rfl (sr_1_0_1 hs) ?_
      refine e_iconst (pc := 35) dX11_alike_35 (x_R rfl) ?_
      refine e_iloadn (pc := 36) (i := 3) dX11_alike_36 rfl rfl ?_
      obtain ⟨v13, hq13, hf9⟩ := x_bd1 hf9
      refine e_invV (pc := 37) (K1 := 0) (S1 := 0) (K := 0) (S := 0) (dd2 := 0) (av := [x_i 1, x_i v7]) (st := [x_i v11]) (id := 16 * 3 + 0) dX11_alike_37 xmX11_138 rfl (Or.inl ⟨1, 12, TX1, (sa_3_0 hs), rfl, by decide⟩) (f_cal (M := M) (us2 := [3]) [0] hn rfl (And.intro rfl trivial) rfl rfl rfl (c_X1_of hst hs (by decide)  hq13)) (by decide) (Nat.le_of_ble_eq_true rfl) (Or.inl rfl) ?_
      show Ev g _ _ _ _ _ _ 40 [some (x_r (16 * 1 + 0)), some (x_i v6), some (x_i v2), some (x_i v7)] [x_i v13, x_i v11] (al, ro, fl (ml M [3] [N])) _ _ _ _
      obtain ⟨v15, hr15, hf9⟩ := x_bd1 hf9
      have hjhr15 : Ev g yX11_alike cX11_alike 4 (some .int) [] 1 67 [some (x_r (16 * 1 + 0)), some (x_i v15), some (x_i v2), some (x_i v7)] [] (al, ro, fl (ml M [3] [N])) 0 0 (.inl (some (x_i t))) (al, ro, fl (ml M [3] [N])) := by
        refine e_iinc (pc := 67) dX11_alike_67 rfl (by decide) rfl ?_
        show Ev g _ _ _ _ _ _ 70 [some (x_r (16 * 1 + 0)), some (x_i v15), some (x_i v2), some (x_i (x_add v7 1))] [] (al, ro, fl (ml M [3] [N])) _ _ _ _
        refine e_goto (pc := 70) (tgt := 17) dX11_alike_70 (by decide) ?_
        cases hf9
        have hh := hi9 _ rfl
        try dsimp only at hh
        exact hh
      clear hf9
      refine e_icmp_ne (pc := 40) (tgt := 67) dX11_alike_40 (by decide) (fun hb => ?_) (fun hb => ?_)
      · rw [if_neg hb] at hr15
        cases hr15
        exact hjhr15
      · rw [if_pos hb] at hr15
        refine e_aloadn (pc := 43) (i := 0) dX11_alike_43 rfl rfl ?_
        refine f_getr (pc := 44) (u := 1) (q := 0) dX11_alike_44 xf11_19 (sa_1_0 hs) rfl (sr_1_0_1 hs) ?_
        refine e_iconst (pc := 47) dX11_alike_47 (x_R rfl) ?_
        refine e_iloadn (pc := 48) (i := 2) dX11_alike_48 rfl rfl ?_
        obtain ⟨v17, hq17, hr15⟩ := x_bd1 hr15
        refine e_invV (pc := 49) (K1 := 0) (S1 := 0) (K := 0) (S := 0) (dd2 := 0) (av := [x_i 0, x_i v2]) (st := []) (id := 16 * 3 + 0) dX11_alike_49 xmX11_138 rfl (Or.inl ⟨1, 12, TX1, (sa_3_0 hs), rfl, by decide⟩) (f_cal (M := M) (us2 := [3]) [0] hn rfl (And.intro rfl trivial) rfl rfl rfl (c_X1_of hst hs (by decide)  hq17)) (by decide) (Nat.le_of_ble_eq_true rfl) (Or.inl rfl) ?_
        show Ev g _ _ _ _ _ _ 52 [some (x_r (16 * 1 + 0)), some (x_i v6), some (x_i v2), some (x_i v7)] [x_i v17] (al, ro, fl (ml M [3] [N])) _ _ _ _
        refine e_aloadn (pc := 52) (i := 0) dX11_alike_52 rfl rfl ?_
        refine f_getr (pc := 53) (u := 1) (q := 0) dX11_alike_53 xf11_19 (sa_1_0 hs) rfl (sr_1_0_1 hs) ?_
        refine e_iconst (pc := 56) dX11_alike_56 (x_R rfl) ?_
        refine e_iloadn (pc := 57) (i := 3) dX11_alike_57 rfl rfl ?_
        obtain ⟨v19, hq19, hr15⟩ := x_bd1 hr15
        refine e_invV (pc := 58) (K1 := 0) (S1 := 0) (K := 0) (S := 0) (dd2 := 0) (av := [x_i 0, x_i v7]) (st := [x_i v17]) (id := 16 * 3 + 0) dX11_alike_58 xmX11_138 rfl (Or.inl ⟨1, 12, TX1, (sa_3_0 hs), rfl, by decide⟩) (f_cal (M := M) (us2 := [3]) [0] hn rfl (And.intro rfl trivial) rfl rfl rfl (c_X1_of hst hs (by decide)  hq19)) (by decide) (Nat.le_of_ble_eq_true rfl) (Or.inl rfl) ?_
        show Ev g _ _ _ _ _ _ 61 [some (x_r (16 * 1 + 0)), some (x_i v6), some (x_i v2), some (x_i v7)] [x_i v19, x_i v17] (al, ro, fl (ml M [3] [N])) _ _ _ _
        refine e_icmp_ne (pc := 61) (tgt := 67) dX11_alike_61 (by decide) (fun hb => ?_) (fun hb => ?_)
        · rw [if_neg hb] at hr15
          cases hr15
          exact hjhr15
        · rw [if_pos hb] at hr15
          refine e_iinc (pc := 64) dX11_alike_64 rfl (by decide) rfl ?_
          show Ev g _ _ _ _ _ _ 67 [some (x_r (16 * 1 + 0)), some (x_i (x_add v6 1)), some (x_i v2), some (x_i v7)] [] (al, ro, fl (ml M [3] [N])) _ _ _ _
          cases hr15
          exact hjhr15
set_option maxRecDepth 100000 in
set_option maxHeartbeats 4000000 in
theorem c_X11_ahead {g : xG} {al : List (Nat × Nat × Nat)} {ro : Nat → Nat → Option Nat} (hst : g.1.stackTraces = false) (hs : SH al ro) {M : Nat → xU} {a : Int} {b : Int} {c : Int} {N : xU} {Th : xU} {La : xU}  {t : ((Int ⊕ Nat) × xU × xU)} (hG : G11_ahead a b c N Th La = some t) :
    Cal g yX11_ahead cX11_ahead 5 (some .int) 6 [x_r (16 * 1 + 0), x_i a, x_i b, x_i c] (al, ro, fl (ml M [3, 18, 19] [N, Th, La])) 3 18 (x_oi t.1) (al, ro, fl (ml M [3, 18, 19] [N, t.2.1, t.2.2])) := by
  have hn : ([3, 18, 19] : List Nat).Nodup := by decide
  refine cal_of_ev (plainFor_of_name (by decide)) (x_c1 rfl) (Nat.le_of_ble_eq_true rfl) hst ?_
  show Ev g _ _ _ _ _ _ 0 [some (x_r (16 * 1 + 0)), some (x_i a), some (x_i b), some (x_i c), none] [] (al, ro, fl (ml M [3, 18, 19] [N, Th, La])) _ _ _ _
  rw [G11_ahead] at hG
  refine e_aloadn (pc := 0) (i := 0) dX11_ahead_0 rfl rfl ?_
  refine e_iloadn (pc := 1) (i := 1) dX11_ahead_1 rfl rfl ?_
  obtain ⟨o1, hq1, hG⟩ := x_bd1 hG
  cases o1 with
  | some E3 =>
    replace hG := x_tv_s hG
    cases hG
    exact (e_wide (K0 := 1) (S0 := 6) (by decide) (by decide) (e_invVX (pc := 2) (dd2 := 0) (av := [x_i a]) (st := []) (id := 16 * 1 + 0) dX11_ahead_2 xmX11_128 rfl (Or.inl ⟨9, 17, TX11, (sa_1_0 hs), rfl, by decide⟩) (f_cal (M := M) (us2 := [3]) [0] hn rfl (And.intro rfl trivial) rfl rfl rfl (c_X11_needMonk hst hs   hq1)) (by decide) (Nat.le_of_ble_eq_true rfl) (fun _ q => absurd q List.not_mem_nil)))
  | none =>
    replace hG := x_tv_n hG
    refine e_invV (pc := 2) (K1 := 1) (S1 := 6) (K := 2) (S := 12) (dd2 := 0) (av := [x_i a]) (st := []) (id := 16 * 1 + 0) dX11_ahead_2 xmX11_128 rfl (Or.inl ⟨9, 17, TX11, (sa_1_0 hs), rfl, by decide⟩) (f_cal (M := M) (us2 := [3]) [0] hn rfl (And.intro rfl trivial) rfl rfl rfl (c_X11_needMonk hst hs   hq1)) (by decide) (Nat.le_of_ble_eq_true rfl) (Or.inl rfl) ?_
    show Ev g _ _ _ _ _ _ 5 [some (x_r (16 * 1 + 0)), some (x_i a), some (x_i b), some (x_i c), none] [] (al, ro, fl (ml M [3, 18, 19] [N, Th, La])) _ _ _ _
    refine e_iloadn (pc := 5) (i := 2) dX11_ahead_5 rfl rfl ?_
    refine e_bipush (pc := 6) dX11_ahead_6 (by decide +kernel) (x_R rfl) ?_
    obtain ⟨o4, hq4, hG⟩ := x_bd1 hG
    cases o4 with
    | some E6 =>
      replace hG := x_tv_s hG
      cases hG
      exact (e_wide (K0 := 1) (S0 := 6) (by decide) (by decide) (e_invSX (pc := 8) (dd2 := 0) (av := [x_i b, x_i 72]) (st := []) dX11_ahead_8 xmX11_187 rfl (f_cal (M := M) (us2 := []) [] hn rfl trivial rfl rfl rfl (c_X11_needWithin hst hs   hq4)) (by decide) (Nat.le_of_ble_eq_true rfl) (fun _ q => absurd q List.not_mem_nil)))
    | none =>
      replace hG := x_tv_n hG
      refine e_invS (pc := 8) (K1 := 1) (S1 := 6) (K := 1) (S := 6) (dd2 := 0) (av := [x_i b, x_i 72]) (st := []) dX11_ahead_8 xmX11_187 rfl (f_cal (M := M) (us2 := []) [] hn rfl trivial rfl rfl rfl (c_X11_needWithin hst hs   hq4)) (by decide) (Nat.le_of_ble_eq_true rfl) (Or.inl rfl) ?_
      show Ev g _ _ _ _ _ _ 11 [some (x_r (16 * 1 + 0)), some (x_i a), some (x_i b), some (x_i c), none] [] (al, ro, fl (ml M [3, 18, 19] [N, Th, La])) _ _ _ _
      refine e_iloadn (pc := 11) (i := 3) dX11_ahead_11 rfl rfl ?_
      refine e_if_lt (pc := 12) (tgt := 20) dX11_ahead_12 (by decide) (fun hb => ?_) (fun hb => ?_)
      · rw [if_pos hb] at hG
        cases hG
        exact (e_throw (pc := 20) xt_3 dX11_ahead_20 dX11_ahead_23 dX11_ahead_24 dX11_ahead_27 (Nat.le_of_ble_eq_true rfl) (fun _ q => absurd q List.not_mem_nil))
      · rw [if_neg hb] at hG
        refine e_iloadn (pc := 15) (i := 3) dX11_ahead_15 rfl rfl ?_
        refine e_iconst (pc := 16) dX11_ahead_16 (x_R rfl) ?_
        refine e_icmp_le (pc := 17) (tgt := 28) dX11_ahead_17 (by decide) (fun hb => ?_) (fun hb => ?_)
        · rw [if_pos hb] at hG
          refine e_aloadn (pc := 28) (i := 0) dX11_ahead_28 rfl rfl ?_
          refine f_getr (pc := 29) (u := 1) (q := 0) dX11_ahead_29 xf11_49 (sa_1_0 hs) rfl (sr_1_0_8 hs) ?_
          refine e_aloadn (pc := 32) (i := 0) dX11_ahead_32 rfl rfl ?_
          refine f_getr (pc := 33) (u := 1) (q := 0) dX11_ahead_33 xf11_19 (sa_1_0 hs) rfl (sr_1_0_1 hs) ?_
          obtain ⟨Th7, hq7, hG⟩ := x_bd1 hG
          refine e_invV (pc := 36) (K1 := 0) (S1 := 0) (K := 1) (S := 6) (dd2 := 3) (av := [x_r (16 * 3 + 0)]) (st := []) (id := 16 * 22 + 0) dX11_ahead_36 xmX11_214 rfl (Or.inl ⟨2, 3, TX3, (sa_22_0 hs), rfl, by decide⟩) (f_cal (M := M) (us2 := [3, 18]) [0, 1] hn rfl (And.intro rfl (And.intro rfl trivial)) rfl rfl rfl (c_X3_look hst hs   hq7)) (by decide) (Nat.le_of_ble_eq_true rfl) (Or.inl rfl) ?_
          show Ev g _ _ _ _ _ _ 39 [some (x_r (16 * 1 + 0)), some (x_i a), some (x_i b), some (x_i c), none] [] (al, ro, fl (ml M [3, 18, 19] [N, Th7, La])) _ _ _ _
          refine e_aloadn (pc := 39) (i := 0) dX11_ahead_39 rfl rfl ?_
          refine f_getr (pc := 40) (u := 1) (q := 0) dX11_ahead_40 xf11_49 (sa_1_0 hs) rfl (sr_1_0_8 hs) ?_
          refine e_aloadn (pc := 43) (i := 0) dX11_ahead_43 rfl rfl ?_
          refine f_getr (pc := 44) (u := 1) (q := 0) dX11_ahead_44 xf11_32 (sa_1_0 hs) rfl (sr_1_0_4 hs) ?_
          refine e_iloadn (pc := 47) (i := 2) dX11_ahead_47 rfl rfl ?_
          refine e_iconst (pc := 48) dX11_ahead_48 (x_R rfl) ?_
          obtain ⟨Th9, La10, hq10, hG⟩ := x_bd2 hG
          refine e_invV (pc := 49) (K1 := 0) (S1 := 0) (K := 1) (S := 6) (dd2 := 5) (av := [x_r (16 * 19 + 0), x_i b, x_i 0]) (st := []) (id := 16 * 22 + 0) dX11_ahead_49 xmX11_332 rfl (Or.inl ⟨2, 3, TX3, (sa_22_0 hs), rfl, by decide⟩) (f_cal (M := M) (us2 := [18, 19]) [1, 2] hn rfl (And.intro rfl (And.intro rfl trivial)) rfl rfl rfl (c_X3_passHours hst hs   hq10)) (by decide) (Nat.le_of_ble_eq_true rfl) (Or.inl rfl) ?_
          show Ev g _ _ _ _ _ _ 52 [some (x_r (16 * 1 + 0)), some (x_i a), some (x_i b), some (x_i c), none] [] (al, ro, fl (ml M [3, 18, 19] [N, Th9, La10])) _ _ _ _
          refine e_iloadn (pc := 52) (i := 3) dX11_ahead_52 rfl rfl ?_
          obtain ⟨v12, hr12, hG⟩ := x_bd1 hG
          have hjhr12 : Ev g yX11_ahead cX11_ahead 5 (some .int) [] 6 71 [some (x_r (16 * 1 + 0)), some (x_i a), some (x_i b), some (x_i c), none] [x_i v12] (al, ro, fl (ml M [3, 18, 19] [N, Th9, La10])) 1 6 (x_oi t.1) (al, ro, fl (ml M [3, 18, 19] [N, t.2.1, t.2.2])) := by
            refine e_istore (pc := 71) (i := 4) dX11_ahead_71 (by decide) rfl ?_
            show Ev g _ _ _ _ _ _ 73 [some (x_r (16 * 1 + 0)), some (x_i a), some (x_i b), some (x_i c), some (x_i v12)] [] (al, ro, fl (ml M [3, 18, 19] [N, Th9, La10])) _ _ _ _
            refine e_aloadn (pc := 73) (i := 0) dX11_ahead_73 rfl rfl ?_
            refine f_getr (pc := 74) (u := 1) (q := 0) dX11_ahead_74 xf11_49 (sa_1_0 hs) rfl (sr_1_0_8 hs) ?_
            refine f_getr (pc := 77) (u := 22) (q := 0) dX11_ahead_77 xf11_294 (sa_22_0 hs) rfl (sr_22_0_0 hs) ?_
            refine e_iload (pc := 80) dX11_ahead_80 rfl ?_
            refine e_iloadn (pc := 82) (i := 1) dX11_ahead_82 rfl rfl ?_
            obtain ⟨v14, hq14, hG⟩ := x_bd1 hG
            refine e_invV (pc := 83) (K1 := 0) (S1 := 0) (K := 1) (S := 6) (dd2 := 0) (av := [x_i v12, x_i a]) (st := []) (id := 16 * 18 + 0) dX11_ahead_83 xmX11_138 rfl (Or.inl ⟨1, 12, TX1, (sa_18_0 hs), rfl, by decide⟩) (f_cal (M := M) (us2 := [18]) [1] hn rfl (And.intro rfl trivial) rfl rfl rfl (c_X1_of hst hs (by decide)  hq14)) (by decide) (Nat.le_of_ble_eq_true rfl) (Or.inl rfl) ?_
            show Ev g _ _ _ _ _ _ 86 [some (x_r (16 * 1 + 0)), some (x_i a), some (x_i b), some (x_i c), some (x_i v12)] [x_i v14] (al, ro, fl (ml M [3, 18, 19] [N, Th9, La10])) _ _ _ _
            cases hG
            exact (e_wide (K0 := 0) (S0 := 0) (by decide) (by decide) (e_ireturn rfl dX11_ahead_86 rfl))
          clear hG
          refine e_if_ne (pc := 53) (tgt := 60) dX11_ahead_53 (by decide) (fun hb => ?_) (fun hb => ?_)
          · rw [if_neg hb] at hr12
            refine e_iloadn (pc := 60) (i := 3) dX11_ahead_60 rfl rfl ?_
            refine e_iconst (pc := 61) dX11_ahead_61 (x_R rfl) ?_
            refine e_icmp_ne (pc := 62) (tgt := 69) dX11_ahead_62 (by decide) (fun hb => ?_) (fun hb => ?_)
            · rw [if_neg hb] at hr12
              refine e_bipush (pc := 69) dX11_ahead_69 (by decide +kernel) (x_R rfl) ?_
              cases hr12
              exact hjhr12
            · rw [if_pos hb] at hr12
              refine e_iconst (pc := 65) dX11_ahead_65 (x_R rfl) ?_
              refine e_goto (pc := 66) (tgt := 71) dX11_ahead_66 (by decide) ?_
              cases hr12
              exact hjhr12
          · rw [if_pos hb] at hr12
            refine e_iconst (pc := 56) dX11_ahead_56 (x_R rfl) ?_
            refine e_goto (pc := 57) (tgt := 71) dX11_ahead_57 (by decide) ?_
            cases hr12
            exact hjhr12
        · rw [if_neg hb] at hG
          cases hG
          exact (e_throw (pc := 20) xt_3 dX11_ahead_20 dX11_ahead_23 dX11_ahead_24 dX11_ahead_27 (Nat.le_of_ble_eq_true rfl) (fun _ q => absurd q List.not_mem_nil))
