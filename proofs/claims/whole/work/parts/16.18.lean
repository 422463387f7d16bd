set_option maxRecDepth 100000 in
set_option maxHeartbeats 4000000 in
theorem c_X11_pace {g : xG} {al : List (Nat × Nat × Nat)} {ro : Nat → Nat → Option Nat} (hst : g.1.stackTraces = false) (hs : SH al ro) {M : Nat → xU} {a : Int} {b : Int} {X : xU} {N : xU} {A : xA}  {t : ((Int ⊕ Nat) × xU × xU × xA)} (hG : G11_pace a b X N A = some t) :
    Cal g yX11_pace cX11_pace 4 (some .int) 4 [x_r (16 * 1 + 0), x_i a, x_i b] (al, ro, fl (ml (x_ac M A) [1, 3] [X, N])) 2 12 (x_oi t.1) (al, ro, fl (ml (x_ac M t.2.2.2) [1, 3] [t.2.1, t.2.2.1])) := by
  have hn : ([1, 3] : List Nat).Nodup := by decide
  refine cal_of_ev (plainFor_of_name (by decide)) (x_c1 rfl) (Nat.le_of_ble_eq_true rfl) hst ?_
  show Ev g _ _ _ _ _ _ 0 [some (x_r (16 * 1 + 0)), some (x_i a), some (x_i b), none] [] (al, ro, fl (ml (x_ac M A) [1, 3] [X, N])) _ _ _ _
  rw [G11_pace] at hG
  refine e_aloadn (pc := 0) (i := 0) dX11_pace_0 rfl rfl ?_
  refine e_iloadn (pc := 1) (i := 1) dX11_pace_1 rfl rfl ?_
  obtain ⟨o1, hq1, hG⟩ := x_bd1 hG
  cases o1 with
  | some E3 =>
    replace hG := x_tv_s hG
    cases hG
    exact (e_wide (K0 := 1) (S0 := 6) (by decide) (by decide) (e_invVX (pc := 2) (dd2 := 0) (av := [x_i a]) (st := []) (id := 16 * 1 + 0) dX11_pace_2 xmX11_128 rfl (Or.inl ⟨9, 17, TX11, (sa_1_0 hs), rfl, by decide⟩) (f_cal (M := (x_ac M A)) (us2 := [3]) [1] hn rfl (And.intro rfl trivial) rfl rfl rfl (c_X11_needMonk hst hs   hq1)) (by decide) (Nat.le_of_ble_eq_true rfl) (fun _ q => absurd q List.not_mem_nil)))
  | none =>
    replace hG := x_tv_n hG
    refine e_invV (pc := 2) (K1 := 1) (S1 := 6) (K := 1) (S := 6) (dd2 := 0) (av := [x_i a]) (st := []) (id := 16 * 1 + 0) dX11_pace_2 xmX11_128 rfl (Or.inl ⟨9, 17, TX11, (sa_1_0 hs), rfl, by decide⟩) (f_cal (M := (x_ac M A)) (us2 := [3]) [1] hn rfl (And.intro rfl trivial) rfl rfl rfl (c_X11_needMonk hst hs   hq1)) (by decide) (Nat.le_of_ble_eq_true rfl) (Or.inl rfl) ?_
    show Ev g _ _ _ _ _ _ 5 [some (x_r (16 * 1 + 0)), some (x_i a), some (x_i b), none] [] (al, ro, fl (ml (x_ac M A) [1, 3] [X, N])) _ _ _ _
    refine e_iloadn (pc := 5) (i := 2) dX11_pace_5 rfl rfl ?_
    refine e_bipush (pc := 6) dX11_pace_6 (by decide +kernel) (x_R rfl) ?_
    obtain ⟨o4, hq4, hG⟩ := x_bd1 hG
    cases o4 with
    | some E6 =>
      replace hG := x_tv_s hG
      cases hG
      exact (e_invSX (pc := 8) (dd2 := 0) (av := [x_i b, x_i 8]) (st := []) dX11_pace_8 xmX11_187 rfl (f_cal (M := (x_ac M A)) (us2 := []) [] hn rfl trivial rfl rfl rfl (c_X11_needWithin hst hs   hq4)) (by decide) (Nat.le_of_ble_eq_true rfl) (fun _ q => absurd q List.not_mem_nil))
    | none =>
      replace hG := x_tv_n hG
      refine e_invS (pc := 8) (K1 := 1) (S1 := 6) (K := 0) (S := 0) (dd2 := 0) (av := [x_i b, x_i 8]) (st := []) dX11_pace_8 xmX11_187 rfl (f_cal (M := (x_ac M A)) (us2 := []) [] hn rfl trivial rfl rfl rfl (c_X11_needWithin hst hs   hq4)) (by decide) (Nat.le_of_ble_eq_true rfl) (Or.inl rfl) ?_
      show Ev g _ _ _ _ _ _ 11 [some (x_r (16 * 1 + 0)), some (x_i a), some (x_i b), none] [] (al, ro, fl (ml (x_ac M A) [1, 3] [X, N])) _ _ _ _
      refine e_aloadn (pc := 11) (i := 0) dX11_pace_11 rfl rfl ?_
      obtain ⟨X7, A8, hq8, hG⟩ := x_bd2 hG
      refine e_invV (pc := 12) (K1 := 0) (S1 := 0) (K := 0) (S := 0) (dd2 := 3) (av := []) (st := []) (id := 16 * 1 + 0) dX11_pace_12 xmX11_158 rfl (Or.inl ⟨9, 17, TX11, (sa_1_0 hs), rfl, by decide⟩) (f_calA (us2 := [1, 3]) [0, 1] hn rfl (And.intro rfl (And.intro rfl trivial)) rfl rfl rfl rfl (c_X11_remember hst hs   hq8)) (by decide) (Nat.le_of_ble_eq_true rfl) (Or.inl rfl) ?_
      show Ev g _ _ _ _ _ _ 15 [some (x_r (16 * 1 + 0)), some (x_i a), some (x_i b), none] [] (al, ro, fl (ml (x_ac M A8) [1, 3] [X7, N])) _ _ _ _
      refine e_aloadn (pc := 15) (i := 0) dX11_pace_15 rfl rfl ?_
      refine f_getr (pc := 16) (u := 1) (q := 0) dX11_pace_16 xf11_19 (sa_1_0 hs) rfl (sr_1_0_1 hs) ?_
      refine e_iconst (pc := 19) dX11_pace_19 (x_R rfl) ?_
      refine e_iloadn (pc := 20) (i := 1) dX11_pace_20 rfl rfl ?_
      obtain ⟨v10, hq10, hG⟩ := x_bd1 hG
      refine e_invV (pc := 21) (K1 := 0) (S1 := 0) (K := 0) (S := 0) (dd2 := 0) (av := [x_i 1, x_i a]) (st := []) (id := 16 * 3 + 0) dX11_pace_21 xmX11_138 rfl (Or.inl ⟨1, 12, TX1, (sa_3_0 hs), rfl, by decide⟩) (f_cal (M := (x_ac M A8)) (us2 := [3]) [1] hn rfl (And.intro rfl trivial) rfl rfl rfl (c_X1_of hst hs (by decide)  hq10)) (by decide) (Nat.le_of_ble_eq_true rfl) (Or.inl rfl) ?_
      show Ev g _ _ _ _ _ _ 24 [some (x_r (16 * 1 + 0)), some (x_i a), some (x_i b), none] [x_i v10] (al, ro, fl (ml (x_ac M A8) [1, 3] [X7, N])) _ _ _ _
      refine e_istoren (pc := 24) (i := 3) dX11_pace_24 rfl (by decide) rfl ?_
      show Ev g _ _ _ _ _ _ 25 [some (x_r (16 * 1 + 0)), some (x_i a), some (x_i b), some (x_i v10)] [] (al, ro, fl (ml (x_ac M A8) [1, 3] [X7, N])) _ _ _ _
      refine e_aloadn (pc := 25) (i := 0) dX11_pace_25 rfl rfl ?_
      refine f_getr (pc := 26) (u := 1) (q := 0) dX11_pace_26 xf11_19 (sa_1_0 hs) rfl (sr_1_0_1 hs) ?_
      refine e_iconst (pc := 29) dX11_pace_29 (x_R rfl) ?_
      refine e_iloadn (pc := 30) (i := 1) dX11_pace_30 rfl rfl ?_
      refine e_iloadn (pc := 31) (i := 2) dX11_pace_31 rfl rfl ?_
      obtain ⟨N12, hq12, hG⟩ := x_bd1 hG
      refine e_invV (pc := 32) (K1 := 0) (S1 := 0) (K := 0) (S := 0) (dd2 := 0) (av := [x_i 1, x_i a, x_i b]) (st := []) (id := 16 * 3 + 0) dX11_pace_32 xmX11_177 rfl (Or.inl ⟨1, 12, TX1, (sa_3_0 hs), rfl, by decide⟩) (f_cal (M := (x_ac M A8)) (us2 := [3]) [1] hn rfl (And.intro rfl trivial) rfl rfl rfl (c_X1_put hst hs (by decide)  hq12)) (by decide) (Nat.le_of_ble_eq_true rfl) (Or.inl rfl) ?_
      show Ev g _ _ _ _ _ _ 35 [some (x_r (16 * 1 + 0)), some (x_i a), some (x_i b), some (x_i v10)] [] (al, ro, fl (ml (x_ac M A8) [1, 3] [X7, N12])) _ _ _ _
      refine e_iloadn (pc := 35) (i := 3) dX11_pace_35 rfl rfl ?_
      cases hG
      exact (e_ireturn rfl dX11_pace_36 rfl)
set_option maxRecDepth 100000 in
set_option maxHeartbeats 4000000 in
theorem c_X11_fill {g : xG} {al : List (Nat × Nat × Nat)} {ro : Nat → Nat → Option Nat} (hst : g.1.stackTraces = false) (hs : SH al ro) {M : Nat → xU} {a : Int} {b : Int} {X : xU} {N : xU} {A : xA}  {t : ((Int ⊕ Nat) × xU × xU × xA)} (hG : G11_fill a b X N A = some t) :
    Cal g yX11_fill cX11_fill 3 (some .int) 4 [x_r (16 * 1 + 0), x_i a, x_i b] (al, ro, fl (ml (x_ac M A) [1, 3] [X, N])) 2 12 (x_oi t.1) (al, ro, fl (ml (x_ac M t.2.2.2) [1, 3] [t.2.1, t.2.2.1])) := by
  have hn : ([1, 3] : List Nat).Nodup := by decide
  refine cal_of_ev (plainFor_of_name (by decide)) (x_c1 rfl) (Nat.le_of_ble_eq_true rfl) hst ?_
  show Ev g _ _ _ _ _ _ 0 [some (x_r (16 * 1 + 0)), some (x_i a), some (x_i b)] [] (al, ro, fl (ml (x_ac M A) [1, 3] [X, N])) _ _ _ _
  rw [G11_fill] at hG
  refine e_iloadn (pc := 0) (i := 1) dX11_fill_0 rfl rfl ?_
  obtain ⟨o1, hq1, hG⟩ := x_bd1 hG
  cases o1 with
  | some E3 =>
    replace hG := x_tv_s hG
    cases hG
    exact (e_wide (K0 := 1) (S0 := 6) (by decide) (by decide) (e_invSX (pc := 1) (dd2 := 0) (av := [x_i a]) (st := []) dX11_fill_1 xmX11_146 rfl (f_cal (M := (x_ac M A)) (us2 := []) [] hn rfl trivial rfl rfl rfl (c_X11_needWalk hst hs   hq1)) (by decide) (Nat.le_of_ble_eq_true rfl) (fun _ q => absurd q List.not_mem_nil)))
  | none =>
    replace hG := x_tv_n hG
    refine e_invS (pc := 1) (K1 := 1) (S1 := 6) (K := 1) (S := 6) (dd2 := 0) (av := [x_i a]) (st := []) dX11_fill_1 xmX11_146 rfl (f_cal (M := (x_ac M A)) (us2 := []) [] hn rfl trivial rfl rfl rfl (c_X11_needWalk hst hs   hq1)) (by decide) (Nat.le_of_ble_eq_true rfl) (Or.inl rfl) ?_
    show Ev g _ _ _ _ _ _ 4 [some (x_r (16 * 1 + 0)), some (x_i a), some (x_i b)] [] (al, ro, fl (ml (x_ac M A) [1, 3] [X, N])) _ _ _ _
    refine e_iloadn (pc := 4) (i := 2) dX11_fill_4 rfl rfl ?_
    refine e_iconst (pc := 5) dX11_fill_5 (x_R rfl) ?_
    refine e_icmp_lt (pc := 6) (tgt := 15) dX11_fill_6 (by decide) (fun hb => ?_) (fun hb => ?_)
    · rw [if_pos hb] at hG
      cases hG
      exact (e_throw (pc := 15) xt_0 dX11_fill_15 dX11_fill_18 dX11_fill_19 dX11_fill_22 (Nat.le_of_ble_eq_true rfl) (fun _ q => absurd q List.not_mem_nil))
    · rw [if_neg hb] at hG
      refine e_iloadn (pc := 9) (i := 2) dX11_fill_9 rfl rfl ?_
      refine e_bipush (pc := 10) dX11_fill_10 (by decide +kernel) (x_R rfl) ?_
      refine e_icmp_le (pc := 12) (tgt := 23) dX11_fill_12 (by decide) (fun hb => ?_) (fun hb => ?_)
      · rw [if_pos hb] at hG
        refine e_aloadn (pc := 23) (i := 0) dX11_fill_23 rfl rfl ?_
        obtain ⟨X4, A5, hq5, hG⟩ := x_bd2 hG
        refine e_invV (pc := 24) (K1 := 0) (S1 := 0) (K := 1) (S := 6) (dd2 := 3) (av := []) (st := []) (id := 16 * 1 + 0) dX11_fill_24 xmX11_158 rfl (Or.inl ⟨9, 17, TX11, (sa_1_0 hs), rfl, by decide⟩) (f_calA (us2 := [1, 3]) [0, 1] hn rfl (And.intro rfl (And.intro rfl trivial)) rfl rfl rfl rfl (c_X11_remember hst hs   hq5)) (by decide) (Nat.le_of_ble_eq_true rfl) (Or.inl rfl) ?_
        show Ev g _ _ _ _ _ _ 27 [some (x_r (16 * 1 + 0)), some (x_i a), some (x_i b)] [] (al, ro, fl (ml (x_ac M A5) [1, 3] [X4, N])) _ _ _ _
        refine e_aloadn (pc := 27) (i := 0) dX11_fill_27 rfl rfl ?_
        refine f_getr (pc := 28) (u := 1) (q := 0) dX11_fill_28 xf11_19 (sa_1_0 hs) rfl (sr_1_0_1 hs) ?_
        refine e_iloadn (pc := 31) (i := 1) dX11_fill_31 rfl rfl ?_
        refine e_iloadn (pc := 32) (i := 2) dX11_fill_32 rfl rfl ?_
        obtain ⟨N7, hq7, hG⟩ := x_bd1 hG
        refine e_invV (pc := 33) (K1 := 0) (S1 := 0) (K := 1) (S := 6) (dd2 := 1) (av := [x_i a, x_i b]) (st := []) (id := 16 * 3 + 0) dX11_fill_33 xmX11_197 rfl (Or.inl ⟨1, 12, TX1, (sa_3_0 hs), rfl, by decide⟩) (f_cal (M := (x_ac M A5)) (us2 := [3]) [1] hn rfl (And.intro rfl trivial) rfl rfl rfl (c_X1_addStore hst hs (by decide)  hq7)) (by decide) (Nat.le_of_ble_eq_true rfl) (Or.inl rfl) ?_
        show Ev g _ _ _ _ _ _ 36 [some (x_r (16 * 1 + 0)), some (x_i a), some (x_i b)] [] (al, ro, fl (ml (x_ac M A5) [1, 3] [X4, N7])) _ _ _ _
        refine e_aloadn (pc := 36) (i := 0) dX11_fill_36 rfl rfl ?_
        refine f_getr (pc := 37) (u := 1) (q := 0) dX11_fill_37 xf11_19 (sa_1_0 hs) rfl (sr_1_0_1 hs) ?_
        refine e_iloadn (pc := 40) (i := 1) dX11_fill_40 rfl rfl ?_
        obtain ⟨v9, hq9, hG⟩ := x_bd1 hG
        refine e_invV (pc := 41) (K1 := 0) (S1 := 0) (K := 1) (S := 6) (dd2 := 0) (av := [x_i a]) (st := []) (id := 16 * 3 + 0) dX11_fill_41 xmX11_149 rfl (Or.inl ⟨1, 12, TX1, (sa_3_0 hs), rfl, by decide⟩) (f_cal (M := (x_ac M A5)) (us2 := [3]) [1] hn rfl (And.intro rfl trivial) rfl rfl rfl (c_X1_storeOf hst hs (by decide)  hq9)) (by decide) (Nat.le_of_ble_eq_true rfl) (Or.inl rfl) ?_
        show Ev g _ _ _ _ _ _ 44 [some (x_r (16 * 1 + 0)), some (x_i a), some (x_i b)] [x_i v9] (al, ro, fl (ml (x_ac M A5) [1, 3] [X4, N7])) _ _ _ _
        cases hG
        exact (e_wide (K0 := 0) (S0 := 0) (by decide) (by decide) (e_ireturn rfl dX11_fill_44 rfl))
      · rw [if_neg hb] at hG
        cases hG
        exact (e_throw (pc := 15) xt_0 dX11_fill_15 dX11_fill_18 dX11_fill_19 dX11_fill_22 (Nat.le_of_ble_eq_true rfl) (fun _ q => absurd q List.not_mem_nil))
set_option maxRecDepth 100000 in
set_option maxHeartbeats 4000000 in
theorem c_X11_find {g : xG} {al : List (Nat × Nat × Nat)} {ro : Nat → Nat → Option Nat} (hst : g.1.stackTraces = false) (hs : SH al ro) {M : Nat → xU} {a : Int} {X : xU} {N : xU} {A : xA}  {t : ((Int ⊕ Nat) × xU × xU × xA)} (hG : G11_find a X N A = some t) :
    Cal g yX11_find cX11_find 3 (some .int) 4 [x_r (16 * 1 + 0), x_i a] (al, ro, fl (ml (x_ac M A) [1, 3] [X, N])) 2 12 (x_oi t.1) (al, ro, fl (ml (x_ac M t.2.2.2) [1, 3] [t.2.1, t.2.2.1])) := by
  have hn : ([1, 3] : List Nat).Nodup := by decide
  refine cal_of_ev (plainFor_of_name (by decide)) (x_c1 rfl) (Nat.le_of_ble_eq_true rfl) hst ?_
  show Ev g _ _ _ _ _ _ 0 [some (x_r (16 * 1 + 0)), some (x_i a), none] [] (al, ro, fl (ml (x_ac M A) [1, 3] [X, N])) _ _ _ _
  rw [G11_find] at hG
  refine e_aloadn (pc := 0) (i := 0) dX11_find_0 rfl rfl ?_
  refine e_iloadn (pc := 1) (i := 1) dX11_find_1 rfl rfl ?_
  obtain ⟨o1, hq1, hG⟩ := x_bd1 hG
  cases o1 with
  | some E3 =>
    replace hG := x_tv_s hG
    cases hG
    exact (e_wide (K0 := 1) (S0 := 6) (by decide) (by decide) (e_invVX (pc := 2) (dd2 := 0) (av := [x_i a]) (st := []) (id := 16 * 1 + 0) dX11_find_2 xmX11_128 rfl (Or.inl ⟨9, 17, TX11, (sa_1_0 hs), rfl, by decide⟩) (f_cal (M := (x_ac M A)) (us2 := [3]) [1] hn rfl (And.intro rfl trivial) rfl rfl rfl (c_X11_needMonk hst hs   hq1)) (by decide) (Nat.le_of_ble_eq_true rfl) (fun _ q => absurd q List.not_mem_nil)))
  | none =>
    replace hG := x_tv_n hG
    refine e_invV (pc := 2) (K1 := 1) (S1 := 6) (K := 1) (S := 6) (dd2 := 0) (av := [x_i a]) (st := []) (id := 16 * 1 + 0) dX11_find_2 xmX11_128 rfl (Or.inl ⟨9, 17, TX11, (sa_1_0 hs), rfl, by decide⟩) (f_cal (M := (x_ac M A)) (us2 := [3]) [1] hn rfl (And.intro rfl trivial) rfl rfl rfl (c_X11_needMonk hst hs   hq1)) (by decide) (Nat.le_of_ble_eq_true rfl) (Or.inl rfl) ?_
    show Ev g _ _ _ _ _ _ 5 [some (x_r (16 * 1 + 0)), some (x_i a), none] [] (al, ro, fl (ml (x_ac M A) [1, 3] [X, N])) _ _ _ _
    refine e_aloadn (pc := 5) (i := 0) dX11_find_5 rfl rfl ?_
    refine f_getr (pc := 6) (u := 1) (q := 0) dX11_find_6 xf11_19 (sa_1_0 hs) rfl (sr_1_0_1 hs) ?_
    refine e_iloadn (pc := 9) (i := 1) dX11_find_9 rfl rfl ?_
    obtain ⟨v4, hq4, hG⟩ := x_bd1 hG
    refine e_invV (pc := 10) (K1 := 0) (S1 := 0) (K := 1) (S := 6) (dd2 := 1) (av := [x_i a]) (st := []) (id := 16 * 3 + 0) dX11_find_10 xmX11_170 rfl (Or.inl ⟨1, 12, TX1, (sa_3_0 hs), rfl, by decide⟩) (f_cal (M := (x_ac M A)) (us2 := [3]) [1] hn rfl (And.intro rfl trivial) rfl rfl rfl (c_X1_isLost hst hs (by decide)  hq4)) (by decide) (Nat.le_of_ble_eq_true rfl) (Or.inl rfl) ?_
    show Ev g _ _ _ _ _ _ 13 [some (x_r (16 * 1 + 0)), some (x_i a), none] [x_i v4] (al, ro, fl (ml (x_ac M A) [1, 3] [X, N])) _ _ _ _
    refine e_if_ne (pc := 13) (tgt := 24) dX11_find_13 (by decide) (fun hb => ?_) (fun hb => ?_)
    · rw [if_neg hb] at hG
      refine e_aloadn (pc := 24) (i := 0) dX11_find_24 rfl rfl ?_
      obtain ⟨X6, A7, hq7, hG⟩ := x_bd2 hG
      refine e_invV (pc := 25) (K1 := 0) (S1 := 0) (K := 1) (S := 6) (dd2 := 3) (av := []) (st := []) (id := 16 * 1 + 0) dX11_find_25 xmX11_158 rfl (Or.inl ⟨9, 17, TX11, (sa_1_0 hs), rfl, by decide⟩) (f_calA (us2 := [1, 3]) [0, 1] hn rfl (And.intro rfl (And.intro rfl trivial)) rfl rfl rfl rfl (c_X11_remember hst hs   hq7)) (by decide) (Nat.le_of_ble_eq_true rfl) (Or.inl rfl) ?_
      show Ev g _ _ _ _ _ _ 28 [some (x_r (16 * 1 + 0)), some (x_i a), none] [] (al, ro, fl (ml (x_ac M A7) [1, 3] [X6, N])) _ _ _ _
      refine e_aloadn (pc := 28) (i := 0) dX11_find_28 rfl rfl ?_
      refine f_getr (pc := 29) (u := 1) (q := 0) dX11_find_29 xf11_19 (sa_1_0 hs) rfl (sr_1_0_1 hs) ?_
      refine e_iconst (pc := 32) dX11_find_32 (x_R rfl) ?_
      refine e_iloadn (pc := 33) (i := 1) dX11_find_33 rfl rfl ?_
      obtain ⟨v9, hq9, hG⟩ := x_bd1 hG
      refine e_invV (pc := 34) (K1 := 0) (S1 := 0) (K := 1) (S := 6) (dd2 := 0) (av := [x_i 4, x_i a]) (st := []) (id := 16 * 3 + 0) dX11_find_34 xmX11_138 rfl (Or.inl ⟨1, 12, TX1, (sa_3_0 hs), rfl, by decide⟩) (f_cal (M := (x_ac M A7)) (us2 := [3]) [1] hn rfl (And.intro rfl trivial) rfl rfl rfl (c_X1_of hst hs (by decide)  hq9)) (by decide) (Nat.le_of_ble_eq_true rfl) (Or.inl rfl) ?_
      show Ev g _ _ _ _ _ _ 37 [some (x_r (16 * 1 + 0)), some (x_i a), none] [x_i v9] (al, ro, fl (ml (x_ac M A7) [1, 3] [X6, N])) _ _ _ _
      refine e_istoren (pc := 37) (i := 2) dX11_find_37 rfl (by decide) rfl ?_
      show Ev g _ _ _ _ _ _ 38 [some (x_r (16 * 1 + 0)), some (x_i a), some (x_i v9)] [] (al, ro, fl (ml (x_ac M A7) [1, 3] [X6, N])) _ _ _ _
      refine e_aloadn (pc := 38) (i := 0) dX11_find_38 rfl rfl ?_
      refine f_getr (pc := 39) (u := 1) (q := 0) dX11_find_39 xf11_19 (sa_1_0 hs) rfl (sr_1_0_1 hs) ?_
      refine e_iconst (pc := 42) dX11_find_42 (x_R rfl) ?_
      refine e_iloadn (pc := 43) (i := 1) dX11_find_43 rfl rfl ?_
      refine e_iconst (pc := 44) dX11_find_44 (x_R rfl) ?_
      obtain ⟨N11, hq11, hG⟩ := x_bd1 hG
      refine e_invV (pc := 45) (K1 := 0) (S1 := 0) (K := 1) (S := 6) (dd2 := 0) (av := [x_i 4, x_i a, x_i 0]) (st := []) (id := 16 * 3 + 0) dX11_find_45 xmX11_177 rfl (Or.inl ⟨1, 12, TX1, (sa_3_0 hs), rfl, by decide⟩) (f_cal (M := (x_ac M A7)) (us2 := [3]) [1] hn rfl (And.intro rfl trivial) rfl rfl rfl (c_X1_put hst hs (by decide)  hq11)) (by decide) (Nat.le_of_ble_eq_true rfl) (Or.inl rfl) ?_
      show Ev g _ _ _ _ _ _ 48 [some (x_r (16 * 1 + 0)), some (x_i a), some (x_i v9)] [] (al, ro, fl (ml (x_ac M A7) [1, 3] [X6, N11])) _ _ _ _
      refine e_iloadn (pc := 48) (i := 2) dX11_find_48 rfl rfl ?_
      cases hG
      exact (e_wide (K0 := 0) (S0 := 0) (by decide) (by decide) (e_ireturn rfl dX11_find_49 rfl))
    · rw [if_pos hb] at hG
      cases hG
      exact (e_throw (pc := 16) xt_2 dX11_find_16 dX11_find_19 dX11_find_20 dX11_find_23 (Nat.le_of_ble_eq_true rfl) (fun _ q => absurd q List.not_mem_nil))
set_option maxRecDepth 100000 in
set_option maxHeartbeats 4000000 in
theorem c_X11_choir {g : xG} {al : List (Nat × Nat × Nat)} {ro : Nat → Nat → Option Nat} (hst : g.1.stackTraces = false) (hs : SH al ro) {M : Nat → xU} {N : xU}  {t : Int} (hG : G11_choir N = some t) :
    Cal g yX11_choir cX11_choir 3 (some .int) 2 [x_r (16 * 1 + 0)] (al, ro, fl (ml M [3] [N])) 0 0 (.inl (some (x_i t))) (al, ro, fl (ml M [3] [N])) := by
  have hn : ([3] : List Nat).Nodup := by decide
  refine cal_of_ev (plainFor_of_name (by decide)) (x_c1 rfl) (Nat.le_of_ble_eq_true rfl) hst ?_
  show Ev g _ _ _ _ _ _ 0 [some (x_r (16 * 1 + 0)), none, none] [] (al, ro, fl (ml M [3] [N])) _ _ _ _
  rw [G11_choir] at hG
  refine e_iconst (pc := 0) dX11_choir_0 (x_R rfl) ?_
  refine e_istoren (pc := 1) (i := 1) dX11_choir_1 rfl (by decide) rfl ?_
  show Ev g _ _ _ _ _ _ 2 [some (x_r (16 * 1 + 0)), some (x_i 0), none] [] (al, ro, fl (ml M [3] [N])) _ _ _ _
  refine e_iconst (pc := 2) dX11_choir_2 (x_R rfl) ?_
  refine e_istoren (pc := 3) (i := 2) dX11_choir_3 rfl (by decide) rfl ?_
  show Ev g _ _ _ _ _ _ 4 [some (x_r (16 * 1 + 0)), some (x_i 0), some (x_i 0)] [] (al, ro, fl (ml M [3] [N])) _ _ _ _
  obtain ⟨v3, hl4, hG⟩ := x_bd1 hG
  have hk4 : ∀ q : Int, q = v3 → Ev g yX11_choir cX11_choir 3 (some .int) [] 2 45 [some (x_r (16 * 1 + 0)), some (x_i q), none] [] (al, ro, fl (ml M [3] [N])) 0 0 (.inl (some (x_i t))) (al, ro, fl (ml M [3] [N])) := by
    intro q hq
    replace hq := hq.symm
    subst hq
    refine e_iloadn (pc := 45) (i := 1) dX11_choir_45 rfl rfl ?_
    cases hG
    exact (e_ireturn rfl dX11_choir_46 rfl)
  clear hG
  refine e_whl (G11_choir_L4 N) (fun z : (Int × Int) => Ev g yX11_choir cX11_choir 3 (some .int) [] 2 4 [some (x_r (16 * 1 + 0)), some (x_i z.1), some (x_i z.2)] [] (al, ro, fl (ml M [3] [N])) 0 0 (.inl (some (x_i t))) (al, ro, fl (ml M [3] [N]))) (fun q => q = v3) ?_ xFU (0, 0) _ hl4 rfl
  intro z t4 hf4 hi4 hx4
  obtain ⟨v1, v2⟩ := z
  rw [G11_choir_L4] at hf4
  show Ev g _ _ _ _ _ _ 4 [some (x_r (16 * 1 + 0)), some (x_i v1), some (x_i v2)] [] (al, ro, fl (ml M [3] [N])) _ _ _ _
  refine e_iloadn (pc := 4) (i := 2) dX11_choir_4 rfl rfl ?_
  refine e_aloadn (pc := 5) (i := 0) dX11_choir_5 rfl rfl ?_
  refine f_getr (pc := 6) (u := 1) (q := 0) dX11_choir_6 xf11_19 (sa_1_0 hs) rfl (sr_1_0_1 hs) ?_
  refine f_geti (pc := 9) (k := 0) (u := 3) (q := 0) dX11_choir_9 xf11_200 (sa_3_0 hs) rfl hn rfl rfl (by decide) ?_
  show Ev g _ _ _ _ _ _ 12 [some (x_r (16 * 1 + 0)), some (x_i v1), some (x_i v2)] [x_i (N 0 3), x_i v2] (al, ro, fl (ml M [3] [N])) _ _ _ _
  refine e_icmp_ge (pc := 12) (tgt := 45) dX11_choir_12 (by decide) (fun hb => ?_) (fun hb => ?_)
  · rw [if_pos hb] at hf4
    cases hf4
    refine e_drop (i := 2) ?_
    exact hk4 _ (hx4 _ rfl)
  · rw [if_neg hb] at hf4
    refine e_aloadn (pc := 15) (i := 0) dX11_choir_15 rfl rfl ?_
    refine f_getr (pc := 16) (u := 1) (q := 0) dX11_choir_16 xf11_19 (sa_1_0 hs) rfl (sr_1_0_1 hs) ?_
    refine e_iloadn (pc := 19) (i := 2) dX11_choir_19 rfl rfl ?_
    refine e_aloadn (pc := 20) (i := 0) dX11_choir_20 rfl rfl ?_
    refine f_getr (pc := 21) (u := 1) (q := 0) dX11_choir_21 xf11_19 (sa_1_0 hs) rfl (sr_1_0_1 hs) ?_
    refine f_geti (pc := 24) (k := 0) (u := 3) (q := 0) dX11_choir_24 xf11_184 (sa_3_0 hs) rfl hn rfl rfl (by decide) ?_
    show Ev g _ _ _ _ _ _ 27 [some (x_r (16 * 1 + 0)), some (x_i v1), some (x_i v2)] [x_i (N 0 7), x_i v2, x_r (16 * 3 + 0)] (al, ro, fl (ml M [3] [N])) _ _ _ _
    obtain ⟨v6, hq6, hf4⟩ := x_bd1 hf4
    refine e_invV (pc := 27) (K1 := 0) (S1 := 0) (K := 0) (S := 0) (dd2 := 1) (av := [x_i v2, x_i (N 0 7)]) (st := []) (id := 16 * 3 + 0) dX11_choir_27 xmX11_203 rfl (Or.inl ⟨1, 12, TX1, (sa_3_0 hs), rfl, by decide⟩) (f_cal (M := M) (us2 := [3]) [0] hn rfl (And.intro rfl trivial) rfl rfl rfl (c_X1_isAt hst hs (by decide)  hq6)) (by decide) (Nat.le_of_ble_eq_true rfl) (Or.inl rfl) ?_
    show Ev g _ _ _ _ _ _ 30 [some (x_r (16 * 1 + 0)), some (x_i v1), some (x_i v2)] [x_i v6] (al, ro, fl (ml M [3] [N])) _ _ _ _
    obtain ⟨v8, hr8, hf4⟩ := x_bd1 hf4
    have hjhr8 : Ev g yX11_choir cX11_choir 3 (some .int) [] 2 39 [some (x_r (16 * 1 + 0)), some (x_i v8), some (x_i v2)] [] (al, ro, fl (ml M [3] [N])) 0 0 (.inl (some (x_i t))) (al, ro, fl (ml M [3] [N])) := by
      refine e_iinc (pc := 39) dX11_choir_39 rfl (by decide) rfl ?_
      show Ev g _ _ _ _ _ _ 42 [some (x_r (16 * 1 + 0)), some (x_i v8), some (x_i (x_add v2 1))] [] (al, ro, fl (ml M [3] [N])) _ _ _ _
      refine e_goto (pc := 42) (tgt := 4) dX11_choir_42 (by decide) ?_
      cases hf4
      exact hi4 _ rfl
    clear hf4
    refine e_if_eq (pc := 30) (tgt := 39) dX11_choir_30 (by decide) (fun hb => ?_) (fun hb => ?_)
    · rw [if_pos hb] at hr8
      cases hr8
      exact hjhr8
    · rw [if_neg hb] at hr8
      refine e_iloadn (pc := 33) (i := 1) dX11_choir_33 rfl rfl ?_
      refine e_iconst (pc := 34) dX11_choir_34 (x_R rfl) ?_
      refine e_iloadn (pc := 35) (i := 2) dX11_choir_35 rfl rfl ?_
      refine e_ishl (pc := 36) dX11_choir_36 ?_
      refine e_ior (pc := 37) dX11_choir_37 ?_
      refine e_istoren (pc := 38) (i := 1) dX11_choir_38 rfl (by decide) rfl ?_
      show Ev g _ _ _ _ _ _ 39 [some (x_r (16 * 1 + 0)), some (x_i (x_or v1 (x_shl 1 v2))), some (x_i v2)] [] (al, ro, fl (ml M [3] [N])) _ _ _ _
      cases hr8
      exact hjhr8
set_option maxRecDepth 100000 in
set_option maxHeartbeats 4000000 in
theorem c_X11_when {g : xG} {al : List (Nat × Nat × Nat)} {ro : Nat → Nat → Option Nat} (hst : g.1.stackTraces = false) (hs : SH al ro) {M : Nat → xU} {a : Int} {b : Int} {N : xU} {Th : xU} {La : xU}  {t : ((Int ⊕ Nat) × xU × xU)} (hG : G11_when a b N Th La = some t) :
    Cal g yX11_when cX11_when 3 (some .int) 6 [x_r (16 * 1 + 0), x_i a, x_i b] (al, ro, fl (ml M [3, 18, 19] [N, Th, La])) 2 12 (x_oi t.1) (al, ro, fl (ml M [3, 18, 19] [N, t.2.1, t.2.2])) := by
  have hn : ([3, 18, 19] : List Nat).Nodup := by decide
  refine cal_of_ev (plainFor_of_name (by decide)) (x_c1 rfl) (Nat.le_of_ble_eq_true rfl) hst ?_
  show Ev g _ _ _ _ _ _ 0 [some (x_r (16 * 1 + 0)), some (x_i a), some (x_i b)] [] (al, ro, fl (ml M [3, 18, 19] [N, Th, La])) _ _ _ _
  rw [G11_when] at hG
  refine e_aloadn (pc := 0) (i := 0) dX11_when_0 rfl rfl ?_
  refine e_iloadn (pc := 1) (i := 1) dX11_when_1 rfl rfl ?_
  obtain ⟨o1, hq1, hG⟩ := x_bd1 hG
  cases o1 with
  | some E3 =>
    replace hG := x_tv_s hG
    cases hG
    exact (e_wide (K0 := 1) (S0 := 6) (by decide) (by decide) (e_invVX (pc := 2) (dd2 := 0) (av := [x_i a]) (st := []) (id := 16 * 1 + 0) dX11_when_2 xmX11_128 rfl (Or.inl ⟨9, 17, TX11, (sa_1_0 hs), rfl, by decide⟩) (f_cal (M := M) (us2 := [3]) [0] hn rfl (And.intro rfl trivial) rfl rfl rfl (c_X11_needMonk hst hs   hq1)) (by decide) (Nat.le_of_ble_eq_true rfl) (fun _ q => absurd q List.not_mem_nil)))
  | none =>
    replace hG := x_tv_n hG
    refine e_invV (pc := 2) (K1 := 1) (S1 := 6) (K := 1) (S := 6) (dd2 := 0) (av := [x_i a]) (st := []) (id := 16 * 1 + 0) dX11_when_2 xmX11_128 rfl (Or.inl ⟨9, 17, TX11, (sa_1_0 hs), rfl, by decide⟩) (f_cal (M := M) (us2 := [3]) [0] hn rfl (And.intro rfl trivial) rfl rfl rfl (c_X11_needMonk hst hs   hq1)) (by decide) (Nat.le_of_ble_eq_true rfl) (Or.inl rfl) ?_
    show Ev g _ _ _ _ _ _ 5 [some (x_r (16 * 1 + 0)), some (x_i a), some (x_i b)] [] (al, ro, fl (ml M [3, 18, 19] [N, Th, La])) _ _ _ _
    refine e_iloadn (pc := 5) (i := 2) dX11_when_5 rfl rfl ?_
    obtain ⟨o4, hq4, hG⟩ := x_bd1 hG
    cases o4 with
    | some E6 =>
      replace hG := x_tv_s hG
      cases hG
      exact (e_invSX (pc := 6) (dd2 := 0) (av := [x_i b]) (st := []) dX11_when_6 xmX11_152 rfl (f_cal (M := M) (us2 := []) [] hn rfl trivial rfl rfl rfl (c_X11_needFlag hst hs   hq4)) (by decide) (Nat.le_of_ble_eq_true rfl) (fun _ q => absurd q List.not_mem_nil))
    | none =>
      replace hG := x_tv_n hG
      refine e_invS (pc := 6) (K1 := 1) (S1 := 6) (K := 0) (S := 0) (dd2 := 0) (av := [x_i b]) (st := []) dX11_when_6 xmX11_152 rfl (f_cal (M := M) (us2 := []) [] hn rfl trivial rfl rfl rfl (c_X11_needFlag hst hs   hq4)) (by decide) (Nat.le_of_ble_eq_true rfl) (Or.inl rfl) ?_
      show Ev g _ _ _ _ _ _ 9 [some (x_r (16 * 1 + 0)), some (x_i a), some (x_i b)] [] (al, ro, fl (ml M [3, 18, 19] [N, Th, La])) _ _ _ _
      refine e_aloadn (pc := 9) (i := 0) dX11_when_9 rfl rfl ?_
      refine f_getr (pc := 10) (u := 1) (q := 0) dX11_when_10 xf11_49 (sa_1_0 hs) rfl (sr_1_0_8 hs) ?_
      refine e_aloadn (pc := 13) (i := 0) dX11_when_13 rfl rfl ?_
      refine f_getr (pc := 14) (u := 1) (q := 0) dX11_when_14 xf11_19 (sa_1_0 hs) rfl (sr_1_0_1 hs) ?_
      refine e_aloadn (pc := 17) (i := 0) dX11_when_17 rfl rfl ?_
      refine f_getr (pc := 18) (u := 1) (q := 0) dX11_when_18 xf11_32 (sa_1_0 hs) rfl (sr_1_0_4 hs) ?_
      refine e_iloadn (pc := 21) (i := 1) dX11_when_21 rfl rfl ?_
      refine e_iloadn (pc := 22) (i := 2) dX11_when_22 rfl rfl ?_
      obtain ⟨v7, Th8, La9, hq9, hG⟩ := x_bd3 hG
      refine e_invV (pc := 23) (K1 := 0) (S1 := 0) (K := 0) (S := 0) (dd2 := 5) (av := [x_r (16 * 3 + 0), x_r (16 * 19 + 0), x_i a, x_i b]) (st := []) (id := 16 * 22 + 0) dX11_when_23 xmX11_207 rfl (Or.inl ⟨2, 3, TX3, (sa_22_0 hs), rfl, by decide⟩) (f_cal (M := M) (us2 := [3, 18, 19]) [0, 1, 2] hn rfl (And.intro rfl (And.intro rfl (And.intro rfl trivial))) rfl rfl rfl (c_X3_firstAt hst hs   hq9)) (by decide) (Nat.le_of_ble_eq_true rfl) (Or.inl rfl) ?_
      show Ev g _ _ _ _ _ _ 26 [some (x_r (16 * 1 + 0)), some (x_i a), some (x_i b)] [x_i v7] (al, ro, fl (ml M [3, 18, 19] [N, Th8, La9])) _ _ _ _
      cases hG
      exact (e_ireturn rfl dX11_when_26 rfl)
set_option maxRecDepth 100000 in
set_option maxHeartbeats 4000000 in
theorem c_X11_meet {g : xG} {al : List (Nat × Nat × Nat)} {ro : Nat → Nat → Option Nat} (hst : g.1.stackTraces = false) (hs : SH al ro) {M : Nat → xU} {a : Int} {b : Int} {N : xU} {Th : xU} {La : xU}  {t : ((Int ⊕ Nat) × xU × xU)} (hG : G11_meet a b N Th La = some t) :
    Cal g yX11_meet cX11_meet 3 (some .int) 6 [x_r (16 * 1 + 0), x_i a, x_i b] (al, ro, fl (ml M [3, 18, 19] [N, Th, La])) 3 18 (x_oi t.1) (al, ro, fl (ml M [3, 18, 19] [N, t.2.1, t.2.2])) := by
  have hn : ([3, 18, 19] : List Nat).Nodup := by decide
  refine cal_of_ev (plainFor_of_name (by decide)) (x_c1 rfl) (Nat.le_of_ble_eq_true rfl) hst ?_
  show Ev g _ _ _ _ _ _ 0 [some (x_r (16 * 1 + 0)), some (x_i a), some (x_i b)] [] (al, ro, fl (ml M [3, 18, 19] [N, Th, La])) _ _ _ _
  rw [G11_meet] at hG
  refine e_aloadn (pc := 0) (i := 0) dX11_meet_0 rfl rfl ?_
  refine e_iloadn (pc := 1) (i := 1) dX11_meet_1 rfl rfl ?_
  refine e_iloadn (pc := 2) (i := 2) dX11_meet_2 rfl rfl ?_
  obtain ⟨o1, hq1, hG⟩ := x_bd1 hG
  cases o1 with
  | some E3 =>
    replace hG := x_tv_s hG
    cases hG
    exact (e_invVX (pc := 3) (dd2 := 1) (av := [x_i a, x_i b]) (st := []) (id := 16 * 1 + 0) dX11_meet_3 xmX11_194 rfl (Or.inl ⟨9, 17, TX11, (sa_1_0 hs), rfl, by decide⟩) (f_cal (M := M) (us2 := [3]) [0] hn rfl (And.intro rfl trivial) rfl rfl rfl (c_X11_needTwo hst hs   hq1)) (by decide) (Nat.le_of_ble_eq_true rfl) (fun _ q => absurd q List.not_mem_nil))
  | none =>
    replace hG := x_tv_n hG
    refine e_invV (pc := 3) (K1 := 3) (S1 := 18) (K := 0) (S := 0) (dd2 := 1) (av := [x_i a, x_i b]) (st := []) (id := 16 * 1 + 0) dX11_meet_3 xmX11_194 rfl (Or.inl ⟨9, 17, TX11, (sa_1_0 hs), rfl, by decide⟩) (f_cal (M := M) (us2 := [3]) [0] hn rfl (And.intro rfl trivial) rfl rfl rfl (c_X11_needTwo hst hs   hq1)) (by decide) (Nat.le_of_ble_eq_true rfl) (Or.inl rfl) ?_
    show Ev g _ _ _ _ _ _ 6 [some (x_r (16 * 1 + 0)), some (x_i a), some (x_i b)] [] (al, ro, fl (ml M [3, 18, 19] [N, Th, La])) _ _ _ _
    refine e_aloadn (pc := 6) (i := 0) dX11_meet_6 rfl rfl ?_
    refine f_getr (pc := 7) (u := 1) (q := 0) dX11_meet_7 xf11_49 (sa_1_0 hs) rfl (sr_1_0_8 hs) ?_
    refine e_aloadn (pc := 10) (i := 0) dX11_meet_10 rfl rfl ?_
    refine f_getr (pc := 11) (u := 1) (q := 0) dX11_meet_11 xf11_19 (sa_1_0 hs) rfl (sr_1_0_1 hs) ?_
    refine e_aloadn (pc := 14) (i := 0) dX11_meet_14 rfl rfl ?_
    refine f_getr (pc := 15) (u := 1) (q := 0) dX11_meet_15 xf11_32 (sa_1_0 hs) rfl (sr_1_0_4 hs) ?_
    refine e_iloadn (pc := 18) (i := 1) dX11_meet_18 rfl rfl ?_
    refine e_iloadn (pc := 19) (i := 2) dX11_meet_19 rfl rfl ?_
    obtain ⟨v4, Th5, La6, hq6, hG⟩ := x_bd3 hG
    refine e_invV (pc := 20) (K1 := 0) (S1 := 0) (K := 0) (S := 0) (dd2 := 5) (av := [x_r (16 * 3 + 0), x_r (16 * 19 + 0), x_i a, x_i b]) (st := []) (id := 16 * 22 + 0) dX11_meet_20 xmX11_211 rfl (Or.inl ⟨2, 3, TX3, (sa_22_0 hs), rfl, by decide⟩) (f_cal (M := M) (us2 := [3, 18, 19]) [0, 1, 2] hn rfl (And.intro rfl (And.intro rfl (And.intro rfl trivial))) rfl rfl rfl (c_X3_firstTogether hst hs   hq6)) (by decide) (Nat.le_of_ble_eq_true rfl) (Or.inl rfl) ?_
    show Ev g _ _ _ _ _ _ 23 [some (x_r (16 * 1 + 0)), some (x_i a), some (x_i b)] [x_i v4] (al, ro, fl (ml M [3, 18, 19] [N, Th5, La6])) _ _ _ _
    cases hG
    exact (e_ireturn rfl dX11_meet_23 rfl)
set_option maxRecDepth 100000 in
set_option maxHeartbeats 4000000 in
theorem c_X11_lates {g : xG} {al : List (Nat × Nat × Nat)} {ro : Nat → Nat → Option Nat} (hst : g.1.stackTraces = false) (hs : SH al ro) {M : Nat → xU} {a : Int} {N : xU} {Th : xU} {La : xU} {Fo : xU}  {t : ((Int ⊕ Nat) × xU × xU × xU)} (hG : G11_lates a N Th La Fo = some t) :
    Cal g yX11_lates cX11_lates 2 (some .int) 6 [x_r (16 * 1 + 0), x_i a] (al, ro, fl (ml M [3, 18, 19, 22] [N, Th, La, Fo])) 1 6 (x_oi t.1) (al, ro, fl (ml M [3, 18, 19, 22] [N, t.2.1, t.2.2.1, t.2.2.2])) := by
  have hn : ([3, 18, 19, 22] : List Nat).Nodup := by decide
  refine cal_of_ev (plainFor_of_name (by decide)) (x_c1 rfl) (Nat.le_of_ble_eq_true rfl) hst ?_
  show Ev g _ _ _ _ _ _ 0 [some (x_r (16 * 1 + 0)), some (x_i a)] [] (al, ro, fl (ml M [3, 18, 19, 22] [N, Th, La, Fo])) _ _ _ _
  rw [G11_lates] at hG
  refine e_iloadn (pc := 0) (i := 1) dX11_lates_0 rfl rfl ?_
  refine e_bipush (pc := 1) dX11_lates_1 (by decide +kernel) (x_R rfl) ?_
  obtain ⟨o1, hq1, hG⟩ := x_bd1 hG
  cases o1 with
  | some E3 =>
    replace hG := x_tv_s hG
    cases hG
    exact (e_invSX (pc := 3) (dd2 := 0) (av := [x_i a, x_i 9]) (st := []) dX11_lates_3 xmX11_187 rfl (f_cal (M := M) (us2 := []) [] hn rfl trivial rfl rfl rfl (c_X11_needWithin hst hs   hq1)) (by decide) (Nat.le_of_ble_eq_true rfl) (fun _ q => absurd q List.not_mem_nil))
  | none =>
    replace hG := x_tv_n hG
    refine e_invS (pc := 3) (K1 := 1) (S1 := 6) (K := 0) (S := 0) (dd2 := 0) (av := [x_i a, x_i 9]) (st := []) dX11_lates_3 xmX11_187 rfl (f_cal (M := M) (us2 := []) [] hn rfl trivial rfl rfl rfl (c_X11_needWithin hst hs   hq1)) (by decide) (Nat.le_of_ble_eq_true rfl) (Or.inl rfl) ?_
    show Ev g _ _ _ _ _ _ 6 [some (x_r (16 * 1 + 0)), some (x_i a)] [] (al, ro, fl (ml M [3, 18, 19, 22] [N, Th, La, Fo])) _ _ _ _
    refine e_aloadn (pc := 6) (i := 0) dX11_lates_6 rfl rfl ?_
    refine f_getr (pc := 7) (u := 1) (q := 0) dX11_lates_7 xf11_49 (sa_1_0 hs) rfl (sr_1_0_8 hs) ?_
    refine e_aloadn (pc := 10) (i := 0) dX11_lates_10 rfl rfl ?_
    refine f_getr (pc := 11) (u := 1) (q := 0) dX11_lates_11 xf11_19 (sa_1_0 hs) rfl (sr_1_0_1 hs) ?_
    obtain ⟨Th4, hq4, hG⟩ := x_bd1 hG
    refine e_invV (pc := 14) (K1 := 0) (S1 := 0) (K := 0) (S := 0) (dd2 := 3) (av := [x_r (16 * 3 + 0)]) (st := []) (id := 16 * 22 + 0) dX11_lates_14 xmX11_214 rfl (Or.inl ⟨2, 3, TX3, (sa_22_0 hs), rfl, by decide⟩) (f_cal (M := M) (us2 := [3, 18]) [0, 1] hn rfl (And.intro rfl (And.intro rfl trivial)) rfl rfl rfl (c_X3_look hst hs   hq4)) (by decide) (Nat.le_of_ble_eq_true rfl) (Or.inl rfl) ?_
    show Ev g _ _ _ _ _ _ 17 [some (x_r (16 * 1 + 0)), some (x_i a)] [] (al, ro, fl (ml M [3, 18, 19, 22] [N, Th4, La, Fo])) _ _ _ _
    refine e_aloadn (pc := 17) (i := 0) dX11_lates_17 rfl rfl ?_
    refine f_getr (pc := 18) (u := 1) (q := 0) dX11_lates_18 xf11_49 (sa_1_0 hs) rfl (sr_1_0_8 hs) ?_
    refine e_aloadn (pc := 21) (i := 0) dX11_lates_21 rfl rfl ?_
    refine f_getr (pc := 22) (u := 1) (q := 0) dX11_lates_22 xf11_32 (sa_1_0 hs) rfl (sr_1_0_4 hs) ?_
    refine e_iloadn (pc := 25) (i := 1) dX11_lates_25 rfl rfl ?_
    obtain ⟨v6, Th7, La8, Fo9, hq9, hG⟩ := x_bd4 hG
    refine e_invV (pc := 26) (K1 := 0) (S1 := 0) (K := 0) (S := 0) (dd2 := 5) (av := [x_r (16 * 19 + 0), x_i a]) (st := []) (id := 16 * 22 + 0) dX11_lates_26 xmX11_217 rfl (Or.inl ⟨2, 3, TX3, (sa_22_0 hs), rfl, by decide⟩) (f_cal (M := M) (us2 := [18, 19, 22]) [1, 2, 3] hn rfl (And.intro rfl (And.intro rfl (And.intro rfl trivial))) rfl rfl rfl (c_X3_passOffices hst hs   hq9)) (by decide) (Nat.le_of_ble_eq_true rfl) (Or.inl rfl) ?_
    show Ev g _ _ _ _ _ _ 29 [some (x_r (16 * 1 + 0)), some (x_i a)] [x_i v6] (al, ro, fl (ml M [3, 18, 19, 22] [N, Th7, La8, Fo9])) _ _ _ _
    cases hG
    exact (e_ireturn rfl dX11_lates_29 rfl)
set_option maxRecDepth 100000 in
set_option maxHeartbeats 4000000 in
theorem c_X11_tardy {g : xG} {al : List (Nat × Nat × Nat)} {ro : Nat → Nat → Option Nat} (hst : g.1.stackTraces = false) (hs : SH al ro) {M : Nat → xU} {N : xU} {Th : xU} {La : xU} {Fo : xU}  {t : (Int × xU × xU × xU)} (hG : G11_tardy N Th La Fo = some t) :
    Cal g yX11_tardy cX11_tardy 1 (some .int) 6 [x_r (16 * 1 + 0)] (al, ro, fl (ml M [3, 18, 19, 22] [N, Th, La, Fo])) 0 0 (.inl (some (x_i t.1))) (al, ro, fl (ml M [3, 18, 19, 22] [N, t.2.1, t.2.2.1, t.2.2.2])) := by
  have hn : ([3, 18, 19, 22] : List Nat).Nodup := by decide
  refine cal_of_ev (plainFor_of_name (by decide)) (x_c1 rfl) (Nat.le_of_ble_eq_true rfl) hst ?_
  show Ev g _ _ _ _ _ _ 0 [some (x_r (16 * 1 + 0))] [] (al, ro, fl (ml M [3, 18, 19, 22] [N, Th, La, Fo])) _ _ _ _
  rw [G11_tardy] at hG
  refine e_aloadn (pc := 0) (i := 0) dX11_tardy_0 rfl rfl ?_
  refine f_getr (pc := 1) (u := 1) (q := 0) dX11_tardy_1 xf11_49 (sa_1_0 hs) rfl (sr_1_0_8 hs) ?_
  refine e_aloadn (pc := 4) (i := 0) dX11_tardy_4 rfl rfl ?_
  refine f_getr (pc := 5) (u := 1) (q := 0) dX11_tardy_5 xf11_19 (sa_1_0 hs) rfl (sr_1_0_1 hs) ?_
  obtain ⟨Th1, hq1, hG⟩ := x_bd1 hG
  refine e_invV (pc := 8) (K1 := 0) (S1 := 0) (K := 0) (S := 0) (dd2 := 3) (av := [x_r (16 * 3 + 0)]) (st := []) (id := 16 * 22 + 0) dX11_tardy_8 xmX11_214 rfl (Or.inl ⟨2, 3, TX3, (sa_22_0 hs), rfl, by decide⟩) (f_cal (M := M) (us2 := [3, 18]) [0, 1] hn rfl (And.intro rfl (And.intro rfl trivial)) rfl rfl rfl (c_X3_look hst hs   hq1)) (by decide) (Nat.le_of_ble_eq_true rfl) (Or.inl rfl) ?_
  show Ev g _ _ _ _ _ _ 11 [some (x_r (16 * 1 + 0))] [] (al, ro, fl (ml M [3, 18, 19, 22] [N, Th1, La, Fo])) _ _ _ _
  refine e_aloadn (pc := 11) (i := 0) dX11_tardy_11 rfl rfl ?_
  refine f_getr (pc := 12) (u := 1) (q := 0) dX11_tardy_12 xf11_49 (sa_1_0 hs) rfl (sr_1_0_8 hs) ?_
  refine e_aloadn (pc := 15) (i := 0) dX11_tardy_15 rfl rfl ?_
  refine f_getr (pc := 16) (u := 1) (q := 0) dX11_tardy_16 xf11_32 (sa_1_0 hs) rfl (sr_1_0_4 hs) ?_
  refine e_bipush (pc := 19) dX11_tardy_19 (by decide +kernel) (x_R rfl) ?_
  obtain ⟨v3, Th4, La5, Fo6, hq6, hG⟩ := x_bd4 hG
  refine e_invV (pc := 21) (K1 := 0) (S1 := 0) (K := 0) (S := 0) (dd2 := 5) (av := [x_r (16 * 19 + 0), x_i 8]) (st := []) (id := 16 * 22 + 0) dX11_tardy_21 xmX11_217 rfl (Or.inl ⟨2, 3, TX3, (sa_22_0 hs), rfl, by decide⟩) (f_cal (M := M) (us2 := [18, 19, 22]) [1, 2, 3] hn rfl (And.intro rfl (And.intro rfl (And.intro rfl trivial))) rfl rfl rfl (c_X3_passOffices hst hs   hq6)) (by decide) (Nat.le_of_ble_eq_true rfl) (Or.inl rfl) ?_
  show Ev g _ _ _ _ _ _ 24 [some (x_r (16 * 1 + 0))] [x_i v3] (al, ro, fl (ml M [3, 18, 19, 22] [N, Th4, La5, Fo6])) _ _ _ _
  refine e_pop (pc := 24) dX11_tardy_24 rfl ?_
  refine e_aloadn (pc := 25) (i := 0) dX11_tardy_25 rfl rfl ?_
  refine f_getr (pc := 26) (u := 1) (q := 0) dX11_tardy_26 xf11_49 (sa_1_0 hs) rfl (sr_1_0_8 hs) ?_
  obtain ⟨v8, hq8, hG⟩ := x_bd1 hG
  refine e_invV (pc := 29) (K1 := 0) (S1 := 0) (K := 0) (S := 0) (dd2 := 0) (av := []) (st := []) (id := 16 * 22 + 0) dX11_tardy_29 xmX11_221 rfl (Or.inl ⟨2, 3, TX3, (sa_22_0 hs), rfl, by decide⟩) (f_cal (M := M) (us2 := [22]) [3] hn rfl (And.intro rfl trivial) rfl rfl rfl (c_X3_mostLate hst hs   hq8)) (by decide) (Nat.le_of_ble_eq_true rfl) (Or.inl rfl) ?_
  show Ev g _ _ _ _ _ _ 32 [some (x_r (16 * 1 + 0))] [x_i v8] (al, ro, fl (ml M [3, 18, 19, 22] [N, Th4, La5, Fo6])) _ _ _ _
  cases hG
  exact (e_ireturn rfl dX11_tardy_32 rfl)
set_option maxRecDepth 100000 in
set_option maxHeartbeats 4000000 in
theorem c_X11_ring {g : xG} {al : List (Nat × Nat × Nat)} {ro : Nat → Nat → Option Nat} (hst : g.1.stackTraces = false) (hs : SH al ro) {M : Nat → xU} {N : xU} {Th : xU} {La : xU} {Fo : xU}  {t : (Int × xU × xU × xU)} (hG : G11_ring N Th La Fo = some t) :
    Cal g yX11_ring cX11_ring 1 (some .int) 7 [x_r (16 * 1 + 0)] (al, ro, fl (ml M [3, 18, 19, 22] [N, Th, La, Fo])) 0 0 (.inl (some (x_i t.1))) (al, ro, fl (ml M [3, 18, 19, 22] [N, t.2.1, t.2.2.1, t.2.2.2])) := by
  have hn : ([3, 18, 19, 22] : List Nat).Nodup := by decide
  refine cal_of_ev (plainFor_of_name (by decide)) (x_c1 rfl) (Nat.le_of_ble_eq_true rfl) hst ?_
  show Ev g _ _ _ _ _ _ 0 [some (x_r (16 * 1 + 0))] [] (al, ro, fl (ml M [3, 18, 19, 22] [N, Th, La, Fo])) _ _ _ _
  rw [G11_ring] at hG
  refine e_aloadn (pc := 0) (i := 0) dX11_ring_0 rfl rfl ?_
  refine f_getr (pc := 1) (u := 1) (q := 0) dX11_ring_1 xf11_49 (sa_1_0 hs) rfl (sr_1_0_8 hs) ?_
  refine e_aloadn (pc := 4) (i := 0) dX11_ring_4 rfl rfl ?_
  refine f_getr (pc := 5) (u := 1) (q := 0) dX11_ring_5 xf11_19 (sa_1_0 hs) rfl (sr_1_0_1 hs) ?_
  refine e_aloadn (pc := 8) (i := 0) dX11_ring_8 rfl rfl ?_
  refine f_getr (pc := 9) (u := 1) (q := 0) dX11_ring_9 xf11_32 (sa_1_0 hs) rfl (sr_1_0_4 hs) ?_
  refine e_iconst (pc := 12) dX11_ring_12 (x_R rfl) ?_
  obtain ⟨v1, Th2, La3, Fo4, hq4, hG⟩ := x_bd4 hG
  refine e_invV (pc := 13) (K1 := 0) (S1 := 0) (K := 0) (S := 0) (dd2 := 6) (av := [x_r (16 * 3 + 0), x_r (16 * 19 + 0), x_i 0]) (st := []) (id := 16 * 22 + 0) dX11_ring_13 xmX11_225 rfl (Or.inl ⟨2, 3, TX3, (sa_22_0 hs), rfl, by decide⟩) (f_cal (M := M) (us2 := [3, 18, 19, 22]) [0, 1, 2, 3] hn rfl (And.intro rfl (And.intro rfl (And.intro rfl (And.intro rfl trivial)))) rfl rfl rfl (c_X3_bestChoice hst hs   hq4)) (by decide) (Nat.le_of_ble_eq_true rfl) (Or.inl rfl) ?_
  show Ev g _ _ _ _ _ _ 16 [some (x_r (16 * 1 + 0))] [x_i v1] (al, ro, fl (ml M [3, 18, 19, 22] [N, Th2, La3, Fo4])) _ _ _ _
  cases hG
  exact (e_ireturn rfl dX11_ring_16 rfl)
set_option maxRecDepth 100000 in
set_option maxHeartbeats 4000000 in
theorem c_X11_humour {g : xG} {al : List (Nat × Nat × Nat)} {ro : Nat → Nat → Option Nat} (hst : g.1.stackTraces = false) (hs : SH al ro) {M : Nat → xU} {N : xU} {Th : xU} {La : xU} {Fo : xU}  {t : (Int × xU × xU × xU)} (hG : G11_humour N Th La Fo = some t) :
    Cal g yX11_humour cX11_humour 1 (some .int) 7 [x_r (16 * 1 + 0)] (al, ro, fl (ml M [3, 18, 19, 22] [N, Th, La, Fo])) 0 0 (.inl (some (x_i t.1))) (al, ro, fl (ml M [3, 18, 19, 22] [N, t.2.1, t.2.2.1, t.2.2.2])) := by
  have hn : ([3, 18, 19, 22] : List Nat).Nodup := by decide
  refine cal_of_ev (plainFor_of_name (by decide)) (x_c1 rfl) (Nat.le_of_ble_eq_true rfl) hst ?_
  show Ev g _ _ _ _ _ _ 0 [some (x_r (16 * 1 + 0))] [] (al, ro, fl (ml M [3, 18, 19, 22] [N, Th, La, Fo])) _ _ _ _
  rw [G11_humour] at hG
  refine e_aloadn (pc := 0) (i := 0) dX11_humour_0 rfl rfl ?_
  refine f_getr (pc := 1) (u := 1) (q := 0) dX11_humour_1 xf11_49 (sa_1_0 hs) rfl (sr_1_0_8 hs) ?_
  refine e_aloadn (pc := 4) (i := 0) dX11_humour_4 rfl rfl ?_
  refine f_getr (pc := 5) (u := 1) (q := 0) dX11_humour_5 xf11_19 (sa_1_0 hs) rfl (sr_1_0_1 hs) ?_
  refine e_aloadn (pc := 8) (i := 0) dX11_humour_8 rfl rfl ?_
  refine f_getr (pc := 9) (u := 1) (q := 0) dX11_humour_9 xf11_32 (sa_1_0 hs) rfl (sr_1_0_4 hs) ?_
  refine e_iconst (pc := 12) dX11_humour_12 (x_R rfl) ?_
  obtain ⟨v1, Th2, La3, Fo4, hq4, hG⟩ := x_bd4 hG
  refine e_invV (pc := 13) (K1 := 0) (S1 := 0) (K := 0) (S := 0) (dd2 := 6) (av := [x_r (16 * 3 + 0), x_r (16 * 19 + 0), x_i 1]) (st := []) (id := 16 * 22 + 0) dX11_humour_13 xmX11_225 rfl (Or.inl ⟨2, 3, TX3, (sa_22_0 hs), rfl, by decide⟩) (f_cal (M := M) (us2 := [3, 18, 19, 22]) [0, 1, 2, 3] hn rfl (And.intro rfl (And.intro rfl (And.intro rfl (And.intro rfl trivial)))) rfl rfl rfl (c_X3_bestChoice hst hs   hq4)) (by decide) (Nat.le_of_ble_eq_true rfl) (Or.inl rfl) ?_
  show Ev g _ _ _ _ _ _ 16 [some (x_r (16 * 1 + 0))] [x_i v1] (al, ro, fl (ml M [3, 18, 19, 22] [N, Th2, La3, Fo4])) _ _ _ _
  cases hG
  exact (e_ireturn rfl dX11_humour_16 rfl)
set_option maxRecDepth 100000 in
set_option maxHeartbeats 4000000 in
theorem c_X11_starves {g : xG} {al : List (Nat × Nat × Nat)} {ro : Nat → Nat → Option Nat} (hst : g.1.stackTraces = false) (hs : SH al ro) {M : Nat → xU} {N : xU} {Th : xU} {La : xU}  {t : (Int × xU × xU)} (hG : G11_starves N Th La = some t) :
    Cal g yX11_starves cX11_starves 1 (some .int) 6 [x_r (16 * 1 + 0)] (al, ro, fl (ml M [3, 18, 19] [N, Th, La])) 0 0 (.inl (some (x_i t.1))) (al, ro, fl (ml M [3, 18, 19] [N, t.2.1, t.2.2])) := by
  have hn : ([3, 18, 19] : List Nat).Nodup := by decide
  refine cal_of_ev (plainFor_of_name (by decide)) (x_c1 rfl) (Nat.le_of_ble_eq_true rfl) hst ?_
  show Ev g _ _ _ _ _ _ 0 [some (x_r (16 * 1 + 0))] [] (al, ro, fl (ml M [3, 18, 19] [N, Th, La])) _ _ _ _
  rw [G11_starves] at hG
  refine e_aloadn (pc := 0) (i := 0) dX11_starves_0 rfl rfl ?_
  refine f_getr (pc := 1) (u := 1) (q := 0) dX11_starves_1 xf11_49 (sa_1_0 hs) rfl (sr_1_0_8 hs) ?_
  refine e_aloadn (pc := 4) (i := 0) dX11_starves_4 rfl rfl ?_
  refine f_getr (pc := 5) (u := 1) (q := 0) dX11_starves_5 xf11_19 (sa_1_0 hs) rfl (sr_1_0_1 hs) ?_
  refine e_aloadn (pc := 8) (i := 0) dX11_starves_8 rfl rfl ?_
  refine f_getr (pc := 9) (u := 1) (q := 0) dX11_starves_9 xf11_32 (sa_1_0 hs) rfl (sr_1_0_4 hs) ?_
  obtain ⟨v1, Th2, La3, hq3, hG⟩ := x_bd3 hG
  refine e_invV (pc := 12) (K1 := 0) (S1 := 0) (K := 0) (S := 0) (dd2 := 5) (av := [x_r (16 * 3 + 0), x_r (16 * 19 + 0)]) (st := []) (id := 16 * 22 + 0) dX11_starves_12 xmX11_229 rfl (Or.inl ⟨2, 3, TX3, (sa_22_0 hs), rfl, by decide⟩) (f_cal (M := M) (us2 := [3, 18, 19]) [0, 1, 2] hn rfl (And.intro rfl (And.intro rfl (And.intro rfl trivial))) rfl rfl rfl (c_X3_firstHunger hst hs   hq3)) (by decide) (Nat.le_of_ble_eq_true rfl) (Or.inl rfl) ?_
  show Ev g _ _ _ _ _ _ 15 [some (x_r (16 * 1 + 0))] [x_i v1] (al, ro, fl (ml M [3, 18, 19] [N, Th2, La3])) _ _ _ _
  cases hG
  exact (e_ireturn rfl dX11_starves_15 rfl)
set_option maxRecDepth 100000 in
set_option maxHeartbeats 4000000 in
theorem c_X11_far {g : xG} {al : List (Nat × Nat × Nat)} {ro : Nat → Nat → Option Nat} (hst : g.1.stackTraces = false) (hs : SH al ro) {M : Nat → xU} {a : Int} {b : Int} {N : xU}  {t : (Int ⊕ Nat)} (hG : G11_far a b N = some t) :
    Cal g yX11_far cX11_far 3 (some .int) 3 [x_r (16 * 1 + 0), x_i a, x_i b] (al, ro, fl (ml M [3] [N])) 2 12 (x_oi t) (al, ro, fl (ml M [3] [N])) := by
  have hn : ([3] : List Nat).Nodup := by decide
  refine cal_of_ev (plainFor_of_name (by decide)) (x_c1 rfl) (Nat.le_of_ble_eq_true rfl) hst ?_
  show Ev g _ _ _ _ _ _ 0 [some (x_r (16 * 1 + 0)), some (x_i a), some (x_i b)] [] (al, ro, fl (ml M [3] [N])) _ _ _ _
  rw [G11_far] at hG
  refine e_iloadn (pc := 0) (i := 1) dX11_far_0 rfl rfl ?_
  obtain ⟨o1, hq1, hG⟩ := x_bd1 hG
  cases o1 with
  | some E3 =>
    replace hG := x_tv_s hG
    cases hG
    exact (e_wide (K0 := 1) (S0 := 6) (by decide) (by decide) (e_invSX (pc := 1) (dd2 := 0) (av := [x_i a]) (st := []) dX11_far_1 xmX11_152 rfl (f_cal (M := M) (us2 := []) [] hn rfl trivial rfl rfl rfl (c_X11_needFlag hst hs   hq1)) (by decide) (Nat.le_of_ble_eq_true rfl) (fun _ q => absurd q List.not_mem_nil)))
  | none =>
    replace hG := x_tv_n hG
    refine e_invS (pc := 1) (K1 := 1) (S1 := 6) (K := 1) (S := 6) (dd2 := 0) (av := [x_i a]) (st := []) dX11_far_1 xmX11_152 rfl (f_cal (M := M) (us2 := []) [] hn rfl trivial rfl rfl rfl (c_X11_needFlag hst hs   hq1)) (by decide) (Nat.le_of_ble_eq_true rfl) (Or.inl rfl) ?_
    show Ev g _ _ _ _ _ _ 4 [some (x_r (16 * 1 + 0)), some (x_i a), some (x_i b)] [] (al, ro, fl (ml M [3] [N])) _ _ _ _
    refine e_iloadn (pc := 4) (i := 2) dX11_far_4 rfl rfl ?_
    obtain ⟨o4, hq4, hG⟩ := x_bd1 hG
    cases o4 with
    | some E6 =>
      replace hG := x_tv_s hG
      cases hG
      exact (e_invSX (pc := 5) (dd2 := 0) (av := [x_i b]) (st := []) dX11_far_5 xmX11_152 rfl (f_cal (M := M) (us2 := []) [] hn rfl trivial rfl rfl rfl (c_X11_needFlag hst hs   hq4)) (by decide) (Nat.le_of_ble_eq_true rfl) (fun _ q => absurd q List.not_mem_nil))
    | none =>
      replace hG := x_tv_n hG
      refine e_invS (pc := 5) (K1 := 1) (S1 := 6) (K := 0) (S := 0) (dd2 := 0) (av := [x_i b]) (st := []) dX11_far_5 xmX11_152 rfl (f_cal (M := M) (us2 := []) [] hn rfl trivial rfl rfl rfl (c_X11_needFlag hst hs   hq4)) (by decide) (Nat.le_of_ble_eq_true rfl) (Or.inl rfl) ?_
      show Ev g _ _ _ _ _ _ 8 [some (x_r (16 * 1 + 0)), some (x_i a), some (x_i b)] [] (al, ro, fl (ml M [3] [N])) _ _ _ _
      refine e_aloadn (pc := 8) (i := 0) dX11_far_8 rfl rfl ?_
      refine f_getr (pc := 9) (u := 1) (q := 0) dX11_far_9 xf11_19 (sa_1_0 hs) rfl (sr_1_0_1 hs) ?_
      refine e_iloadn (pc := 12) (i := 1) dX11_far_12 rfl rfl ?_
      refine e_iloadn (pc := 13) (i := 2) dX11_far_13 rfl rfl ?_
      obtain ⟨v7, hq7, hG⟩ := x_bd1 hG
      refine e_invV (pc := 14) (K1 := 0) (S1 := 0) (K := 0) (S := 0) (dd2 := 2) (av := [x_i a, x_i b]) (st := []) (id := 16 * 3 + 0) dX11_far_14 xmX11_233 rfl (Or.inl ⟨1, 12, TX1, (sa_3_0 hs), rfl, by decide⟩) (f_cal (M := M) (us2 := [3]) [0] hn rfl (And.intro rfl trivial) rfl rfl rfl (c_X1_farOf hst hs (by decide)  hq7)) (by decide) (Nat.le_of_ble_eq_true rfl) (Or.inl rfl) ?_
      show Ev g _ _ _ _ _ _ 17 [some (x_r (16 * 1 + 0)), some (x_i a), some (x_i b)] [x_i v7] (al, ro, fl (ml M [3] [N])) _ _ _ _
      cases hG
      exact (e_ireturn rfl dX11_far_17 rfl)
set_option maxRecDepth 100000 in
set_option maxHeartbeats 4000000 in
theorem c_X11_road {g : xG} {al : List (Nat × Nat × Nat)} {ro : Nat → Nat → Option Nat} (hst : g.1.stackTraces = false) (hs : SH al ro) {M : Nat → xU} {a : Int} {b : Int} {T : xU} {N : xU} {Ro : xU}  {t : ((Int ⊕ Nat) × xU × xU)} (hG : G11_road a b T N Ro = some t) :
    Cal g yX11_road cX11_road 4 (some .int) 7 [x_r (16 * 1 + 0), x_i a, x_i b] (al, ro, fl (ml M [2, 3, 26] [T, N, Ro])) 2 12 (x_oi t.1) (al, ro, fl (ml M [2, 3, 26] [t.2.1, N, t.2.2])) := by
  have hn : ([2, 3, 26] : List Nat).Nodup := by decide
  refine cal_of_ev (plainFor_of_name (by decide)) (x_c1 rfl) (Nat.le_of_ble_eq_true rfl) hst ?_
  show Ev g _ _ _ _ _ _ 0 [some (x_r (16 * 1 + 0)), some (x_i a), some (x_i b), none] [] (al, ro, fl (ml M [2, 3, 26] [T, N, Ro])) _ _ _ _
  rw [G11_road] at hG
  refine e_aloadn (pc := 0) (i := 0) dX11_road_0 rfl rfl ?_
  refine f_getr (pc := 1) (u := 1) (q := 0) dX11_road_1 xf11_77 (sa_1_0 hs) rfl (sr_1_0_12 hs) ?_
  refine e_aloadn (pc := 4) (i := 0) dX11_road_4 rfl rfl ?_
  refine f_getr (pc := 5) (u := 1) (q := 0) dX11_road_5 xf11_10 (sa_1_0 hs) rfl (sr_1_0_0 hs) ?_
  obtain ⟨v1, Ro2, hq2, hG⟩ := x_bd2 hG
  refine e_invV (pc := 8) (K1 := 0) (S1 := 0) (K := 2) (S := 12) (dd2 := 1) (av := [x_r (16 * 2 + 0)]) (st := []) (id := 16 * 26 + 0) dX11_road_8 xmX11_236 rfl (Or.inl ⟨6, 3, TX8, (sa_26_0 hs), rfl, by decide⟩) (f_cal (M := M) (us2 := [2, 26]) [0, 2] hn rfl (And.intro rfl (And.intro rfl trivial)) rfl rfl rfl (c_X8_readFlags hst hs   hq2)) (by decide) (Nat.le_of_ble_eq_true rfl) (Or.inl rfl) ?_
  show Ev g _ _ _ _ _ _ 11 [some (x_r (16 * 1 + 0)), some (x_i a), some (x_i b), none] [x_i v1] (al, ro, fl (ml M [2, 3, 26] [T, N, Ro2])) _ _ _ _
  refine e_istoren (pc := 11) (i := 3) dX11_road_11 rfl (by decide) rfl ?_
  show Ev g _ _ _ _ _ _ 12 [some (x_r (16 * 1 + 0)), some (x_i a), some (x_i b), some (x_i v1)] [] (al, ro, fl (ml M [2, 3, 26] [T, N, Ro2])) _ _ _ _
  refine e_aloadn (pc := 12) (i := 0) dX11_road_12 rfl rfl ?_
  refine f_getr (pc := 13) (u := 1) (q := 0) dX11_road_13 xf11_10 (sa_1_0 hs) rfl (sr_1_0_0 hs) ?_
  obtain ⟨T4, hq4, hG⟩ := x_bd1 hG
  refine e_invV (pc := 16) (K1 := 0) (S1 := 0) (K := 2) (S := 12) (dd2 := 0) (av := []) (st := []) (id := 16 * 2 + 0) dX11_road_16 xmX11_102 rfl (Or.inl ⟨8, 8, TX10, (sa_2_0 hs), rfl, by decide⟩) (f_cal (M := M) (us2 := [2]) [0] hn rfl (And.intro rfl trivial) rfl rfl rfl (c_X10_useUp hst hs   hq4)) (by decide) (Nat.le_of_ble_eq_true rfl) (Or.inl rfl) ?_
  show Ev g _ _ _ _ _ _ 19 [some (x_r (16 * 1 + 0)), some (x_i a), some (x_i b), some (x_i v1)] [] (al, ro, fl (ml M [2, 3, 26] [T4, N, Ro2])) _ _ _ _
  refine e_iloadn (pc := 19) (i := 1) dX11_road_19 rfl rfl ?_
  obtain ⟨o6, hq6, hG⟩ := x_bd1 hG
  cases o6 with
  | some E8 =>
    replace hG := x_tv_s hG
    cases hG
    exact (e_wide (K0 := 1) (S0 := 6) (by decide) (by decide) (e_invSX (pc := 20) (dd2 := 0) (av := [x_i a]) (st := []) dX11_road_20 xmX11_152 rfl (f_cal (M := M) (us2 := []) [] hn rfl trivial rfl rfl rfl (c_X11_needFlag hst hs   hq6)) (by decide) (Nat.le_of_ble_eq_true rfl) (fun _ q => absurd q List.not_mem_nil)))
  | none =>
    replace hG := x_tv_n hG
    refine e_invS (pc := 20) (K1 := 1) (S1 := 6) (K := 1) (S := 6) (dd2 := 0) (av := [x_i a]) (st := []) dX11_road_20 xmX11_152 rfl (f_cal (M := M) (us2 := []) [] hn rfl trivial rfl rfl rfl (c_X11_needFlag hst hs   hq6)) (by decide) (Nat.le_of_ble_eq_true rfl) (Or.inl rfl) ?_
    show Ev g _ _ _ _ _ _ 23 [some (x_r (16 * 1 + 0)), some (x_i a), some (x_i b), some (x_i v1)] [] (al, ro, fl (ml M [2, 3, 26] [T4, N, Ro2])) _ _ _ _
    refine e_iloadn (pc := 23) (i := 3) dX11_road_23 rfl rfl ?_
    refine e_if_ne (pc := 24) (tgt := 35) dX11_road_24 (by decide) (fun hb => ?_) (fun hb => ?_)
    · rw [if_neg hb] at hG
      refine e_iloadn (pc := 35) (i := 2) dX11_road_35 rfl rfl ?_
      obtain ⟨v9, Ro10, hr10, hG⟩ := x_bd2 hG
      have hjhr10 : Ev g yX11_road cX11_road 4 (some .int) [] 7 66 [some (x_r (16 * 1 + 0)), some (x_i a), some (x_i b), some (x_i v1)] [x_i v9] (al, ro, fl (ml M [2, 3, 26] [T4, N, Ro10])) 1 6 (x_oi t.1) (al, ro, fl (ml M [2, 3, 26] [t.2.1, N, t.2.2])) := by
        cases hG
        exact (e_wide (K0 := 0) (S0 := 0) (by decide) (by decide) (e_ireturn rfl dX11_road_66 rfl))
      clear hG
      refine e_if_eq (pc := 36) (tgt := 54) dX11_road_36 (by decide) (fun hb => ?_) (fun hb => ?_)
      · rw [if_pos hb] at hr10
        refine e_aloadn (pc := 54) (i := 0) dX11_road_54 rfl rfl ?_
        refine f_getr (pc := 55) (u := 1) (q := 0) dX11_road_55 xf11_77 (sa_1_0 hs) rfl (sr_1_0_12 hs) ?_
        refine e_aloadn (pc := 58) (i := 0) dX11_road_58 rfl rfl ?_
        refine f_getr (pc := 59) (u := 1) (q := 0) dX11_road_59 xf11_19 (sa_1_0 hs) rfl (sr_1_0_1 hs) ?_
        refine e_iloadn (pc := 62) (i := 1) dX11_road_62 rfl rfl ?_
        obtain ⟨v12, Ro13, hq13, hr10⟩ := x_bd2 hr10
        refine e_invV (pc := 63) (K1 := 0) (S1 := 0) (K := 1) (S := 6) (dd2 := 5) (av := [x_r (16 * 3 + 0), x_i a]) (st := []) (id := 16 * 26 + 0) dX11_road_63 xmX11_243 rfl (Or.inl ⟨6, 3, TX8, (sa_26_0 hs), rfl, by decide⟩) (f_cal (M := M) (us2 := [3, 26]) [1, 2] hn rfl (And.intro rfl (And.intro rfl trivial)) rfl rfl rfl (c_X8_leastWay hst hs   hq13)) (by decide) (Nat.le_of_ble_eq_true rfl) (Or.inl rfl) ?_
        show Ev g _ _ _ _ _ _ 66 [some (x_r (16 * 1 + 0)), some (x_i a), some (x_i b), some (x_i v1)] [x_i v12] (al, ro, fl (ml M [2, 3, 26] [T4, N, Ro13])) _ _ _ _
        cases hr10
        exact hjhr10
      · rw [if_neg hb] at hr10
        refine e_aloadn (pc := 39) (i := 0) dX11_road_39 rfl rfl ?_
        refine f_getr (pc := 40) (u := 1) (q := 0) dX11_road_40 xf11_77 (sa_1_0 hs) rfl (sr_1_0_12 hs) ?_
        refine e_aloadn (pc := 43) (i := 0) dX11_road_43 rfl rfl ?_
        refine f_getr (pc := 44) (u := 1) (q := 0) dX11_road_44 xf11_19 (sa_1_0 hs) rfl (sr_1_0_1 hs) ?_
        refine e_iloadn (pc := 47) (i := 1) dX11_road_47 rfl rfl ?_
        obtain ⟨v15, Ro16, hq16, hr10⟩ := x_bd2 hr10
        refine e_invV (pc := 48) (K1 := 0) (S1 := 0) (K := 1) (S := 6) (dd2 := 6) (av := [x_r (16 * 3 + 0), x_i a]) (st := []) (id := 16 * 26 + 0) dX11_road_48 xmX11_240 rfl (Or.inl ⟨6, 3, TX8, (sa_26_0 hs), rfl, by decide⟩) (f_cal (M := M) (us2 := [3, 26]) [1, 2] hn rfl (And.intro rfl (And.intro rfl trivial)) rfl rfl rfl (c_X8_firstFlag hst hs   hq16)) (by decide) (Nat.le_of_ble_eq_true rfl) (Or.inl rfl) ?_
        show Ev g _ _ _ _ _ _ 51 [some (x_r (16 * 1 + 0)), some (x_i a), some (x_i b), some (x_i v1)] [x_i v15] (al, ro, fl (ml M [2, 3, 26] [T4, N, Ro16])) _ _ _ _
        refine e_goto (pc := 51) (tgt := 66) dX11_road_51 (by decide) ?_
        cases hr10
        exact hjhr10
    · rw [if_pos hb] at hG
      cases hG
      exact (e_throw (pc := 27) xt_0 dX11_road_27 dX11_road_30 dX11_road_31 dX11_road_34 (Nat.le_of_ble_eq_true rfl) (fun _ q => absurd q List.not_mem_nil))
set_option maxRecDepth 100000 in
set_option maxHeartbeats 4000000 in
theorem c_X11_seats {g : xG} {al : List (Nat × Nat × Nat)} {ro : Nat → Nat → Option Nat} (hst : g.1.stackTraces = false) (hs : SH al ro) {M : Nat → xU} {a : Int} {N : xU} {St : xU}  {t : ((Int ⊕ Nat) × xU)} (hG : G11_seats a N St = some t) :
    Cal g yX11_seats cX11_seats 2 (some .int) 4 [x_r (16 * 1 + 0), x_i a] (al, ro, fl (ml M [3, 23] [N, St])) 1 6 (x_oi t.1) (al, ro, fl (ml M [3, 23] [N, t.2])) := by
  have hn : ([3, 23] : List Nat).Nodup := by decide
  refine cal_of_ev (plainFor_of_name (by decide)) (x_c1 rfl) (Nat.le_of_ble_eq_true rfl) hst ?_
  show Ev g _ _ _ _ _ _ 0 [some (x_r (16 * 1 + 0)), some (x_i a)] [] (al, ro, fl (ml M [3, 23] [N, St])) _ _ _ _
  rw [G11_seats] at hG
  refine e_iloadn (pc := 0) (i := 1) dX11_seats_0 rfl rfl ?_
  refine e_iconst (pc := 1) dX11_seats_1 (x_R rfl) ?_
  refine e_icmp_ne (pc := 2) (tgt := 17) dX11_seats_2 (by decide) (fun hb => ?_) (fun hb => ?_)
  · rw [if_neg hb] at hG
    refine e_aloadn (pc := 17) (i := 0) dX11_seats_17 rfl rfl ?_
    refine e_iloadn (pc := 18) (i := 1) dX11_seats_18 rfl rfl ?_
    obtain ⟨o1, hq1, hG⟩ := x_bd1 hG
    cases o1 with
    | some E3 =>
      replace hG := x_tv_s hG
      cases hG
      exact (e_invVX (pc := 19) (dd2 := 0) (av := [x_i a]) (st := []) (id := 16 * 1 + 0) dX11_seats_19 xmX11_128 rfl (Or.inl ⟨9, 17, TX11, (sa_1_0 hs), rfl, by decide⟩) (f_cal (M := M) (us2 := [3]) [0] hn rfl (And.intro rfl trivial) rfl rfl rfl (c_X11_needMonk hst hs   hq1)) (by decide) (Nat.le_of_ble_eq_true rfl) (fun _ q => absurd q List.not_mem_nil))
    | none =>
      replace hG := x_tv_n hG
      refine e_invV (pc := 19) (K1 := 1) (S1 := 6) (K := 0) (S := 0) (dd2 := 0) (av := [x_i a]) (st := []) (id := 16 * 1 + 0) dX11_seats_19 xmX11_128 rfl (Or.inl ⟨9, 17, TX11, (sa_1_0 hs), rfl, by decide⟩) (f_cal (M := M) (us2 := [3]) [0] hn rfl (And.intro rfl trivial) rfl rfl rfl (c_X11_needMonk hst hs   hq1)) (by decide) (Nat.le_of_ble_eq_true rfl) (Or.inl rfl) ?_
      show Ev g _ _ _ _ _ _ 22 [some (x_r (16 * 1 + 0)), some (x_i a)] [] (al, ro, fl (ml M [3, 23] [N, St])) _ _ _ _
      refine e_aloadn (pc := 22) (i := 0) dX11_seats_22 rfl rfl ?_
      refine f_getr (pc := 23) (u := 1) (q := 0) dX11_seats_23 xf11_56 (sa_1_0 hs) rfl (sr_1_0_9 hs) ?_
      refine e_aloadn (pc := 26) (i := 0) dX11_seats_26 rfl rfl ?_
      refine f_getr (pc := 27) (u := 1) (q := 0) dX11_seats_27 xf11_19 (sa_1_0 hs) rfl (sr_1_0_1 hs) ?_
      refine e_iloadn (pc := 30) (i := 1) dX11_seats_30 rfl rfl ?_
      obtain ⟨v4, St5, hq5, hG⟩ := x_bd2 hG
      refine e_invV (pc := 31) (K1 := 0) (S1 := 0) (K := 0) (S := 0) (dd2 := 3) (av := [x_r (16 * 3 + 0), x_i a]) (st := []) (id := 16 * 23 + 0) dX11_seats_31 xmX11_250 rfl (Or.inl ⟨7, 4, TX9, (sa_23_0 hs), rfl, by decide⟩) (f_cal (M := M) (us2 := [3, 23]) [0, 1] hn rfl (And.intro rfl (And.intro rfl trivial)) rfl rfl rfl (c_X9_seatOf hst hs   hq5)) (by decide) (Nat.le_of_ble_eq_true rfl) (Or.inl rfl) ?_
      show Ev g _ _ _ _ _ _ 34 [some (x_r (16 * 1 + 0)), some (x_i a)] [x_i v4] (al, ro, fl (ml M [3, 23] [N, St5])) _ _ _ _
      cases hG
      exact (e_ireturn rfl dX11_seats_34 rfl)
  · rw [if_pos hb] at hG
    refine e_aloadn (pc := 5) (i := 0) dX11_seats_5 rfl rfl ?_
    refine f_getr (pc := 6) (u := 1) (q := 0) dX11_seats_6 xf11_56 (sa_1_0 hs) rfl (sr_1_0_9 hs) ?_
    refine e_aloadn (pc := 9) (i := 0) dX11_seats_9 rfl rfl ?_
    refine f_getr (pc := 10) (u := 1) (q := 0) dX11_seats_10 xf11_19 (sa_1_0 hs) rfl (sr_1_0_1 hs) ?_
    obtain ⟨v7, St8, hq8, hG⟩ := x_bd2 hG
    refine e_invV (pc := 13) (K1 := 0) (S1 := 0) (K := 1) (S := 6) (dd2 := 2) (av := [x_r (16 * 3 + 0)]) (st := []) (id := 16 * 23 + 0) dX11_seats_13 xmX11_246 rfl (Or.inl ⟨7, 4, TX9, (sa_23_0 hs), rfl, by decide⟩) (f_cal (M := M) (us2 := [3, 23]) [0, 1] hn rfl (And.intro rfl (And.intro rfl trivial)) rfl rfl rfl (c_X9_mostSeated hst hs   hq8)) (by decide) (Nat.le_of_ble_eq_true rfl) (Or.inl rfl) ?_
    show Ev g _ _ _ _ _ _ 16 [some (x_r (16 * 1 + 0)), some (x_i a)] [x_i v7] (al, ro, fl (ml M [3, 23] [N, St8])) _ _ _ _
    cases hG
    exact (e_wide (K0 := 0) (S0 := 0) (by decide) (by decide) (e_ireturn rfl dX11_seats_16 rfl))
set_option maxRecDepth 100000 in
set_option maxHeartbeats 4000000 in
theorem c_X11_shown {g : xG} {al : List (Nat × Nat × Nat)} {ro : Nat → Nat → Option Nat} (hst : g.1.stackTraces = false) (hs : SH al ro) {M : Nat → xU} {N : xU} {St : xU}  {t : (Int × xU)} (hG : G11_shown N St = some t) :
    Cal g yX11_shown cX11_shown 1 (some .int) 3 [x_r (16 * 1 + 0)] (al, ro, fl (ml M [3, 23] [N, St])) 0 0 (.inl (some (x_i t.1))) (al, ro, fl (ml M [3, 23] [N, t.2])) := by
  have hn : ([3, 23] : List Nat).Nodup := by decide
  refine cal_of_ev (plainFor_of_name (by decide)) (x_c1 rfl) (Nat.le_of_ble_eq_true rfl) hst ?_
  show Ev g _ _ _ _ _ _ 0 [some (x_r (16 * 1 + 0))] [] (al, ro, fl (ml M [3, 23] [N, St])) _ _ _ _
  rw [G11_shown] at hG
  refine e_aloadn (pc := 0) (i := 0) dX11_shown_0 rfl rfl ?_
  refine f_getr (pc := 1) (u := 1) (q := 0) dX11_shown_1 xf11_56 (sa_1_0 hs) rfl (sr_1_0_9 hs) ?_
  refine e_aloadn (pc := 4) (i := 0) dX11_shown_4 rfl rfl ?_
  refine f_getr (pc := 5) (u := 1) (q := 0) dX11_shown_5 xf11_19 (sa_1_0 hs) rfl (sr_1_0_1 hs) ?_
  obtain ⟨v1, St2, hq2, hG⟩ := x_bd2 hG
  refine e_invV (pc := 8) (K1 := 0) (S1 := 0) (K := 0) (S := 0) (dd2 := 2) (av := [x_r (16 * 3 + 0)]) (st := []) (id := 16 * 23 + 0) dX11_shown_8 xmX11_253 rfl (Or.inl ⟨7, 4, TX9, (sa_23_0 hs), rfl, by decide⟩) (f_cal (M := M) (us2 := [3, 23]) [0, 1] hn rfl (And.intro rfl (And.intro rfl trivial)) rfl rfl rfl (c_X9_fewestWithTooFew hst hs   hq2)) (by decide) (Nat.le_of_ble_eq_true rfl) (Or.inl rfl) ?_
  show Ev g _ _ _ _ _ _ 11 [some (x_r (16 * 1 + 0))] [x_i v1] (al, ro, fl (ml M [3, 23] [N, St2])) _ _ _ _
  cases hG
  exact (e_ireturn rfl dX11_shown_11 rfl)
set_option maxRecDepth 100000 in
set_option maxHeartbeats 4000000 in
theorem c_X11_serves {g : xG} {al : List (Nat × Nat × Nat)} {ro : Nat → Nat → Option Nat} (hst : g.1.stackTraces = false) (hs : SH al ro) {M : Nat → xU} {a : Int} {N : xU}  {t : (Int ⊕ Nat)} (hG : G11_serves a N = some t) :
    Cal g yX11_serves cX11_serves 4 (some .int) 2 [x_r (16 * 1 + 0), x_i a] (al, ro, fl (ml M [3] [N])) 1 6 (x_oi t) (al, ro, fl (ml M [3] [N])) := by
  have hn : ([3] : List Nat).Nodup := by decide
  refine cal_of_ev (plainFor_of_name (by decide)) (x_c1 rfl) (Nat.le_of_ble_eq_true rfl) hst ?_
  show Ev g _ _ _ _ _ _ 0 [some (x_r (16 * 1 + 0)), some (x_i a), none, none] [] (al, ro, fl (ml M [3] [N])) _ _ _ _
  rw [G11_serves] at hG
  refine e_iloadn (pc := 0) (i := 1) dX11_serves_0 rfl rfl ?_
  refine e_if_lt (pc := 1) (tgt := 10) dX11_serves_1 (by decide) (fun hb => ?_) (fun hb => ?_)
  · rw [if_pos hb] at hG
    cases hG
    exact (e_throw (pc := 10) xt_1 dX11_serves_10 dX11_serves_13 dX11_serves_14 dX11_serves_17 (Nat.le_of_ble_eq_true rfl) (fun _ q => absurd q List.not_mem_nil))
  · rw [if_neg hb] at hG
    refine e_iloadn (pc := 4) (i := 1) dX11_serves_4 rfl rfl ?_
    refine e_bipush (pc := 5) dX11_serves_5 (by decide +kernel) (x_R rfl) ?_
    refine e_icmp_lt (pc := 7) (tgt := 18) dX11_serves_7 (by decide) (fun hb => ?_) (fun hb => ?_)
    · rw [if_pos hb] at hG
      refine e_iconst (pc := 18) dX11_serves_18 (x_R rfl) ?_
      refine e_istoren (pc := 19) (i := 2) dX11_serves_19 rfl (by decide) rfl ?_
      show Ev g _ _ _ _ _ _ 20 [some (x_r (16 * 1 + 0)), some (x_i a), some (x_i 0), none] [] (al, ro, fl (ml M [3] [N])) _ _ _ _
      refine e_iconst (pc := 20) dX11_serves_20 (x_R rfl) ?_
      refine e_istoren (pc := 21) (i := 3) dX11_serves_21 rfl (by decide) rfl ?_
      show Ev g _ _ _ _ _ _ 22 [some (x_r (16 * 1 + 0)), some (x_i a), some (x_i 0), some (x_i 0)] [] (al, ro, fl (ml M [3] [N])) _ _ _ _
      obtain ⟨v3, hl4, hG⟩ := x_bd1 hG
      have hk4 : ∀ q : Int, q = v3 → Ev g yX11_serves cX11_serves 4 (some .int) [] 2 57 [some (x_r (16 * 1 + 0)), some (x_i a), some (x_i q), none] [] (al, ro, fl (ml M [3] [N])) 1 6 (x_oi t) (al, ro, fl (ml M [3] [N])) := by
        intro q hq
        replace hq := hq.symm
        subst hq
        refine e_iloadn (pc := 57) (i := 2) dX11_serves_57 rfl rfl ?_
        cases hG
        exact (e_wide (K0 := 0) (S0 := 0) (by decide) (by decide) (e_ireturn rfl dX11_serves_58 rfl))
      clear hG
      refine e_whl (G11_serves_L22 a N) (fun z : (Int × Int) => Ev g yX11_serves cX11_serves 4 (some .int) [] 2 22 [some (x_r (16 * 1 + 0)), some (x_i a), some (x_i z.1), some (x_i z.2)] [] (al, ro, fl (ml M [3] [N])) 1 6 (x_oi t) (al, ro, fl (ml M [3] [N]))) (fun q => q = v3) ?_ xFU (0, 0) _ hl4 rfl
      intro z t4 hf4 hi4 hx4
      obtain ⟨v1, v2⟩ := z
      rw [G11_serves_L22] at hf4
      show Ev g _ _ _ _ _ _ 22 [some (x_r (16 * 1 + 0)), some (x_i a), some (x_i v1), some (x_i v2)] [] (al, ro, fl (ml M [3] [N])) _ _ _ _
      refine e_iloadn (pc := 22) (i := 3) dX11_serves_22 rfl rfl ?_
      refine e_aloadn (pc := 23) (i := 0) dX11_serves_23 rfl rfl ?_
      refine f_getr (pc := 24) (u := 1) (q := 0) dX11_serves_24 xf11_19 (sa_1_0 hs) rfl (sr_1_0_1 hs) ?_
      refine f_geti (pc := 27) (k := 0) (u := 3) (q := 0) dX11_serves_27 xf11_200 (sa_3_0 hs) rfl hn rfl rfl (by decide) ?_
      show Ev g _ _ _ _ _ _ 30 [some (x_r (16 * 1 + 0)), some (x_i a), some (x_i v1), some (x_i v2)] [x_i (N 0 3), x_i v2] (al, ro, fl (ml M [3] [N])) _ _ _ _
      refine e_icmp_ge (pc := 30) (tgt := 57) dX11_serves_30 (by decide) (fun hb => ?_) (fun hb => ?_)
      · rw [if_pos hb] at hf4
        cases hf4
        refine e_drop (i := 3) ?_
        exact hk4 _ (hx4 _ rfl)
      · rw [if_neg hb] at hf4
        refine e_aloadn (pc := 33) (i := 0) dX11_serves_33 rfl rfl ?_
        refine f_getr (pc := 34) (u := 1) (q := 0) dX11_serves_34 xf11_19 (sa_1_0 hs) rfl (sr_1_0_1 hs) ?_
        refine e_iloadn (pc := 37) (i := 3) dX11_serves_37 rfl rfl ?_
        refine e_iloadn (pc := 38) (i := 1) dX11_serves_38 rfl rfl ?_
        obtain ⟨v6, hq6, hf4⟩ := x_bd1 hf4
        refine e_invV (pc := 39) (K1 := 0) (S1 := 0) (K := 1) (S := 6) (dd2 := 1) (av := [x_i v2, x_i a]) (st := []) (id := 16 * 3 + 0) dX11_serves_39 xmX11_259 rfl (Or.inl ⟨1, 12, TX1, (sa_3_0 hs), rfl, by decide⟩) (f_cal (M := M) (us2 := [3]) [0] hn rfl (And.intro rfl trivial) rfl rfl rfl (c_X1_doesLike hst hs (by decide)  hq6)) (by decide) (Nat.le_of_ble_eq_true rfl) (Or.inl rfl) ?_
        show Ev g _ _ _ _ _ _ 42 [some (x_r (16 * 1 + 0)), some (x_i a), some (x_i v1), some (x_i v2)] [x_i v6] (al, ro, fl (ml M [3] [N])) _ _ _ _
        obtain ⟨v8, hr8, hf4⟩ := x_bd1 hf4
        have hjhr8 : Ev g yX11_serves cX11_serves 4 (some .int) [] 2 51 [some (x_r (16 * 1 + 0)), some (x_i a), some (x_i v8), some (x_i v2)] [] (al, ro, fl (ml M [3] [N])) 1 6 (x_oi t) (al, ro, fl (ml M [3] [N])) := by
          refine e_iinc (pc := 51) dX11_serves_51 rfl (by decide) rfl ?_
          show Ev g _ _ _ _ _ _ 54 [some (x_r (16 * 1 + 0)), some (x_i a), some (x_i v8), some (x_i (x_add v2 1))] [] (al, ro, fl (ml M [3] [N])) _ _ _ _
          refine e_goto (pc := 54) (tgt := 22) dX11_serves_54 (by decide) ?_
          cases hf4
          exact hi4 _ rfl
        clear hf4
        refine e_if_eq (pc := 42) (tgt := 51) dX11_serves_42 (by decide) (fun hb => ?_) (fun hb => ?_)
        · rw [if_pos hb] at hr8
          cases hr8
          exact hjhr8
        · rw [if_neg hb] at hr8
          refine e_iloadn (pc := 45) (i := 2) dX11_serves_45 rfl rfl ?_
          refine e_iconst (pc := 46) dX11_serves_46 (x_R rfl) ?_
          refine e_iloadn (pc := 47) (i := 3) dX11_serves_47 rfl rfl ?_
          refine e_ishl (pc := 48) dX11_serves_48 ?_
          refine e_ior (pc := 49) dX11_serves_49 ?_
          refine e_istoren (pc := 50) (i := 2) dX11_serves_50 rfl (by decide) rfl ?_
          show Ev g _ _ _ _ _ _ 51 [some (x_r (16 * 1 + 0)), some (x_i a), some (x_i (x_or v1 (x_shl 1 v2))), some (x_i v2)] [] (al, ro, fl (ml M [3] [N])) _ _ _ _
          cases hr8
          exact hjhr8
    · rw [if_neg hb] at hG
      cases hG
      exact (e_throw (pc := 10) xt_1 dX11_serves_10 dX11_serves_13 dX11_serves_14 dX11_serves_17 (Nat.le_of_ble_eq_true rfl) (fun _ q => absurd q List.not_mem_nil))
