set_option maxRecDepth 100000 in
set_option maxHeartbeats 4000000 in
theorem c_X11_cross {g : xG} {al : List (Nat × Nat × Nat)} {ro : Nat → Nat → Option Nat} (hst : g.1.stackTraces = false) (hs : SH al ro) {M : Nat → xU} {a : Int} {X : xU} {N : xU} {A : xA}  {t : ((Int ⊕ Nat) × xU × xU × xA)} (hG : G11_cross a X N A = some t) :
    Cal g yX11_cross cX11_cross 2 (some .int) 4 [x_r (16 * 1 + 0), x_i a] (al, ro, fl (ml (x_ac M A) [1, 3] [X, N])) 2 12 (x_oi t.1) (al, ro, fl (ml (x_ac M t.2.2.2) [1, 3] [t.2.1, t.2.2.1])) := by
  have hn : ([1, 3] : List Nat).Nodup := by decide
  refine cal_of_ev (plainFor_of_name (by decide)) (x_c1 rfl) (Nat.le_of_ble_eq_true rfl) hst ?_
  show Ev g _ _ _ _ _ _ 0 [some (x_r (16 * 1 + 0)), some (x_i a)] [] (al, ro, fl (ml (x_ac M A) [1, 3] [X, N])) _ _ _ _
  rw [G11_cross] at hG
  refine e_aloadn (pc := 0) (i := 0) dX11_cross_0 rfl rfl ?_
  refine e_iloadn (pc := 1) (i := 1) dX11_cross_1 rfl rfl ?_
  obtain ⟨o1, hq1, hG⟩ := x_bd1 hG
  cases o1 with
  | some E3 =>
    replace hG := x_tv_s hG
    cases hG
    exact (e_wide (K0 := 1) (S0 := 6) (by decide) (by decide) (e_invVX (pc := 2) (dd2 := 0) (av := [x_i a]) (st := []) (id := 16 * 1 + 0) dX11_cross_2 xmX11_128 rfl (Or.inl ⟨9, 17, TX11, (sa_1_0 hs), rfl, by decide⟩) (f_cal (M := (x_ac M A)) (us2 := [3]) [1] hn rfl (And.intro rfl trivial) rfl rfl rfl (c_X11_needMonk hst hs   hq1)) (by decide) (Nat.le_of_ble_eq_true rfl) (fun _ q => absurd q List.not_mem_nil)))
  | none =>
    replace hG := x_tv_n hG
    refine e_invV (pc := 2) (K1 := 1) (S1 := 6) (K := 1) (S := 6) (dd2 := 0) (av := [x_i a]) (st := []) (id := 16 * 1 + 0) dX11_cross_2 xmX11_128 rfl (Or.inl ⟨9, 17, TX11, (sa_1_0 hs), rfl, by decide⟩) (f_cal (M := (x_ac M A)) (us2 := [3]) [1] hn rfl (And.intro rfl trivial) rfl rfl rfl (c_X11_needMonk hst hs   hq1)) (by decide) (Nat.le_of_ble_eq_true rfl) (Or.inl rfl) ?_
    show Ev g _ _ _ _ _ _ 5 [some (x_r (16 * 1 + 0)), some (x_i a)] [] (al, ro, fl (ml (x_ac M A) [1, 3] [X, N])) _ _ _ _
    refine e_aloadn (pc := 5) (i := 0) dX11_cross_5 rfl rfl ?_
    refine f_getr (pc := 6) (u := 1) (q := 0) dX11_cross_6 xf11_19 (sa_1_0 hs) rfl (sr_1_0_1 hs) ?_
    refine e_iloadn (pc := 9) (i := 1) dX11_cross_9 rfl rfl ?_
    obtain ⟨v4, hq4, hG⟩ := x_bd1 hG
    refine e_invV (pc := 10) (K1 := 0) (S1 := 0) (K := 1) (S := 6) (dd2 := 1) (av := [x_i a]) (st := []) (id := 16 * 3 + 0) dX11_cross_10 xmX11_170 rfl (Or.inl ⟨1, 12, TX1, (sa_3_0 hs), rfl, by decide⟩) (f_cal (M := (x_ac M A)) (us2 := [3]) [1] hn rfl (And.intro rfl trivial) rfl rfl rfl (c_X1_isLost hst hs (by decide)  hq4)) (by decide) (Nat.le_of_ble_eq_true rfl) (Or.inl rfl) ?_
    show Ev g _ _ _ _ _ _ 13 [some (x_r (16 * 1 + 0)), some (x_i a)] [x_i v4] (al, ro, fl (ml (x_ac M A) [1, 3] [X, N])) _ _ _ _
    refine e_if_eq (pc := 13) (tgt := 24) dX11_cross_13 (by decide) (fun hb => ?_) (fun hb => ?_)
    · rw [if_pos hb] at hG
      refine e_aloadn (pc := 24) (i := 0) dX11_cross_24 rfl rfl ?_
      obtain ⟨X6, A7, hq7, hG⟩ := x_bd2 hG
      refine e_invV (pc := 25) (K1 := 0) (S1 := 0) (K := 1) (S := 6) (dd2 := 3) (av := []) (st := []) (id := 16 * 1 + 0) dX11_cross_25 xmX11_158 rfl (Or.inl ⟨9, 17, TX11, (sa_1_0 hs), rfl, by decide⟩) (f_calA (us2 := [1, 3]) [0, 1] hn rfl (And.intro rfl (And.intro rfl trivial)) rfl rfl rfl rfl (c_X11_remember hst hs   hq7)) (by decide) (Nat.le_of_ble_eq_true rfl) (Or.inl rfl) ?_
      show Ev g _ _ _ _ _ _ 28 [some (x_r (16 * 1 + 0)), some (x_i a)] [] (al, ro, fl (ml (x_ac M A7) [1, 3] [X6, N])) _ _ _ _
      refine e_aloadn (pc := 28) (i := 0) dX11_cross_28 rfl rfl ?_
      refine f_getr (pc := 29) (u := 1) (q := 0) dX11_cross_29 xf11_19 (sa_1_0 hs) rfl (sr_1_0_1 hs) ?_
      refine e_iconst (pc := 32) dX11_cross_32 (x_R rfl) ?_
      refine e_iloadn (pc := 33) (i := 1) dX11_cross_33 rfl rfl ?_
      refine e_aloadn (pc := 34) (i := 0) dX11_cross_34 rfl rfl ?_
      refine f_getr (pc := 35) (u := 1) (q := 0) dX11_cross_35 xf11_19 (sa_1_0 hs) rfl (sr_1_0_1 hs) ?_
      refine e_iconst (pc := 38) dX11_cross_38 (x_R rfl) ?_
      refine e_iloadn (pc := 39) (i := 1) dX11_cross_39 rfl rfl ?_
      obtain ⟨v9, hq9, hG⟩ := x_bd1 hG
      refine e_invV (pc := 40) (K1 := 0) (S1 := 0) (K := 1) (S := 6) (dd2 := 0) (av := [x_i 0, x_i a]) (st := [x_i a, x_i 0, x_r (16 * 3 + 0)]) (id := 16 * 3 + 0) dX11_cross_40 xmX11_138 rfl (Or.inl ⟨1, 12, TX1, (sa_3_0 hs), rfl, by decide⟩) (f_cal (M := (x_ac M A7)) (us2 := [3]) [1] hn rfl (And.intro rfl trivial) rfl rfl rfl (c_X1_of hst hs (by decide)  hq9)) (by decide) (Nat.le_of_ble_eq_true rfl) (Or.inl rfl) ?_
      show Ev g _ _ _ _ _ _ 43 [some (x_r (16 * 1 + 0)), some (x_i a)] [x_i v9, x_i a, x_i 0, x_r (16 * 3 + 0)] (al, ro, fl (ml (x_ac M A7) [1, 3] [X6, N])) _ _ _ _
      refine e_bipush (pc := 43) dX11_cross_43 (by decide +kernel) (x_R rfl) ?_
      refine e_iadd (pc := 45) dX11_cross_45 ?_
      refine e_bipush (pc := 46) dX11_cross_46 (by decide +kernel) (x_R rfl) ?_
      refine e_irem (pc := 48) dX11_cross_48 (by decide) ?_
      obtain ⟨N11, hq11, hG⟩ := x_bd1 hG
      refine e_invV (pc := 49) (K1 := 0) (S1 := 0) (K := 1) (S := 6) (dd2 := 0) (av := [x_i 0, x_i a, x_i (x_rem (x_add v9 8) 16)]) (st := []) (id := 16 * 3 + 0) dX11_cross_49 xmX11_177 rfl (Or.inl ⟨1, 12, TX1, (sa_3_0 hs), rfl, by decide⟩) (f_cal (M := (x_ac M A7)) (us2 := [3]) [1] hn rfl (And.intro rfl trivial) rfl rfl rfl (c_X1_put hst hs (by decide)  hq11)) (by decide) (Nat.le_of_ble_eq_true rfl) (Or.inl rfl) ?_
      show Ev g _ _ _ _ _ _ 52 [some (x_r (16 * 1 + 0)), some (x_i a)] [] (al, ro, fl (ml (x_ac M A7) [1, 3] [X6, N11])) _ _ _ _
      refine e_aloadn (pc := 52) (i := 0) dX11_cross_52 rfl rfl ?_
      refine f_getr (pc := 53) (u := 1) (q := 0) dX11_cross_53 xf11_19 (sa_1_0 hs) rfl (sr_1_0_1 hs) ?_
      refine e_iconst (pc := 56) dX11_cross_56 (x_R rfl) ?_
      refine e_iloadn (pc := 57) (i := 1) dX11_cross_57 rfl rfl ?_
      refine e_aloadn (pc := 58) (i := 0) dX11_cross_58 rfl rfl ?_
      refine f_getr (pc := 59) (u := 1) (q := 0) dX11_cross_59 xf11_19 (sa_1_0 hs) rfl (sr_1_0_1 hs) ?_
      refine f_geti (pc := 62) (k := 1) (u := 3) (q := 0) dX11_cross_62 xf11_181 (sa_3_0 hs) rfl hn rfl rfl (by decide) ?_
      show Ev g _ _ _ _ _ _ 65 [some (x_r (16 * 1 + 0)), some (x_i a)] [x_i (N11 0 10), x_i a, x_i 4, x_r (16 * 3 + 0)] (al, ro, fl (ml (x_ac M A7) [1, 3] [X6, N11])) _ _ _ _
      obtain ⟨N13, hq13, hG⟩ := x_bd1 hG
      refine e_invV (pc := 65) (K1 := 0) (S1 := 0) (K := 1) (S := 6) (dd2 := 0) (av := [x_i 4, x_i a, x_i (N11 0 10)]) (st := []) (id := 16 * 3 + 0) dX11_cross_65 xmX11_177 rfl (Or.inl ⟨1, 12, TX1, (sa_3_0 hs), rfl, by decide⟩) (f_cal (M := (x_ac M A7)) (us2 := [3]) [1] hn rfl (And.intro rfl trivial) rfl rfl rfl (c_X1_put hst hs (by decide)  hq13)) (by decide) (Nat.le_of_ble_eq_true rfl) (Or.inl rfl) ?_
      show Ev g _ _ _ _ _ _ 68 [some (x_r (16 * 1 + 0)), some (x_i a)] [] (al, ro, fl (ml (x_ac M A7) [1, 3] [X6, N13])) _ _ _ _
      refine e_aloadn (pc := 68) (i := 0) dX11_cross_68 rfl rfl ?_
      refine f_getr (pc := 69) (u := 1) (q := 0) dX11_cross_69 xf11_19 (sa_1_0 hs) rfl (sr_1_0_1 hs) ?_
      refine e_iconst (pc := 72) dX11_cross_72 (x_R rfl) ?_
      refine e_iloadn (pc := 73) (i := 1) dX11_cross_73 rfl rfl ?_
      obtain ⟨v15, hq15, hG⟩ := x_bd1 hG
      refine e_invV (pc := 74) (K1 := 0) (S1 := 0) (K := 1) (S := 6) (dd2 := 0) (av := [x_i 0, x_i a]) (st := []) (id := 16 * 3 + 0) dX11_cross_74 xmX11_138 rfl (Or.inl ⟨1, 12, TX1, (sa_3_0 hs), rfl, by decide⟩) (f_cal (M := (x_ac M A7)) (us2 := [3]) [1] hn rfl (And.intro rfl trivial) rfl rfl rfl (c_X1_of hst hs (by decide)  hq15)) (by decide) (Nat.le_of_ble_eq_true rfl) (Or.inl rfl) ?_
      show Ev g _ _ _ _ _ _ 77 [some (x_r (16 * 1 + 0)), some (x_i a)] [x_i v15] (al, ro, fl (ml (x_ac M A7) [1, 3] [X6, N13])) _ _ _ _
      cases hG
      exact (e_wide (K0 := 0) (S0 := 0) (by decide) (by decide) (e_ireturn rfl dX11_cross_77 rfl))
    · rw [if_neg hb] at hG
      cases hG
      exact (e_throw (pc := 16) xt_2 dX11_cross_16 dX11_cross_19 dX11_cross_20 dX11_cross_23 (Nat.le_of_ble_eq_true rfl) (fun _ q => absurd q List.not_mem_nil))
set_option maxRecDepth 100000 in
set_option maxHeartbeats 4000000 in
theorem c_X11_bell {g : xG} {al : List (Nat × Nat × Nat)} {ro : Nat → Nat → Option Nat} (hst : g.1.stackTraces = false) (hs : SH al ro) {M : Nat → xU} {a : Int} {X : xU} {N : xU} {A : xA}  {t : ((Int ⊕ Nat) × xU × xU × xA)} (hG : G11_bell a X N A = some t) :
    Cal g yX11_bell cX11_bell 3 (some .int) 4 [x_r (16 * 1 + 0), x_i a] (al, ro, fl (ml (x_ac M A) [1, 3] [X, N])) 1 6 (x_oi t.1) (al, ro, fl (ml (x_ac M t.2.2.2) [1, 3] [t.2.1, t.2.2.1])) := by
  have hn : ([1, 3] : List Nat).Nodup := by decide
  refine cal_of_ev (plainFor_of_name (by decide)) (x_c1 rfl) (Nat.le_of_ble_eq_true rfl) hst ?_
  show Ev g _ _ _ _ _ _ 0 [some (x_r (16 * 1 + 0)), some (x_i a), none] [] (al, ro, fl (ml (x_ac M A) [1, 3] [X, N])) _ _ _ _
  rw [G11_bell] at hG
  refine e_iloadn (pc := 0) (i := 1) dX11_bell_0 rfl rfl ?_
  obtain ⟨o1, hq1, hG⟩ := x_bd1 hG
  cases o1 with
  | some E3 =>
    replace hG := x_tv_s hG
    cases hG
    exact (e_invSX (pc := 1) (dd2 := 0) (av := [x_i a]) (st := []) dX11_bell_1 xmX11_152 rfl (f_cal (M := (x_ac M A)) (us2 := []) [] hn rfl trivial rfl rfl rfl (c_X11_needFlag hst hs   hq1)) (by decide) (Nat.le_of_ble_eq_true rfl) (fun _ q => absurd q List.not_mem_nil))
  | none =>
    replace hG := x_tv_n hG
    refine e_invS (pc := 1) (K1 := 1) (S1 := 6) (K := 0) (S := 0) (dd2 := 0) (av := [x_i a]) (st := []) dX11_bell_1 xmX11_152 rfl (f_cal (M := (x_ac M A)) (us2 := []) [] hn rfl trivial rfl rfl rfl (c_X11_needFlag hst hs   hq1)) (by decide) (Nat.le_of_ble_eq_true rfl) (Or.inl rfl) ?_
    show Ev g _ _ _ _ _ _ 4 [some (x_r (16 * 1 + 0)), some (x_i a), none] [] (al, ro, fl (ml (x_ac M A) [1, 3] [X, N])) _ _ _ _
    refine e_aloadn (pc := 4) (i := 0) dX11_bell_4 rfl rfl ?_
    obtain ⟨X4, A5, hq5, hG⟩ := x_bd2 hG
    refine e_invV (pc := 5) (K1 := 0) (S1 := 0) (K := 0) (S := 0) (dd2 := 3) (av := []) (st := []) (id := 16 * 1 + 0) dX11_bell_5 xmX11_158 rfl (Or.inl ⟨9, 17, TX11, (sa_1_0 hs), rfl, by decide⟩) (f_calA (us2 := [1, 3]) [0, 1] hn rfl (And.intro rfl (And.intro rfl trivial)) rfl rfl rfl rfl (c_X11_remember hst hs   hq5)) (by decide) (Nat.le_of_ble_eq_true rfl) (Or.inl rfl) ?_
    show Ev g _ _ _ _ _ _ 8 [some (x_r (16 * 1 + 0)), some (x_i a), none] [] (al, ro, fl (ml (x_ac M A5) [1, 3] [X4, N])) _ _ _ _
    refine e_aloadn (pc := 8) (i := 0) dX11_bell_8 rfl rfl ?_
    refine f_getr (pc := 9) (u := 1) (q := 0) dX11_bell_9 xf11_19 (sa_1_0 hs) rfl (sr_1_0_1 hs) ?_
    refine f_geti (pc := 12) (k := 1) (u := 3) (q := 0) dX11_bell_12 xf11_184 (sa_3_0 hs) rfl hn rfl rfl (by decide) ?_
    show Ev g _ _ _ _ _ _ 15 [some (x_r (16 * 1 + 0)), some (x_i a), none] [x_i (N 0 7)] (al, ro, fl (ml (x_ac M A5) [1, 3] [X4, N])) _ _ _ _
    refine e_istoren (pc := 15) (i := 2) dX11_bell_15 rfl (by decide) rfl ?_
    show Ev g _ _ _ _ _ _ 16 [some (x_r (16 * 1 + 0)), some (x_i a), some (x_i (N 0 7))] [] (al, ro, fl (ml (x_ac M A5) [1, 3] [X4, N])) _ _ _ _
    refine e_aloadn (pc := 16) (i := 0) dX11_bell_16 rfl rfl ?_
    refine f_getr (pc := 17) (u := 1) (q := 0) dX11_bell_17 xf11_19 (sa_1_0 hs) rfl (sr_1_0_1 hs) ?_
    refine e_iloadn (pc := 20) (i := 1) dX11_bell_20 rfl rfl ?_
    refine f_puti (pc := 21) (k := 1) (u := 3) (q := 0) dX11_bell_21 xf11_184 xw1_7 (sa_3_0 hs) hn rfl rfl rfl (by decide) ?_
    show Ev g _ _ _ _ _ _ 24 [some (x_r (16 * 1 + 0)), some (x_i a), some (x_i (N 0 7))] [] (al, ro, fl (ml (x_ac M A5) [1, 3] [X4, (x_up N 0 7 a)])) _ _ _ _
    refine e_iloadn (pc := 24) (i := 2) dX11_bell_24 rfl rfl ?_
    cases hG
    exact (e_ireturn rfl dX11_bell_25 rfl)
set_option maxRecDepth 100000 in
set_option maxHeartbeats 4000000 in
theorem c_X11_needWithin {g : xG} {al : List (Nat × Nat × Nat)} {ro : Nat → Nat → Option Nat} (hst : g.1.stackTraces = false) (hs : SH al ro) {M : Nat → xU} {a : Int} {b : Int}  {t : (Option Nat)} (hG : G11_needWithin a b = some t) :
    Cal g yX11_needWithin cX11_needWithin 2 none 0 [x_i a, x_i b] (al, ro, fl (ml M [] [])) 1 6 (x_ov t) (al, ro, fl (ml M [] [])) := by
  have hn : ([] : List Nat).Nodup := by decide
  refine cal_of_ev (plainFor_of_name (by decide)) (x_c1 rfl) (Nat.le_of_ble_eq_true rfl) hst ?_
  show Ev g _ _ _ _ _ _ 0 [some (x_i a), some (x_i b)] [] (al, ro, fl (ml M [] [])) _ _ _ _
  rw [G11_needWithin] at hG
  refine e_iloadn (pc := 0) (i := 0) dX11_needWithin_0 rfl rfl ?_
  refine e_if_lt (pc := 1) (tgt := 9) dX11_needWithin_1 (by decide) (fun hb => ?_) (fun hb => ?_)
  · rw [if_pos hb] at hG
    cases hG
    exact (e_throw (pc := 9) xt_0 dX11_needWithin_9 dX11_needWithin_12 dX11_needWithin_13 dX11_needWithin_16 (Nat.le_of_ble_eq_true rfl) (fun _ q => absurd q List.not_mem_nil))
  · rw [if_neg hb] at hG
    refine e_iloadn (pc := 4) (i := 0) dX11_needWithin_4 rfl rfl ?_
    refine e_iloadn (pc := 5) (i := 1) dX11_needWithin_5 rfl rfl ?_
    refine e_icmp_le (pc := 6) (tgt := 17) dX11_needWithin_6 (by decide) (fun hb => ?_) (fun hb => ?_)
    · rw [if_pos hb] at hG
      cases hG
      exact (e_wide (K0 := 0) (S0 := 0) (by decide) (by decide) (e_return rfl dX11_needWithin_17))
    · rw [if_neg hb] at hG
      cases hG
      exact (e_throw (pc := 9) xt_0 dX11_needWithin_9 dX11_needWithin_12 dX11_needWithin_13 dX11_needWithin_16 (Nat.le_of_ble_eq_true rfl) (fun _ q => absurd q List.not_mem_nil))
set_option maxRecDepth 100000 in
set_option maxHeartbeats 4000000 in
theorem c_X11_mood {g : xG} {al : List (Nat × Nat × Nat)} {ro : Nat → Nat → Option Nat} (hst : g.1.stackTraces = false) (hs : SH al ro) {M : Nat → xU} {a : Int} {X : xU} {N : xU} {A : xA}  {t : ((Int ⊕ Nat) × xU × xU × xA)} (hG : G11_mood a X N A = some t) :
    Cal g yX11_mood cX11_mood 3 (some .int) 4 [x_r (16 * 1 + 0), x_i a] (al, ro, fl (ml (x_ac M A) [1, 3] [X, N])) 1 6 (x_oi t.1) (al, ro, fl (ml (x_ac M t.2.2.2) [1, 3] [t.2.1, t.2.2.1])) := by
  have hn : ([1, 3] : List Nat).Nodup := by decide
  refine cal_of_ev (plainFor_of_name (by decide)) (x_c1 rfl) (Nat.le_of_ble_eq_true rfl) hst ?_
  show Ev g _ _ _ _ _ _ 0 [some (x_r (16 * 1 + 0)), some (x_i a), none] [] (al, ro, fl (ml (x_ac M A) [1, 3] [X, N])) _ _ _ _
  rw [G11_mood] at hG
  refine e_iloadn (pc := 0) (i := 1) dX11_mood_0 rfl rfl ?_
  refine e_iconst (pc := 1) dX11_mood_1 (x_R rfl) ?_
  obtain ⟨o1, hq1, hG⟩ := x_bd1 hG
  cases o1 with
  | some E3 =>
    replace hG := x_tv_s hG
    cases hG
    exact (e_invSX (pc := 2) (dd2 := 0) (av := [x_i a, x_i 4]) (st := []) dX11_mood_2 xmX11_187 rfl (f_cal (M := (x_ac M A)) (us2 := []) [] hn rfl trivial rfl rfl rfl (c_X11_needWithin hst hs   hq1)) (by decide) (Nat.le_of_ble_eq_true rfl) (fun _ q => absurd q List.not_mem_nil))
  | none =>
    replace hG := x_tv_n hG
    refine e_invS (pc := 2) (K1 := 1) (S1 := 6) (K := 0) (S := 0) (dd2 := 0) (av := [x_i a, x_i 4]) (st := []) dX11_mood_2 xmX11_187 rfl (f_cal (M := (x_ac M A)) (us2 := []) [] hn rfl trivial rfl rfl rfl (c_X11_needWithin hst hs   hq1)) (by decide) (Nat.le_of_ble_eq_true rfl) (Or.inl rfl) ?_
    show Ev g _ _ _ _ _ _ 5 [some (x_r (16 * 1 + 0)), some (x_i a), none] [] (al, ro, fl (ml (x_ac M A) [1, 3] [X, N])) _ _ _ _
    refine e_aloadn (pc := 5) (i := 0) dX11_mood_5 rfl rfl ?_
    obtain ⟨X4, A5, hq5, hG⟩ := x_bd2 hG
    refine e_invV (pc := 6) (K1 := 0) (S1 := 0) (K := 0) (S := 0) (dd2 := 3) (av := []) (st := []) (id := 16 * 1 + 0) dX11_mood_6 xmX11_158 rfl (Or.inl ⟨9, 17, TX11, (sa_1_0 hs), rfl, by decide⟩) (f_calA (us2 := [1, 3]) [0, 1] hn rfl (And.intro rfl (And.intro rfl trivial)) rfl rfl rfl rfl (c_X11_remember hst hs   hq5)) (by decide) (Nat.le_of_ble_eq_true rfl) (Or.inl rfl) ?_
    show Ev g _ _ _ _ _ _ 9 [some (x_r (16 * 1 + 0)), some (x_i a), none] [] (al, ro, fl (ml (x_ac M A5) [1, 3] [X4, N])) _ _ _ _
    refine e_aloadn (pc := 9) (i := 0) dX11_mood_9 rfl rfl ?_
    refine f_getr (pc := 10) (u := 1) (q := 0) dX11_mood_10 xf11_19 (sa_1_0 hs) rfl (sr_1_0_1 hs) ?_
    refine f_geti (pc := 13) (k := 1) (u := 3) (q := 0) dX11_mood_13 xf11_191 (sa_3_0 hs) rfl hn rfl rfl (by decide) ?_
    show Ev g _ _ _ _ _ _ 16 [some (x_r (16 * 1 + 0)), some (x_i a), none] [x_i (N 0 8)] (al, ro, fl (ml (x_ac M A5) [1, 3] [X4, N])) _ _ _ _
    refine e_istoren (pc := 16) (i := 2) dX11_mood_16 rfl (by decide) rfl ?_
    show Ev g _ _ _ _ _ _ 17 [some (x_r (16 * 1 + 0)), some (x_i a), some (x_i (N 0 8))] [] (al, ro, fl (ml (x_ac M A5) [1, 3] [X4, N])) _ _ _ _
    refine e_aloadn (pc := 17) (i := 0) dX11_mood_17 rfl rfl ?_
    refine f_getr (pc := 18) (u := 1) (q := 0) dX11_mood_18 xf11_19 (sa_1_0 hs) rfl (sr_1_0_1 hs) ?_
    refine e_iloadn (pc := 21) (i := 1) dX11_mood_21 rfl rfl ?_
    refine f_puti (pc := 22) (k := 1) (u := 3) (q := 0) dX11_mood_22 xf11_191 xw1_8 (sa_3_0 hs) hn rfl rfl rfl (by decide) ?_
    show Ev g _ _ _ _ _ _ 25 [some (x_r (16 * 1 + 0)), some (x_i a), some (x_i (N 0 8))] [] (al, ro, fl (ml (x_ac M A5) [1, 3] [X4, (x_up N 0 8 a)])) _ _ _ _
    refine e_iloadn (pc := 25) (i := 2) dX11_mood_25 rfl rfl ?_
    cases hG
    exact (e_ireturn rfl dX11_mood_26 rfl)
set_option maxRecDepth 100000 in
set_option maxHeartbeats 4000000 in
theorem c_X11_needTwo {g : xG} {al : List (Nat × Nat × Nat)} {ro : Nat → Nat → Option Nat} (hst : g.1.stackTraces = false) (hs : SH al ro) {M : Nat → xU} {a : Int} {b : Int} {N : xU}  {t : (Option Nat)} (hG : G11_needTwo a b N = some t) :
    Cal g yX11_needTwo cX11_needTwo 3 none 1 [x_r (16 * 1 + 0), x_i a, x_i b] (al, ro, fl (ml M [3] [N])) 3 18 (x_ov t) (al, ro, fl (ml M [3] [N])) := by
  have hn : ([3] : List Nat).Nodup := by decide
  refine cal_of_ev (plainFor_of_name (by decide)) (x_c1 rfl) (Nat.le_of_ble_eq_true rfl) hst ?_
  show Ev g _ _ _ _ _ _ 0 [some (x_r (16 * 1 + 0)), some (x_i a), some (x_i b)] [] (al, ro, fl (ml M [3] [N])) _ _ _ _
  rw [G11_needTwo] at hG
  refine e_aloadn (pc := 0) (i := 0) dX11_needTwo_0 rfl rfl ?_
  refine e_iloadn (pc := 1) (i := 1) dX11_needTwo_1 rfl rfl ?_
  obtain ⟨o1, hq1, hG⟩ := x_bd1 hG
  cases o1 with
  | some E3 =>
    replace hG := x_tv_s hG
    cases hG
    exact (e_wide (K0 := 1) (S0 := 6) (by decide) (by decide) (e_invVX (pc := 2) (dd2 := 0) (av := [x_i a]) (st := []) (id := 16 * 1 + 0) dX11_needTwo_2 xmX11_128 rfl (Or.inl ⟨9, 17, TX11, (sa_1_0 hs), rfl, by decide⟩) (f_cal (M := M) (us2 := [3]) [0] hn rfl (And.intro rfl trivial) rfl rfl rfl (c_X11_needMonk hst hs   hq1)) (by decide) (Nat.le_of_ble_eq_true rfl) (fun _ q => absurd q List.not_mem_nil)))
  | none =>
    replace hG := x_tv_n hG
    refine e_invV (pc := 2) (K1 := 1) (S1 := 6) (K := 2) (S := 12) (dd2 := 0) (av := [x_i a]) (st := []) (id := 16 * 1 + 0) dX11_needTwo_2 xmX11_128 rfl (Or.inl ⟨9, 17, TX11, (sa_1_0 hs), rfl, by decide⟩) (f_cal (M := M) (us2 := [3]) [0] hn rfl (And.intro rfl trivial) rfl rfl rfl (c_X11_needMonk hst hs   hq1)) (by decide) (Nat.le_of_ble_eq_true rfl) (Or.inl rfl) ?_
    show Ev g _ _ _ _ _ _ 5 [some (x_r (16 * 1 + 0)), some (x_i a), some (x_i b)] [] (al, ro, fl (ml M [3] [N])) _ _ _ _
    refine e_aloadn (pc := 5) (i := 0) dX11_needTwo_5 rfl rfl ?_
    refine e_iloadn (pc := 6) (i := 2) dX11_needTwo_6 rfl rfl ?_
    obtain ⟨o4, hq4, hG⟩ := x_bd1 hG
    cases o4 with
    | some E6 =>
      replace hG := x_tv_s hG
      cases hG
      exact (e_wide (K0 := 1) (S0 := 6) (by decide) (by decide) (e_invVX (pc := 7) (dd2 := 0) (av := [x_i b]) (st := []) (id := 16 * 1 + 0) dX11_needTwo_7 xmX11_128 rfl (Or.inl ⟨9, 17, TX11, (sa_1_0 hs), rfl, by decide⟩) (f_cal (M := M) (us2 := [3]) [0] hn rfl (And.intro rfl trivial) rfl rfl rfl (c_X11_needMonk hst hs   hq4)) (by decide) (Nat.le_of_ble_eq_true rfl) (fun _ q => absurd q List.not_mem_nil)))
    | none =>
      replace hG := x_tv_n hG
      refine e_invV (pc := 7) (K1 := 1) (S1 := 6) (K := 1) (S := 6) (dd2 := 0) (av := [x_i b]) (st := []) (id := 16 * 1 + 0) dX11_needTwo_7 xmX11_128 rfl (Or.inl ⟨9, 17, TX11, (sa_1_0 hs), rfl, by decide⟩) (f_cal (M := M) (us2 := [3]) [0] hn rfl (And.intro rfl trivial) rfl rfl rfl (c_X11_needMonk hst hs   hq4)) (by decide) (Nat.le_of_ble_eq_true rfl) (Or.inl rfl) ?_
      show Ev g _ _ _ _ _ _ 10 [some (x_r (16 * 1 + 0)), some (x_i a), some (x_i b)] [] (al, ro, fl (ml M [3] [N])) _ _ _ _
      refine e_iloadn (pc := 10) (i := 1) dX11_needTwo_10 rfl rfl ?_
      refine e_iloadn (pc := 11) (i := 2) dX11_needTwo_11 rfl rfl ?_
      refine e_icmp_ne (pc := 12) (tgt := 23) dX11_needTwo_12 (by decide) (fun hb => ?_) (fun hb => ?_)
      · rw [if_neg hb] at hG
        cases hG
        exact (e_wide (K0 := 0) (S0 := 0) (by decide) (by decide) (e_return rfl dX11_needTwo_23))
      · rw [if_pos hb] at hG
        cases hG
        exact (e_throw (pc := 15) xt_0 dX11_needTwo_15 dX11_needTwo_18 dX11_needTwo_19 dX11_needTwo_22 (Nat.le_of_ble_eq_true rfl) (fun _ q => absurd q List.not_mem_nil))
set_option maxRecDepth 100000 in
set_option maxHeartbeats 4000000 in
theorem c_X11_change {g : xG} {al : List (Nat × Nat × Nat)} {ro : Nat → Nat → Option Nat} (hst : g.1.stackTraces = false) (hs : SH al ro) {M : Nat → xU} {a : Int} {b : Int} {X : xU} {N : xU} {A : xA}  {t : ((Int ⊕ Nat) × xU × xU × xA)} (hG : G11_change a b X N A = some t) :
    Cal g yX11_change cX11_change 4 (some .int) 4 [x_r (16 * 1 + 0), x_i a, x_i b] (al, ro, fl (ml (x_ac M A) [1, 3] [X, N])) 3 18 (x_oi t.1) (al, ro, fl (ml (x_ac M t.2.2.2) [1, 3] [t.2.1, t.2.2.1])) := by
  have hn : ([1, 3] : List Nat).Nodup := by decide
  refine cal_of_ev (plainFor_of_name (by decide)) (x_c1 rfl) (Nat.le_of_ble_eq_true rfl) hst ?_
  show Ev g _ _ _ _ _ _ 0 [some (x_r (16 * 1 + 0)), some (x_i a), some (x_i b), none] [] (al, ro, fl (ml (x_ac M A) [1, 3] [X, N])) _ _ _ _
  rw [G11_change] at hG
  refine e_aloadn (pc := 0) (i := 0) dX11_change_0 rfl rfl ?_
  refine e_iloadn (pc := 1) (i := 1) dX11_change_1 rfl rfl ?_
  refine e_iloadn (pc := 2) (i := 2) dX11_change_2 rfl rfl ?_
  obtain ⟨o1, hq1, hG⟩ := x_bd1 hG
  cases o1 with
  | some E3 =>
    replace hG := x_tv_s hG
    cases hG
    exact (e_invVX (pc := 3) (dd2 := 1) (av := [x_i a, x_i b]) (st := []) (id := 16 * 1 + 0) dX11_change_3 xmX11_194 rfl (Or.inl ⟨9, 17, TX11, (sa_1_0 hs), rfl, by decide⟩) (f_cal (M := (x_ac M A)) (us2 := [3]) [1] hn rfl (And.intro rfl trivial) rfl rfl rfl (c_X11_needTwo hst hs   hq1)) (by decide) (Nat.le_of_ble_eq_true rfl) (fun _ q => absurd q List.not_mem_nil))
  | none =>
    replace hG := x_tv_n hG
    refine e_invV (pc := 3) (K1 := 3) (S1 := 18) (K := 0) (S := 0) (dd2 := 1) (av := [x_i a, x_i b]) (st := []) (id := 16 * 1 + 0) dX11_change_3 xmX11_194 rfl (Or.inl ⟨9, 17, TX11, (sa_1_0 hs), rfl, by decide⟩) (f_cal (M := (x_ac M A)) (us2 := [3]) [1] hn rfl (And.intro rfl trivial) rfl rfl rfl (c_X11_needTwo hst hs   hq1)) (by decide) (Nat.le_of_ble_eq_true rfl) (Or.inl rfl) ?_
    show Ev g _ _ _ _ _ _ 6 [some (x_r (16 * 1 + 0)), some (x_i a), some (x_i b), none] [] (al, ro, fl (ml (x_ac M A) [1, 3] [X, N])) _ _ _ _
    refine e_aloadn (pc := 6) (i := 0) dX11_change_6 rfl rfl ?_
    obtain ⟨X4, A5, hq5, hG⟩ := x_bd2 hG
    refine e_invV (pc := 7) (K1 := 0) (S1 := 0) (K := 0) (S := 0) (dd2 := 3) (av := []) (st := []) (id := 16 * 1 + 0) dX11_change_7 xmX11_158 rfl (Or.inl ⟨9, 17, TX11, (sa_1_0 hs), rfl, by decide⟩) (f_calA (us2 := [1, 3]) [0, 1] hn rfl (And.intro rfl (And.intro rfl trivial)) rfl rfl rfl rfl (c_X11_remember hst hs   hq5)) (by decide) (Nat.le_of_ble_eq_true rfl) (Or.inl rfl) ?_
    show Ev g _ _ _ _ _ _ 10 [some (x_r (16 * 1 + 0)), some (x_i a), some (x_i b), none] [] (al, ro, fl (ml (x_ac M A5) [1, 3] [X4, N])) _ _ _ _
    refine e_aloadn (pc := 10) (i := 0) dX11_change_10 rfl rfl ?_
    refine f_getr (pc := 11) (u := 1) (q := 0) dX11_change_11 xf11_19 (sa_1_0 hs) rfl (sr_1_0_1 hs) ?_
    refine e_iconst (pc := 14) dX11_change_14 (x_R rfl) ?_
    refine e_iloadn (pc := 15) (i := 1) dX11_change_15 rfl rfl ?_
    obtain ⟨v7, hq7, hG⟩ := x_bd1 hG
    refine e_invV (pc := 16) (K1 := 0) (S1 := 0) (K := 0) (S := 0) (dd2 := 0) (av := [x_i 2, x_i a]) (st := []) (id := 16 * 3 + 0) dX11_change_16 xmX11_138 rfl (Or.inl ⟨1, 12, TX1, (sa_3_0 hs), rfl, by decide⟩) (f_cal (M := (x_ac M A5)) (us2 := [3]) [1] hn rfl (And.intro rfl trivial) rfl rfl rfl (c_X1_of hst hs (by decide)  hq7)) (by decide) (Nat.le_of_ble_eq_true rfl) (Or.inl rfl) ?_
    show Ev g _ _ _ _ _ _ 19 [some (x_r (16 * 1 + 0)), some (x_i a), some (x_i b), none] [x_i v7] (al, ro, fl (ml (x_ac M A5) [1, 3] [X4, N])) _ _ _ _
    refine e_istoren (pc := 19) (i := 3) dX11_change_19 rfl (by decide) rfl ?_
    show Ev g _ _ _ _ _ _ 20 [some (x_r (16 * 1 + 0)), some (x_i a), some (x_i b), some (x_i v7)] [] (al, ro, fl (ml (x_ac M A5) [1, 3] [X4, N])) _ _ _ _
    refine e_aloadn (pc := 20) (i := 0) dX11_change_20 rfl rfl ?_
    refine f_getr (pc := 21) (u := 1) (q := 0) dX11_change_21 xf11_19 (sa_1_0 hs) rfl (sr_1_0_1 hs) ?_
    refine e_iconst (pc := 24) dX11_change_24 (x_R rfl) ?_
    refine e_iloadn (pc := 25) (i := 1) dX11_change_25 rfl rfl ?_
    refine e_aloadn (pc := 26) (i := 0) dX11_change_26 rfl rfl ?_
    refine f_getr (pc := 27) (u := 1) (q := 0) dX11_change_27 xf11_19 (sa_1_0 hs) rfl (sr_1_0_1 hs) ?_
    refine e_iconst (pc := 30) dX11_change_30 (x_R rfl) ?_
    refine e_iloadn (pc := 31) (i := 2) dX11_change_31 rfl rfl ?_
    obtain ⟨v9, hq9, hG⟩ := x_bd1 hG
    refine e_invV (pc := 32) (K1 := 0) (S1 := 0) (K := 0) (S := 0) (dd2 := 0) (av := [x_i 2, x_i b]) (st := [x_i a, x_i 2, x_r (16 * 3 + 0)]) (id := 16 * 3 + 0) dX11_change_32 xmX11_138 rfl (Or.inl ⟨1, 12, TX1, (sa_3_0 hs), rfl, by decide⟩) (f_cal (M := (x_ac M A5)) (us2 := [3]) [1] hn rfl (And.intro rfl trivial) rfl rfl rfl (c_X1_of hst hs (by decide)  hq9)) (by decide) (Nat.le_of_ble_eq_true rfl) (Or.inl rfl) ?_
    show Ev g _ _ _ _ _ _ 35 [some (x_r (16 * 1 + 0)), some (x_i a), some (x_i b), some (x_i v7)] [x_i v9, x_i a, x_i 2, x_r (16 * 3 + 0)] (al, ro, fl (ml (x_ac M A5) [1, 3] [X4, N])) _ _ _ _
    obtain ⟨N11, hq11, hG⟩ := x_bd1 hG
    refine e_invV (pc := 35) (K1 := 0) (S1 := 0) (K := 0) (S := 0) (dd2 := 0) (av := [x_i 2, x_i a, x_i v9]) (st := []) (id := 16 * 3 + 0) dX11_change_35 xmX11_177 rfl (Or.inl ⟨1, 12, TX1, (sa_3_0 hs), rfl, by decide⟩) (f_cal (M := (x_ac M A5)) (us2 := [3]) [1] hn rfl (And.intro rfl trivial) rfl rfl rfl (c_X1_put hst hs (by decide)  hq11)) (by decide) (Nat.le_of_ble_eq_true rfl) (Or.inl rfl) ?_
    show Ev g _ _ _ _ _ _ 38 [some (x_r (16 * 1 + 0)), some (x_i a), some (x_i b), some (x_i v7)] [] (al, ro, fl (ml (x_ac M A5) [1, 3] [X4, N11])) _ _ _ _
    refine e_aloadn (pc := 38) (i := 0) dX11_change_38 rfl rfl ?_
    refine f_getr (pc := 39) (u := 1) (q := 0) dX11_change_39 xf11_19 (sa_1_0 hs) rfl (sr_1_0_1 hs) ?_
    refine e_iconst (pc := 42) dX11_change_42 (x_R rfl) ?_
    refine e_iloadn (pc := 43) (i := 2) dX11_change_43 rfl rfl ?_
    refine e_iloadn (pc := 44) (i := 3) dX11_change_44 rfl rfl ?_
    obtain ⟨N13, hq13, hG⟩ := x_bd1 hG
    refine e_invV (pc := 45) (K1 := 0) (S1 := 0) (K := 0) (S := 0) (dd2 := 0) (av := [x_i 2, x_i b, x_i v7]) (st := []) (id := 16 * 3 + 0) dX11_change_45 xmX11_177 rfl (Or.inl ⟨1, 12, TX1, (sa_3_0 hs), rfl, by decide⟩) (f_cal (M := (x_ac M A5)) (us2 := [3]) [1] hn rfl (And.intro rfl trivial) rfl rfl rfl (c_X1_put hst hs (by decide)  hq13)) (by decide) (Nat.le_of_ble_eq_true rfl) (Or.inl rfl) ?_
    show Ev g _ _ _ _ _ _ 48 [some (x_r (16 * 1 + 0)), some (x_i a), some (x_i b), some (x_i v7)] [] (al, ro, fl (ml (x_ac M A5) [1, 3] [X4, N13])) _ _ _ _
    refine e_aloadn (pc := 48) (i := 0) dX11_change_48 rfl rfl ?_
    refine f_getr (pc := 49) (u := 1) (q := 0) dX11_change_49 xf11_19 (sa_1_0 hs) rfl (sr_1_0_1 hs) ?_
    refine e_iconst (pc := 52) dX11_change_52 (x_R rfl) ?_
    refine e_iloadn (pc := 53) (i := 1) dX11_change_53 rfl rfl ?_
    obtain ⟨v15, hq15, hG⟩ := x_bd1 hG
    refine e_invV (pc := 54) (K1 := 0) (S1 := 0) (K := 0) (S := 0) (dd2 := 0) (av := [x_i 2, x_i a]) (st := []) (id := 16 * 3 + 0) dX11_change_54 xmX11_138 rfl (Or.inl ⟨1, 12, TX1, (sa_3_0 hs), rfl, by decide⟩) (f_cal (M := (x_ac M A5)) (us2 := [3]) [1] hn rfl (And.intro rfl trivial) rfl rfl rfl (c_X1_of hst hs (by decide)  hq15)) (by decide) (Nat.le_of_ble_eq_true rfl) (Or.inl rfl) ?_
    show Ev g _ _ _ _ _ _ 57 [some (x_r (16 * 1 + 0)), some (x_i a), some (x_i b), some (x_i v7)] [x_i v15] (al, ro, fl (ml (x_ac M A5) [1, 3] [X4, N13])) _ _ _ _
    cases hG
    exact (e_ireturn rfl dX11_change_57 rfl)
set_option maxRecDepth 100000 in
set_option maxHeartbeats 4000000 in
theorem c_X11_pace {g : xG} {al : List (Nat × Nat × Nat)} {ro : Nat → Nat → Option Nat} (hst : g.1.stackTraces = false) (hs : SH al ro) {M : Nat → xU} {a : Int} {b : Int} {X : xU} {N : xU} {A : xA}  {t : ((Int ⊕ Nat) × xU × xU × xA)} (hG : G11_pace a b X N A = some t) :
    Cal g yX11_pace cX11_pace 4 (some .int) 4 [x_r (16 * 1 + 0), x_i a, x_i b] (al, ro, fl (ml (x_ac M A) [1, 3] [X, N])) 2 12 (x_oi t.1) (al, ro, fl (ml (x_ac M t.2.2.2) [1, 3] [t.2.1, t.2.2.1])) := by
  have hn : ([1, 3] : List Nat).Nodup := by decide
  refine cal_of_ev (plainFor_of_name (by decide)) (x_c1 rfl) (Nat.le_of_ble_eq_true rfl) hst ?_
  show Ev g _ _ _ _ _ _ 0 [some (x_r (16 * 1 + 0)), some (x_i a), some (x_i b), none] [] (al, ro, fl (ml (x_ac M A) [1, 3] [X, N])) _ _ _ _
  rw [G11_pace] at hG
  refine e_aloadn (pc := 0) (i := 0) dX11_pace_0 rfl rfl ?_
  refine e_iloadn (pc := 1) (i := 1) dX11_pace_1 rfl rfl ?_
  obtain ⟨o1, hq1, hG⟩ := x_bd1 hG
  cases o1 with
  | some E3 =>
    replace hG := x_tv_s hG
    cases hG
    exact (e_wide (K0 := 1) (S0 := 6) (by decide) (by decide) (e_invVX (pc := 2) (dd2 := 0) (av := [x_i a]) (st := []) (id := 16 * 1 + 0) dX11_pace_2 xmX11_128 rfl (Or.inl ⟨9, 17, TX11, (sa_1_0 hs), rfl, by decide⟩) (f_cal (M := (x_ac M A)) (us2 := [3]) [1] hn rfl (And.intro rfl trivial) rfl rfl rfl (c_X11_needMonk hst hs   hq1)) (by decide) (Nat.le_of_ble_eq_true rfl) (fun _ q => absurd q List.not_mem_nil)))
  | none =>
    replace hG := x_tv_n hG
    refine e_invV (pc := 2) (K1 := 1) (S1 := 6) (K := 1) (S := 6) (dd2 := 0) (av := [x_i a]) (st := []) (id := 16 * 1 + 0) dX11_pace_2 xmX11_128 rfl (Or.inl ⟨9, 17, TX11, (sa_1_0 hs), rfl, by decide⟩) (f_cal (M := (x_ac M A)) (us2 := [3]) [1] hn rfl (And.intro rfl trivial) rfl rfl rfl (c_X11_needMonk hst hs   hq1)) (by decide) (Nat.le_of_ble_eq_true rfl) (Or.inl rfl) ?_
    show Ev g _ _ _ _ _ _ 5 [some (x_r (16 * 1 + 0)), some (x_i a), some (x_i b), none] [] (al, ro, fl (ml (x_ac M A) [1, 3] [X, N])) _ _ _ _
    refine e_iloadn (pc := 5) (i := 2) dX11_pace_5 rfl rfl ?_
    refine e_bipush (pc := 6) dX11_pace_6 (by decide +kernel) (x_R rfl) ?_
    obtain ⟨o4, hq4, hG⟩ := x_bd1 hG
    cases o4 with
    | some E6 =>
      replace hG := x_tv_s hG
      cases hG
      exact (e_invSX (pc := 8) (dd2 := 0) (av := [x_i b, x_i 8]) (st := []) dX11_pace_8 xmX11_187 rfl (f_cal (M := (x_ac M A)) (us2 := []) [] hn rfl trivial rfl rfl rfl (c_X11_needWithin hst hs   hq4)) (by decide) (Nat.le_of_ble_eq_true rfl) (fun _ q => absurd q List.not_mem_nil))
    | none =>
      replace hG := x_tv_n hG
      refine e_invS (pc := 8) (K1 := 1) (S1 := 6) (K := 0) (S := 0) (dd2 := 0) (av := [x_i b, x_i 8]) (st := []) dX11_pace_8 xmX11_187 rfl (f_cal (M := (x_ac M A)) (us2 := []) [] hn rfl trivial rfl rfl rfl (c_X11_needWithin hst hs   hq4)) (by decide) (Nat.le_of_ble_eq_true rfl) (Or.inl rfl) ?_
      show Ev g _ _ _ _ _ _ 11 [some (x_r (16 * 1 + 0)), some (x_i a), some (x_i b), none] [] (al, ro, fl (ml (x_ac M A) [1, 3] [X, N])) _ _ _ _
      refine e_aloadn (pc := 11) (i := 0) dX11_pace_11 rfl rfl ?_
      obtain ⟨X7, A8, hq8, hG⟩ := x_bd2 hG
      refine e_invV (pc := 12) (K1 := 0) (S1 := 0) (K := 0) (S := 0) (dd2 := 3) (av := []) (st := []) (id := 16 * 1 + 0) dX11_pace_12 xmX11_158 rfl (Or.inl ⟨9, 17, TX11, (sa_1_0 hs), rfl, by decide⟩) (f_calA (us2 := [1, 3]) [0, 1] hn rfl (And.intro rfl (And.intro rfl trivial)) rfl rfl rfl rfl (c_X11_remember hst hs   hq8)) (by decide) (Nat.le_of_ble_eq_true rfl) (Or.inl rfl) ?_
      show Ev g _ _ _ _ _ _ 15 [some (x_r (16 * 1 + 0)), some (x_i a), some (x_i b), none] [] (al, ro, fl (ml (x_ac M A8) [1, 3] [X7, N])) _ _ _ _
      refine e_aloadn (pc := 15) (i := 0) dX11_pace_15 rfl rfl ?_
      refine f_getr (pc := 16) (u := 1) (q := 0) dX11_pace_16 xf11_19 (sa_1_0 hs) rfl (sr_1_0_1 hs) ?_
      refine e_iconst (pc := 19) dX11_pace_19 (x_R rfl) ?_
      refine e_iloadn (pc := 20) (i := 1) dX11_pace_20 rfl rfl ?_
      obtain ⟨v10, hq10, hG⟩ := x_bd1 hG
      refine e_invV (pc := 21) (K1 := 0) (S1 := 0) (K := 0) (S := 0) (dd2 := 0) (av := [x_i 1, x_i a]) (st := []) (id := 16 * 3 + 0) dX11_pace_21 xmX11_138 rfl (Or.inl ⟨1, 12, TX1, (sa_3_0 hs), rfl, by decide⟩) (f_cal (M := (x_ac M A8)) (us2 := [3]) [1] hn rfl (And.intro rfl trivial) rfl rfl rfl (c_X1_of hst hs (by decide)  hq10)) (by decide) (Nat.le_of_ble_eq_true rfl) (Or.inl rfl) ?_
      show Ev g _ _ _ _ _ _ 24 [some (x_r (16 * 1 + 0)), some (x_i a), some (x_i b), none] [x_i v10] (al, ro, fl (ml (x_ac M A8) [1, 3] [X7, N])) _ _ _ _
      refine e_istoren (pc := 24) (i := 3) dX11_pace_24 rfl (by decide) rfl ?_
      show Ev g _ _ _ _ _ _ 25 [some (x_r (16 * 1 + 0)), some (x_i a), some (x_i b), some (x_i v10)] [] (al, ro, fl (ml (x_ac M A8) [1, 3] [X7, N])) _ _ _ _
      refine e_aloadn (pc := 25) (i := 0) dX11_pace_25 rfl rfl ?_
      refine f_getr (pc := 26) (u := 1) (q := 0) dX11_pace_26 xf11_19 (sa_1_0 hs) rfl (sr_1_0_1 hs) ?_
      refine e_iconst (pc := 29) dX11_pace_29 (x_R rfl) ?_
      refine e_iloadn (pc := 30) (i := 1) dX11_pace_30 rfl rfl ?_
      refine e_iloadn (pc := 31) (i := 2) dX11_pace_31 rfl rfl ?_
      obtain ⟨N12, hq12, hG⟩ := x_bd1 hG
      refine e_invV (pc := 32) (K1 := 0) (S1 := 0) (K := 0) (S := 0) (dd2 := 0) (av := [x_i 1, x_i a, x_i b]) (st := []) (id := 16 * 3 + 0) dX11_pace_32 xmX11_177 rfl (Or.inl ⟨1, 12, TX1, (sa_3_0 hs), rfl, by decide⟩) (f_cal (M := (x_ac M A8)) (us2 := [3]) [1] hn rfl (And.intro rfl trivial) rfl rfl rfl (c_X1_put hst hs (by decide)  hq12)) (by decide) (Nat.le_of_ble_eq_true rfl) (Or.inl rfl) ?_
      show Ev g _ _ _ _ _ _ 35 [some (x_r (16 * 1 + 0)), some (x_i a), some (x_i b), some (x_i v10)] [] (al, ro, fl (ml (x_ac M A8) [1, 3] [X7, N12])) _ _ _ _
      refine e_iloadn (pc := 35) (i := 3) dX11_pace_35 rfl rfl ?_
      cases hG
      exact (e_ireturn rfl dX11_pace_36 rfl)
set_option maxRecDepth 100000 in
set_option maxHeartbeats 4000000 in
theorem c_X11_fill {g : xG} {al : List (Nat × Nat × Nat)} {ro : Nat → Nat → Option Nat} (hst : g.1.stackTraces = false) (hs : SH al ro) {M : Nat → xU} {a : Int} {b : Int} {X : xU} {N : xU} {A : xA}  {t : ((Int ⊕ Nat) × xU × xU × xA)} (hG : G11_fill a b X N A = some t) :
    Cal g yX11_fill cX11_fill 3 (some .int) 4 [x_r (16 * 1 + 0), x_i a, x_i b] (al, ro, fl (ml (x_ac M A) [1, 3] [X, N])) 2 12 (x_oi t.1) (al, ro, fl (ml (x_ac M t.2.2.2) [1, 3] [t.2.1, t.2.2.1])) := by
  have hn : ([1, 3] : List Nat).Nodup := by decide
  refine cal_of_ev (plainFor_of_name (by decide)) (x_c1 rfl) (Nat.le_of_ble_eq_true rfl) hst ?_
  show Ev g _ _ _ _ _ _ 0 [some (x_r (16 * 1 + 0)), some (x_i a), some (x_i b)] [] (al, ro, fl (ml (x_ac M A) [1, 3] [X, N])) _ _ _ _
  rw [G11_fill] at hG
  refine e_iloadn (pc := 0) (i := 1) dX11_fill_0 rfl rfl ?_
  obtain ⟨o1, hq1, hG⟩ := x_bd1 hG
  cases o1 with
  | some E3 =>
    replace hG := x_tv_s hG
    cases hG
    exact (e_wide (K0 := 1) (S0 := 6) (by decide) (by decide) (e_invSX (pc := 1) (dd2 := 0) (av := [x_i a]) (st := []) dX11_fill_1 xmX11_146 rfl (f_cal (M := (x_ac M A)) (us2 := []) [] hn rfl trivial rfl rfl rfl (c_X11_needWalk hst hs   hq1)) (by decide) (Nat.le_of_ble_eq_true rfl) (fun _ q => absurd q List.not_mem_nil)))
  | none =>
    replace hG := x_tv_n hG
    refine e_invS (pc := 1) (K1 := 1) (S1 := 6) (K := 1) (S := 6) (dd2 := 0) (av := [x_i a]) (st := []) dX11_fill_1 xmX11_146 rfl (f_cal (M := (x_ac M A)) (us2 := []) [] hn rfl trivial rfl rfl rfl (c_X11_needWalk hst hs   hq1)) (by decide) (Nat.le_of_ble_eq_true rfl) (Or.inl rfl) ?_
    show Ev g _ _ _ _ _ _ 4 [some (x_r (16 * 1 + 0)), some (x_i a), some (x_i b)] [] (al, ro, fl (ml (x_ac M A) [1, 3] [X, N])) _ _ _ _
    refine e_iloadn (pc := 4) (i := 2) dX11_fill_4 rfl rfl ?_
    refine e_iconst (pc := 5) dX11_fill_5 (x_R rfl) ?_
    refine e_icmp_lt (pc := 6) (tgt := 15) dX11_fill_6 (by decide) (fun hb => ?_) (fun hb => ?_)
    · rw [if_pos hb] at hG
      cases hG
      exact (e_throw (pc := 15) xt_0 dX11_fill_15 dX11_fill_18 dX11_fill_19 dX11_fill_22 (Nat.le_of_ble_eq_true rfl) (fun _ q => absurd q List.not_mem_nil))
    · rw [if_neg hb] at hG
      refine e_iloadn (pc := 9) (i := 2) dX11_fill_9 rfl rfl ?_
      refine e_bipush (pc := 10) dX11_fill_10 (by decide +kernel) (x_R rfl) ?_
      refine e_icmp_le (pc := 12) (tgt := 23) dX11_fill_12 (by decide) (fun hb => ?_) (fun hb => ?_)
      · rw [if_pos hb] at hG
        refine e_aloadn (pc := 23) (i := 0) dX11_fill_23 rfl rfl ?_
        obtain ⟨X4, A5, hq5, hG⟩ := x_bd2 hG
        refine e_invV (pc := 24) (K1 := 0) (S1 := 0) (K := 1) (S := 6) (dd2 := 3) (av := []) (st := []) (id := 16 * 1 + 0) dX11_fill_24 xmX11_158 rfl (Or.inl ⟨9, 17, TX11, (sa_1_0 hs), rfl, by decide⟩) (f_calA (us2 := [1, 3]) [0, 1] hn rfl (And.intro rfl (And.intro rfl trivial)) rfl rfl rfl rfl (c_X11_remember hst hs   hq5)) (by decide) (Nat.le_of_ble_eq_true rfl) (Or.inl rfl) ?_
        show Ev g _ _ _ _ _ _ 27 [some (x_r (16 * 1 + 0)), some (x_i a), some (x_i b)] [] (al, ro, fl (ml (x_ac M A5) [1, 3] [X4, N])) _ _ _ _
        refine e_aloadn (pc := 27) (i := 0) dX11_fill_27 rfl rfl ?_
        refine f_getr (pc := 28) (u := 1) (q := 0) dX11_fill_28 xf11_19 (sa_1_0 hs) rfl (sr_1_0_1 hs) ?_
        refine e_iloadn (pc := 31) (i := 1) dX11_fill_31 rfl rfl ?_
        refine e_iloadn (pc := 32) (i := 2) dX11_fill_32 rfl rfl ?_
        obtain ⟨N7, hq7, hG⟩ := x_bd1 hG
        refine e_invV (pc := 33) (K1 := 0) (S1 := 0) (K := 1) (S := 6) (dd2 := 1) (av := [x_i a, x_i b]) (st := []) (id := 16 * 3 + 0) dX11_fill_33 xmX11_197 rfl (Or.inl ⟨1, 12, TX1, (sa_3_0 hs), rfl, by decide⟩) (f_cal (M := (x_ac M A5)) (us2 := [3]) [1] hn rfl (And.intro rfl trivial) rfl rfl rfl (c_X1_addStore hst hs (by decide)  hq7)) (by decide) (Nat.le_of_ble_eq_true rfl) (Or.inl rfl) ?_
        show Ev g _ _ _ _ _ _ 36 [some (x_r (16 * 1 + 0)), some (x_i a), some (x_i b)] [] (al, ro, fl (ml (x_ac M A5) [1, 3] [X4, N7])) _ _ _ _
        refine e_aloadn (pc := 36) (i := 0) dX11_fill_36 rfl rfl ?_
        refine f_getr (pc := 37) (u := 1) (q := 0) dX11_fill_37 xf11_19 (sa_1_0 hs) rfl (sr_1_0_1 hs) ?_
        refine e_iloadn (pc := 40) (i := 1) dX11_fill_40 rfl rfl ?_
        obtain ⟨v9, hq9, hG⟩ := x_bd1 hG
        refine e_invV (pc := 41) (K1 := 0) (S1 := 0) (K := 1) (S := 6) (dd2 := 0) (av := [x_i a]) (st := []) (id := 16 * 3 + 0) dX11_fill_41 xmX11_149 rfl (Or.inl ⟨1, 12, TX1, (sa_3_0 hs), rfl, by decide⟩) (f_cal (M := (x_ac M A5)) (us2 := [3]) [1] hn rfl (And.intro rfl trivial) rfl rfl rfl (c_X1_storeOf hst hs (by decide)  hq9)) (by decide) (Nat.le_of_ble_eq_true rfl) (Or.inl rfl) ?_
        show Ev g _ _ _ _ _ _ 44 [some (x_r (16 * 1 + 0)), some (x_i a), some (x_i b)] [x_i v9] (al, ro, fl (ml (x_ac M A5) [1, 3] [X4, N7])) _ _ _ _
        cases hG
        exact (e_wide (K0 := 0) (S0 := 0) (by decide) (by decide) (e_ireturn rfl dX11_fill_44 rfl))
      · rw [if_neg hb] at hG
        cases hG
        exact (e_throw (pc := 15) xt_0 dX11_fill_15 dX11_fill_18 dX11_fill_19 dX11_fill_22 (Nat.le_of_ble_eq_true rfl) (fun _ q => absurd q List.not_mem_nil))
set_option maxRecDepth 100000 in
set_option maxHeartbeats 4000000 in
theorem c_X11_find {g : xG} {al : List (Nat × Nat × Nat)} {ro : Nat → Nat → Option Nat} (hst : g.1.stackTraces = false) (hs : SH al ro) {M : Nat → xU} {a : Int} {X : xU} {N : xU} {A : xA}  {t : ((Int ⊕ Nat) × xU × xU × xA)} (hG : G11_find a X N A = some t) :
    Cal g yX11_find cX11_find 3 (some .int) 4 [x_r (16 * 1 + 0), x_i a] (al, ro, fl (ml (x_ac M A) [1, 3] [X, N])) 2 12 (x_oi t.1) (al, ro, fl (ml (x_ac M t.2.2.2) [1, 3] [t.2.1, t.2.2.1])) := by
  have hn : ([1, 3] : List Nat).Nodup := by decide
  refine cal_of_ev (plainFor_of_name (by decide)) (x_c1 rfl) (Nat.le_of_ble_eq_true rfl) hst ?_
  show Ev g _ _ _ _ _ _ 0 [some (x_r (16 * 1 + 0)), some (x_i a), none] [] (al, ro, fl (ml (x_ac M A) [1, 3] [X, N])) _ _ _ _
  rw [G11_find] at hG
  refine e_aloadn (pc := 0) (i := 0) dX11_find_0 rfl rfl ?_
  refine e_iloadn (pc := 1) (i := 1) dX11_find_1 rfl rfl ?_
  obtain ⟨o1, hq1, hG⟩ := x_bd1 hG
  cases o1 with
  | some E3 =>
    replace hG := x_tv_s hG
    cases hG
    exact (e_wide (K0 := 1) (S0 := 6) (by decide) (by decide) (e_invVX (pc := 2) (dd2 := 0) (av := [x_i a]) (st := []) (id := 16 * 1 + 0) dX11_find_2 xmX11_128 rfl (Or.inl ⟨9, 17, TX11, (sa_1_0 hs), rfl, by decide⟩) (f_cal (M := (x_ac M A)) (us2 := [3]) [1] hn rfl (And.intro rfl trivial) rfl rfl rfl (c_X11_needMonk hst hs   hq1)) (by decide) (Nat.le_of_ble_eq_true rfl) (fun _ q => absurd q List.not_mem_nil)))
  | none =>
    replace hG := x_tv_n hG
    refine e_invV (pc := 2) (K1 := 1) (S1 := 6) (K := 1) (S := 6) (dd2 := 0) (av := [x_i a]) (st := []) (id := 16 * 1 + 0) dX11_find_2 xmX11_128 rfl (Or.inl ⟨9, 17, TX11, (sa_1_0 hs), rfl, by decide⟩) (f_cal (M := (x_ac M A)) (us2 := [3]) [1] hn rfl (And.intro rfl trivial) rfl rfl rfl (c_X11_needMonk hst hs   hq1)) (by decide) (Nat.le_of_ble_eq_true rfl) (Or.inl rfl) ?_
    show Ev g _ _ _ _ _ _ 5 [some (x_r (16 * 1 + 0)), some (x_i a), none] [] (al, ro, fl (ml (x_ac M A) [1, 3] [X, N])) _ _ _ _
    refine e_aloadn (pc := 5) (i := 0) dX11_find_5 rfl rfl ?_
    refine f_getr (pc := 6) (u := 1) (q := 0) dX11_find_6 xf11_19 (sa_1_0 hs) rfl (sr_1_0_1 hs) ?_
    refine e_iloadn (pc := 9) (i := 1) dX11_find_9 rfl rfl ?_
    obtain ⟨v4, hq4, hG⟩ := x_bd1 hG
    refine e_invV (pc := 10) (K1 := 0) (S1 := 0) (K := 1) (S := 6) (dd2 := 1) (av := [x_i a]) (st := []) (id := 16 * 3 + 0) dX11_find_10 xmX11_170 rfl (Or.inl ⟨1, 12, TX1, (sa_3_0 hs), rfl, by decide⟩) (f_cal (M := (x_ac M A)) (us2 := [3]) [1] hn rfl (And.intro rfl trivial) rfl rfl rfl (c_X1_isLost hst hs (by decide)  hq4)) (by decide) (Nat.le_of_ble_eq_true rfl) (Or.inl rfl) ?_
    show Ev g _ _ _ _ _ _ 13 [some (x_r (16 * 1 + 0)), some (x_i a), none] [x_i v4] (al, ro, fl (ml (x_ac M A) [1, 3] [X, N])) _ _ _ _
    refine e_if_ne (pc := 13) (tgt := 24) dX11_find_13 (by decide) (fun hb => ?_) (fun hb => ?_)
    · rw [if_neg hb] at hG
      refine e_aloadn (pc := 24) (i := 0) dX11_find_24 rfl rfl ?_
      obtain ⟨X6, A7, hq7, hG⟩ := x_bd2 hG
      refine e_invV (pc := 25) (K1 := 0) (S1 := 0) (K := 1) (S := 6) (dd2 := 3) (av := []) (st := []) (id := 16 * 1 + 0) dX11_find_25 xmX11_158 rfl (Or.inl ⟨9, 17, TX11, (sa_1_0 hs), rfl, by decide⟩) (f_calA (us2 := [1, 3]) [0, 1] hn rfl (And.intro rfl (And.intro rfl trivial)) rfl rfl rfl rfl (c_X11_remember hst hs   hq7)) (by decide) (Nat.le_of_ble_eq_true rfl) (Or.inl rfl) ?_
      show Ev g _ _ _ _ _ _ 28 [some (x_r (16 * 1 + 0)), some (x_i a), none] [] (al, ro, fl (ml (x_ac M A7) [1, 3] [X6, N])) _ _ _ _
      refine e_aloadn (pc := 28) (i := 0) dX11_find_28 rfl rfl ?_
      refine f_getr (pc := 29) (u := 1) (q := 0) dX11_find_29 xf11_19 (sa_1_0 hs) rfl (sr_1_0_1 hs) ?_
      refine e_iconst (pc := 32) dX11_find_32 (x_R rfl) ?_
      refine e_iloadn (pc := 33) (i := 1) dX11_find_33 rfl rfl ?_
      obtain ⟨v9, hq9, hG⟩ := x_bd1 hG
      refine e_invV (pc := 34) (K1 := 0) (S1 := 0) (K := 1) (S := 6) (dd2 := 0) (av := [x_i 4, x_i a]) (st := []) (id := 16 * 3 + 0) dX11_find_34 xmX11_138 rfl (Or.inl ⟨1, 12, TX1, (sa_3_0 hs), rfl, by decide⟩) (f_cal (M := (x_ac M A7)) (us2 := [3]) [1] hn rfl (And.intro rfl trivial) rfl rfl rfl (c_X1_of hst hs (by decide)  hq9)) (by decide) (Nat.le_of_ble_eq_true rfl) (Or.inl rfl) ?_
      show Ev g _ _ _ _ _ _ 37 [some (x_r (16 * 1 + 0)), some (x_i a), none] [x_i v9] (al, ro, fl (ml (x_ac M A7) [1, 3] [X6, N])) _ _ _ _
      refine e_istoren (pc := 37) (i := 2) dX11_find_37 rfl (by decide) rfl ?_
      show Ev g _ _ _ _ _ _ 38 [some (x_r (16 * 1 + 0)), some (x_i a), some (x_i v9)] [] (al, ro, fl (ml (x_ac M A7) [1, 3] [X6, N])) _ _ _ _
      refine e_aloadn (pc := 38) (i := 0) dX11_find_38 rfl rfl ?_
      refine f_getr (pc := 39) (u := 1) (q := 0) dX11_find_39 xf11_19 (sa_1_0 hs) rfl (sr_1_0_1 hs) ?_
      refine e_iconst (pc := 42) dX11_find_42 (x_R rfl) ?_
      refine e_iloadn (pc := 43) (i := 1) dX11_find_43 rfl rfl ?_
      refine e_iconst (pc := 44) dX11_find_44 (x_R rfl) ?_
      obtain ⟨N11, hq11, hG⟩ := x_bd1 hG
      refine e_invV (pc := 45) (K1 := 0) (S1 := 0) (K := 1) (S := 6) (dd2 := 0) (av := [x_i 4, x_i a, x_i 0]) (st := []) (id := 16 * 3 + 0) dX11_find_45 xmX11_177 rfl (Or.inl ⟨1, 12, TX1, (sa_3_0 hs), rfl, by decide⟩) (f_cal (M := (x_ac M A7)) (us2 := [3]) [1] hn rfl (And.intro rfl trivial) rfl rfl rfl (c_X1_put hst hs (by decide)  hq11)) (by decide) (Nat.le_of_ble_eq_true rfl) (Or.inl rfl) ?_
      show Ev g _ _ _ _ _ _ 48 [some (x_r (16 * 1 + 0)), some (x_i a), some (x_i v9)] [] (al, ro, fl (ml (x_ac M A7) [1, 3] [X6, N11])) _ _ _ _
      refine e_iloadn (pc := 48) (i := 2) dX11_find_48 rfl rfl ?_
      cases hG
      exact (e_wide (K0 := 0) (S0 := 0) (by decide) (by decide) (e_ireturn rfl dX11_find_49 rfl))
    · rw [if_pos hb] at hG
      cases hG
      exact (e_throw (pc := 16) xt_2 dX11_find_16 dX11_find_19 dX11_find_20 dX11_find_23 (Nat.le_of_ble_eq_true rfl) (fun _ q => absurd q List.not_mem_nil))
set_option maxRecDepth 100000 in
set_option maxHeartbeats 4000000 in
theorem c_X11_choir {g : xG} {al : List (Nat × Nat × Nat)} {ro : Nat → Nat → Option Nat} (hst : g.1.stackTraces = false) (hs : SH al ro) {M : Nat → xU} {N : xU}  {t : Int} (hG : G11_choir N = some t) :
    Cal g yX11_choir cX11_choir 3 (some .int) 2 [x_r (16 * 1 + 0)] (al, ro, fl (ml M [3] [N])) 0 0 (.inl (some (x_i t))) (al, ro, fl (ml M [3] [N])) := by
  have hn : ([3] : List Nat).Nodup := by decide
  refine cal_of_ev (plainFor_of_name (by decide)) (x_c1 rfl) (Nat.le_of_ble_eq_true rfl) hst ?_
  show Ev g _ _ _ _ _ _ 0 [some (x_r (16 * 1 + 0)), none, none] [] (al, ro, fl (ml M [3] [N])) _ _ _ _
  rw [G11_choir] at hG
  refine e_iconst (pc := 0) dX11_choir_0 (x_R rfl) ?_
  refine e_istoren (pc := 1) (i := 1) dX11_choir_1 rfl (by decide) rfl ?_
  show Ev g _ _ _ _ _ _ 2 [some (x_r (16 * 1 + 0)), some (x_i 0), none] [] (al, ro, fl (ml M [3] [N])) _ _ _ _
  refine e_iconst (pc := 2) dX11_choir_2 (x_R rfl) ?_
  refine e_istoren (pc := 3) (i := 2) dX11_choir_3 rfl (by decide) rfl ?_
  show Ev g _ _ _ _ _ _ 4 [some (x_r (16 * 1 + 0)), some (x_i 0), some (x_i 0)] [] (al, ro, fl (ml M [3] [N])) _ _ _ _
  obtain ⟨v3, hl4, hG⟩ := x_bd1 hG
  have hk4 : ∀ q : Int, q = v3 → Ev g yX11_choir cX11_choir 3 (some .int) [] 2 45 [some (x_r (16 * 1 + 0)), some (x_i q), none] [] (al, ro, fl (ml M [3] [N])) 0 0 (.inl (some (x_i t))) (al, ro, fl (ml M [3] [N])) := by
    intro q hq
    replace hq := hq.symm
    subst hq
    refine e_iloadn (pc := 45) (i := 1) dX11_choir_45 rfl rfl ?_
    cases hG
    exact (e_ireturn rfl dX11_choir_46 rfl)
  clear hG
  refine e_whl (G11_choir_L4 N) (fun z : (Int × Int) => Ev g yX11_choir cX11_choir 3 (some .int) [] 2 4 [some (x_r (16 * 1 + 0)), some (x_i z.1), some (x_i z.2)] [] (al, ro, fl (ml M [3] [N])) 0 0 (.inl (some (x_i t))) (al, ro, fl (ml M [3] [N]))) (fun q => q = v3) ?_ xFU (0, 0) _ hl4 rfl
  intro z t4 hf4 hi4 hx4
  obtain ⟨v1, v2⟩ := z
  rw [G11_choir_L4] at hf4
  show Ev g _ _ _ _ _ _ 4 [some (x_r (16 * 1 + 0)), some (x_i v1), some (x_i v2)] [] (al, ro, fl (ml M [3] [N])) _ _ _ _
  refine e_iloadn (pc := 4) (i := 2) dX11_choir_4 rfl rfl ?_
  refine e_aloadn (pc := 5) (i := 0) dX11_choir_5 rfl rfl ?_
  refine f_getr (pc := 6) (u := 1) (q := 0) dX11_choir_6 xf11_19 (sa_1_0 hs) rfl (sr_1_0_1 hs) ?_
  refine f_geti (pc := 9) (k := 0) (u := 3) (q := 0) dX11_choir_9 xf11_200 (sa_3_0 hs) rfl hn rfl rfl (by decide) ?_
  show Ev g _ _ _ _ _ _ 12 [some (x_r (16 * 1 + 0)), some (x_i v1), some (x_i v2)] [x_i (N 0 3), x_i v2] (al, ro, fl (ml M [3] [N])) _ _ _ _
  refine e_icmp_ge (pc := 12) (tgt := 45) dX11_choir_12 (by decide) (fun hb => ?_) (fun hb => ?_)
  · rw [if_pos hb] at hf4
    cases hf4
    refine e_drop (i := 2) ?_
    have hh := hk4 _ (hx4 _ rfl)
    try dsimp only at hh
    exact hh
  · rw [if_neg hb] at hf4
    refine e_aloadn (pc := 15) (i := 0) dX11_choir_15 rfl rfl ?_
    refine f_getr (pc := 16) (u := 1) (q := 0) dX11_choir_16 xf11_19 (sa_1_0 hs) rfl (sr_1_0_1 hs) ?_
    refine e_iloadn (pc := 19) (i := 2) dX11_choir_19 rfl rfl ?_
    refine e_aloadn (pc := 20) (i := 0) dX11_choir_20 rfl rfl ?_
    refine f_getr (pc := 21) (u := 1) (q := 0) dX11_choir_21 xf11_19 (sa_1_0 hs) rfl (sr_1_0_1 hs) ?_
    refine f_geti (pc := 24) (k := 0) (u := 3) (q := 0) dX11_choir_24 xf11_184 (sa_3_0 hs) rfl hn rfl rfl (by decide) ?_
    show Ev g _ _ _ _ _ _ 27 [some (x_r (16 * 1 + 0)), some (x_i v1), some (x_i v2)] [x_i (N 0 7), x_i v2, x_r (16 * 3 + 0)] (al, ro, fl (ml M [3] [N])) _ _ _ _
    obtain ⟨v6, hq6, hf4⟩ := x_bd1 hf4
    refine e_invV (pc := 27) (K1 := 0) (S1 := 0) (K := 0) (S := 0) (dd2 := 1) (av := [x_i v2, x_i (N 0 7)]) (st := []) (id := 16 * 3 + 0) dX11_choir_27 xmX11_203 rfl (Or.inl ⟨1, 12, TX1, (sa_3_0 hs), rfl, by decide⟩) (f_cal (M := M) (us2 := [3]) [0] hn rfl (And.intro rfl trivial) rfl rfl rfl (c_X1_isAt hst hs (by decide)  hq6)) (by decide) (Nat.le_of_ble_eq_true rfl) (Or.inl rfl) ?_
    show Ev g _ _ _ _ _ _ 30 [some (x_r (16 * 1 + 0)), some (x_i v1), some (x_i v2)] [x_i v6] (al, ro, fl (ml M [3] [N])) _ _ _ _
    obtain ⟨v8, hr8, hf4⟩ := x_bd1 hf4
    have hjhr8 : Ev g yX11_choir cX11_choir 3 (some .int) [] 2 39 [some (x_r (16 * 1 + 0)), some (x_i v8), some (x_i v2)] [] (al, ro, fl (ml M [3] [N])) 0 0 (.inl (some (x_i t))) (al, ro, fl (ml M [3] [N])) := by
      refine e_iinc (pc := 39) dX11_choir_39 rfl (by decide) rfl ?_
      show Ev g _ _ _ _ _ _ 42 [some (x_r (16 * 1 + 0)), some (x_i v8), some (x_i (x_add v2 1))] [] (al, ro, fl (ml M [3] [N])) _ _ _ _
      refine e_goto (pc := 42) (tgt := 4) dX11_choir_42 (by decide) ?_
      cases hf4
      have hh := hi4 _ rfl
      try dsimp only at hh
      exact hh
    clear hf4
    refine e_if_eq (pc := 30) (tgt := 39) dX11_choir_30 (by decide) (fun hb => ?_) (fun hb => ?_)
    · rw [if_pos hb] at hr8
      cases hr8
      exact hjhr8
    · rw [if_neg hb] at hr8
      refine e_iloadn (pc := 33) (i := 1) dX11_choir_33 rfl rfl ?_
      refine e_iconst (pc := 34) dX11_choir_34 (x_R rfl) ?_
      refine e_iloadn (pc := 35) (i := 2) dX11_choir_35 rfl rfl ?_
      refine e_ishl (pc := 36) dX11_choir_36 ?_
      refine e_ior (pc := 37) dX11_choir_37 ?_
      refine e_istoren (pc := 38) (i := 1) dX11_choir_38 rfl (by decide) rfl ?_
      show Ev g _ _ _ _ _ _ 39 [some (x_r (16 * 1 + 0)), some (x_i (x_or v1 (x_shl 1 v2))), some (x_i v2)] [] (al, ro, fl (ml M [3] [N])) _ _ _ _
      cases hr8
      exact hjhr8
set_option maxRecDepth 100000 in
set_option maxHeartbeats 4000000 in
theorem c_X11_when {g : xG} {al : List (Nat × Nat × Nat)} {ro : Nat → Nat → Option Nat} (hst : g.1.stackTraces = false) (hs : SH al ro) {M : Nat → xU} {a : Int} {b : Int} {N : xU} {Th : xU} {La : xU}  {t : ((Int ⊕ Nat) × xU × xU)} (hG : G11_when a b N Th La = some t) :
    Cal g yX11_when cX11_when 3 (some .int) 6 [x_r (16 * 1 + 0), x_i a, x_i b] (al, ro, fl (ml M [3, 18, 19] [N, Th, La])) 2 12 (x_oi t.1) (al, ro, fl (ml M [3, 18, 19] [N, t.2.1, t.2.2])) := by
  have hn : ([3, 18, 19] : List Nat).Nodup := by decide
  refine cal_of_ev (plainFor_of_name (by decide)) (x_c1 rfl) (Nat.le_of_ble_eq_true rfl) hst ?_
  show Ev g _ _ _ _ _ _ 0 [some (x_r (16 * 1 + 0)), some (x_i a), some (x_i b)] [] (al, ro, fl (ml M [3, 18, 19] [N, Th, La])) _ _ _ _
  rw [G11_when] at hG
  refine e_aloadn (pc := 0) (i := 0) dX11_when_0 rfl rfl ?_
  refine e_iloadn (pc := 1) (i := 1) dX11_when_1 rfl rfl ?_
  obtain ⟨o1, hq1, hG⟩ := x_bd1 hG
  cases o1 with
  | some E3 =>
    replace hG := x_tv_s hG
    cases hG
    exact (e_wide (K0 := 1) (S0 := 6) (by decide) (by decide) (e_invVX (pc := 2) (dd2 := 0) (av := [x_i a]) (st := []) (id := 16 * 1 + 0) dX11_when_2 xmX11_128 rfl (Or.inl ⟨9, 17, TX11, (sa_1_0 hs), rfl, by decide⟩) (f_cal (M := M) (us2 := [3]) [0] hn rfl (And.intro rfl trivial) rfl rfl rfl (c_X11_needMonk hst hs   hq1)) (by decide) (Nat.le_of_ble_eq_true rfl) (fun _ q => absurd q List.not_mem_nil)))
  | none =>
    replace hG := x_tv_n hG
    refine e_invV (pc := 2) (K1 := 1) (S1 := 6) (K := 1) (S := 6) (dd2 := 0) (av := [x_i a]) (st := []) (id := 16 * 1 + 0) dX11_when_2 xmX11_128 rfl (Or.inl ⟨9, 17, TX11, (sa_1_0 hs), rfl, by decide⟩) (f_cal (M := M) (us2 := [3]) [0] hn rfl (And.intro rfl trivial) rfl rfl rfl (c_X11_needMonk hst hs   hq1)) (by decide) (Nat.le_of_ble_eq_true rfl) (Or.inl rfl) ?_
    show Ev g _ _ _ _ _ _ 5 [some (x_r (16 * 1 + 0)), some (x_i a), some (x_i b)] [] (al, ro, fl (ml M [3, 18, 19] [N, Th, La])) _ _ _ _
    refine e_iloadn (pc := 5) (i := 2) dX11_when_5 rfl rfl ?_
    obtain ⟨o4, hq4, hG⟩ := x_bd1 hG
    cases o4 with
    | some E6 =>
      replace hG := x_tv_s hG
      cases hG
      exact (e_invSX (pc := 6) (dd2 := 0) (av := [x_i b]) (st := []) dX11_when_6 xmX11_152 rfl (f_cal (M := M) (us2 := []) [] hn rfl trivial rfl rfl rfl (c_X11_needFlag hst hs   hq4)) (by decide) (Nat.le_of_ble_eq_true rfl) (fun _ q => absurd q List.not_mem_nil))
    | none =>
      replace hG := x_tv_n hG
      refine e_invS (pc := 6) (K1 := 1) (S1 := 6) (K := 0) (S := 0) (dd2 := 0) (av := [x_i b]) (st := []) dX11_when_6 xmX11_152 rfl (f_cal (M := M) (us2 := []) [] hn rfl trivial rfl rfl rfl (c_X11_needFlag hst hs   hq4)) (by decide) (Nat.le_of_ble_eq_true rfl) (Or.inl rfl) ?_
      show Ev g _ _ _ _ _ _ 9 [some (x_r (16 * 1 + 0)), some (x_i a), some (x_i b)] [] (al, ro, fl (ml M [3, 18, 19] [N, Th, La])) _ _ _ _
      refine e_aloadn (pc := 9) (i := 0) dX11_when_9 rfl rfl ?_
      refine f_getr (pc := 10) (u := 1) (q := 0) dX11_when_10 xf11_49 (sa_1_0 hs) rfl (sr_1_0_8 hs) ?_
      refine e_aloadn (pc := 13) (i := 0) dX11_when_13 rfl rfl ?_
      refine f_getr (pc := 14) (u := 1) (q := 0) dX11_when_14 xf11_19 (sa_1_0 hs) rfl (sr_1_0_1 hs) ?_
      refine e_aloadn (pc := 17) (i := 0) dX11_when_17 rfl rfl ?_
      refine f_getr (pc := 18) (u := 1) (q := 0) dX11_when_18 xf11_32 (sa_1_0 hs) rfl (sr_1_0_4 hs) ?_
      refine e_iloadn (pc := 21) (i := 1) dX11_when_21 rfl rfl ?_
      refine e_iloadn (pc := 22) (i := 2) dX11_when_22 rfl rfl ?_
      obtain ⟨v7, Th8, La9, hq9, hG⟩ := x_bd3 hG
      refine e_invV (pc := 23) (K1 := 0) (S1 := 0) (K := 0) (S := 0) (dd2 := 5) (av := [x_r (16 * 3 + 0), x_r (16 * 19 + 0), x_i a, x_i b]) (st := []) (id := 16 * 22 + 0) dX11_when_23 xmX11_207 rfl (Or.inl ⟨2, 3, TX3, (sa_22_0 hs), rfl, by decide⟩) (f_cal (M := M) (us2 := [3, 18, 19]) [0, 1, 2] hn rfl (And.intro rfl (And.intro rfl (And.intro rfl trivial))) rfl rfl rfl (c_X3_firstAt hst hs   hq9)) (by decide) (Nat.le_of_ble_eq_true rfl) (Or.inl rfl) ?_
      show Ev g _ _ _ _ _ _ 26 [some (x_r (16 * 1 + 0)), some (x_i a), some (x_i b)] [x_i v7] (al, ro, fl (ml M [3, 18, 19] [N, Th8, La9])) _ _ _ _
      cases hG
      exact (e_ireturn rfl dX11_when_26 rfl)
set_option maxRecDepth 100000 in
set_option maxHeartbeats 4000000 in
theorem c_X11_meet {g : xG} {al : List (Nat × Nat × Nat)} {ro : Nat → Nat → Option Nat} (hst : g.1.stackTraces = false) (hs : SH al ro) {M : Nat → xU} {a : Int} {b : Int} {N : xU} {Th : xU} {La : xU}  {t : ((Int ⊕ Nat) × xU × xU)} (hG : G11_meet a b N Th La = some t) :
    Cal g yX11_meet cX11_meet 3 (some .int) 6 [x_r (16 * 1 + 0), x_i a, x_i b] (al, ro, fl (ml M [3, 18, 19] [N, Th, La])) 3 18 (x_oi t.1) (al, ro, fl (ml M [3, 18, 19] [N, t.2.1, t.2.2])) := by
  have hn : ([3, 18, 19] : List Nat).Nodup := by decide
  refine cal_of_ev (plainFor_of_name (by decide)) (x_c1 rfl) (Nat.le_of_ble_eq_true rfl) hst ?_
  show Ev g _ _ _ _ _ _ 0 [some (x_r (16 * 1 + 0)), some (x_i a), some (x_i b)] [] (al, ro, fl (ml M [3, 18, 19] [N, Th, La])) _ _ _ _
  rw [G11_meet] at hG
  refine e_aloadn (pc := 0) (i := 0) dX11_meet_0 rfl rfl ?_
  refine e_iloadn (pc := 1) (i := 1) dX11_meet_1 rfl rfl ?_
  refine e_iloadn (pc := 2) (i := 2) dX11_meet_2 rfl rfl ?_
  obtain ⟨o1, hq1, hG⟩ := x_bd1 hG
  cases o1 with
  | some E3 =>
    replace hG := x_tv_s hG
    cases hG
    exact (e_invVX (pc := 3) (dd2 := 1) (av := [x_i a, x_i b]) (st := []) (id := 16 * 1 + 0) dX11_meet_3 xmX11_194 rfl (Or.inl ⟨9, 17, TX11, (sa_1_0 hs), rfl, by decide⟩) (f_cal (M := M) (us2 := [3]) [0] hn rfl (And.intro rfl trivial) rfl rfl rfl (c_X11_needTwo hst hs   hq1)) (by decide) (Nat.le_of_ble_eq_true rfl) (fun _ q => absurd q List.not_mem_nil))
  | none =>
    replace hG := x_tv_n hG
    refine e_invV (pc := 3) (K1 := 3) (S1 := 18) (K := 0) (S := 0) (dd2 := 1) (av := [x_i a, x_i b]) (st := []) (id := 16 * 1 + 0) dX11_meet_3 xmX11_194 rfl (Or.inl ⟨9, 17, TX11, (sa_1_0 hs), rfl, by decide⟩) (f_cal (M := M) (us2 := [3]) [0] hn rfl (And.intro rfl trivial) rfl rfl rfl (c_X11_needTwo hst hs   hq1)) (by decide) (Nat.le_of_ble_eq_true rfl) (Or.inl rfl) ?_
    show Ev g _ _ _ _ _ _ 6 [some (x_r (16 * 1 + 0)), some (x_i a), some (x_i b)] [] (al, ro, fl (ml M [3, 18, 19] [N, Th, La])) _ _ _ _
    refine e_aloadn (pc := 6) (i := 0) dX11_meet_6 rfl rfl ?_
    refine f_getr (pc := 7) (u := 1) (q := 0) dX11_meet_7 xf11_49 (sa_1_0 hs) rfl (sr_1_0_8 hs) ?_
    refine e_aloadn (pc := 10) (i := 0) dX11_meet_10 rfl rfl ?_
    refine f_getr (pc := 11) (u := 1) (q := 0) dX11_meet_11 xf11_19 (sa_1_0 hs) rfl (sr_1_0_1 hs) ?_
    refine e_aloadn (pc := 14) (i := 0) dX11_meet_14 rfl rfl ?_
    refine f_getr (pc := 15) (u := 1) (q := 0) dX11_meet_15 xf11_32 (sa_1_0 hs) rfl (sr_1_0_4 hs) ?_
    refine e_iloadn (pc := 18) (i := 1) dX11_meet_18 rfl rfl ?_
    refine e_iloadn (pc := 19) (i := 2) dX11_meet_19 rfl rfl ?_
    obtain ⟨v4, Th5, La6, hq6, hG⟩ := x_bd3 hG
    refine e_invV (pc := 20) (K1 := 0) (S1 := 0) (K := 0) (S := 0) (dd2 := 5) (av := [x_r (16 * 3 + 0), x_r (16 * 19 + 0), x_i a, x_i b]) (st := []) (id := 16 * 22 + 0) dX11_meet_20 xmX11_211 rfl (Or.inl ⟨2, 3, TX3, (sa_22_0 hs), rfl, by decide⟩) (f_cal (M := M) (us2 := [3, 18, 19]) [0, 1, 2] hn rfl (And.intro rfl (And.intro rfl (And.intro rfl trivial))) rfl rfl rfl (c_X3_firstTogether hst hs   hq6)) (by decide) (Nat.le_of_ble_eq_true rfl) (Or.inl rfl) ?_
    show Ev g _ _ _ _ _ _ 23 [some (x_r (16 * 1 + 0)), some (x_i a), some (x_i b)] [x_i v4] (al, ro, fl (ml M [3, 18, 19] [N, Th5, La6])) _ _ _ _
    cases hG
    exact (e_ireturn rfl dX11_meet_23 rfl)
set_option maxRecDepth 100000 in
set_option maxHeartbeats 4000000 in
theorem c_X11_lates {g : xG} {al : List (Nat × Nat × Nat)} {ro : Nat → Nat → Option Nat} (hst : g.1.stackTraces = false) (hs : SH al ro) {M : Nat → xU} {a : Int} {N : xU} {Th : xU} {La : xU} {Fo : xU}  {t : ((Int ⊕ Nat) × xU × xU × xU)} (hG : G11_lates a N Th La Fo = some t) :
    Cal g yX11_lates cX11_lates 2 (some .int) 6 [x_r (16 * 1 + 0), x_i a] (al, ro, fl (ml M [3, 18, 19, 22] [N, Th, La, Fo])) 1 6 (x_oi t.1) (al, ro, fl (ml M [3, 18, 19, 22] [N, t.2.1, t.2.2.1, t.2.2.2])) := by
  have hn : ([3, 18, 19, 22] : List Nat).Nodup := by decide
  refine cal_of_ev (plainFor_of_name (by decide)) (x_c1 rfl) (Nat.le_of_ble_eq_true rfl) hst ?_
  show Ev g _ _ _ _ _ _ 0 [some (x_r (16 * 1 + 0)), some (x_i a)] [] (al, ro, fl (ml M [3, 18, 19, 22] [N, Th, La, Fo])) _ _ _ _
  rw [G11_lates] at hG
  refine e_iloadn (pc := 0) (i := 1) dX11_lates_0 rfl rfl ?_
  refine e_bipush (pc := 1) dX11_lates_1 (by decide +kernel) (x_R rfl) ?_
  obtain ⟨o1, hq1, hG⟩ := x_bd1 hG
  cases o1 with
  | some E3 =>
    replace hG := x_tv_s hG
    cases hG
    exact (e_invSX (pc := 3) (dd2 := 0) (av := [x_i a, x_i 9]) (st := []) dX11_lates_3 xmX11_187 rfl (f_cal (M := M) (us2 := []) [] hn rfl trivial rfl rfl rfl (c_X11_needWithin hst hs   hq1)) (by decide) (Nat.le_of_ble_eq_true rfl) (fun _ q => absurd q List.not_mem_nil))
  | none =>
    replace hG := x_tv_n hG
    refine e_invS (pc := 3) (K1 := 1) (S1 := 6) (K := 0) (S := 0) (dd2 := 0) (av := [x_i a, x_i 9]) (st := []) dX11_lates_3 xmX11_187 rfl (f_cal (M := M) (us2 := []) [] hn rfl trivial rfl rfl rfl (c_X11_needWithin hst hs   hq1)) (by decide) (Nat.le_of_ble_eq_true rfl) (Or.inl rfl) ?_
    show Ev g _ _ _ _ _ _ 6 [some (x_r (16 * 1 + 0)), some (x_i a)] [] (al, ro, fl (ml M [3, 18, 19, 22] [N, Th, La, Fo])) _ _ _ _
    refine e_aloadn (pc := 6) (i := 0) dX11_lates_6 rfl rfl ?_
    refine f_getr (pc := 7) (u := 1) (q := 0) dX11_lates_7 xf11_49 (sa_1_0 hs) rfl (sr_1_0_8 hs) ?_
    refine e_aloadn (pc := 10) (i := 0) dX11_lates_10 rfl rfl ?_
    refine f_getr (pc := 11) (u := 1) (q := 0) dX11_lates_11 xf11_19 (sa_1_0 hs) rfl (sr_1_0_1 hs) ?_
    obtain ⟨Th4, hq4, hG⟩ := x_bd1 hG
    refine e_invV (pc := 14) (K1 := 0) (S1 := 0) (K := 0) (S := 0) (dd2 := 3) (av := [x_r (16 * 3 + 0)]) (st := []) (id := 16 * 22 + 0) dX11_lates_14 xmX11_214 rfl (Or.inl ⟨2, 3, TX3, (sa_22_0 hs), rfl, by decide⟩) (f_cal (M := M) (us2 := [3, 18]) [0, 1] hn rfl (And.intro rfl (And.intro rfl trivial)) rfl rfl rfl (c_X3_look hst hs   hq4)) (by decide) (Nat.le_of_ble_eq_true rfl) (Or.inl rfl) ?_
    show Ev g _ _ _ _ _ _ 17 [some (x_r (16 * 1 + 0)), some (x_i a)] [] (al, ro, fl (ml M [3, 18, 19, 22] [N, Th4, La, Fo])) _ _ _ _
    refine e_aloadn (pc := 17) (i := 0) dX11_lates_17 rfl rfl ?_
    refine f_getr (pc := 18) (u := 1) (q := 0) dX11_lates_18 xf11_49 (sa_1_0 hs) rfl (sr_1_0_8 hs) ?_
    refine e_aloadn (pc := 21) (i := 0) dX11_lates_21 rfl rfl ?_
    refine f_getr (pc := 22) (u := 1) (q := 0) dX11_lates_22 xf11_32 (sa_1_0 hs) rfl (sr_1_0_4 hs) ?_
    refine e_iloadn (pc := 25) (i := 1) dX11_lates_25 rfl rfl ?_
    obtain ⟨v6, Th7, La8, Fo9, hq9, hG⟩ := x_bd4 hG
    refine e_invV (pc := 26) (K1 := 0) (S1 := 0) (K := 0) (S := 0) (dd2 := 5) (av := [x_r (16 * 19 + 0), x_i a]) (st := []) (id := 16 * 22 + 0) dX11_lates_26 xmX11_217 rfl (Or.inl ⟨2, 3, TX3, (sa_22_0 hs), rfl, by decide⟩) (f_cal (M := M) (us2 := [18, 19, 22]) [1, 2, 3] hn rfl (And.intro rfl (And.intro rfl (And.intro rfl trivial))) rfl rfl rfl (c_X3_passOffices hst hs   hq9)) (by decide) (Nat.le_of_ble_eq_true rfl) (Or.inl rfl) ?_
    show Ev g _ _ _ _ _ _ 29 [some (x_r (16 * 1 + 0)), some (x_i a)] [x_i v6] (al, ro, fl (ml M [3, 18, 19, 22] [N, Th7, La8, Fo9])) _ _ _ _
    cases hG
    exact (e_ireturn rfl dX11_lates_29 rfl)
set_option maxRecDepth 100000 in
set_option maxHeartbeats 4000000 in
theorem c_X11_tardy {g : xG} {al : List (Nat × Nat × Nat)} {ro : Nat → Nat → Option Nat} (hst : g.1.stackTraces = false) (hs : SH al ro) {M : Nat → xU} {N : xU} {Th : xU} {La : xU} {Fo : xU}  {t : (Int × xU × xU × xU)} (hG : G11_tardy N Th La Fo = some t) :
    Cal g yX11_tardy cX11_tardy 1 (some .int) 6 [x_r (16 * 1 + 0)] (al, ro, fl (ml M [3, 18, 19, 22] [N, Th, La, Fo])) 0 0 (.inl (some (x_i t.1))) (al, ro, fl (ml M [3, 18, 19, 22] [N, t.2.1, t.2.2.1, t.2.2.2])) := by
  have hn : ([3, 18, 19, 22] : List Nat).Nodup := by decide
  refine cal_of_ev (plainFor_of_name (by decide)) (x_c1 rfl) (Nat.le_of_ble_eq_true rfl) hst ?_
  show Ev g _ _ _ _ _ _ 0 [some (x_r (16 * 1 + 0))] [] (al, ro, fl (ml M [3, 18, 19, 22] [N, Th, La, Fo])) _ _ _ _
  rw [G11_tardy] at hG
  refine e_aloadn (pc := 0) (i := 0) dX11_tardy_0 rfl rfl ?_
  refine f_getr (pc := 1) (u := 1) (q := 0) dX11_tardy_1 xf11_49 (sa_1_0 hs) rfl (sr_1_0_8 hs) ?_
  refine e_aloadn (pc := 4) (i := 0) dX11_tardy_4 rfl rfl ?_
  refine f_getr (pc := 5) (u := 1) (q := 0) dX11_tardy_5 xf11_19 (sa_1_0 hs) rfl (sr_1_0_1 hs) ?_
  obtain ⟨Th1, hq1, hG⟩ := x_bd1 hG
  refine e_invV (pc := 8) (K1 := 0) (S1 := 0) (K := 0) (S := 0) (dd2 := 3) (av := [x_r (16 * 3 + 0)]) (st := []) (id := 16 * 22 + 0) dX11_tardy_8 xmX11_214 rfl (Or.inl ⟨2, 3, TX3, (sa_22_0 hs), rfl, by decide⟩) (f_cal (M := M) (us2 := [3, 18]) [0, 1] hn rfl (And.intro rfl (And.intro rfl trivial)) rfl rfl rfl (c_X3_look hst hs   hq1)) (by decide) (Nat.le_of_ble_eq_true rfl) (Or.inl rfl) ?_
  show Ev g _ _ _ _ _ _ 11 [some (x_r (16 * 1 + 0))] [] (al, ro, fl (ml M [3, 18, 19, 22] [N, Th1, La, Fo])) _ _ _ _
  refine e_aloadn (pc := 11) (i := 0) dX11_tardy_11 rfl rfl ?_
  refine f_getr (pc := 12) (u := 1) (q := 0) dX11_tardy_12 xf11_49 (sa_1_0 hs) rfl (sr_1_0_8 hs) ?_
  refine e_aloadn (pc := 15) (i := 0) dX11_tardy_15 rfl rfl ?_
  refine f_getr (pc := 16) (u := 1) (q := 0) dX11_tardy_16 xf11_32 (sa_1_0 hs) rfl (sr_1_0_4 hs) ?_
  refine e_bipush (pc := 19) dX11_tardy_19 (by decide +kernel) (x_R rfl) ?_
  obtain ⟨v3, Th4, La5, Fo6, hq6, hG⟩ := x_bd4 hG
  refine e_invV (pc := 21) (K1 := 0) (S1 := 0) (K := 0) (S := 0) (dd2 := 5) (av := [x_r (16 * 19 + 0), x_i 8]) (st := []) (id := 16 * 22 + 0) dX11_tardy_21 xmX11_217 rfl (Or.inl ⟨2, 3, TX3, (sa_22_0 hs), rfl, by decide⟩) (f_cal (M := M) (us2 := [18, 19, 22]) [1, 2, 3] hn rfl (And.intro rfl (And.intro rfl (And.intro rfl trivial))) rfl rfl rfl (c_X3_passOffices hst hs   hq6)) (by decide) (Nat.le_of_ble_eq_true rfl) (Or.inl rfl) ?_
  show Ev g _ _ _ _ _ _ 24 [some (x_r (16 * 1 + 0))] [x_i v3] (al, ro, fl (ml M [3, 18, 19, 22] [N, Th4, La5, Fo6])) _ _ _ _
  refine e_pop (pc := 24) dX11_tardy_24 rfl ?_
  refine e_aloadn (pc := 25) (i := 0) dX11_tardy_25 rfl rfl ?_
  refine f_getr (pc := 26) (u := 1) (q := 0) dX11_tardy_26 xf11_49 (sa_1_0 hs) rfl (sr_1_0_8 hs) ?_
  obtain ⟨v8, hq8, hG⟩ := x_bd1 hG
  refine e_invV (pc := 29) (K1 := 0) (S1 := 0) (K := 0) (S := 0) (dd2 := 0) (av := []) (st := []) (id := 16 * 22 + 0) dX11_tardy_29 xmX11_221 rfl (Or.inl ⟨2, 3, TX3, (sa_22_0 hs), rfl, by decide⟩) (f_cal (M := M) (us2 := [22]) [3] hn rfl (And.intro rfl trivial) rfl rfl rfl (c_X3_mostLate hst hs   hq8)) (by decide) (Nat.le_of_ble_eq_true rfl) (Or.inl rfl) ?_
  show Ev g _ _ _ _ _ _ 32 [some (x_r (16 * 1 + 0))] [x_i v8] (al, ro, fl (ml M [3, 18, 19, 22] [N, Th4, La5, Fo6])) _ _ _ _
  cases hG
  exact (e_ireturn rfl dX11_tardy_32 rfl)
set_option maxRecDepth 100000 in
set_option maxHeartbeats 4000000 in
theorem c_X11_ring {g : xG} {al : List (Nat × Nat × Nat)} {ro : Nat → Nat → Option Nat} (hst : g.1.stackTraces = false) (hs : SH al ro) {M : Nat → xU} {N : xU} {Th : xU} {La : xU} {Fo : xU}  {t : (Int × xU × xU × xU)} (hG : G11_ring N Th La Fo = some t) :
    Cal g yX11_ring cX11_ring 1 (some .int) 7 [x_r (16 * 1 + 0)] (al, ro, fl (ml M [3, 18, 19, 22] [N, Th, La, Fo])) 0 0 (.inl (some (x_i t.1))) (al, ro, fl (ml M [3, 18, 19, 22] [N, t.2.1, t.2.2.1, t.2.2.2])) := by
  have hn : ([3, 18, 19, 22] : List Nat).Nodup := by decide
  refine cal_of_ev (plainFor_of_name (by decide)) (x_c1 rfl) (Nat.le_of_ble_eq_true rfl) hst ?_
  show Ev g _ _ _ _ _ _ 0 [some (x_r (16 * 1 + 0))] [] (al, ro, fl (ml M [3, 18, 19, 22] [N, Th, La, Fo])) _ _ _ _
  rw [G11_ring] at hG
  refine e_aloadn (pc := 0) (i := 0) dX11_ring_0 rfl rfl ?_
  refine f_getr (pc := 1) (u := 1) (q := 0) dX11_ring_1 xf11_49 (sa_1_0 hs) rfl (sr_1_0_8 hs) ?_
  refine e_aloadn (pc := 4) (i := 0) dX11_ring_4 rfl rfl ?_
  refine f_getr (pc := 5) (u := 1) (q := 0) dX11_ring_5 xf11_19 (sa_1_0 hs) rfl (sr_1_0_1 hs) ?_
  refine e_aloadn (pc := 8) (i := 0) dX11_ring_8 rfl rfl ?_
  refine f_getr (pc := 9) (u := 1) (q := 0) dX11_ring_9 xf11_32 (sa_1_0 hs) rfl (sr_1_0_4 hs) ?_
  refine e_iconst (pc := 12) dX11_ring_12 (x_R rfl) ?_
  obtain ⟨v1, Th2, La3, Fo4, hq4, hG⟩ := x_bd4 hG
  refine e_invV (pc := 13) (K1 := 0) (S1 := 0) (K := 0) (S := 0) (dd2 := 6) (av := [x_r (16 * 3 + 0), x_r (16 * 19 + 0), x_i 0]) (st := []) (id := 16 * 22 + 0) dX11_ring_13 xmX11_225 rfl (Or.inl ⟨2, 3, TX3, (sa_22_0 hs), rfl, by decide⟩) (f_cal (M := M) (us2 := [3, 18, 19, 22]) [0, 1, 2, 3] hn rfl (And.intro rfl (And.intro rfl (And.intro rfl (And.intro rfl trivial)))) rfl rfl rfl (c_X3_bestChoice hst hs   hq4)) (by decide) (Nat.le_of_ble_eq_true rfl) (Or.inl rfl) ?_
  show Ev g _ _ _ _ _ _ 16 [some (x_r (16 * 1 + 0))] [x_i v1] (al, ro, fl (ml M [3, 18, 19, 22] [N, Th2, La3, Fo4])) _ _ _ _
  cases hG
  exact (e_ireturn rfl dX11_ring_16 rfl)
set_option maxRecDepth 100000 in
set_option maxHeartbeats 4000000 in
theorem c_X11_humour {g : xG} {al : List (Nat × Nat × Nat)} {ro : Nat → Nat → Option Nat} (hst : g.1.stackTraces = false) (hs : SH al ro) {M : Nat → xU} {N : xU} {Th : xU} {La : xU} {Fo : xU}  {t : (Int × xU × xU × xU)} (hG : G11_humour N Th La Fo = some t) :
    Cal g yX11_humour cX11_humour 1 (some .int) 7 [x_r (16 * 1 + 0)] (al, ro, fl (ml M [3, 18, 19, 22] [N, Th, La, Fo])) 0 0 (.inl (some (x_i t.1))) (al, ro, fl (ml M [3, 18, 19, 22] [N, t.2.1, t.2.2.1, t.2.2.2])) := by
  have hn : ([3, 18, 19, 22] : List Nat).Nodup := by decide
  refine cal_of_ev (plainFor_of_name (by decide)) (x_c1 rfl) (Nat.le_of_ble_eq_true rfl) hst ?_
  show Ev g _ _ _ _ _ _ 0 [some (x_r (16 * 1 + 0))] [] (al, ro, fl (ml M [3, 18, 19, 22] [N, Th, La, Fo])) _ _ _ _
  rw [G11_humour] at hG
  refine e_aloadn (pc := 0) (i := 0) dX11_humour_0 rfl rfl ?_
  refine f_getr (pc := 1) (u := 1) (q := 0) dX11_humour_1 xf11_49 (sa_1_0 hs) rfl (sr_1_0_8 hs) ?_
  refine e_aloadn (pc := 4) (i := 0) dX11_humour_4 rfl rfl ?_
  refine f_getr (pc := 5) (u := 1) (q := 0) dX11_humour_5 xf11_19 (sa_1_0 hs) rfl (sr_1_0_1 hs) ?_
  refine e_aloadn (pc := 8) (i := 0) dX11_humour_8 rfl rfl ?_
  refine f_getr (pc := 9) (u := 1) (q := 0) dX11_humour_9 xf11_32 (sa_1_0 hs) rfl (sr_1_0_4 hs) ?_
  refine e_iconst (pc := 12) dX11_humour_12 (x_R rfl) ?_
  obtain ⟨v1, Th2, La3, Fo4, hq4, hG⟩ := x_bd4 hG
  refine e_invV (pc := 13) (K1 := 0) (S1 := 0) (K := 0) (S := 0) (dd2 := 6) (av := [x_r (16 * 3 + 0), x_r (16 * 19 + 0), x_i 1]) (st := []) (id := 16 * 22 + 0) dX11_humour_13 xmX11_225 rfl (Or.inl ⟨2, 3, TX3, (sa_22_0 hs), rfl, by decide⟩) (f_cal (M := M) (us2 := [3, 18, 19, 22]) [0, 1, 2, 3] hn rfl (And.intro rfl (And.intro rfl (And.intro rfl (And.intro rfl trivial)))) rfl rfl rfl (c_X3_bestChoice hst hs   hq4)) (by decide) (Nat.le_of_ble_eq_true rfl) (Or.inl rfl) ?_
  show Ev g _ _ _ _ _ _ 16 [some (x_r (16 * 1 + 0))] [x_i v1] (al, ro, fl (ml M [3, 18, 19, 22] [N, Th2, La3, Fo4])) _ _ _ _
  cases hG
  exact (e_ireturn rfl dX11_humour_16 rfl)
