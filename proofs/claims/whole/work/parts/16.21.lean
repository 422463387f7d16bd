set_option maxRecDepth 100000 in
set_option maxHeartbeats 4000000 in
theorem c_X11_trial {g : xG} {al : List (Nat × Nat × Nat)} {ro : Nat → Nat → Option Nat} (hst : g.1.stackTraces = false) (hs : SH al ro) {M : Nat → xU} {a : Int} {b : Int} {N : xU} {Th : xU} {La : xU}  {t : ((Int ⊕ Nat) × xU × xU)} (hG : G11_trial a b N Th La = some t) :
    Cal g yX11_trial cX11_trial 3 (some .int) 6 [x_r (16 * 1 + 0), x_i a, x_i b] (al, ro, fl (ml M [3, 18, 19] [N, Th, La])) 1 6 (x_oi t.1) (al, ro, fl (ml M [3, 18, 19] [N, t.2.1, t.2.2])) := by
  have hn : ([3, 18, 19] : List Nat).Nodup := by decide
  refine cal_of_ev (plainFor_of_name (by decide)) (x_c1 rfl) (Nat.le_of_ble_eq_true rfl) hst ?_
  show Ev g _ _ _ _ _ _ 0 [some (x_r (16 * 1 + 0)), some (x_i a), some (x_i b)] [] (al, ro, fl (ml M [3, 18, 19] [N, Th, La])) _ _ _ _
  rw [G11_trial] at hG
  refine e_iloadn (pc := 0) (i := 1) dX11_trial_0 rfl rfl ?_
  refine e_bipush (pc := 1) dX11_trial_1 (by decide +kernel) (x_R rfl) ?_
  obtain ⟨o1, hq1, hG⟩ := x_bd1 hG
  cases o1 with
  | some E3 =>
    replace hG := x_tv_s hG
    cases hG
    exact (e_invSX (pc := 3) (dd2 := 0) (av := [x_i a, x_i 72]) (st := []) dX11_trial_3 xmX11_187 rfl (f_cal (M := M) (us2 := []) [] hn rfl trivial rfl rfl rfl (c_X11_needWithin hst hs   hq1)) (by decide) (Nat.le_of_ble_eq_true rfl) (fun _ q => absurd q List.not_mem_nil))
  | none =>
    replace hG := x_tv_n hG
    refine e_invS (pc := 3) (K1 := 1) (S1 := 6) (K := 0) (S := 0) (dd2 := 0) (av := [x_i a, x_i 72]) (st := []) dX11_trial_3 xmX11_187 rfl (f_cal (M := M) (us2 := []) [] hn rfl trivial rfl rfl rfl (c_X11_needWithin hst hs   hq1)) (by decide) (Nat.le_of_ble_eq_true rfl) (Or.inl rfl) ?_
    show Ev g _ _ _ _ _ _ 6 [some (x_r (16 * 1 + 0)), some (x_i a), some (x_i b)] [] (al, ro, fl (ml M [3, 18, 19] [N, Th, La])) _ _ _ _
    refine e_aloadn (pc := 6) (i := 0) dX11_trial_6 rfl rfl ?_
    refine f_getr (pc := 7) (u := 1) (q := 0) dX11_trial_7 xf11_49 (sa_1_0 hs) rfl (sr_1_0_8 hs) ?_
    refine e_aloadn (pc := 10) (i := 0) dX11_trial_10 rfl rfl ?_
    refine f_getr (pc := 11) (u := 1) (q := 0) dX11_trial_11 xf11_19 (sa_1_0 hs) rfl (sr_1_0_1 hs) ?_
    obtain ⟨Th4, hq4, hG⟩ := x_bd1 hG
    refine e_invV (pc := 14) (K1 := 0) (S1 := 0) (K := 0) (S := 0) (dd2 := 3) (av := [x_r (16 * 3 + 0)]) (st := []) (id := 16 * 22 + 0) dX11_trial_14 xmX11_214 rfl (Or.inl ⟨2, 3, TX3, (sa_22_0 hs), rfl, by decide⟩) (f_cal (M := M) (us2 := [3, 18]) [0, 1] hn rfl (And.intro rfl (And.intro rfl trivial)) rfl rfl rfl (c_X3_look hst hs   hq4)) (by decide) (Nat.le_of_ble_eq_true rfl) (Or.inl rfl) ?_
    show Ev g _ _ _ _ _ _ 17 [some (x_r (16 * 1 + 0)), some (x_i a), some (x_i b)] [] (al, ro, fl (ml M [3, 18, 19] [N, Th4, La])) _ _ _ _
    refine e_aloadn (pc := 17) (i := 0) dX11_trial_17 rfl rfl ?_
    refine f_getr (pc := 18) (u := 1) (q := 0) dX11_trial_18 xf11_49 (sa_1_0 hs) rfl (sr_1_0_8 hs) ?_
    refine e_aloadn (pc := 21) (i := 0) dX11_trial_21 rfl rfl ?_
    refine f_getr (pc := 22) (u := 1) (q := 0) dX11_trial_22 xf11_32 (sa_1_0 hs) rfl (sr_1_0_4 hs) ?_
    refine e_iloadn (pc := 25) (i := 1) dX11_trial_25 rfl rfl ?_
    refine e_iconst (pc := 26) dX11_trial_26 (x_R rfl) ?_
    obtain ⟨Th6, La7, hq7, hG⟩ := x_bd2 hG
    refine e_invV (pc := 27) (K1 := 0) (S1 := 0) (K := 0) (S := 0) (dd2 := 5) (av := [x_r (16 * 19 + 0), x_i a, x_i 1]) (st := []) (id := 16 * 22 + 0) dX11_trial_27 xmX11_332 rfl (Or.inl ⟨2, 3, TX3, (sa_22_0 hs), rfl, by decide⟩) (f_cal (M := M) (us2 := [18, 19]) [1, 2] hn rfl (And.intro rfl (And.intro rfl trivial)) rfl rfl rfl (c_X3_passHours hst hs   hq7)) (by decide) (Nat.le_of_ble_eq_true rfl) (Or.inl rfl) ?_
    show Ev g _ _ _ _ _ _ 30 [some (x_r (16 * 1 + 0)), some (x_i a), some (x_i b)] [] (al, ro, fl (ml M [3, 18, 19] [N, Th6, La7])) _ _ _ _
    refine e_iloadn (pc := 30) (i := 2) dX11_trial_30 rfl rfl ?_
    obtain ⟨v9, hr9, hG⟩ := x_bd1 hG
    have hjhr9 : Ev g yX11_trial cX11_trial 3 (some .int) [] 6 58 [some (x_r (16 * 1 + 0)), some (x_i a), some (x_i b)] [x_i v9] (al, ro, fl (ml M [3, 18, 19] [N, Th6, La7])) 0 0 (x_oi t.1) (al, ro, fl (ml M [3, 18, 19] [N, t.2.1, t.2.2])) := by
      cases hG
      exact (e_ireturn rfl dX11_trial_58 rfl)
    clear hG
    refine e_if_eq (pc := 31) (tgt := 47) dX11_trial_31 (by decide) (fun hb => ?_) (fun hb => ?_)
    · rw [if_pos hb] at hr9
      refine e_aloadn (pc := 47) (i := 0) dX11_trial_47 rfl rfl ?_
      refine f_getr (pc := 48) (u := 1) (q := 0) dX11_trial_48 xf11_49 (sa_1_0 hs) rfl (sr_1_0_8 hs) ?_
      refine f_getr (pc := 51) (u := 22) (q := 0) dX11_trial_51 xf11_294 (sa_22_0 hs) rfl (sr_22_0_0 hs) ?_
      refine e_iconst (pc := 54) dX11_trial_54 (x_R rfl) ?_
      obtain ⟨v11, hq11, hr9⟩ := x_bd1 hr9
      refine e_invV (pc := 55) (K1 := 0) (S1 := 0) (K := 0) (S := 0) (dd2 := 1) (av := [x_i 5]) (st := []) (id := 16 * 18 + 0) dX11_trial_55 xmX11_336 rfl (Or.inl ⟨1, 12, TX1, (sa_18_0 hs), rfl, by decide⟩) (f_cal (M := M) (us2 := [18]) [1] hn rfl (And.intro rfl trivial) rfl rfl rfl (c_X1_sumOf hst hs (by decide)  hq11)) (by decide) (Nat.le_of_ble_eq_true rfl) (Or.inl rfl) ?_
      show Ev g _ _ _ _ _ _ 58 [some (x_r (16 * 1 + 0)), some (x_i a), some (x_i b)] [x_i v11] (al, ro, fl (ml M [3, 18, 19] [N, Th6, La7])) _ _ _ _
      cases hr9
      exact hjhr9
    · rw [if_neg hb] at hr9
      refine e_aloadn (pc := 34) (i := 0) dX11_trial_34 rfl rfl ?_
      refine f_getr (pc := 35) (u := 1) (q := 0) dX11_trial_35 xf11_49 (sa_1_0 hs) rfl (sr_1_0_8 hs) ?_
      refine f_getr (pc := 38) (u := 22) (q := 0) dX11_trial_38 xf11_294 (sa_22_0 hs) rfl (sr_22_0_0 hs) ?_
      refine f_geti (pc := 41) (k := 1) (u := 18) (q := 0) dX11_trial_41 xf11_191 (sa_18_0 hs) rfl hn rfl rfl (by decide) ?_
      show Ev g _ _ _ _ _ _ 44 [some (x_r (16 * 1 + 0)), some (x_i a), some (x_i b)] [x_i (Th6 0 8)] (al, ro, fl (ml M [3, 18, 19] [N, Th6, La7])) _ _ _ _
      refine e_goto (pc := 44) (tgt := 58) dX11_trial_44 (by decide) ?_
      cases hr9
      exact hjhr9
set_option maxRecDepth 100000 in
set_option maxHeartbeats 4000000 in
theorem c_X11_span {g : xG} {al : List (Nat × Nat × Nat)} {ro : Nat → Nat → Option Nat} (hst : g.1.stackTraces = false) (hs : SH al ro) {M : Nat → xU} {a : Int} {b : Int} {N : xU} {Th : xU} {La : xU}  {t : ((Int ⊕ Nat) × xU × xU)} (hG : G11_span a b N Th La = some t) :
    Cal g yX11_span cX11_span 3 (some .int) 7 [x_r (16 * 1 + 0), x_i a, x_i b] (al, ro, fl (ml M [3, 18, 19] [N, Th, La])) 1 6 (x_oi t.1) (al, ro, fl (ml M [3, 18, 19] [N, t.2.1, t.2.2])) := by
  have hn : ([3, 18, 19] : List Nat).Nodup := by decide
  refine cal_of_ev (plainFor_of_name (by decide)) (x_c1 rfl) (Nat.le_of_ble_eq_true rfl) hst ?_
  show Ev g _ _ _ _ _ _ 0 [some (x_r (16 * 1 + 0)), some (x_i a), some (x_i b)] [] (al, ro, fl (ml M [3, 18, 19] [N, Th, La])) _ _ _ _
  rw [G11_span] at hG
  refine e_iloadn (pc := 0) (i := 1) dX11_span_0 rfl rfl ?_
  refine e_bipush (pc := 1) dX11_span_1 (by decide +kernel) (x_R rfl) ?_
  obtain ⟨o1, hq1, hG⟩ := x_bd1 hG
  cases o1 with
  | some E3 =>
    replace hG := x_tv_s hG
    cases hG
    exact (e_invSX (pc := 3) (dd2 := 0) (av := [x_i a, x_i 72]) (st := []) dX11_span_3 xmX11_187 rfl (f_cal (M := M) (us2 := []) [] hn rfl trivial rfl rfl rfl (c_X11_needWithin hst hs   hq1)) (by decide) (Nat.le_of_ble_eq_true rfl) (fun _ q => absurd q List.not_mem_nil))
  | none =>
    replace hG := x_tv_n hG
    refine e_invS (pc := 3) (K1 := 1) (S1 := 6) (K := 0) (S := 0) (dd2 := 0) (av := [x_i a, x_i 72]) (st := []) dX11_span_3 xmX11_187 rfl (f_cal (M := M) (us2 := []) [] hn rfl trivial rfl rfl rfl (c_X11_needWithin hst hs   hq1)) (by decide) (Nat.le_of_ble_eq_true rfl) (Or.inl rfl) ?_
    show Ev g _ _ _ _ _ _ 6 [some (x_r (16 * 1 + 0)), some (x_i a), some (x_i b)] [] (al, ro, fl (ml M [3, 18, 19] [N, Th, La])) _ _ _ _
    refine e_aloadn (pc := 6) (i := 0) dX11_span_6 rfl rfl ?_
    refine f_getr (pc := 7) (u := 1) (q := 0) dX11_span_7 xf11_49 (sa_1_0 hs) rfl (sr_1_0_8 hs) ?_
    refine e_aloadn (pc := 10) (i := 0) dX11_span_10 rfl rfl ?_
    refine f_getr (pc := 11) (u := 1) (q := 0) dX11_span_11 xf11_19 (sa_1_0 hs) rfl (sr_1_0_1 hs) ?_
    refine e_aloadn (pc := 14) (i := 0) dX11_span_14 rfl rfl ?_
    refine f_getr (pc := 15) (u := 1) (q := 0) dX11_span_15 xf11_32 (sa_1_0 hs) rfl (sr_1_0_4 hs) ?_
    refine e_iloadn (pc := 18) (i := 1) dX11_span_18 rfl rfl ?_
    refine e_iloadn (pc := 19) (i := 2) dX11_span_19 rfl rfl ?_
    obtain ⟨v4, Th5, La6, hq6, hG⟩ := x_bd3 hG
    refine e_invV (pc := 20) (K1 := 0) (S1 := 0) (K := 0) (S := 0) (dd2 := 6) (av := [x_r (16 * 3 + 0), x_r (16 * 19 + 0), x_i a, x_i b]) (st := []) (id := 16 * 22 + 0) dX11_span_20 xmX11_339 rfl (Or.inl ⟨2, 3, TX3, (sa_22_0 hs), rfl, by decide⟩) (f_cal (M := M) (us2 := [3, 18, 19]) [0, 1, 2] hn rfl (And.intro rfl (And.intro rfl (And.intro rfl trivial))) rfl rfl rfl (c_X3_spanOf hst hs   hq6)) (by decide) (Nat.le_of_ble_eq_true rfl) (Or.inl rfl) ?_
    show Ev g _ _ _ _ _ _ 23 [some (x_r (16 * 1 + 0)), some (x_i a), some (x_i b)] [x_i v4] (al, ro, fl (ml M [3, 18, 19] [N, Th5, La6])) _ _ _ _
    cases hG
    exact (e_ireturn rfl dX11_span_23 rfl)
set_option maxRecDepth 100000 in
set_option maxHeartbeats 4000000 in
theorem c_X11_led {g : xG} {al : List (Nat × Nat × Nat)} {ro : Nat → Nat → Option Nat} (hst : g.1.stackTraces = false) (hs : SH al ro) {M : Nat → xU} {a : Int} {b : Int} {N : xU}  {t : (Int ⊕ Nat)} (hG : G11_led a b N = some t) :
    Cal g yX11_led cX11_led 3 (some .int) 3 [x_r (16 * 1 + 0), x_i a, x_i b] (al, ro, fl (ml M [3] [N])) 1 6 (x_oi t) (al, ro, fl (ml M [3] [N])) := by
  have hn : ([3] : List Nat).Nodup := by decide
  refine cal_of_ev (plainFor_of_name (by decide)) (x_c1 rfl) (Nat.le_of_ble_eq_true rfl) hst ?_
  show Ev g _ _ _ _ _ _ 0 [some (x_r (16 * 1 + 0)), some (x_i a), some (x_i b)] [] (al, ro, fl (ml M [3] [N])) _ _ _ _
  rw [G11_led] at hG
  refine e_aloadn (pc := 0) (i := 0) dX11_led_0 rfl rfl ?_
  refine e_iloadn (pc := 1) (i := 1) dX11_led_1 rfl rfl ?_
  obtain ⟨o1, hq1, hG⟩ := x_bd1 hG
  cases o1 with
  | some E3 =>
    replace hG := x_tv_s hG
    cases hG
    exact (e_invVX (pc := 2) (dd2 := 0) (av := [x_i a]) (st := []) (id := 16 * 1 + 0) dX11_led_2 xmX11_128 rfl (Or.inl ⟨9, 17, TX11, (sa_1_0 hs), rfl, by decide⟩) (f_cal (M := M) (us2 := [3]) [0] hn rfl (And.intro rfl trivial) rfl rfl rfl (c_X11_needMonk hst hs   hq1)) (by decide) (Nat.le_of_ble_eq_true rfl) (fun _ q => absurd q List.not_mem_nil))
  | none =>
    replace hG := x_tv_n hG
    refine e_invV (pc := 2) (K1 := 1) (S1 := 6) (K := 0) (S := 0) (dd2 := 0) (av := [x_i a]) (st := []) (id := 16 * 1 + 0) dX11_led_2 xmX11_128 rfl (Or.inl ⟨9, 17, TX11, (sa_1_0 hs), rfl, by decide⟩) (f_cal (M := M) (us2 := [3]) [0] hn rfl (And.intro rfl trivial) rfl rfl rfl (c_X11_needMonk hst hs   hq1)) (by decide) (Nat.le_of_ble_eq_true rfl) (Or.inl rfl) ?_
    show Ev g _ _ _ _ _ _ 5 [some (x_r (16 * 1 + 0)), some (x_i a), some (x_i b)] [] (al, ro, fl (ml M [3] [N])) _ _ _ _
    refine e_iloadn (pc := 5) (i := 2) dX11_led_5 rfl rfl ?_
    obtain ⟨v4, hr4, hG⟩ := x_bd1 hG
    have hjhr4 : Ev g yX11_led cX11_led 3 (some .int) [] 3 34 [some (x_r (16 * 1 + 0)), some (x_i a), some (x_i b)] [x_i v4] (al, ro, fl (ml M [3] [N])) 0 0 (x_oi t) (al, ro, fl (ml M [3] [N])) := by
      cases hG
      exact (e_ireturn rfl dX11_led_34 rfl)
    clear hG
    refine e_if_eq (pc := 6) (tgt := 23) dX11_led_6 (by decide) (fun hb => ?_) (fun hb => ?_)
    · rw [if_pos hb] at hr4
      refine e_aloadn (pc := 23) (i := 0) dX11_led_23 rfl rfl ?_
      refine f_getr (pc := 24) (u := 1) (q := 0) dX11_led_24 xf11_19 (sa_1_0 hs) rfl (sr_1_0_1 hs) ?_
      refine f_getr (pc := 27) (u := 3) (q := 0) dX11_led_27 xf11_343 (sa_3_0 hs) rfl (sr_3_0_2 hs) ?_
      refine e_iloadn (pc := 30) (i := 1) dX11_led_30 rfl rfl ?_
      obtain ⟨v6, hq6, hr4⟩ := x_bd1 hr4
      refine e_invV (pc := 31) (K1 := 0) (S1 := 0) (K := 0) (S := 0) (dd2 := 2) (av := [x_i a]) (st := []) (id := 16 * 3 + 3) dX11_led_31 xmX11_352 rfl (Or.inl ⟨4, 3, TX6, (sa_3_3 hs), rfl, by decide⟩) (f_cal (M := M) (us2 := [3]) [0] hn rfl (And.intro rfl trivial) rfl rfl rfl (c_X6_rowsOf hst hs (by decide)  hq6)) (by decide) (Nat.le_of_ble_eq_true rfl) (Or.inl rfl) ?_
      show Ev g _ _ _ _ _ _ 34 [some (x_r (16 * 1 + 0)), some (x_i a), some (x_i b)] [x_i v6] (al, ro, fl (ml M [3] [N])) _ _ _ _
      cases hr4
      exact hjhr4
    · rw [if_neg hb] at hr4
      refine e_aloadn (pc := 9) (i := 0) dX11_led_9 rfl rfl ?_
      refine f_getr (pc := 10) (u := 1) (q := 0) dX11_led_10 xf11_19 (sa_1_0 hs) rfl (sr_1_0_1 hs) ?_
      refine f_getr (pc := 13) (u := 3) (q := 0) dX11_led_13 xf11_343 (sa_3_0 hs) rfl (sr_3_0_2 hs) ?_
      refine e_iloadn (pc := 16) (i := 1) dX11_led_16 rfl rfl ?_
      obtain ⟨v8, hq8, hr4⟩ := x_bd1 hr4
      refine e_invV (pc := 17) (K1 := 0) (S1 := 0) (K := 0) (S := 0) (dd2 := 2) (av := [x_i a]) (st := []) (id := 16 * 3 + 3) dX11_led_17 xmX11_347 rfl (Or.inl ⟨4, 3, TX6, (sa_3_3 hs), rfl, by decide⟩) (f_cal (M := M) (us2 := [3]) [0] hn rfl (And.intro rfl trivial) rfl rfl rfl (c_X6_latestFlagOf hst hs (by decide)  hq8)) (by decide) (Nat.le_of_ble_eq_true rfl) (Or.inl rfl) ?_
      show Ev g _ _ _ _ _ _ 20 [some (x_r (16 * 1 + 0)), some (x_i a), some (x_i b)] [x_i v8] (al, ro, fl (ml M [3] [N])) _ _ _ _
      refine e_goto (pc := 20) (tgt := 34) dX11_led_20 (by decide) ?_
      cases hr4
      exact hjhr4
set_option maxRecDepth 100000 in
set_option maxHeartbeats 4000000 in
theorem c_X11_log {g : xG} {al : List (Nat × Nat × Nat)} {ro : Nat → Nat → Option Nat} (hst : g.1.stackTraces = false) (hs : SH al ro) {M : Nat → xU} {a : Int} {b : Int} {N : xU}  {t : (Int ⊕ Nat)} (hG : G11_log a b N = some t) :
    Cal g yX11_log cX11_log 3 (some .int) 2 [x_r (16 * 1 + 0), x_i a, x_i b] (al, ro, fl (ml M [3] [N])) 1 6 (x_oi t) (al, ro, fl (ml M [3] [N])) := by
  have hn : ([3] : List Nat).Nodup := by decide
  refine cal_of_ev (plainFor_of_name (by decide)) (x_c1 rfl) (Nat.le_of_ble_eq_true rfl) hst ?_
  show Ev g _ _ _ _ _ _ 0 [some (x_r (16 * 1 + 0)), some (x_i a), some (x_i b)] [] (al, ro, fl (ml M [3] [N])) _ _ _ _
  rw [G11_log] at hG
  refine e_iloadn (pc := 0) (i := 2) dX11_log_0 rfl rfl ?_
  refine e_if_lt (pc := 1) (tgt := 9) dX11_log_1 (by decide) (fun hb => ?_) (fun hb => ?_)
  · rw [if_pos hb] at hG
    cases hG
    exact (e_throw (pc := 9) xt_3 dX11_log_9 dX11_log_12 dX11_log_13 dX11_log_16 (Nat.le_of_ble_eq_true rfl) (fun _ q => absurd q List.not_mem_nil))
  · rw [if_neg hb] at hG
    refine e_iloadn (pc := 4) (i := 2) dX11_log_4 rfl rfl ?_
    refine e_iconst (pc := 5) dX11_log_5 (x_R rfl) ?_
    refine e_icmp_le (pc := 6) (tgt := 17) dX11_log_6 (by decide) (fun hb => ?_) (fun hb => ?_)
    · rw [if_pos hb] at hG
      refine e_aloadn (pc := 17) (i := 0) dX11_log_17 rfl rfl ?_
      refine f_getr (pc := 18) (u := 1) (q := 0) dX11_log_18 xf11_19 (sa_1_0 hs) rfl (sr_1_0_1 hs) ?_
      refine f_getr (pc := 21) (u := 3) (q := 0) dX11_log_21 xf11_343 (sa_3_0 hs) rfl (sr_3_0_2 hs) ?_
      refine e_iloadn (pc := 24) (i := 1) dX11_log_24 rfl rfl ?_
      refine e_iloadn (pc := 25) (i := 2) dX11_log_25 rfl rfl ?_
      obtain ⟨v1, hq1, hG⟩ := x_bd1 hG
      refine e_invV (pc := 26) (K1 := 0) (S1 := 0) (K := 1) (S := 6) (dd2 := 1) (av := [x_i a, x_i b]) (st := []) (id := 16 * 3 + 3) dX11_log_26 xmX11_355 rfl (Or.inl ⟨4, 3, TX6, (sa_3_3 hs), rfl, by decide⟩) (f_cal (M := M) (us2 := [3]) [0] hn rfl (And.intro rfl trivial) rfl rfl rfl (c_X6_told hst hs (by decide)  hq1)) (by decide) (Nat.le_of_ble_eq_true rfl) (Or.inl rfl) ?_
      show Ev g _ _ _ _ _ _ 29 [some (x_r (16 * 1 + 0)), some (x_i a), some (x_i b)] [x_i v1] (al, ro, fl (ml M [3] [N])) _ _ _ _
      cases hG
      exact (e_wide (K0 := 0) (S0 := 0) (by decide) (by decide) (e_ireturn rfl dX11_log_29 rfl))
    · rw [if_neg hb] at hG
      cases hG
      exact (e_throw (pc := 9) xt_3 dX11_log_9 dX11_log_12 dX11_log_13 dX11_log_16 (Nat.le_of_ble_eq_true rfl) (fun _ q => absurd q List.not_mem_nil))
set_option maxRecDepth 100000 in
set_option maxHeartbeats 4000000 in
theorem c_X11_seed {g : xG} {al : List (Nat × Nat × Nat)} {ro : Nat → Nat → Option Nat} (hst : g.1.stackTraces = false) (hs : SH al ro) {M : Nat → xU} {a : Int} {N : xU}  {t : (Int × xU)} (hG : G11_seed a N = some t) :
    Cal g yX11_seed cX11_seed 3 (some .int) 0 [x_r (16 * 1 + 0), x_i a] (al, ro, fl (ml M [3] [N])) 0 0 (.inl (some (x_i t.1))) (al, ro, fl (ml M [3] [t.2])) := by
  have hn : ([3] : List Nat).Nodup := by decide
  refine cal_of_ev (plainFor_of_name (by decide)) (x_c1 rfl) (Nat.le_of_ble_eq_true rfl) hst ?_
  show Ev g _ _ _ _ _ _ 0 [some (x_r (16 * 1 + 0)), some (x_i a), none] [] (al, ro, fl (ml M [3] [N])) _ _ _ _
  rw [G11_seed] at hG
  refine e_aloadn (pc := 0) (i := 0) dX11_seed_0 rfl rfl ?_
  refine f_getr (pc := 1) (u := 1) (q := 0) dX11_seed_1 xf11_19 (sa_1_0 hs) rfl (sr_1_0_1 hs) ?_
  refine f_geti (pc := 4) (k := 0) (u := 3) (q := 0) dX11_seed_4 xf11_358 (sa_3_0 hs) rfl hn rfl rfl (by decide) ?_
  show Ev g _ _ _ _ _ _ 7 [some (x_r (16 * 1 + 0)), some (x_i a), none] [x_i (N 0 11)] (al, ro, fl (ml M [3] [N])) _ _ _ _
  refine e_istoren (pc := 7) (i := 2) dX11_seed_7 rfl (by decide) rfl ?_
  show Ev g _ _ _ _ _ _ 8 [some (x_r (16 * 1 + 0)), some (x_i a), some (x_i (N 0 11))] [] (al, ro, fl (ml M [3] [N])) _ _ _ _
  refine e_aloadn (pc := 8) (i := 0) dX11_seed_8 rfl rfl ?_
  refine f_getr (pc := 9) (u := 1) (q := 0) dX11_seed_9 xf11_19 (sa_1_0 hs) rfl (sr_1_0_1 hs) ?_
  refine e_iloadn (pc := 12) (i := 1) dX11_seed_12 rfl rfl ?_
  refine f_puti (pc := 13) (k := 0) (u := 3) (q := 0) dX11_seed_13 xf11_358 xw1_11 (sa_3_0 hs) hn rfl rfl rfl (by decide) ?_
  show Ev g _ _ _ _ _ _ 16 [some (x_r (16 * 1 + 0)), some (x_i a), some (x_i (N 0 11))] [] (al, ro, fl (ml M [3] [(x_up N 0 11 a)])) _ _ _ _
  refine e_iloadn (pc := 16) (i := 2) dX11_seed_16 rfl rfl ?_
  cases hG
  exact (e_ireturn rfl dX11_seed_17 rfl)
set_option maxRecDepth 100000 in
set_option maxHeartbeats 4000000 in
theorem c_X11_image {g : xG} {al : List (Nat × Nat × Nat)} {ro : Nat → Nat → Option Nat} (hst : g.1.stackTraces = false) (hs : SH al ro) {M : Nat → xU} {X : xU} {N : xU} {Kp : xU} {La : xU} {Lc : xU}  {t : (xU × xU × xU)} (hG : G11_image X N Kp La Lc = some t) :
    Cal g yX11_image cX11_image 1 none 3 [x_r (16 * 1 + 0)] (al, ro, fl (ml M [1, 3, 5, 19, 21] [X, N, Kp, La, Lc])) 0 0 (.inl none) (al, ro, fl (ml M [1, 3, 5, 19, 21] [t.1, N, t.2.1, La, t.2.2])) := by
  have hn : ([1, 3, 5, 19, 21] : List Nat).Nodup := by decide
  refine cal_of_ev (plainFor_of_name (by decide)) (x_c1 rfl) (Nat.le_of_ble_eq_true rfl) hst ?_
  show Ev g _ _ _ _ _ _ 0 [some (x_r (16 * 1 + 0))] [] (al, ro, fl (ml M [1, 3, 5, 19, 21] [X, N, Kp, La, Lc])) _ _ _ _
  rw [G11_image] at hG
  refine e_aloadn (pc := 0) (i := 0) dX11_image_0 rfl rfl ?_
  refine f_getr (pc := 1) (u := 1) (q := 0) dX11_image_1 xf11_26 (sa_1_0 hs) rfl (sr_1_0_3 hs) ?_
  refine e_aloadn (pc := 4) (i := 0) dX11_image_4 rfl rfl ?_
  refine f_getr (pc := 5) (u := 1) (q := 0) dX11_image_5 xf11_19 (sa_1_0 hs) rfl (sr_1_0_1 hs) ?_
  obtain ⟨Kp1, hq1, hG⟩ := x_bd1 hG
  refine e_invV (pc := 8) (K1 := 0) (S1 := 0) (K := 0) (S := 0) (dd2 := 2) (av := [x_r (16 * 3 + 0)]) (st := []) (id := 16 * 5 + 0) dX11_image_8 xmX11_92 rfl (Or.inl ⟨1, 12, TX1, (sa_5_0 hs), rfl, by decide⟩) (f_cal (M := M) (us2 := [5, 3]) [2, 1] hn rfl (And.intro rfl (And.intro rfl trivial)) rfl rfl rfl (c_X1_copyFrom hst hs (by decide) (by decide) (by decide)  hq1)) (by decide) (Nat.le_of_ble_eq_true rfl) (Or.inl rfl) ?_
  show Ev g _ _ _ _ _ _ 11 [some (x_r (16 * 1 + 0))] [] (al, ro, fl (ml M [1, 3, 5, 19, 21] [X, N, Kp1, La, Lc])) _ _ _ _
  refine e_aloadn (pc := 11) (i := 0) dX11_image_11 rfl rfl ?_
  refine f_getr (pc := 12) (u := 1) (q := 0) dX11_image_12 xf11_39 (sa_1_0 hs) rfl (sr_1_0_6 hs) ?_
  refine e_aloadn (pc := 15) (i := 0) dX11_image_15 rfl rfl ?_
  refine f_getr (pc := 16) (u := 1) (q := 0) dX11_image_16 xf11_32 (sa_1_0 hs) rfl (sr_1_0_4 hs) ?_
  obtain ⟨Lc3, hq3, hG⟩ := x_bd1 hG
  refine e_invV (pc := 19) (K1 := 0) (S1 := 0) (K := 0) (S := 0) (dd2 := 1) (av := [x_r (16 * 19 + 0)]) (st := []) (id := 16 * 21 + 0) dX11_image_19 xmX11_122 rfl (Or.inl ⟨3, 7, TX4, (sa_21_0 hs), rfl, by decide⟩) (f_cal (M := M) (us2 := [21, 19]) [4, 3] hn rfl (And.intro rfl (And.intro rfl trivial)) rfl rfl rfl (c_X4_copyFrom hst hs (by decide) (by decide) (by decide)  hq3)) (by decide) (Nat.le_of_ble_eq_true rfl) (Or.inl rfl) ?_
  show Ev g _ _ _ _ _ _ 22 [some (x_r (16 * 1 + 0))] [] (al, ro, fl (ml M [1, 3, 5, 19, 21] [X, N, Kp1, La, Lc3])) _ _ _ _
  refine e_aloadn (pc := 22) (i := 0) dX11_image_22 rfl rfl ?_
  refine e_iconst (pc := 23) dX11_image_23 (x_R rfl) ?_
  refine f_putz (pc := 24) (k := 0) (u := 1) (q := 0) dX11_image_24 xf11_365 xw9_13 (by decide) (sa_1_0 hs) hn rfl rfl rfl (by decide) ?_
  show Ev g _ _ _ _ _ _ 27 [some (x_r (16 * 1 + 0))] [] (al, ro, fl (ml M [1, 3, 5, 19, 21] [(x_up X 0 13 1), N, Kp1, La, Lc3])) _ _ _ _
  cases hG
  exact (e_return rfl dX11_image_27)
set_option maxRecDepth 100000 in
set_option maxHeartbeats 4000000 in
theorem c_X11_back {g : xG} {al : List (Nat × Nat × Nat)} {ro : Nat → Nat → Option Nat} (hst : g.1.stackTraces = false) (hs : SH al ro) {M : Nat → xU} {X : xU} {N : xU} {Kp : xU} {La : xU} {Lc : xU}  {t : (Int × xU × xU × xU)} (hG : G11_back X N Kp La Lc = some t) :
    Cal g yX11_back cX11_back 1 (some .boolean) 3 [x_r (16 * 1 + 0)] (al, ro, fl (ml M [1, 3, 5, 19, 21] [X, N, Kp, La, Lc])) 0 0 (.inl (some (x_i t.1))) (al, ro, fl (ml M [1, 3, 5, 19, 21] [t.2.1, t.2.2.1, Kp, t.2.2.2, Lc])) := by
  have hn : ([1, 3, 5, 19, 21] : List Nat).Nodup := by decide
  refine cal_of_ev (plainFor_of_name (by decide)) (x_c1 rfl) (Nat.le_of_ble_eq_true rfl) hst ?_
  show Ev g _ _ _ _ _ _ 0 [some (x_r (16 * 1 + 0))] [] (al, ro, fl (ml M [1, 3, 5, 19, 21] [X, N, Kp, La, Lc])) _ _ _ _
  rw [G11_back] at hG
  refine e_aloadn (pc := 0) (i := 0) dX11_back_0 rfl rfl ?_
  refine f_geti (pc := 1) (k := 0) (u := 1) (q := 0) dX11_back_1 xf11_365 (sa_1_0 hs) rfl hn rfl rfl (by decide) ?_
  show Ev g _ _ _ _ _ _ 4 [some (x_r (16 * 1 + 0))] [x_i (X 0 13)] (al, ro, fl (ml M [1, 3, 5, 19, 21] [X, N, Kp, La, Lc])) _ _ _ _
  refine e_if_ne (pc := 4) (tgt := 9) dX11_back_4 (by decide) (fun hb => ?_) (fun hb => ?_)
  · rw [if_neg hb] at hG
    refine e_aloadn (pc := 9) (i := 0) dX11_back_9 rfl rfl ?_
    refine f_getr (pc := 10) (u := 1) (q := 0) dX11_back_10 xf11_19 (sa_1_0 hs) rfl (sr_1_0_1 hs) ?_
    refine e_aloadn (pc := 13) (i := 0) dX11_back_13 rfl rfl ?_
    refine f_getr (pc := 14) (u := 1) (q := 0) dX11_back_14 xf11_26 (sa_1_0 hs) rfl (sr_1_0_3 hs) ?_
    obtain ⟨N1, hq1, hG⟩ := x_bd1 hG
    refine e_invV (pc := 17) (K1 := 0) (S1 := 0) (K := 0) (S := 0) (dd2 := 2) (av := [x_r (16 * 5 + 0)]) (st := []) (id := 16 * 3 + 0) dX11_back_17 xmX11_92 rfl (Or.inl ⟨1, 12, TX1, (sa_3_0 hs), rfl, by decide⟩) (f_cal (M := M) (us2 := [3, 5]) [1, 2] hn rfl (And.intro rfl (And.intro rfl trivial)) rfl rfl rfl (c_X1_copyFrom hst hs (by decide) (by decide) (by decide)  hq1)) (by decide) (Nat.le_of_ble_eq_true rfl) (Or.inl rfl) ?_
    show Ev g _ _ _ _ _ _ 20 [some (x_r (16 * 1 + 0))] [] (al, ro, fl (ml M [1, 3, 5, 19, 21] [X, N1, Kp, La, Lc])) _ _ _ _
    refine e_aloadn (pc := 20) (i := 0) dX11_back_20 rfl rfl ?_
    refine f_getr (pc := 21) (u := 1) (q := 0) dX11_back_21 xf11_32 (sa_1_0 hs) rfl (sr_1_0_4 hs) ?_
    refine e_aloadn (pc := 24) (i := 0) dX11_back_24 rfl rfl ?_
    refine f_getr (pc := 25) (u := 1) (q := 0) dX11_back_25 xf11_39 (sa_1_0 hs) rfl (sr_1_0_6 hs) ?_
    obtain ⟨La3, hq3, hG⟩ := x_bd1 hG
    refine e_invV (pc := 28) (K1 := 0) (S1 := 0) (K := 0) (S := 0) (dd2 := 1) (av := [x_r (16 * 21 + 0)]) (st := []) (id := 16 * 19 + 0) dX11_back_28 xmX11_122 rfl (Or.inl ⟨3, 7, TX4, (sa_19_0 hs), rfl, by decide⟩) (f_cal (M := M) (us2 := [19, 21]) [3, 4] hn rfl (And.intro rfl (And.intro rfl trivial)) rfl rfl rfl (c_X4_copyFrom hst hs (by decide) (by decide) (by decide)  hq3)) (by decide) (Nat.le_of_ble_eq_true rfl) (Or.inl rfl) ?_
    show Ev g _ _ _ _ _ _ 31 [some (x_r (16 * 1 + 0))] [] (al, ro, fl (ml M [1, 3, 5, 19, 21] [X, N1, Kp, La3, Lc])) _ _ _ _
    refine e_aloadn (pc := 31) (i := 0) dX11_back_31 rfl rfl ?_
    refine e_iconst (pc := 32) dX11_back_32 (x_R rfl) ?_
    refine f_puti (pc := 33) (k := 0) (u := 1) (q := 0) dX11_back_33 xf11_114 xw9_15 (sa_1_0 hs) hn rfl rfl rfl (by decide) ?_
    show Ev g _ _ _ _ _ _ 36 [some (x_r (16 * 1 + 0))] [] (al, ro, fl (ml M [1, 3, 5, 19, 21] [(x_up X 0 15 0), N1, Kp, La3, Lc])) _ _ _ _
    refine e_iconst (pc := 36) dX11_back_36 (x_R rfl) ?_
    cases hG
    exact (e_ireturn rfl dX11_back_37 (x_bool (by decide)).1)
  · rw [if_pos hb] at hG
    refine e_iconst (pc := 7) dX11_back_7 (x_R rfl) ?_
    cases hG
    exact (e_ireturn rfl dX11_back_8 (x_bool (by decide)).1)
set_option maxRecDepth 100000 in
set_option maxHeartbeats 4000000 in
theorem c_X11_count {g : xG} {al : List (Nat × Nat × Nat)} {ro : Nat → Nat → Option Nat} (hst : g.1.stackTraces = false) (hs : SH al ro) {M : Nat → xU} {a : Int} {X : xU} {N : xU} {La : xU}  {t : Int} (hG : G11_count a X N La = some t) :
    Cal g yX11_count cX11_count 2 (some .int) 2 [x_r (16 * 1 + 0), x_i a] (al, ro, fl (ml M [1, 3, 19] [X, N, La])) 0 0 (.inl (some (x_i t))) (al, ro, fl (ml M [1, 3, 19] [X, N, La])) := by
  have hn : ([1, 3, 19] : List Nat).Nodup := by decide
  refine cal_of_ev (plainFor_of_name (by decide)) (x_c1 rfl) (Nat.le_of_ble_eq_true rfl) hst ?_
  show Ev g _ _ _ _ _ _ 0 [some (x_r (16 * 1 + 0)), some (x_i a)] [] (al, ro, fl (ml M [1, 3, 19] [X, N, La])) _ _ _ _
  rw [G11_count] at hG
  refine e_iloadn (pc := 0) (i := 1) dX11_count_0 rfl rfl ?_
  by_cases hb0 : a = 0
  · rw [if_pos hb0] at hG
    refine e_tabIn (pc := 1) (tgt := 68) dX11_count_1 (by omega) (by omega) (by rw [hb0]; rfl) (by decide) ?_
    refine e_aloadn (pc := 68) (i := 0) dX11_count_68 rfl rfl ?_
    refine f_getr (pc := 69) (u := 1) (q := 0) dX11_count_69 xf11_19 (sa_1_0 hs) rfl (sr_1_0_1 hs) ?_
    refine f_geti (pc := 72) (k := 1) (u := 3) (q := 0) dX11_count_72 xf11_200 (sa_3_0 hs) rfl hn rfl rfl (by decide) ?_
    show Ev g _ _ _ _ _ _ 75 [some (x_r (16 * 1 + 0)), some (x_i a)] [x_i (N 0 3)] (al, ro, fl (ml M [1, 3, 19] [X, N, La])) _ _ _ _
    cases hG
    exact (e_ireturn rfl dX11_count_75 rfl)
  rw [if_neg hb0] at hG
  by_cases hb1 : a = 1
  · rw [if_pos hb1] at hG
    refine e_tabIn (pc := 1) (tgt := 76) dX11_count_1 (by omega) (by omega) (by rw [hb1]; rfl) (by decide) ?_
    refine e_aloadn (pc := 76) (i := 0) dX11_count_76 rfl rfl ?_
    refine f_getr (pc := 77) (u := 1) (q := 0) dX11_count_77 xf11_19 (sa_1_0 hs) rfl (sr_1_0_1 hs) ?_
    refine f_geti (pc := 80) (k := 1) (u := 3) (q := 0) dX11_count_80 xf11_108 (sa_3_0 hs) rfl hn rfl rfl (by decide) ?_
    show Ev g _ _ _ _ _ _ 83 [some (x_r (16 * 1 + 0)), some (x_i a)] [x_i (N 0 4)] (al, ro, fl (ml M [1, 3, 19] [X, N, La])) _ _ _ _
    cases hG
    exact (e_ireturn rfl dX11_count_83 rfl)
  rw [if_neg hb1] at hG
  by_cases hb2 : a = 2
  · rw [if_pos hb2] at hG
    refine e_tabIn (pc := 1) (tgt := 84) dX11_count_1 (by omega) (by omega) (by rw [hb2]; rfl) (by decide) ?_
    refine e_aloadn (pc := 84) (i := 0) dX11_count_84 rfl rfl ?_
    refine f_getr (pc := 85) (u := 1) (q := 0) dX11_count_85 xf11_32 (sa_1_0 hs) rfl (sr_1_0_4 hs) ?_
    refine f_geti (pc := 88) (k := 2) (u := 19) (q := 0) dX11_count_88 xf11_125 (sa_19_0 hs) rfl hn rfl rfl (by decide) ?_
    show Ev g _ _ _ _ _ _ 91 [some (x_r (16 * 1 + 0)), some (x_i a)] [x_i (La 0 6)] (al, ro, fl (ml M [1, 3, 19] [X, N, La])) _ _ _ _
    cases hG
    exact (e_ireturn rfl dX11_count_91 rfl)
  rw [if_neg hb2] at hG
  by_cases hb3 : a = 3
  · rw [if_pos hb3] at hG
    refine e_tabIn (pc := 1) (tgt := 92) dX11_count_1 (by omega) (by omega) (by rw [hb3]; rfl) (by decide) ?_
    refine e_aloadn (pc := 92) (i := 0) dX11_count_92 rfl rfl ?_
    refine f_getr (pc := 93) (u := 1) (q := 0) dX11_count_93 xf11_19 (sa_1_0 hs) rfl (sr_1_0_1 hs) ?_
    refine f_geti (pc := 96) (k := 1) (u := 3) (q := 0) dX11_count_96 xf11_369 (sa_3_0 hs) rfl hn rfl rfl (by decide) ?_
    show Ev g _ _ _ _ _ _ 99 [some (x_r (16 * 1 + 0)), some (x_i a)] [x_i (N 0 5)] (al, ro, fl (ml M [1, 3, 19] [X, N, La])) _ _ _ _
    cases hG
    exact (e_ireturn rfl dX11_count_99 rfl)
  rw [if_neg hb3] at hG
  by_cases hb4 : a = 4
  · rw [if_pos hb4] at hG
    refine e_tabIn (pc := 1) (tgt := 100) dX11_count_1 (by omega) (by omega) (by rw [hb4]; rfl) (by decide) ?_
    refine e_aloadn (pc := 100) (i := 0) dX11_count_100 rfl rfl ?_
    refine f_getr (pc := 101) (u := 1) (q := 0) dX11_count_101 xf11_19 (sa_1_0 hs) rfl (sr_1_0_1 hs) ?_
    refine f_geti (pc := 104) (k := 1) (u := 3) (q := 0) dX11_count_104 xf11_372 (sa_3_0 hs) rfl hn rfl rfl (by decide) ?_
    show Ev g _ _ _ _ _ _ 107 [some (x_r (16 * 1 + 0)), some (x_i a)] [x_i (N 0 6)] (al, ro, fl (ml M [1, 3, 19] [X, N, La])) _ _ _ _
    cases hG
    exact (e_ireturn rfl dX11_count_107 rfl)
  rw [if_neg hb4] at hG
  by_cases hb5 : a = 5
  · rw [if_pos hb5] at hG
    refine e_tabIn (pc := 1) (tgt := 108) dX11_count_1 (by omega) (by omega) (by rw [hb5]; rfl) (by decide) ?_
    refine e_aloadn (pc := 108) (i := 0) dX11_count_108 rfl rfl ?_
    refine f_getr (pc := 109) (u := 1) (q := 0) dX11_count_109 xf11_19 (sa_1_0 hs) rfl (sr_1_0_1 hs) ?_
    refine f_geti (pc := 112) (k := 1) (u := 3) (q := 0) dX11_count_112 xf11_184 (sa_3_0 hs) rfl hn rfl rfl (by decide) ?_
    show Ev g _ _ _ _ _ _ 115 [some (x_r (16 * 1 + 0)), some (x_i a)] [x_i (N 0 7)] (al, ro, fl (ml M [1, 3, 19] [X, N, La])) _ _ _ _
    cases hG
    exact (e_ireturn rfl dX11_count_115 rfl)
  rw [if_neg hb5] at hG
  by_cases hb6 : a = 6
  · rw [if_pos hb6] at hG
    refine e_tabIn (pc := 1) (tgt := 116) dX11_count_1 (by omega) (by omega) (by rw [hb6]; rfl) (by decide) ?_
    refine e_aloadn (pc := 116) (i := 0) dX11_count_116 rfl rfl ?_
    refine f_getr (pc := 117) (u := 1) (q := 0) dX11_count_117 xf11_19 (sa_1_0 hs) rfl (sr_1_0_1 hs) ?_
    refine f_geti (pc := 120) (k := 1) (u := 3) (q := 0) dX11_count_120 xf11_191 (sa_3_0 hs) rfl hn rfl rfl (by decide) ?_
    show Ev g _ _ _ _ _ _ 123 [some (x_r (16 * 1 + 0)), some (x_i a)] [x_i (N 0 8)] (al, ro, fl (ml M [1, 3, 19] [X, N, La])) _ _ _ _
    cases hG
    exact (e_ireturn rfl dX11_count_123 rfl)
  rw [if_neg hb6] at hG
  by_cases hb7 : a = 7
  · rw [if_pos hb7] at hG
    refine e_tabIn (pc := 1) (tgt := 124) dX11_count_1 (by omega) (by omega) (by rw [hb7]; rfl) (by decide) ?_
    refine e_aloadn (pc := 124) (i := 0) dX11_count_124 rfl rfl ?_
    refine f_getr (pc := 125) (u := 1) (q := 0) dX11_count_125 xf11_19 (sa_1_0 hs) rfl (sr_1_0_1 hs) ?_
    refine f_geti (pc := 128) (k := 1) (u := 3) (q := 0) dX11_count_128 xf11_375 (sa_3_0 hs) rfl hn rfl rfl (by decide) ?_
    show Ev g _ _ _ _ _ _ 131 [some (x_r (16 * 1 + 0)), some (x_i a)] [x_i (N 0 9)] (al, ro, fl (ml M [1, 3, 19] [X, N, La])) _ _ _ _
    cases hG
    exact (e_ireturn rfl dX11_count_131 rfl)
  rw [if_neg hb7] at hG
  by_cases hb8 : a = 8
  · rw [if_pos hb8] at hG
    refine e_tabIn (pc := 1) (tgt := 132) dX11_count_1 (by omega) (by omega) (by rw [hb8]; rfl) (by decide) ?_
    refine e_aloadn (pc := 132) (i := 0) dX11_count_132 rfl rfl ?_
    refine f_getr (pc := 133) (u := 1) (q := 0) dX11_count_133 xf11_19 (sa_1_0 hs) rfl (sr_1_0_1 hs) ?_
    refine f_geti (pc := 136) (k := 1) (u := 3) (q := 0) dX11_count_136 xf11_181 (sa_3_0 hs) rfl hn rfl rfl (by decide) ?_
    show Ev g _ _ _ _ _ _ 139 [some (x_r (16 * 1 + 0)), some (x_i a)] [x_i (N 0 10)] (al, ro, fl (ml M [1, 3, 19] [X, N, La])) _ _ _ _
    cases hG
    exact (e_ireturn rfl dX11_count_139 rfl)
  rw [if_neg hb8] at hG
  by_cases hb9 : a = 9
  · rw [if_pos hb9] at hG
    refine e_tabIn (pc := 1) (tgt := 140) dX11_count_1 (by omega) (by omega) (by rw [hb9]; rfl) (by decide) ?_
    refine e_aloadn (pc := 140) (i := 0) dX11_count_140 rfl rfl ?_
    refine f_getr (pc := 141) (u := 1) (q := 0) dX11_count_141 xf11_19 (sa_1_0 hs) rfl (sr_1_0_1 hs) ?_
    obtain ⟨v1, hq1, hG⟩ := x_bd1 hG
    refine e_invV (pc := 144) (K1 := 0) (S1 := 0) (K := 0) (S := 0) (dd2 := 0) (av := []) (st := []) (id := 16 * 3 + 0) dX11_count_144 xmX11_378 rfl (Or.inl ⟨1, 12, TX1, (sa_3_0 hs), rfl, by decide⟩) (f_cal (M := M) (us2 := [3]) [1] hn rfl (And.intro rfl trivial) rfl rfl rfl (c_X1_storeOfAll hst hs (by decide)  hq1)) (by decide) (Nat.le_of_ble_eq_true rfl) (Or.inl rfl) ?_
    show Ev g _ _ _ _ _ _ 147 [some (x_r (16 * 1 + 0)), some (x_i a)] [x_i v1] (al, ro, fl (ml M [1, 3, 19] [X, N, La])) _ _ _ _
    cases hG
    exact (e_ireturn rfl dX11_count_147 rfl)
  rw [if_neg hb9] at hG
  by_cases hb10 : a = 10
  · rw [if_pos hb10] at hG
    refine e_tabIn (pc := 1) (tgt := 148) dX11_count_1 (by omega) (by omega) (by rw [hb10]; rfl) (by decide) ?_
    refine e_aloadn (pc := 148) (i := 0) dX11_count_148 rfl rfl ?_
    refine f_getr (pc := 149) (u := 1) (q := 0) dX11_count_149 xf11_19 (sa_1_0 hs) rfl (sr_1_0_1 hs) ?_
    refine e_iconst (pc := 152) dX11_count_152 (x_R rfl) ?_
    obtain ⟨v3, hq3, hG⟩ := x_bd1 hG
    refine e_invV (pc := 153) (K1 := 0) (S1 := 0) (K := 0) (S := 0) (dd2 := 1) (av := [x_i 5]) (st := []) (id := 16 * 3 + 0) dX11_count_153 xmX11_336 rfl (Or.inl ⟨1, 12, TX1, (sa_3_0 hs), rfl, by decide⟩) (f_cal (M := M) (us2 := [3]) [1] hn rfl (And.intro rfl trivial) rfl rfl rfl (c_X1_sumOf hst hs (by decide)  hq3)) (by decide) (Nat.le_of_ble_eq_true rfl) (Or.inl rfl) ?_
    show Ev g _ _ _ _ _ _ 156 [some (x_r (16 * 1 + 0)), some (x_i a)] [x_i v3] (al, ro, fl (ml M [1, 3, 19] [X, N, La])) _ _ _ _
    cases hG
    exact (e_ireturn rfl dX11_count_156 rfl)
  rw [if_neg hb10] at hG
  by_cases hb11 : a = 11
  · rw [if_pos hb11] at hG
    refine e_tabIn (pc := 1) (tgt := 157) dX11_count_1 (by omega) (by omega) (by rw [hb11]; rfl) (by decide) ?_
    refine e_aloadn (pc := 157) (i := 0) dX11_count_157 rfl rfl ?_
    refine f_getr (pc := 158) (u := 1) (q := 0) dX11_count_158 xf11_19 (sa_1_0 hs) rfl (sr_1_0_1 hs) ?_
    refine f_getr (pc := 161) (u := 3) (q := 0) dX11_count_161 xf11_343 (sa_3_0 hs) rfl (sr_3_0_2 hs) ?_
    refine f_geti (pc := 164) (k := 1) (u := 3) (q := 3) dX11_count_164 xf11_381 (sa_3_3 hs) rfl hn rfl rfl (by decide) ?_
    show Ev g _ _ _ _ _ _ 167 [some (x_r (16 * 1 + 0)), some (x_i a)] [x_i (N 3 1)] (al, ro, fl (ml M [1, 3, 19] [X, N, La])) _ _ _ _
    cases hG
    exact (e_ireturn rfl dX11_count_167 rfl)
  rw [if_neg hb11] at hG
  by_cases hb12 : a = 12
  · rw [if_pos hb12] at hG
    refine e_tabIn (pc := 1) (tgt := 168) dX11_count_1 (by omega) (by omega) (by rw [hb12]; rfl) (by decide) ?_
    refine e_aloadn (pc := 168) (i := 0) dX11_count_168 rfl rfl ?_
    refine f_geti (pc := 169) (k := 0) (u := 1) (q := 0) dX11_count_169 xf11_114 (sa_1_0 hs) rfl hn rfl rfl (by decide) ?_
    show Ev g _ _ _ _ _ _ 172 [some (x_r (16 * 1 + 0)), some (x_i a)] [x_i (X 0 15)] (al, ro, fl (ml M [1, 3, 19] [X, N, La])) _ _ _ _
    cases hG
    exact (e_ireturn rfl dX11_count_172 rfl)
  rw [if_neg hb12] at hG
  refine e_tabOut (pc := 1) (tgt := 173) dX11_count_1 (by omega) (by decide) ?_
  refine e_iconst (pc := 173) dX11_count_173 (x_R rfl) ?_
  cases hG
  exact (e_ireturn rfl dX11_count_174 rfl)
set_option maxRecDepth 100000 in
set_option maxHeartbeats 4000000 in
theorem c_X12_thrown {g : xG} {al : List (Nat × Nat × Nat)} {ro : Nat → Nat → Option Nat} (hst : g.1.stackTraces = false) (hs : SH al ro) {M : Nat → xU} {S : xU}  {t : Int} (hG : G12_thrown S = some t) :
    Cal g yX12_thrown cX12_thrown 1 (some .int) 0 [x_r (16 * 32 + 0)] (al, ro, fl (ml M [32] [S])) 0 0 (.inl (some (x_i t))) (al, ro, fl (ml M [32] [S])) := by
  have hn : ([32] : List Nat).Nodup := by decide
  refine cal_of_ev (plainFor_of_name (by decide)) (x_c1 rfl) (Nat.le_of_ble_eq_true rfl) hst ?_
  show Ev g _ _ _ _ _ _ 0 [some (x_r (16 * 32 + 0))] [] (al, ro, fl (ml M [32] [S])) _ _ _ _
  rw [G12_thrown] at hG
  refine e_aloadn (pc := 0) (i := 0) dX12_thrown_0 rfl rfl ?_
  refine f_geti (pc := 1) (k := 0) (u := 32) (q := 0) dX12_thrown_1 xf12_58 (sa_32_0 hs) rfl hn rfl rfl (by decide) ?_
  show Ev g _ _ _ _ _ _ 4 [some (x_r (16 * 32 + 0))] [x_i (S 0 0)] (al, ro, fl (ml M [32] [S])) _ _ _ _
  cases hG
  exact (e_ireturn rfl dX12_thrown_4 rfl)
set_option maxRecDepth 100000 in
set_option maxHeartbeats 4000000 in
theorem c_X12_lesser {g : xG} {al : List (Nat × Nat × Nat)} {ro : Nat → Nat → Option Nat} (hst : g.1.stackTraces = false) (hs : SH al ro) {M : Nat → xU} {a : Int} {b : Int}  {t : Int} (hG : G12_lesser a b = some t) :
    Cal g yX12_lesser cX12_lesser 2 (some .int) 0 [x_i a, x_i b] (al, ro, fl (ml M [] [])) 0 0 (.inl (some (x_i t))) (al, ro, fl (ml M [] [])) := by
  have hn : ([] : List Nat).Nodup := by decide
  refine cal_of_ev (plainFor_of_name (by decide)) (x_c1 rfl) (Nat.le_of_ble_eq_true rfl) hst ?_
  show Ev g _ _ _ _ _ _ 0 [some (x_i a), some (x_i b)] [] (al, ro, fl (ml M [] [])) _ _ _ _
  rw [G12_lesser] at hG
  refine e_iloadn (pc := 0) (i := 0) dX12_lesser_0 rfl rfl ?_
  refine e_iloadn (pc := 1) (i := 1) dX12_lesser_1 rfl rfl ?_
  obtain ⟨v1, hr1, hG⟩ := x_bd1 hG
  have hjhr1 : Ev g yX12_lesser cX12_lesser 2 (some .int) [] 0 10 [some (x_i a), some (x_i b)] [x_i v1] (al, ro, fl (ml M [] [])) 0 0 (.inl (some (x_i t))) (al, ro, fl (ml M [] [])) := by
    cases hG
    exact (e_ireturn rfl dX12_lesser_10 rfl)
  clear hG
  refine e_icmp_ge (pc := 2) (tgt := 9) dX12_lesser_2 (by decide) (fun hb => ?_) (fun hb => ?_)
  · rw [if_pos hb] at hr1
    refine e_iloadn (pc := 9) (i := 1) dX12_lesser_9 rfl rfl ?_
    cases hr1
    exact hjhr1
  · rw [if_neg hb] at hr1
    refine e_iloadn (pc := 5) (i := 0) dX12_lesser_5 rfl rfl ?_
    refine e_goto (pc := 6) (tgt := 10) dX12_lesser_6 (by decide) ?_
    cases hr1
    exact hjhr1
set_option maxRecDepth 100000 in
set_option maxHeartbeats 4000000 in
theorem c_X12_greater {g : xG} {al : List (Nat × Nat × Nat)} {ro : Nat → Nat → Option Nat} (hst : g.1.stackTraces = false) (hs : SH al ro) {M : Nat → xU} {a : Int} {b : Int}  {t : Int} (hG : G12_greater a b = some t) :
    Cal g yX12_greater cX12_greater 2 (some .int) 0 [x_i a, x_i b] (al, ro, fl (ml M [] [])) 0 0 (.inl (some (x_i t))) (al, ro, fl (ml M [] [])) := by
  have hn : ([] : List Nat).Nodup := by decide
  refine cal_of_ev (plainFor_of_name (by decide)) (x_c1 rfl) (Nat.le_of_ble_eq_true rfl) hst ?_
  show Ev g _ _ _ _ _ _ 0 [some (x_i a), some (x_i b)] [] (al, ro, fl (ml M [] [])) _ _ _ _
  rw [G12_greater] at hG
  refine e_iloadn (pc := 0) (i := 0) dX12_greater_0 rfl rfl ?_
  refine e_iloadn (pc := 1) (i := 1) dX12_greater_1 rfl rfl ?_
  obtain ⟨v1, hr1, hG⟩ := x_bd1 hG
  have hjhr1 : Ev g yX12_greater cX12_greater 2 (some .int) [] 0 10 [some (x_i a), some (x_i b)] [x_i v1] (al, ro, fl (ml M [] [])) 0 0 (.inl (some (x_i t))) (al, ro, fl (ml M [] [])) := by
    cases hG
    exact (e_ireturn rfl dX12_greater_10 rfl)
  clear hG
  refine e_icmp_le (pc := 2) (tgt := 9) dX12_greater_2 (by decide) (fun hb => ?_) (fun hb => ?_)
  · rw [if_pos hb] at hr1
    refine e_iloadn (pc := 9) (i := 1) dX12_greater_9 rfl rfl ?_
    cases hr1
    exact hjhr1
  · rw [if_neg hb] at hr1
    refine e_iloadn (pc := 5) (i := 0) dX12_greater_5 rfl rfl ?_
    refine e_goto (pc := 6) (tgt := 10) dX12_greater_6 (by decide) ?_
    cases hr1
    exact hjhr1
set_option maxRecDepth 100000 in
set_option maxHeartbeats 4000000 in
theorem c_X12_isOf {g : xG} {al : List (Nat × Nat × Nat)} {ro : Nat → Nat → Option Nat} (hst : g.1.stackTraces = false) (hs : SH al ro) {M : Nat → xU} {a : Int} {b : Int}  {t : Int} (hG : G12_isOf a b = some t) :
    Cal g yX12_isOf cX12_isOf 2 (some .boolean) 0 [x_i a, x_i b] (al, ro, fl (ml M [] [])) 0 0 (.inl (some (x_i t))) (al, ro, fl (ml M [] [])) := by
  have hn : ([] : List Nat).Nodup := by decide
  refine cal_of_ev (plainFor_of_name (by decide)) (x_c1 rfl) (Nat.le_of_ble_eq_true rfl) hst ?_
  show Ev g _ _ _ _ _ _ 0 [some (x_i a), some (x_i b)] [] (al, ro, fl (ml M [] [])) _ _ _ _
  rw [G12_isOf] at hG
  refine e_iloadn (pc := 0) (i := 0) dX12_isOf_0 rfl rfl ?_
  refine e_iloadn (pc := 1) (i := 1) dX12_isOf_1 rfl rfl ?_
  refine e_ishr (pc := 2) dX12_isOf_2 ?_
  refine e_iconst (pc := 3) dX12_isOf_3 (x_R rfl) ?_
  refine e_iand (pc := 4) dX12_isOf_4 ?_
  refine e_iconst (pc := 5) dX12_isOf_5 (x_R rfl) ?_
  obtain ⟨v1, hr1, hG⟩ := x_bd1 hG
  have hjhr1 : Ev g yX12_isOf cX12_isOf 2 (some .boolean) [] 0 14 [some (x_i a), some (x_i b)] [x_i v1] (al, ro, fl (ml M [] [])) 0 0 (.inl (some (x_i t))) (al, ro, fl (ml M [] [])) := by
    obtain ⟨hc0, hG⟩ := x_gd_some hG
    cases hG
    exact (e_ireturn rfl dX12_isOf_14 (x_bool hc0).1)
  clear hG
  refine e_icmp_ne (pc := 6) (tgt := 13) dX12_isOf_6 (by decide) (fun hb => ?_) (fun hb => ?_)
  · rw [if_neg hb] at hr1
    refine e_iconst (pc := 13) dX12_isOf_13 (x_R rfl) ?_
    cases hr1
    exact hjhr1
  · rw [if_pos hb] at hr1
    refine e_iconst (pc := 9) dX12_isOf_9 (x_R rfl) ?_
    refine e_goto (pc := 10) (tgt := 14) dX12_isOf_10 (by decide) ?_
    cases hr1
    exact hjhr1
set_option maxRecDepth 100000 in
set_option maxHeartbeats 4000000 in
theorem c_X12_bits {g : xG} {al : List (Nat × Nat × Nat)} {ro : Nat → Nat → Option Nat} (hst : g.1.stackTraces = false) (hs : SH al ro) {M : Nat → xU} {a : Int}  {t : Int} (hG : G12_bits a = some t) :
    Cal g yX12_bits cX12_bits 3 (some .int) 0 [x_i a] (al, ro, fl (ml M [] [])) 0 0 (.inl (some (x_i t))) (al, ro, fl (ml M [] [])) := by
  have hn : ([] : List Nat).Nodup := by decide
  refine cal_of_ev (plainFor_of_name (by decide)) (x_c1 rfl) (Nat.le_of_ble_eq_true rfl) hst ?_
  show Ev g _ _ _ _ _ _ 0 [some (x_i a), none, none] [] (al, ro, fl (ml M [] [])) _ _ _ _
  rw [G12_bits] at hG
  refine e_iconst (pc := 0) dX12_bits_0 (x_R rfl) ?_
  refine e_istoren (pc := 1) (i := 1) dX12_bits_1 rfl (by decide) rfl ?_
  show Ev g _ _ _ _ _ _ 2 [some (x_i a), some (x_i 0), none] [] (al, ro, fl (ml M [] [])) _ _ _ _
  refine e_iconst (pc := 2) dX12_bits_2 (x_R rfl) ?_
  refine e_istoren (pc := 3) (i := 2) dX12_bits_3 rfl (by decide) rfl ?_
  show Ev g _ _ _ _ _ _ 4 [some (x_i a), some (x_i 0), some (x_i 0)] [] (al, ro, fl (ml M [] [])) _ _ _ _
  obtain ⟨v3, hl4, hG⟩ := x_bd1 hG
  have hk4 : ∀ q : Int, q = v3 → Ev g yX12_bits cX12_bits 3 (some .int) [] 0 24 [some (x_i a), some (x_i q), none] [] (al, ro, fl (ml M [] [])) 0 0 (.inl (some (x_i t))) (al, ro, fl (ml M [] [])) := by
    intro q hq
    replace hq := hq.symm
    subst hq
    refine e_iloadn (pc := 24) (i := 1) dX12_bits_24 rfl rfl ?_
    cases hG
    exact (e_ireturn rfl dX12_bits_25 rfl)
  clear hG
  refine e_whl (G12_bits_L4 a) (fun z : (Int × Int) => Ev g yX12_bits cX12_bits 3 (some .int) [] 0 4 [some (x_i a), some (x_i z.1), some (x_i z.2)] [] (al, ro, fl (ml M [] [])) 0 0 (.inl (some (x_i t))) (al, ro, fl (ml M [] []))) (fun q => q = v3) ?_ xFU (0, 0) _ hl4 rfl
  intro z t4 hf4 hi4 hx4
  obtain ⟨v1, v2⟩ := z
  rw [G12_bits_L4] at hf4
  show Ev g _ _ _ _ _ _ 4 [some (x_i a), some (x_i v1), some (x_i v2)] [] (al, ro, fl (ml M [] [])) _ _ _ _
  refine e_iloadn (pc := 4) (i := 2) dX12_bits_4 rfl rfl ?_
  refine e_bipush (pc := 5) dX12_bits_5 (by decide +kernel) (x_R rfl) ?_
  refine e_icmp_ge (pc := 7) (tgt := 24) dX12_bits_7 (by decide) (fun hb => ?_) (fun hb => ?_)
  · rw [if_pos hb] at hf4
    cases hf4
    refine e_drop (i := 2) ?_
    have hh := hk4 _ (hx4 _ rfl)
    try dsimp only at hh
    exact hh
  · rw [if_neg hb] at hf4
    refine e_iloadn (pc := 10) (i := 1) dX12_bits_10 rfl rfl ?_
    refine e_iloadn (pc := 11) (i := 0) dX12_bits_11 rfl rfl ?_
    refine e_iloadn (pc := 12) (i := 2) dX12_bits_12 rfl rfl ?_
    refine e_ishr (pc := 13) dX12_bits_13 ?_
    refine e_iconst (pc := 14) dX12_bits_14 (x_R rfl) ?_
    refine e_iand (pc := 15) dX12_bits_15 ?_
    refine e_iadd (pc := 16) dX12_bits_16 ?_
    refine e_istoren (pc := 17) (i := 1) dX12_bits_17 rfl (by decide) rfl ?_
    show Ev g _ _ _ _ _ _ 18 [some (x_i a), some (x_i (x_add v1 (x_and (x_shr a v2) 1))), some (x_i v2)] [] (al, ro, fl (ml M [] [])) _ _ _ _
    refine e_iinc (pc := 18) dX12_bits_18 rfl (by decide) rfl ?_
    show Ev g _ _ _ _ _ _ 21 [some (x_i a), some (x_i (x_add v1 (x_and (x_shr a v2) 1))), some (x_i (x_add v2 1))] [] (al, ro, fl (ml M [] [])) _ _ _ _
    refine e_goto (pc := 21) (tgt := 4) dX12_bits_21 (by decide) ?_
    cases hf4
    have hh := hi4 _ rfl
    try dsimp only at hh
    exact hh
set_option maxRecDepth 100000 in
set_option maxHeartbeats 4000000 in
theorem c_X12_of {g : xG} {al : List (Nat × Nat × Nat)} {ro : Nat → Nat → Option Nat} (hst : g.1.stackTraces = false) (hs : SH al ro) {M : Nat → xU} {a : Int} {b : Int} {S : xU}  {t : Int} (hG : G12_of a b S = some t) :
    Cal g yX12_of cX12_of 3 (some .int) 0 [x_r (16 * 32 + 0), x_i a, x_i b] (al, ro, fl (ml M [32] [S])) 0 0 (.inl (some (x_i t))) (al, ro, fl (ml M [32] [S])) := by
  have hn : ([32] : List Nat).Nodup := by decide
  refine cal_of_ev (plainFor_of_name (by decide)) (x_c1 rfl) (Nat.le_of_ble_eq_true rfl) hst ?_
  show Ev g _ _ _ _ _ _ 0 [some (x_r (16 * 32 + 0)), some (x_i a), some (x_i b)] [] (al, ro, fl (ml M [32] [S])) _ _ _ _
  rw [G12_of] at hG
  refine e_aloadn (pc := 0) (i := 0) dX12_of_0 rfl rfl ?_
  refine f_getr (pc := 1) (u := 32) (q := 0) dX12_of_1 xf12_7 (sa_32_0 hs) rfl (sr_32_0_1 hs) ?_
  refine e_bipush (pc := 4) dX12_of_4 (by decide +kernel) (x_R rfl) ?_
  refine e_bipush (pc := 6) dX12_of_6 (by decide +kernel) (x_R rfl) ?_
  refine e_iloadn (pc := 8) (i := 1) dX12_of_8 rfl rfl ?_
  refine e_imul (pc := 9) dX12_of_9 ?_
  refine e_iadd (pc := 10) dX12_of_10 ?_
  refine e_iloadn (pc := 11) (i := 2) dX12_of_11 rfl rfl ?_
  refine e_iadd (pc := 12) dX12_of_12 ?_
  obtain ⟨hc0, hG⟩ := x_gd_some hG
  refine f_iald (pc := 13) (k := 0) (u := 32) (q := 1) (len := 772) dX12_of_13 (sa_32_1 hs) hc0 hn rfl rfl (by decide) ?_
  show Ev g _ _ _ _ _ _ 14 [some (x_r (16 * 32 + 0)), some (x_i a), some (x_i b)] [x_i (S 1 ((x_add (x_add 16 (x_mul 8 a)) b)).toNat)] (al, ro, fl (ml M [32] [S])) _ _ _ _
  cases hG
  exact (e_ireturn rfl dX12_of_14 rfl)
set_option maxRecDepth 100000 in
set_option maxHeartbeats 4000000 in
theorem c_X12_lays {g : xG} {al : List (Nat × Nat × Nat)} {ro : Nat → Nat → Option Nat} (hst : g.1.stackTraces = false) (hs : SH al ro) {M : Nat → xU} {a : Int} {b : Int} {c : Int} {S : xU}  {t : xU} (hG : G12_lays a b c S = some t) :
    Cal g yX12_lays cX12_lays 4 none 0 [x_r (16 * 32 + 0), x_i a, x_i b, x_i c] (al, ro, fl (ml M [32] [S])) 0 0 (.inl none) (al, ro, fl (ml M [32] [t])) := by
  have hn : ([32] : List Nat).Nodup := by decide
  refine cal_of_ev (plainFor_of_name (by decide)) (x_c1 rfl) (Nat.le_of_ble_eq_true rfl) hst ?_
  show Ev g _ _ _ _ _ _ 0 [some (x_r (16 * 32 + 0)), some (x_i a), some (x_i b), some (x_i c)] [] (al, ro, fl (ml M [32] [S])) _ _ _ _
  rw [G12_lays] at hG
  refine e_aloadn (pc := 0) (i := 0) dX12_lays_0 rfl rfl ?_
  refine f_getr (pc := 1) (u := 32) (q := 0) dX12_lays_1 xf12_7 (sa_32_0 hs) rfl (sr_32_0_1 hs) ?_
  refine e_bipush (pc := 4) dX12_lays_4 (by decide +kernel) (x_R rfl) ?_
  refine e_bipush (pc := 6) dX12_lays_6 (by decide +kernel) (x_R rfl) ?_
  refine e_iloadn (pc := 8) (i := 1) dX12_lays_8 rfl rfl ?_
  refine e_imul (pc := 9) dX12_lays_9 ?_
  refine e_iadd (pc := 10) dX12_lays_10 ?_
  refine e_iloadn (pc := 11) (i := 2) dX12_lays_11 rfl rfl ?_
  refine e_iadd (pc := 12) dX12_lays_12 ?_
  refine e_iloadn (pc := 13) (i := 3) dX12_lays_13 rfl rfl ?_
  obtain ⟨hc0, hG⟩ := x_gd_some hG
  refine f_iast (pc := 14) (k := 0) (u := 32) (q := 1) (len := 772) dX12_lays_14 (sa_32_1 hs) hc0 hn rfl rfl rfl (by decide) ?_
  show Ev g _ _ _ _ _ _ 15 [some (x_r (16 * 32 + 0)), some (x_i a), some (x_i b), some (x_i c)] [] (al, ro, fl (ml M [32] [(x_up S 1 ((x_add (x_add 16 (x_mul 8 a)) b)).toNat c)])) _ _ _ _
  cases hG
  exact (e_return rfl dX12_lays_15)
set_option maxRecDepth 100000 in
set_option maxHeartbeats 4000000 in
theorem c_X12_isMonk {g : xG} {al : List (Nat × Nat × Nat)} {ro : Nat → Nat → Option Nat} (hst : g.1.stackTraces = false) (hs : SH al ro) {M : Nat → xU} {a : Int} {S : xU}  {t : Int} (hG : G12_isMonk a S = some t) :
    Cal g yX12_isMonk cX12_isMonk 2 (some .boolean) 1 [x_r (16 * 32 + 0), x_i a] (al, ro, fl (ml M [32] [S])) 0 0 (.inl (some (x_i t))) (al, ro, fl (ml M [32] [S])) := by
  have hn : ([32] : List Nat).Nodup := by decide
  refine cal_of_ev (plainFor_of_name (by decide)) (x_c1 rfl) (Nat.le_of_ble_eq_true rfl) hst ?_
  show Ev g _ _ _ _ _ _ 0 [some (x_r (16 * 32 + 0)), some (x_i a)] [] (al, ro, fl (ml M [32] [S])) _ _ _ _
  rw [G12_isMonk] at hG
  refine e_iloadn (pc := 0) (i := 1) dX12_isMonk_0 rfl rfl ?_
  refine e_iconst (pc := 1) dX12_isMonk_1 (x_R rfl) ?_
  refine e_aloadn (pc := 2) (i := 0) dX12_isMonk_2 rfl rfl ?_
  refine f_getr (pc := 3) (u := 32) (q := 0) dX12_isMonk_3 xf12_7 (sa_32_0 hs) rfl (sr_32_0_1 hs) ?_
  refine e_iconst (pc := 6) dX12_isMonk_6 (x_R rfl) ?_
  refine f_iald (pc := 7) (k := 0) (u := 32) (q := 1) (len := 772) dX12_isMonk_7 (sa_32_1 hs) (by decide) hn rfl rfl (by decide) ?_
  show Ev g _ _ _ _ _ _ 8 [some (x_r (16 * 32 + 0)), some (x_i a)] [x_i (S 1 3), x_i 0, x_i a] (al, ro, fl (ml M [32] [S])) _ _ _ _
  refine e_iconst (pc := 8) dX12_isMonk_8 (x_R rfl) ?_
  refine e_isub (pc := 9) dX12_isMonk_9 ?_
  obtain ⟨v1, hq1, hG⟩ := x_bd1 hG
  refine e_invS (pc := 10) (K1 := 0) (S1 := 0) (K := 0) (S := 0) (dd2 := 0) (av := [x_i a, x_i 0, x_i (x_sub (S 1 3) 1)]) (st := []) dX12_isMonk_10 xmX12_61 rfl (f_cal (M := M) (us2 := []) [] hn rfl trivial rfl rfl rfl (c_X12_isIn hst hs   hq1)) (by decide) (Nat.le_of_ble_eq_true rfl) (Or.inl rfl) ?_
  show Ev g _ _ _ _ _ _ 13 [some (x_r (16 * 32 + 0)), some (x_i a)] [x_i v1] (al, ro, fl (ml M [32] [S])) _ _ _ _
  obtain ⟨hc0, hG⟩ := x_gd_some hG
  cases hG
  exact (e_ireturn rfl dX12_isMonk_13 (x_bool hc0).1)
set_option maxRecDepth 100000 in
set_option maxHeartbeats 4000000 in
theorem c_X12_isFlag {g : xG} {al : List (Nat × Nat × Nat)} {ro : Nat → Nat → Option Nat} (hst : g.1.stackTraces = false) (hs : SH al ro) {M : Nat → xU} {a : Int}  {t : Int} (hG : G12_isFlag a = some t) :
    Cal g yX12_isFlag cX12_isFlag 1 (some .boolean) 1 [x_i a] (al, ro, fl (ml M [] [])) 0 0 (.inl (some (x_i t))) (al, ro, fl (ml M [] [])) := by
  have hn : ([] : List Nat).Nodup := by decide
  refine cal_of_ev (plainFor_of_name (by decide)) (x_c1 rfl) (Nat.le_of_ble_eq_true rfl) hst ?_
  show Ev g _ _ _ _ _ _ 0 [some (x_i a)] [] (al, ro, fl (ml M [] [])) _ _ _ _
  rw [G12_isFlag] at hG
  refine e_iloadn (pc := 0) (i := 0) dX12_isFlag_0 rfl rfl ?_
  refine e_iconst (pc := 1) dX12_isFlag_1 (x_R rfl) ?_
  refine e_bipush (pc := 2) dX12_isFlag_2 (by decide +kernel) (x_R rfl) ?_
  obtain ⟨v1, hq1, hG⟩ := x_bd1 hG
  refine e_invS (pc := 4) (K1 := 0) (S1 := 0) (K := 0) (S := 0) (dd2 := 0) (av := [x_i a, x_i 0, x_i 15]) (st := []) dX12_isFlag_4 xmX12_61 rfl (f_cal (M := M) (us2 := []) [] hn rfl trivial rfl rfl rfl (c_X12_isIn hst hs   hq1)) (by decide) (Nat.le_of_ble_eq_true rfl) (Or.inl rfl) ?_
  show Ev g _ _ _ _ _ _ 7 [some (x_i a)] [x_i v1] (al, ro, fl (ml M [] [])) _ _ _ _
  obtain ⟨hc0, hG⟩ := x_gd_some hG
  cases hG
  exact (e_ireturn rfl dX12_isFlag_7 (x_bool hc0).1)
set_option maxRecDepth 100000 in
set_option maxHeartbeats 4000000 in
theorem c_X12_isWalk {g : xG} {al : List (Nat × Nat × Nat)} {ro : Nat → Nat → Option Nat} (hst : g.1.stackTraces = false) (hs : SH al ro) {M : Nat → xU} {a : Int}  {t : Int} (hG : G12_isWalk a = some t) :
    Cal g yX12_isWalk cX12_isWalk 1 (some .boolean) 1 [x_i a] (al, ro, fl (ml M [] [])) 0 0 (.inl (some (x_i t))) (al, ro, fl (ml M [] [])) := by
  have hn : ([] : List Nat).Nodup := by decide
  refine cal_of_ev (plainFor_of_name (by decide)) (x_c1 rfl) (Nat.le_of_ble_eq_true rfl) hst ?_
  show Ev g _ _ _ _ _ _ 0 [some (x_i a)] [] (al, ro, fl (ml M [] [])) _ _ _ _
  rw [G12_isWalk] at hG
  refine e_iloadn (pc := 0) (i := 0) dX12_isWalk_0 rfl rfl ?_
  refine e_iconst (pc := 1) dX12_isWalk_1 (x_R rfl) ?_
  refine e_iconst (pc := 2) dX12_isWalk_2 (x_R rfl) ?_
  obtain ⟨v1, hq1, hG⟩ := x_bd1 hG
  refine e_invS (pc := 3) (K1 := 0) (S1 := 0) (K := 0) (S := 0) (dd2 := 0) (av := [x_i a, x_i 0, x_i 3]) (st := []) dX12_isWalk_3 xmX12_61 rfl (f_cal (M := M) (us2 := []) [] hn rfl trivial rfl rfl rfl (c_X12_isIn hst hs   hq1)) (by decide) (Nat.le_of_ble_eq_true rfl) (Or.inl rfl) ?_
  show Ev g _ _ _ _ _ _ 6 [some (x_i a)] [x_i v1] (al, ro, fl (ml M [] [])) _ _ _ _
  obtain ⟨hc0, hG⟩ := x_gd_some hG
  cases hG
  exact (e_ireturn rfl dX12_isWalk_6 (x_bool hc0).1)
set_option maxRecDepth 100000 in
set_option maxHeartbeats 4000000 in
theorem c_X12_seasonOf {g : xG} {al : List (Nat × Nat × Nat)} {ro : Nat → Nat → Option Nat} (hst : g.1.stackTraces = false) (hs : SH al ro) {M : Nat → xU} {a : Int} {S : xU}  {t : Int} (hG : G12_seasonOf a S = some t) :
    Cal g yX12_seasonOf cX12_seasonOf 2 (some .int) 0 [x_r (16 * 32 + 0), x_i a] (al, ro, fl (ml M [32] [S])) 0 0 (.inl (some (x_i t))) (al, ro, fl (ml M [32] [S])) := by
  have hn : ([32] : List Nat).Nodup := by decide
  refine cal_of_ev (plainFor_of_name (by decide)) (x_c1 rfl) (Nat.le_of_ble_eq_true rfl) hst ?_
  show Ev g _ _ _ _ _ _ 0 [some (x_r (16 * 32 + 0)), some (x_i a)] [] (al, ro, fl (ml M [32] [S])) _ _ _ _
  rw [G12_seasonOf] at hG
  refine e_aloadn (pc := 0) (i := 0) dX12_seasonOf_0 rfl rfl ?_
  refine f_getr (pc := 1) (u := 32) (q := 0) dX12_seasonOf_1 xf12_7 (sa_32_0 hs) rfl (sr_32_0_1 hs) ?_
  refine e_bipush (pc := 4) dX12_seasonOf_4 (by decide +kernel) (x_R rfl) ?_
  refine f_iald (pc := 6) (k := 0) (u := 32) (q := 1) (len := 772) dX12_seasonOf_6 (sa_32_1 hs) (by decide) hn rfl rfl (by decide) ?_
  show Ev g _ _ _ _ _ _ 7 [some (x_r (16 * 32 + 0)), some (x_i a)] [x_i (S 1 7)] (al, ro, fl (ml M [32] [S])) _ _ _ _
  refine e_iconst (pc := 7) dX12_seasonOf_7 (x_R rfl) ?_
  obtain ⟨v1, hr1, hG⟩ := x_bd1 hG
  have hjhr1 : Ev g yX12_seasonOf cX12_seasonOf 2 (some .int) [] 0 24 [some (x_r (16 * 32 + 0)), some (x_i a)] [x_i v1] (al, ro, fl (ml M [32] [S])) 0 0 (.inl (some (x_i t))) (al, ro, fl (ml M [32] [S])) := by
    cases hG
    exact (e_ireturn rfl dX12_seasonOf_24 rfl)
  clear hG
  refine e_icmp_ge (pc := 8) (tgt := 21) dX12_seasonOf_8 (by decide) (fun hb => ?_) (fun hb => ?_)
  · rw [if_pos hb] at hr1
    refine e_iloadn (pc := 21) (i := 1) dX12_seasonOf_21 rfl rfl ?_
    refine e_iconst (pc := 22) dX12_seasonOf_22 (x_R rfl) ?_
    refine e_idiv (pc := 23) dX12_seasonOf_23 (by decide) ?_
    cases hr1
    exact hjhr1
  · rw [if_neg hb] at hr1
    refine e_aloadn (pc := 11) (i := 0) dX12_seasonOf_11 rfl rfl ?_
    refine f_getr (pc := 12) (u := 32) (q := 0) dX12_seasonOf_12 xf12_7 (sa_32_0 hs) rfl (sr_32_0_1 hs) ?_
    refine e_bipush (pc := 15) dX12_seasonOf_15 (by decide +kernel) (x_R rfl) ?_
    refine f_iald (pc := 17) (k := 0) (u := 32) (q := 1) (len := 772) dX12_seasonOf_17 (sa_32_1 hs) (by decide) hn rfl rfl (by decide) ?_
    show Ev g _ _ _ _ _ _ 18 [some (x_r (16 * 32 + 0)), some (x_i a)] [x_i (S 1 7)] (al, ro, fl (ml M [32] [S])) _ _ _ _
    refine e_goto (pc := 18) (tgt := 24) dX12_seasonOf_18 (by decide) ?_
    cases hr1
    exact hjhr1
set_option maxRecDepth 100000 in
set_option maxHeartbeats 4000000 in
theorem c_X12_isLost {g : xG} {al : List (Nat × Nat × Nat)} {ro : Nat → Nat → Option Nat} (hst : g.1.stackTraces = false) (hs : SH al ro) {M : Nat → xU} {a : Int} {S : xU}  {t : Int} (hG : G12_isLost a S = some t) :
    Cal g yX12_isLost cX12_isLost 2 (some .boolean) 1 [x_r (16 * 32 + 0), x_i a] (al, ro, fl (ml M [32] [S])) 0 0 (.inl (some (x_i t))) (al, ro, fl (ml M [32] [S])) := by
  have hn : ([32] : List Nat).Nodup := by decide
  refine cal_of_ev (plainFor_of_name (by decide)) (x_c1 rfl) (Nat.le_of_ble_eq_true rfl) hst ?_
  show Ev g _ _ _ _ _ _ 0 [some (x_r (16 * 32 + 0)), some (x_i a)] [] (al, ro, fl (ml M [32] [S])) _ _ _ _
  rw [G12_isLost] at hG
  refine e_aloadn (pc := 0) (i := 0) dX12_isLost_0 rfl rfl ?_
  refine e_iloadn (pc := 1) (i := 1) dX12_isLost_1 rfl rfl ?_
  refine e_iconst (pc := 2) dX12_isLost_2 (x_R rfl) ?_
  obtain ⟨v1, hq1, hG⟩ := x_bd1 hG
  refine e_invV (pc := 3) (K1 := 0) (S1 := 0) (K := 0) (S := 0) (dd2 := 0) (av := [x_i a, x_i 4]) (st := []) (id := 16 * 32 + 0) dX12_isLost_3 xmX12_65 rfl (Or.inl ⟨10, 27, TX12, (sa_32_0 hs), rfl, by decide⟩) (f_cal (M := M) (us2 := [32]) [0] hn rfl (And.intro rfl trivial) rfl rfl rfl (c_X12_of hst hs   hq1)) (by decide) (Nat.le_of_ble_eq_true rfl) (Or.inl rfl) ?_
  show Ev g _ _ _ _ _ _ 6 [some (x_r (16 * 32 + 0)), some (x_i a)] [x_i v1] (al, ro, fl (ml M [32] [S])) _ _ _ _
  obtain ⟨v3, hr3, hG⟩ := x_bd1 hG
  have hjhr3 : Ev g yX12_isLost cX12_isLost 2 (some .boolean) [] 1 14 [some (x_r (16 * 32 + 0)), some (x_i a)] [x_i v3] (al, ro, fl (ml M [32] [S])) 0 0 (.inl (some (x_i t))) (al, ro, fl (ml M [32] [S])) := by
    obtain ⟨hc0, hG⟩ := x_gd_some hG
    cases hG
    exact (e_ireturn rfl dX12_isLost_14 (x_bool hc0).1)
  clear hG
  refine e_if_le (pc := 6) (tgt := 13) dX12_isLost_6 (by decide) (fun hb => ?_) (fun hb => ?_)
  · rw [if_pos hb] at hr3
    refine e_iconst (pc := 13) dX12_isLost_13 (x_R rfl) ?_
    cases hr3
    exact hjhr3
  · rw [if_neg hb] at hr3
    refine e_iconst (pc := 9) dX12_isLost_9 (x_R rfl) ?_
    refine e_goto (pc := 10) (tgt := 14) dX12_isLost_10 (by decide) ?_
    cases hr3
    exact hjhr3
set_option maxRecDepth 100000 in
set_option maxHeartbeats 4000000 in
theorem c_X12_inChoir {g : xG} {al : List (Nat × Nat × Nat)} {ro : Nat → Nat → Option Nat} (hst : g.1.stackTraces = false) (hs : SH al ro) {M : Nat → xU} {a : Int} {S : xU}  {t : Int} (hG : G12_inChoir a S = some t) :
    Cal g yX12_inChoir cX12_inChoir 2 (some .boolean) 2 [x_r (16 * 32 + 0), x_i a] (al, ro, fl (ml M [32] [S])) 0 0 (.inl (some (x_i t))) (al, ro, fl (ml M [32] [S])) := by
  have hn : ([32] : List Nat).Nodup := by decide
  refine cal_of_ev (plainFor_of_name (by decide)) (x_c1 rfl) (Nat.le_of_ble_eq_true rfl) hst ?_
  show Ev g _ _ _ _ _ _ 0 [some (x_r (16 * 32 + 0)), some (x_i a)] [] (al, ro, fl (ml M [32] [S])) _ _ _ _
  rw [G12_inChoir] at hG
  refine e_aloadn (pc := 0) (i := 0) dX12_inChoir_0 rfl rfl ?_
  refine e_iloadn (pc := 1) (i := 1) dX12_inChoir_1 rfl rfl ?_
  obtain ⟨v1, hq1, hG⟩ := x_bd1 hG
  refine e_invV (pc := 2) (K1 := 0) (S1 := 0) (K := 0) (S := 0) (dd2 := 1) (av := [x_i a]) (st := []) (id := 16 * 32 + 0) dX12_inChoir_2 xmX12_69 rfl (Or.inl ⟨10, 27, TX12, (sa_32_0 hs), rfl, by decide⟩) (f_cal (M := M) (us2 := [32]) [0] hn rfl (And.intro rfl trivial) rfl rfl rfl (c_X12_isLost hst hs   hq1)) (by decide) (Nat.le_of_ble_eq_true rfl) (Or.inl rfl) ?_
  show Ev g _ _ _ _ _ _ 5 [some (x_r (16 * 32 + 0)), some (x_i a)] [x_i v1] (al, ro, fl (ml M [32] [S])) _ _ _ _
  obtain ⟨v3, hr3, hG⟩ := x_bd1 hG
  have hjhr3 : Ev g yX12_inChoir cX12_inChoir 2 (some .boolean) [] 2 29 [some (x_r (16 * 32 + 0)), some (x_i a)] [x_i v3] (al, ro, fl (ml M [32] [S])) 0 0 (.inl (some (x_i t))) (al, ro, fl (ml M [32] [S])) := by
    obtain ⟨hc0, hG⟩ := x_gd_some hG
    cases hG
    exact (e_ireturn rfl dX12_inChoir_29 (x_bool hc0).1)
  clear hG
  refine e_if_ne (pc := 5) (tgt := 28) dX12_inChoir_5 (by decide) (fun hb => ?_) (fun hb => ?_)
  · rw [if_neg hb] at hr3
    refine e_iconst (pc := 28) dX12_inChoir_28 (x_R rfl) ?_
    cases hr3
    exact hjhr3
  · rw [if_pos hb] at hr3
    refine e_aloadn (pc := 8) (i := 0) dX12_inChoir_8 rfl rfl ?_
    refine e_iloadn (pc := 9) (i := 1) dX12_inChoir_9 rfl rfl ?_
    refine e_iconst (pc := 10) dX12_inChoir_10 (x_R rfl) ?_
    obtain ⟨v5, hq5, hr3⟩ := x_bd1 hr3
    refine e_invV (pc := 11) (K1 := 0) (S1 := 0) (K := 0) (S := 0) (dd2 := 0) (av := [x_i a, x_i 0]) (st := []) (id := 16 * 32 + 0) dX12_inChoir_11 xmX12_65 rfl (Or.inl ⟨10, 27, TX12, (sa_32_0 hs), rfl, by decide⟩) (f_cal (M := M) (us2 := [32]) [0] hn rfl (And.intro rfl trivial) rfl rfl rfl (c_X12_of hst hs   hq5)) (by decide) (Nat.le_of_ble_eq_true rfl) (Or.inl rfl) ?_
    show Ev g _ _ _ _ _ _ 14 [some (x_r (16 * 32 + 0)), some (x_i a)] [x_i v5] (al, ro, fl (ml M [32] [S])) _ _ _ _
    refine e_aloadn (pc := 14) (i := 0) dX12_inChoir_14 rfl rfl ?_
    refine f_getr (pc := 15) (u := 32) (q := 0) dX12_inChoir_15 xf12_7 (sa_32_0 hs) rfl (sr_32_0_1 hs) ?_
    refine e_bipush (pc := 18) dX12_inChoir_18 (by decide +kernel) (x_R rfl) ?_
    refine f_iald (pc := 20) (k := 0) (u := 32) (q := 1) (len := 772) dX12_inChoir_20 (sa_32_1 hs) (by decide) hn rfl rfl (by decide) ?_
    show Ev g _ _ _ _ _ _ 21 [some (x_r (16 * 32 + 0)), some (x_i a)] [x_i (S 1 6), x_i v5] (al, ro, fl (ml M [32] [S])) _ _ _ _
    refine e_icmp_ne (pc := 21) (tgt := 28) dX12_inChoir_21 (by decide) (fun hb => ?_) (fun hb => ?_)
    · rw [if_neg hb] at hr3
      refine e_iconst (pc := 28) dX12_inChoir_28 (x_R rfl) ?_
      cases hr3
      exact hjhr3
    · rw [if_pos hb] at hr3
      refine e_iconst (pc := 24) dX12_inChoir_24 (x_R rfl) ?_
      refine e_goto (pc := 25) (tgt := 29) dX12_inChoir_25 (by decide) ?_
      cases hr3
      exact hjhr3
set_option maxRecDepth 100000 in
set_option maxHeartbeats 4000000 in
theorem c_X12_steps {g : xG} {al : List (Nat × Nat × Nat)} {ro : Nat → Nat → Option Nat} (hst : g.1.stackTraces = false) (hs : SH al ro) {M : Nat → xU} {a : Int} {b : Int}  {t : Int} (hG : G12_steps a b = some t) :
    Cal g yX12_steps cX12_steps 3 (some .int) 1 [x_i a, x_i b] (al, ro, fl (ml M [] [])) 0 0 (.inl (some (x_i t))) (al, ro, fl (ml M [] [])) := by
  have hn : ([] : List Nat).Nodup := by decide
  refine cal_of_ev (plainFor_of_name (by decide)) (x_c1 rfl) (Nat.le_of_ble_eq_true rfl) hst ?_
  show Ev g _ _ _ _ _ _ 0 [some (x_i a), some (x_i b), none] [] (al, ro, fl (ml M [] [])) _ _ _ _
  rw [G12_steps] at hG
  refine e_iloadn (pc := 0) (i := 0) dX12_steps_0 rfl rfl ?_
  refine e_iloadn (pc := 1) (i := 1) dX12_steps_1 rfl rfl ?_
  refine e_isub (pc := 2) dX12_steps_2 ?_
  refine e_bipush (pc := 3) dX12_steps_3 (by decide +kernel) (x_R rfl) ?_
  refine e_iadd (pc := 5) dX12_steps_5 ?_
  refine e_bipush (pc := 6) dX12_steps_6 (by decide +kernel) (x_R rfl) ?_
  refine e_irem (pc := 8) dX12_steps_8 (by decide) ?_
  refine e_istoren (pc := 9) (i := 2) dX12_steps_9 rfl (by decide) rfl ?_
  show Ev g _ _ _ _ _ _ 10 [some (x_i a), some (x_i b), some (x_i (x_rem (x_add (x_sub a b) 16) 16))] [] (al, ro, fl (ml M [] [])) _ _ _ _
  refine e_iloadn (pc := 10) (i := 2) dX12_steps_10 rfl rfl ?_
  refine e_bipush (pc := 11) dX12_steps_11 (by decide +kernel) (x_R rfl) ?_
  refine e_iloadn (pc := 13) (i := 2) dX12_steps_13 rfl rfl ?_
  refine e_isub (pc := 14) dX12_steps_14 ?_
  obtain ⟨v1, hq1, hG⟩ := x_bd1 hG
  refine e_invS (pc := 15) (K1 := 0) (S1 := 0) (K := 0) (S := 0) (dd2 := 0) (av := [x_i (x_rem (x_add (x_sub a b) 16) 16), x_i (x_sub 16 (x_rem (x_add (x_sub a b) 16) 16))]) (st := []) dX12_steps_15 xmX12_73 rfl (f_cal (M := M) (us2 := []) [] hn rfl trivial rfl rfl rfl (c_X12_lesser hst hs   hq1)) (by decide) (Nat.le_of_ble_eq_true rfl) (Or.inl rfl) ?_
  show Ev g _ _ _ _ _ _ 18 [some (x_i a), some (x_i b), some (x_i (x_rem (x_add (x_sub a b) 16) 16))] [x_i v1] (al, ro, fl (ml M [] [])) _ _ _ _
  cases hG
  exact (e_ireturn rfl dX12_steps_18 rfl)
set_option maxRecDepth 100000 in
set_option maxHeartbeats 4000000 in
theorem c_X12_all {g : xG} {al : List (Nat × Nat × Nat)} {ro : Nat → Nat → Option Nat} (hst : g.1.stackTraces = false) (hs : SH al ro) {M : Nat → xU} {S : xU}  {t : Int} (hG : G12_all S = some t) :
    Cal g yX12_all cX12_all 1 (some .int) 0 [x_r (16 * 32 + 0)] (al, ro, fl (ml M [32] [S])) 0 0 (.inl (some (x_i t))) (al, ro, fl (ml M [32] [S])) := by
  have hn : ([32] : List Nat).Nodup := by decide
  refine cal_of_ev (plainFor_of_name (by decide)) (x_c1 rfl) (Nat.le_of_ble_eq_true rfl) hst ?_
  show Ev g _ _ _ _ _ _ 0 [some (x_r (16 * 32 + 0))] [] (al, ro, fl (ml M [32] [S])) _ _ _ _
  rw [G12_all] at hG
  refine e_iconst (pc := 0) dX12_all_0 (x_R rfl) ?_
  refine e_aloadn (pc := 1) (i := 0) dX12_all_1 rfl rfl ?_
  refine f_getr (pc := 2) (u := 32) (q := 0) dX12_all_2 xf12_7 (sa_32_0 hs) rfl (sr_32_0_1 hs) ?_
  refine e_iconst (pc := 5) dX12_all_5 (x_R rfl) ?_
  refine f_iald (pc := 6) (k := 0) (u := 32) (q := 1) (len := 772) dX12_all_6 (sa_32_1 hs) (by decide) hn rfl rfl (by decide) ?_
  show Ev g _ _ _ _ _ _ 7 [some (x_r (16 * 32 + 0))] [x_i (S 1 3), x_i 1] (al, ro, fl (ml M [32] [S])) _ _ _ _
  refine e_ishl (pc := 7) dX12_all_7 ?_
  refine e_iconst (pc := 8) dX12_all_8 (x_R rfl) ?_
  refine e_isub (pc := 9) dX12_all_9 ?_
  cases hG
  exact (e_ireturn rfl dX12_all_10 rfl)
