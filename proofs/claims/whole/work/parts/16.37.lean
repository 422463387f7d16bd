set_option maxRecDepth 100000 in
set_option maxHeartbeats 4000000 in
theorem c_X12_trial {g : xG} {al : List (Nat × Nat × Nat)} {ro : Nat → Nat → Option Nat} (hst : g.1.stackTraces = false) (hs : SH al ro) {M : Nat → xU} {a : Int} {b : Int} {S : xU}  {t : (Int × xU)} (hG : G12_trial a b S = some t) :
    Cal g yX12_trial cX12_trial 5 (some .int) 47 [x_r (16 * 32 + 0), x_i a, x_i b] (al, ro, fl (ml M [32] [S])) 0 0 (.inl (some (x_i t.1))) (al, ro, fl (ml M [32] [t.2])) := by
  have hn : ([32] : List Nat).Nodup := by decide
  refine cal_of_ev (plainFor_of_name (by decide)) (x_c1 rfl) (Nat.le_of_ble_eq_true rfl) hst ?_
  show Ev g _ _ _ _ _ _ 0 [some (x_r (16 * 32 + 0)), some (x_i a), some (x_i b), none, none] [] (al, ro, fl (ml M [32] [S])) _ _ _ _
  rw [G12_trial] at hG
  refine e_aloadn (pc := 0) (i := 0) dX12_trial_0 rfl rfl ?_
  refine e_iloadn (pc := 1) (i := 1) dX12_trial_1 rfl rfl ?_
  refine e_iconst (pc := 2) dX12_trial_2 (x_R rfl) ?_
  refine e_bipush (pc := 3) dX12_trial_3 (by decide +kernel) (x_R rfl) ?_
  obtain ⟨v1, hq1, hG⟩ := x_bd1 hG
  refine e_invS (pc := 5) (K1 := 0) (S1 := 0) (K := 0) (S := 0) (dd2 := 0) (av := [x_i a, x_i 0, x_i 72]) (st := [x_r (16 * 32 + 0)]) dX12_trial_5 xmX12_61 rfl (f_cal (M := M) (us2 := []) [] hn rfl trivial rfl rfl rfl (c_X12_isIn hst hs   hq1)) (by decide) (Nat.le_of_ble_eq_true rfl) (Or.inl rfl) ?_
  show Ev g _ _ _ _ _ _ 8 [some (x_r (16 * 32 + 0)), some (x_i a), some (x_i b), none, none] [x_i v1, x_r (16 * 32 + 0)] (al, ro, fl (ml M [32] [S])) _ _ _ _
  obtain ⟨v3, hr3, hG⟩ := x_bd1 hG
  have hjhr3 : Ev g yX12_trial cX12_trial 5 (some .int) [] 47 16 [some (x_r (16 * 32 + 0)), some (x_i a), some (x_i b), none, none] [x_i v3, x_r (16 * 32 + 0)] (al, ro, fl (ml M [32] [S])) 0 0 (.inl (some (x_i t.1))) (al, ro, fl (ml M [32] [t.2])) := by
    refine f_puti (pc := 16) (k := 0) (u := 32) (q := 0) dX12_trial_16 xf12_58 xw10_0 (sa_32_0 hs) hn rfl rfl rfl (by decide) ?_
    show Ev g _ _ _ _ _ _ 19 [some (x_r (16 * 32 + 0)), some (x_i a), some (x_i b), none, none] [] (al, ro, fl (ml M [32] [(x_up S 0 0 v3)])) _ _ _ _
    refine e_aloadn (pc := 19) (i := 0) dX12_trial_19 rfl rfl ?_
    refine f_geti (pc := 20) (k := 0) (u := 32) (q := 0) dX12_trial_20 xf12_58 (sa_32_0 hs) rfl hn rfl rfl (by decide) ?_
    show Ev g _ _ _ _ _ _ 23 [some (x_r (16 * 32 + 0)), some (x_i a), some (x_i b), none, none] [x_i ((x_up S 0 0 v3) 0 0)] (al, ro, fl (ml M [32] [(x_up S 0 0 v3)])) _ _ _ _
    refine e_if_le (pc := 23) (tgt := 28) dX12_trial_23 (by decide) (fun hb => ?_) (fun hb => ?_)
    · rw [if_pos hb] at hG
      refine e_aloadn (pc := 28) (i := 0) dX12_trial_28 rfl rfl ?_
      obtain ⟨S5, hq5, hG⟩ := x_bd1 hG
      refine e_invV (pc := 29) (K1 := 0) (S1 := 0) (K := 0) (S := 0) (dd2 := 0) (av := []) (st := []) (id := 16 * 32 + 0) dX12_trial_29 xmX12_192 rfl (Or.inl ⟨10, 27, TX12, (sa_32_0 hs), rfl, by decide⟩) (f_cal (M := M) (us2 := [32]) [0] hn rfl (And.intro rfl trivial) rfl rfl rfl (c_X12_putsAside hst hs   hq5)) (by decide) (Nat.le_of_ble_eq_true rfl) (Or.inl rfl) ?_
      show Ev g _ _ _ _ _ _ 32 [some (x_r (16 * 32 + 0)), some (x_i a), some (x_i b), none, none] [] (al, ro, fl (ml M [32] [S5])) _ _ _ _
      refine e_aloadn (pc := 32) (i := 0) dX12_trial_32 rfl rfl ?_
      refine e_iloadn (pc := 33) (i := 1) dX12_trial_33 rfl rfl ?_
      refine e_iconst (pc := 34) dX12_trial_34 (x_R rfl) ?_
      obtain ⟨v7, S8, hq8, hG⟩ := x_bd2 hG
      refine e_invV (pc := 35) (K1 := 0) (S1 := 0) (K := 0) (S := 0) (dd2 := 46) (av := [x_i a, x_i 1]) (st := []) (id := 16 * 32 + 0) dX12_trial_35 xmX12_310 rfl (Or.inl ⟨10, 27, TX12, (sa_32_0 hs), rfl, by decide⟩) (f_cal (M := M) (us2 := [32]) [0] hn rfl (And.intro rfl trivial) rfl rfl rfl (c_X12_goes hst hs   hq8)) (by decide) (Nat.le_of_ble_eq_true rfl) (Or.inl rfl) ?_
      show Ev g _ _ _ _ _ _ 38 [some (x_r (16 * 32 + 0)), some (x_i a), some (x_i b), none, none] [x_i v7] (al, ro, fl (ml M [32] [S8])) _ _ _ _
      refine e_istoren (pc := 38) (i := 3) dX12_trial_38 rfl (by decide) rfl ?_
      show Ev g _ _ _ _ _ _ 39 [some (x_r (16 * 32 + 0)), some (x_i a), some (x_i b), some (x_i v7), none] [] (al, ro, fl (ml M [32] [S8])) _ _ _ _
      refine e_iloadn (pc := 39) (i := 2) dX12_trial_39 rfl rfl ?_
      obtain ⟨v10, hr10, hG⟩ := x_bd1 hG
      have hjhr10 : Ev g yX12_trial cX12_trial 5 (some .int) [] 47 57 [some (x_r (16 * 32 + 0)), some (x_i a), some (x_i b), some (x_i v7), none] [x_i v10] (al, ro, fl (ml M [32] [S8])) 0 0 (.inl (some (x_i t.1))) (al, ro, fl (ml M [32] [t.2])) := by
        refine e_istore (pc := 57) (i := 4) dX12_trial_57 (by decide) rfl ?_
        show Ev g _ _ _ _ _ _ 59 [some (x_r (16 * 32 + 0)), some (x_i a), some (x_i b), some (x_i v7), some (x_i v10)] [] (al, ro, fl (ml M [32] [S8])) _ _ _ _
        refine e_aloadn (pc := 59) (i := 0) dX12_trial_59 rfl rfl ?_
        obtain ⟨S14, hq14, hG⟩ := x_bd1 hG
        refine e_invV (pc := 60) (K1 := 0) (S1 := 0) (K := 0) (S := 0) (dd2 := 0) (av := []) (st := []) (id := 16 * 32 + 0) dX12_trial_60 xmX12_201 rfl (Or.inl ⟨10, 27, TX12, (sa_32_0 hs), rfl, by decide⟩) (f_cal (M := M) (us2 := [32]) [0] hn rfl (And.intro rfl trivial) rfl rfl rfl (c_X12_comesBack hst hs   hq14)) (by decide) (Nat.le_of_ble_eq_true rfl) (Or.inl rfl) ?_
        show Ev g _ _ _ _ _ _ 63 [some (x_r (16 * 32 + 0)), some (x_i a), some (x_i b), some (x_i v7), some (x_i v10)] [] (al, ro, fl (ml M [32] [S14])) _ _ _ _
        refine e_iload (pc := 63) dX12_trial_63 rfl ?_
        cases hG
        exact (e_ireturn rfl dX12_trial_65 rfl)
      clear hG
      refine e_if_eq (pc := 40) (tgt := 53) dX12_trial_40 (by decide) (fun hb => ?_) (fun hb => ?_)
      · rw [if_pos hb] at hr10
        refine e_aloadn (pc := 53) (i := 0) dX12_trial_53 rfl rfl ?_
        obtain ⟨v12, hq12, hr10⟩ := x_bd1 hr10
        refine e_invV (pc := 54) (K1 := 0) (S1 := 0) (K := 0) (S := 0) (dd2 := 1) (av := []) (st := []) (id := 16 * 32 + 0) dX12_trial_54 xmX12_298 rfl (Or.inl ⟨10, 27, TX12, (sa_32_0 hs), rfl, by decide⟩) (f_cal (M := M) (us2 := [32]) [0] hn rfl (And.intro rfl trivial) rfl rfl rfl (c_X12_lateOfAll hst hs   hq12)) (by decide) (Nat.le_of_ble_eq_true rfl) (Or.inl rfl) ?_
        show Ev g _ _ _ _ _ _ 57 [some (x_r (16 * 32 + 0)), some (x_i a), some (x_i b), some (x_i v7), none] [x_i v12] (al, ro, fl (ml M [32] [S8])) _ _ _ _
        cases hr10
        exact hjhr10
      · rw [if_neg hb] at hr10
        refine e_aloadn (pc := 43) (i := 0) dX12_trial_43 rfl rfl ?_
        refine f_getr (pc := 44) (u := 32) (q := 0) dX12_trial_44 xf12_7 (sa_32_0 hs) rfl (sr_32_0_1 hs) ?_
        refine e_bipush (pc := 47) dX12_trial_47 (by decide +kernel) (x_R rfl) ?_
        refine f_iald (pc := 49) (k := 0) (u := 32) (q := 1) (len := 772) dX12_trial_49 (sa_32_1 hs) (by decide) hn rfl rfl (by decide) ?_
        show Ev g _ _ _ _ _ _ 50 [some (x_r (16 * 32 + 0)), some (x_i a), some (x_i b), some (x_i v7), none] [x_i (S8 1 7)] (al, ro, fl (ml M [32] [S8])) _ _ _ _
        refine e_goto (pc := 50) (tgt := 57) dX12_trial_50 (by decide) ?_
        cases hr10
        exact hjhr10
    · rw [if_neg hb] at hG
      refine e_iconst (pc := 26) dX12_trial_26 (x_R rfl) ?_
      cases hG
      exact (e_ireturn rfl dX12_trial_27 rfl)
  clear hG
  refine e_if_ne (pc := 8) (tgt := 15) dX12_trial_8 (by decide) (fun hb => ?_) (fun hb => ?_)
  · rw [if_neg hb] at hr3
    refine e_iconst (pc := 15) dX12_trial_15 (x_R rfl) ?_
    cases hr3
    exact hjhr3
  · rw [if_pos hb] at hr3
    refine e_iconst (pc := 11) dX12_trial_11 (x_R rfl) ?_
    refine e_goto (pc := 12) (tgt := 16) dX12_trial_12 (by decide) ?_
    cases hr3
    exact hjhr3
set_option maxRecDepth 100000 in
set_option maxHeartbeats 4000000 in
theorem c_X12_span {g : xG} {al : List (Nat × Nat × Nat)} {ro : Nat → Nat → Option Nat} (hst : g.1.stackTraces = false) (hs : SH al ro) {M : Nat → xU} {a : Int} {b : Int} {S : xU}  {t : (Int × xU)} (hG : G12_span a b S = some t) :
    Cal g yX12_span cX12_span 7 (some .int) 47 [x_r (16 * 32 + 0), x_i a, x_i b] (al, ro, fl (ml M [32] [S])) 0 0 (.inl (some (x_i t.1))) (al, ro, fl (ml M [32] [t.2])) := by
  have hn : ([32] : List Nat).Nodup := by decide
  refine cal_of_ev (plainFor_of_name (by decide)) (x_c1 rfl) (Nat.le_of_ble_eq_true rfl) hst ?_
  show Ev g _ _ _ _ _ _ 0 [some (x_r (16 * 32 + 0)), some (x_i a), some (x_i b), none, none, none, none] [] (al, ro, fl (ml M [32] [S])) _ _ _ _
  rw [G12_span] at hG
  refine e_aloadn (pc := 0) (i := 0) dX12_span_0 rfl rfl ?_
  refine e_iloadn (pc := 1) (i := 1) dX12_span_1 rfl rfl ?_
  refine e_iconst (pc := 2) dX12_span_2 (x_R rfl) ?_
  refine e_bipush (pc := 3) dX12_span_3 (by decide +kernel) (x_R rfl) ?_
  obtain ⟨v1, hq1, hG⟩ := x_bd1 hG
  refine e_invS (pc := 5) (K1 := 0) (S1 := 0) (K := 0) (S := 0) (dd2 := 0) (av := [x_i a, x_i 0, x_i 72]) (st := [x_r (16 * 32 + 0)]) dX12_span_5 xmX12_61 rfl (f_cal (M := M) (us2 := []) [] hn rfl trivial rfl rfl rfl (c_X12_isIn hst hs   hq1)) (by decide) (Nat.le_of_ble_eq_true rfl) (Or.inl rfl) ?_
  show Ev g _ _ _ _ _ _ 8 [some (x_r (16 * 32 + 0)), some (x_i a), some (x_i b), none, none, none, none] [x_i v1, x_r (16 * 32 + 0)] (al, ro, fl (ml M [32] [S])) _ _ _ _
  obtain ⟨v3, hr3, hG⟩ := x_bd1 hG
  have hjhr3 : Ev g yX12_span cX12_span 7 (some .int) [] 47 16 [some (x_r (16 * 32 + 0)), some (x_i a), some (x_i b), none, none, none, none] [x_i v3, x_r (16 * 32 + 0)] (al, ro, fl (ml M [32] [S])) 0 0 (.inl (some (x_i t.1))) (al, ro, fl (ml M [32] [t.2])) := by
    refine f_puti (pc := 16) (k := 0) (u := 32) (q := 0) dX12_span_16 xf12_58 xw10_0 (sa_32_0 hs) hn rfl rfl rfl (by decide) ?_
    show Ev g _ _ _ _ _ _ 19 [some (x_r (16 * 32 + 0)), some (x_i a), some (x_i b), none, none, none, none] [] (al, ro, fl (ml M [32] [(x_up S 0 0 v3)])) _ _ _ _
    refine e_aloadn (pc := 19) (i := 0) dX12_span_19 rfl rfl ?_
    refine f_geti (pc := 20) (k := 0) (u := 32) (q := 0) dX12_span_20 xf12_58 (sa_32_0 hs) rfl hn rfl rfl (by decide) ?_
    show Ev g _ _ _ _ _ _ 23 [some (x_r (16 * 32 + 0)), some (x_i a), some (x_i b), none, none, none, none] [x_i ((x_up S 0 0 v3) 0 0)] (al, ro, fl (ml M [32] [(x_up S 0 0 v3)])) _ _ _ _
    refine e_if_le (pc := 23) (tgt := 28) dX12_span_23 (by decide) (fun hb => ?_) (fun hb => ?_)
    · rw [if_pos hb] at hG
      refine e_aloadn (pc := 28) (i := 0) dX12_span_28 rfl rfl ?_
      obtain ⟨S5, hq5, hG⟩ := x_bd1 hG
      refine e_invV (pc := 29) (K1 := 0) (S1 := 0) (K := 0) (S := 0) (dd2 := 0) (av := []) (st := []) (id := 16 * 32 + 0) dX12_span_29 xmX12_192 rfl (Or.inl ⟨10, 27, TX12, (sa_32_0 hs), rfl, by decide⟩) (f_cal (M := M) (us2 := [32]) [0] hn rfl (And.intro rfl trivial) rfl rfl rfl (c_X12_putsAside hst hs   hq5)) (by decide) (Nat.le_of_ble_eq_true rfl) (Or.inl rfl) ?_
      show Ev g _ _ _ _ _ _ 32 [some (x_r (16 * 32 + 0)), some (x_i a), some (x_i b), none, none, none, none] [] (al, ro, fl (ml M [32] [S5])) _ _ _ _
      refine e_iconst (pc := 32) dX12_span_32 (x_R rfl) ?_
      refine e_istoren (pc := 33) (i := 3) dX12_span_33 rfl (by decide) rfl ?_
      show Ev g _ _ _ _ _ _ 34 [some (x_r (16 * 32 + 0)), some (x_i a), some (x_i b), some (x_i (-1)), none, none, none] [] (al, ro, fl (ml M [32] [S5])) _ _ _ _
      refine e_iconst (pc := 34) dX12_span_34 (x_R rfl) ?_
      refine e_istore (pc := 35) (i := 4) dX12_span_35 (by decide) rfl ?_
      show Ev g _ _ _ _ _ _ 37 [some (x_r (16 * 32 + 0)), some (x_i a), some (x_i b), some (x_i (-1)), some (x_i 1), none, none] [] (al, ro, fl (ml M [32] [S5])) _ _ _ _
      obtain ⟨v10, S11, hl12, hG⟩ := x_bd2 hG
      have hk12 : ∀ q : (Int × xU), q = (v10, S11) → Ev g yX12_span cX12_span 7 (some .int) [] 47 107 [some (x_r (16 * 32 + 0)), some (x_i a), some (x_i b), some (x_i q.1), none, none, none] [] (al, ro, fl (ml M [32] [q.2])) 0 0 (.inl (some (x_i t.1))) (al, ro, fl (ml M [32] [t.2])) := by
        intro q hq
        cases hq
        refine e_iloadn (pc := 107) (i := 3) dX12_span_107 rfl rfl ?_
        cases hG
        exact (e_ireturn rfl dX12_span_108 rfl)
      clear hG
      refine e_whl (G12_span_L37 a b) (fun z : (Int × Int × xU) => Ev g yX12_span cX12_span 7 (some .int) [] 47 37 [some (x_r (16 * 32 + 0)), some (x_i a), some (x_i b), some (x_i z.1), some (x_i z.2.1), none, none] [] (al, ro, fl (ml M [32] [z.2.2])) 0 0 (.inl (some (x_i t.1))) (al, ro, fl (ml M [32] [t.2]))) (fun q => q = (v10, S11)) ?_ xFU ((-1), 1, S5) _ hl12 rfl
      intro z t12 hf12 hi12 hx12
      obtain ⟨v7, v8, S9⟩ := z
      rw [G12_span_L37] at hf12
      show Ev g _ _ _ _ _ _ 37 [some (x_r (16 * 32 + 0)), some (x_i a), some (x_i b), some (x_i v7), some (x_i v8), none, none] [] (al, ro, fl (ml M [32] [S9])) _ _ _ _
      refine e_iload (pc := 37) dX12_span_37 rfl ?_
      refine e_bipush (pc := 39) dX12_span_39 (by decide +kernel) (x_R rfl) ?_
      refine e_icmp_gt (pc := 41) (tgt := 107) dX12_span_41 (by decide) (fun hb => ?_) (fun hb => ?_)
      · rw [if_pos hb] at hf12
        cases hf12
        refine e_drop (i := 4) ?_
        have hh := hk12 _ (hx12 _ rfl)
        try dsimp only at hh
        exact hh
      · rw [if_neg hb] at hf12
        refine e_aloadn (pc := 44) (i := 0) dX12_span_44 rfl rfl ?_
        refine f_getr (pc := 45) (u := 32) (q := 0) dX12_span_45 xf12_7 (sa_32_0 hs) rfl (sr_32_0_1 hs) ?_
        refine e_bipush (pc := 48) dX12_span_48 (by decide +kernel) (x_R rfl) ?_
        refine e_iload (pc := 50) dX12_span_50 rfl ?_
        refine f_iast (pc := 52) (k := 0) (u := 32) (q := 1) (len := 772) dX12_span_52 (sa_32_1 hs) (by decide) hn rfl rfl rfl (by decide) ?_
        show Ev g _ _ _ _ _ _ 53 [some (x_r (16 * 32 + 0)), some (x_i a), some (x_i b), some (x_i v7), some (x_i v8), none, none] [] (al, ro, fl (ml M [32] [(x_up S9 1 11 v8)])) _ _ _ _
        refine e_aloadn (pc := 53) (i := 0) dX12_span_53 rfl rfl ?_
        refine e_iloadn (pc := 54) (i := 1) dX12_span_54 rfl rfl ?_
        refine e_iconst (pc := 55) dX12_span_55 (x_R rfl) ?_
        obtain ⟨v14, S15, hq15, hf12⟩ := x_bd2 hf12
        refine e_invV (pc := 56) (K1 := 0) (S1 := 0) (K := 0) (S := 0) (dd2 := 46) (av := [x_i a, x_i 1]) (st := []) (id := 16 * 32 + 0) dX12_span_56 xmX12_310 rfl (Or.inl ⟨10, 27, TX12, (sa_32_0 hs), rfl, by decide⟩) (f_cal (M := M) (us2 := [32]) [0] hn rfl (And.intro rfl trivial) rfl rfl rfl (c_X12_goes hst hs   hq15)) (by decide) (Nat.le_of_ble_eq_true rfl) (Or.inl rfl) ?_
        show Ev g _ _ _ _ _ _ 59 [some (x_r (16 * 32 + 0)), some (x_i a), some (x_i b), some (x_i v7), some (x_i v8), none, none] [x_i v14] (al, ro, fl (ml M [32] [S15])) _ _ _ _
        refine e_istore (pc := 59) (i := 5) dX12_span_59 (by decide) rfl ?_
        show Ev g _ _ _ _ _ _ 61 [some (x_r (16 * 32 + 0)), some (x_i a), some (x_i b), some (x_i v7), some (x_i v8), some (x_i v14), none] [] (al, ro, fl (ml M [32] [S15])) _ _ _ _
        refine e_aloadn (pc := 61) (i := 0) dX12_span_61 rfl rfl ?_
        obtain ⟨v17, hq17, hf12⟩ := x_bd1 hf12
        refine e_invV (pc := 62) (K1 := 0) (S1 := 0) (K := 0) (S := 0) (dd2 := 1) (av := []) (st := []) (id := 16 * 32 + 0) dX12_span_62 xmX12_298 rfl (Or.inl ⟨10, 27, TX12, (sa_32_0 hs), rfl, by decide⟩) (f_cal (M := M) (us2 := [32]) [0] hn rfl (And.intro rfl trivial) rfl rfl rfl (c_X12_lateOfAll hst hs   hq17)) (by decide) (Nat.le_of_ble_eq_true rfl) (Or.inl rfl) ?_
        show Ev g _ _ _ _ _ _ 65 [some (x_r (16 * 32 + 0)), some (x_i a), some (x_i b), some (x_i v7), some (x_i v8), some (x_i v14), none] [x_i v17] (al, ro, fl (ml M [32] [S15])) _ _ _ _
        refine e_istore (pc := 65) (i := 6) dX12_span_65 (by decide) rfl ?_
        show Ev g _ _ _ _ _ _ 67 [some (x_r (16 * 32 + 0)), some (x_i a), some (x_i b), some (x_i v7), some (x_i v8), some (x_i v14), some (x_i v17)] [] (al, ro, fl (ml M [32] [S15])) _ _ _ _
        refine e_aloadn (pc := 67) (i := 0) dX12_span_67 rfl rfl ?_
        obtain ⟨S19, hq19, hf12⟩ := x_bd1 hf12
        refine e_invV (pc := 68) (K1 := 0) (S1 := 0) (K := 0) (S := 0) (dd2 := 0) (av := []) (st := []) (id := 16 * 32 + 0) dX12_span_68 xmX12_201 rfl (Or.inl ⟨10, 27, TX12, (sa_32_0 hs), rfl, by decide⟩) (f_cal (M := M) (us2 := [32]) [0] hn rfl (And.intro rfl trivial) rfl rfl rfl (c_X12_comesBack hst hs   hq19)) (by decide) (Nat.le_of_ble_eq_true rfl) (Or.inl rfl) ?_
        show Ev g _ _ _ _ _ _ 71 [some (x_r (16 * 32 + 0)), some (x_i a), some (x_i b), some (x_i v7), some (x_i v8), some (x_i v14), some (x_i v17)] [] (al, ro, fl (ml M [32] [S19])) _ _ _ _
        refine e_iloadn (pc := 71) (i := 3) dX12_span_71 rfl rfl ?_
        refine e_iconst (pc := 72) dX12_span_72 (x_R rfl) ?_
        obtain ⟨v21, hr21, hf12⟩ := x_bd1 hf12
        have hjhr21 : Ev g yX12_span cX12_span 7 (some .int) [] 47 100 [some (x_r (16 * 32 + 0)), some (x_i a), some (x_i b), some (x_i v7), some (x_i v8), some (x_i v14), some (x_i v17)] [x_i v21] (al, ro, fl (ml M [32] [S19])) 0 0 (.inl (some (x_i t.1))) (al, ro, fl (ml M [32] [t.2])) := by
          refine e_istoren (pc := 100) (i := 3) dX12_span_100 rfl (by decide) rfl ?_
          show Ev g _ _ _ _ _ _ 101 [some (x_r (16 * 32 + 0)), some (x_i a), some (x_i b), some (x_i v21), some (x_i v8), some (x_i v14), some (x_i v17)] [] (al, ro, fl (ml M [32] [S19])) _ _ _ _
          refine e_iinc (pc := 101) dX12_span_101 rfl (by decide) rfl ?_
          show Ev g _ _ _ _ _ _ 104 [some (x_r (16 * 32 + 0)), some (x_i a), some (x_i b), some (x_i v21), some (x_i (x_add v8 1)), some (x_i v14), some (x_i v17)] [] (al, ro, fl (ml M [32] [S19])) _ _ _ _
          refine e_goto (pc := 104) (tgt := 37) dX12_span_104 (by decide) ?_
          cases hf12
          refine e_drop (i := 5) ?_
          refine e_drop (i := 6) ?_
          have hh := hi12 _ rfl
          try dsimp only at hh
          exact hh
        clear hf12
        refine e_icmp_ne (pc := 73) (tgt := 81) dX12_span_73 (by decide) (fun hb => ?_) (fun hb => ?_)
        · rw [if_neg hb] at hr21
          refine e_iloadn (pc := 81) (i := 2) dX12_span_81 rfl rfl ?_
          refine e_if_eq (pc := 82) (tgt := 94) dX12_span_82 (by decide) (fun hb => ?_) (fun hb => ?_)
          · rw [if_pos hb] at hr21
            refine e_iloadn (pc := 94) (i := 3) dX12_span_94 rfl rfl ?_
            refine e_iload (pc := 95) dX12_span_95 rfl ?_
            obtain ⟨v23, hq23, hr21⟩ := x_bd1 hr21
            refine e_invS (pc := 97) (K1 := 0) (S1 := 0) (K := 0) (S := 0) (dd2 := 0) (av := [x_i v7, x_i v17]) (st := []) dX12_span_97 xmX12_73 rfl (f_cal (M := M) (us2 := []) [] hn rfl trivial rfl rfl rfl (c_X12_lesser hst hs   hq23)) (by decide) (Nat.le_of_ble_eq_true rfl) (Or.inl rfl) ?_
            show Ev g _ _ _ _ _ _ 100 [some (x_r (16 * 32 + 0)), some (x_i a), some (x_i b), some (x_i v7), some (x_i v8), some (x_i v14), some (x_i v17)] [x_i v23] (al, ro, fl (ml M [32] [S19])) _ _ _ _
            cases hr21
            exact hjhr21
          · rw [if_neg hb] at hr21
            refine e_iloadn (pc := 85) (i := 3) dX12_span_85 rfl rfl ?_
            refine e_iload (pc := 86) dX12_span_86 rfl ?_
            obtain ⟨v25, hq25, hr21⟩ := x_bd1 hr21
            refine e_invS (pc := 88) (K1 := 0) (S1 := 0) (K := 0) (S := 0) (dd2 := 0) (av := [x_i v7, x_i v17]) (st := []) dX12_span_88 xmX12_266 rfl (f_cal (M := M) (us2 := []) [] hn rfl trivial rfl rfl rfl (c_X12_greater hst hs   hq25)) (by decide) (Nat.le_of_ble_eq_true rfl) (Or.inl rfl) ?_
            show Ev g _ _ _ _ _ _ 91 [some (x_r (16 * 32 + 0)), some (x_i a), some (x_i b), some (x_i v7), some (x_i v8), some (x_i v14), some (x_i v17)] [x_i v25] (al, ro, fl (ml M [32] [S19])) _ _ _ _
            refine e_goto (pc := 91) (tgt := 100) dX12_span_91 (by decide) ?_
            cases hr21
            exact hjhr21
        · rw [if_pos hb] at hr21
          refine e_iload (pc := 76) dX12_span_76 rfl ?_
          refine e_goto (pc := 78) (tgt := 100) dX12_span_78 (by decide) ?_
          cases hr21
          exact hjhr21
    · rw [if_neg hb] at hG
      refine e_iconst (pc := 26) dX12_span_26 (x_R rfl) ?_
      cases hG
      exact (e_ireturn rfl dX12_span_27 rfl)
  clear hG
  refine e_if_ne (pc := 8) (tgt := 15) dX12_span_8 (by decide) (fun hb => ?_) (fun hb => ?_)
  · rw [if_neg hb] at hr3
    refine e_iconst (pc := 15) dX12_span_15 (x_R rfl) ?_
    cases hr3
    exact hjhr3
  · rw [if_pos hb] at hr3
    refine e_iconst (pc := 11) dX12_span_11 (x_R rfl) ?_
    refine e_goto (pc := 12) (tgt := 16) dX12_span_12 (by decide) ?_
    cases hr3
    exact hjhr3
set_option maxRecDepth 100000 in
set_option maxHeartbeats 4000000 in
theorem c_X12_logged {g : xG} {al : List (Nat × Nat × Nat)} {ro : Nat → Nat → Option Nat} (hst : g.1.stackTraces = false) (hs : SH al ro) {M : Nat → xU} {a : Int} {b : Int} {S : xU}  {t : Int} (hG : G12_logged a b S = some t) :
    Cal g yX12_logged cX12_logged 3 (some .int) 0 [x_r (16 * 32 + 0), x_i a, x_i b] (al, ro, fl (ml M [32] [S])) 0 0 (.inl (some (x_i t))) (al, ro, fl (ml M [32] [S])) := by
  have hn : ([32] : List Nat).Nodup := by decide
  refine cal_of_ev (plainFor_of_name (by decide)) (x_c1 rfl) (Nat.le_of_ble_eq_true rfl) hst ?_
  show Ev g _ _ _ _ _ _ 0 [some (x_r (16 * 32 + 0)), some (x_i a), some (x_i b)] [] (al, ro, fl (ml M [32] [S])) _ _ _ _
  rw [G12_logged] at hG
  refine e_aloadn (pc := 0) (i := 0) dX12_logged_0 rfl rfl ?_
  refine f_getr (pc := 1) (u := 32) (q := 0) dX12_logged_1 xf12_7 (sa_32_0 hs) rfl (sr_32_0_1 hs) ?_
  refine e_bipush (pc := 4) dX12_logged_4 (by decide +kernel) (x_R rfl) ?_
  refine e_iconst (pc := 6) dX12_logged_6 (x_R rfl) ?_
  refine e_iloadn (pc := 7) (i := 1) dX12_logged_7 rfl rfl ?_
  refine e_imul (pc := 8) dX12_logged_8 ?_
  refine e_iadd (pc := 9) dX12_logged_9 ?_
  refine e_iloadn (pc := 10) (i := 2) dX12_logged_10 rfl rfl ?_
  refine e_iadd (pc := 11) dX12_logged_11 ?_
  obtain ⟨hc0, hG⟩ := x_gd_some hG
  refine f_iald (pc := 12) (k := 0) (u := 32) (q := 1) (len := 772) dX12_logged_12 (sa_32_1 hs) hc0 hn rfl rfl (by decide) ?_
  show Ev g _ _ _ _ _ _ 13 [some (x_r (16 * 32 + 0)), some (x_i a), some (x_i b)] [x_i (S 1 ((x_add (x_add 72 (x_mul 5 a)) b)).toNat)] (al, ro, fl (ml M [32] [S])) _ _ _ _
  cases hG
  exact (e_ireturn rfl dX12_logged_13 rfl)
set_option maxRecDepth 100000 in
set_option maxHeartbeats 4000000 in
theorem c_X12_led {g : xG} {al : List (Nat × Nat × Nat)} {ro : Nat → Nat → Option Nat} (hst : g.1.stackTraces = false) (hs : SH al ro) {M : Nat → xU} {a : Int} {b : Int} {S : xU}  {t : (Int × xU)} (hG : G12_led a b S = some t) :
    Cal g yX12_led cX12_led 6 (some .int) 2 [x_r (16 * 32 + 0), x_i a, x_i b] (al, ro, fl (ml M [32] [S])) 0 0 (.inl (some (x_i t.1))) (al, ro, fl (ml M [32] [t.2])) := by
  have hn : ([32] : List Nat).Nodup := by decide
  refine cal_of_ev (plainFor_of_name (by decide)) (x_c1 rfl) (Nat.le_of_ble_eq_true rfl) hst ?_
  show Ev g _ _ _ _ _ _ 0 [some (x_r (16 * 32 + 0)), some (x_i a), some (x_i b), none, none, none] [] (al, ro, fl (ml M [32] [S])) _ _ _ _
  rw [G12_led] at hG
  refine e_aloadn (pc := 0) (i := 0) dX12_led_0 rfl rfl ?_
  refine e_aloadn (pc := 1) (i := 0) dX12_led_1 rfl rfl ?_
  refine e_iloadn (pc := 2) (i := 1) dX12_led_2 rfl rfl ?_
  obtain ⟨v1, hq1, hG⟩ := x_bd1 hG
  refine e_invV (pc := 3) (K1 := 0) (S1 := 0) (K := 0) (S := 0) (dd2 := 1) (av := [x_i a]) (st := [x_r (16 * 32 + 0)]) (id := 16 * 32 + 0) dX12_led_3 xmX12_295 rfl (Or.inl ⟨10, 27, TX12, (sa_32_0 hs), rfl, by decide⟩) (f_cal (M := M) (us2 := [32]) [0] hn rfl (And.intro rfl trivial) rfl rfl rfl (c_X12_isMonk hst hs   hq1)) (by decide) (Nat.le_of_ble_eq_true rfl) (Or.inl rfl) ?_
  show Ev g _ _ _ _ _ _ 6 [some (x_r (16 * 32 + 0)), some (x_i a), some (x_i b), none, none, none] [x_i v1, x_r (16 * 32 + 0)] (al, ro, fl (ml M [32] [S])) _ _ _ _
  obtain ⟨v3, hr3, hG⟩ := x_bd1 hG
  have hjhr3 : Ev g yX12_led cX12_led 6 (some .int) [] 2 14 [some (x_r (16 * 32 + 0)), some (x_i a), some (x_i b), none, none, none] [x_i v3, x_r (16 * 32 + 0)] (al, ro, fl (ml M [32] [S])) 0 0 (.inl (some (x_i t.1))) (al, ro, fl (ml M [32] [t.2])) := by
    refine f_puti (pc := 14) (k := 0) (u := 32) (q := 0) dX12_led_14 xf12_58 xw10_0 (sa_32_0 hs) hn rfl rfl rfl (by decide) ?_
    show Ev g _ _ _ _ _ _ 17 [some (x_r (16 * 32 + 0)), some (x_i a), some (x_i b), none, none, none] [] (al, ro, fl (ml M [32] [(x_up S 0 0 v3)])) _ _ _ _
    refine e_aloadn (pc := 17) (i := 0) dX12_led_17 rfl rfl ?_
    refine f_geti (pc := 18) (k := 0) (u := 32) (q := 0) dX12_led_18 xf12_58 (sa_32_0 hs) rfl hn rfl rfl (by decide) ?_
    show Ev g _ _ _ _ _ _ 21 [some (x_r (16 * 32 + 0)), some (x_i a), some (x_i b), none, none, none] [x_i ((x_up S 0 0 v3) 0 0)] (al, ro, fl (ml M [32] [(x_up S 0 0 v3)])) _ _ _ _
    refine e_if_le (pc := 21) (tgt := 26) dX12_led_21 (by decide) (fun hb => ?_) (fun hb => ?_)
    · rw [if_pos hb] at hG
      refine e_iconst (pc := 26) dX12_led_26 (x_R rfl) ?_
      refine e_istoren (pc := 27) (i := 3) dX12_led_27 rfl (by decide) rfl ?_
      show Ev g _ _ _ _ _ _ 28 [some (x_r (16 * 32 + 0)), some (x_i a), some (x_i b), some (x_i 0), none, none] [] (al, ro, fl (ml M [32] [(x_up S 0 0 v3)])) _ _ _ _
      refine e_iconst (pc := 28) dX12_led_28 (x_R rfl) ?_
      refine e_istore (pc := 29) (i := 4) dX12_led_29 (by decide) rfl ?_
      show Ev g _ _ _ _ _ _ 31 [some (x_r (16 * 32 + 0)), some (x_i a), some (x_i b), some (x_i 0), some (x_i (-1)), none] [] (al, ro, fl (ml M [32] [(x_up S 0 0 v3)])) _ _ _ _
      refine e_aloadn (pc := 31) (i := 0) dX12_led_31 rfl rfl ?_
      refine f_getr (pc := 32) (u := 32) (q := 0) dX12_led_32 xf12_7 (sa_32_0 hs) rfl (sr_32_0_1 hs) ?_
      refine e_bipush (pc := 35) dX12_led_35 (by decide +kernel) (x_R rfl) ?_
      refine f_iald (pc := 37) (k := 0) (u := 32) (q := 1) (len := 772) dX12_led_37 (sa_32_1 hs) (by decide) hn rfl rfl (by decide) ?_
      show Ev g _ _ _ _ _ _ 38 [some (x_r (16 * 32 + 0)), some (x_i a), some (x_i b), some (x_i 0), some (x_i (-1)), none] [x_i ((x_up S 0 0 v3) 1 10)] (al, ro, fl (ml M [32] [(x_up S 0 0 v3)])) _ _ _ _
      refine e_iconst (pc := 38) dX12_led_38 (x_R rfl) ?_
      refine e_isub (pc := 39) dX12_led_39 ?_
      refine e_istore (pc := 40) (i := 5) dX12_led_40 (by decide) rfl ?_
      show Ev g _ _ _ _ _ _ 42 [some (x_r (16 * 32 + 0)), some (x_i a), some (x_i b), some (x_i 0), some (x_i (-1)), some (x_i (x_sub ((x_up S 0 0 v3) 1 10) 1))] [] (al, ro, fl (ml M [32] [(x_up S 0 0 v3)])) _ _ _ _
      obtain ⟨v8, v9, hl10, hG⟩ := x_bd2 hG
      have hk10 : ∀ q : (Int × Int), q = (v8, v9) → Ev g yX12_led cX12_led 6 (some .int) [] 2 79 [some (x_r (16 * 32 + 0)), some (x_i a), some (x_i b), some (x_i q.1), some (x_i q.2), none] [] (al, ro, fl (ml M [32] [(x_up S 0 0 v3)])) 0 0 (.inl (some (x_i t.1))) (al, ro, fl (ml M [32] [t.2])) := by
        intro q hq
        cases hq
        refine e_iloadn (pc := 79) (i := 2) dX12_led_79 rfl rfl ?_
        obtain ⟨v19, hr19, hG⟩ := x_bd1 hG
        have hjhr19 : Ev g yX12_led cX12_led 6 (some .int) [] 2 89 [some (x_r (16 * 32 + 0)), some (x_i a), some (x_i b), some (x_i v8), some (x_i v9), none] [x_i v19] (al, ro, fl (ml M [32] [(x_up S 0 0 v3)])) 0 0 (.inl (some (x_i t.1))) (al, ro, fl (ml M [32] [t.2])) := by
          cases hG
          exact (e_ireturn rfl dX12_led_89 rfl)
        clear hG
        refine e_if_eq (pc := 80) (tgt := 88) dX12_led_80 (by decide) (fun hb => ?_) (fun hb => ?_)
        · rw [if_pos hb] at hr19
          refine e_iloadn (pc := 88) (i := 3) dX12_led_88 rfl rfl ?_
          cases hr19
          exact hjhr19
        · rw [if_neg hb] at hr19
          refine e_iload (pc := 83) dX12_led_83 rfl ?_
          refine e_goto (pc := 85) (tgt := 89) dX12_led_85 (by decide) ?_
          cases hr19
          exact hjhr19
      clear hG
      refine e_whl (G12_led_L42 a S v3) (fun z : (Int × Int × Int) => Ev g yX12_led cX12_led 6 (some .int) [] 2 42 [some (x_r (16 * 32 + 0)), some (x_i a), some (x_i b), some (x_i z.1), some (x_i z.2.1), some (x_i z.2.2)] [] (al, ro, fl (ml M [32] [(x_up S 0 0 v3)])) 0 0 (.inl (some (x_i t.1))) (al, ro, fl (ml M [32] [t.2]))) (fun q => q = (v8, v9)) ?_ xFU (0, (-1), (x_sub ((x_up S 0 0 v3) 1 10) 1)) _ hl10 rfl
      intro z t10 hf10 hi10 hx10
      obtain ⟨v5, v6, v7⟩ := z
      rw [G12_led_L42] at hf10
      show Ev g _ _ _ _ _ _ 42 [some (x_r (16 * 32 + 0)), some (x_i a), some (x_i b), some (x_i v5), some (x_i v6), some (x_i v7)] [] (al, ro, fl (ml M [32] [(x_up S 0 0 v3)])) _ _ _ _
      refine e_iload (pc := 42) dX12_led_42 rfl ?_
      refine e_if_lt (pc := 44) (tgt := 79) dX12_led_44 (by decide) (fun hb => ?_) (fun hb => ?_)
      · rw [if_pos hb] at hf10
        cases hf10
        refine e_drop (i := 5) ?_
        have hh := hk10 _ (hx10 _ rfl)
        try dsimp only at hh
        exact hh
      · rw [if_neg hb] at hf10
        refine e_aloadn (pc := 47) (i := 0) dX12_led_47 rfl rfl ?_
        refine e_iload (pc := 48) dX12_led_48 rfl ?_
        refine e_iconst (pc := 50) dX12_led_50 (x_R rfl) ?_
        obtain ⟨v12, hq12, hf10⟩ := x_bd1 hf10
        refine e_invV (pc := 51) (K1 := 0) (S1 := 0) (K := 0) (S := 0) (dd2 := 0) (av := [x_i v7, x_i 3]) (st := []) (id := 16 * 32 + 0) dX12_led_51 xmX12_419 rfl (Or.inl ⟨10, 27, TX12, (sa_32_0 hs), rfl, by decide⟩) (f_cal (M := M) (us2 := [32]) [0] hn rfl (And.intro rfl trivial) rfl rfl rfl (c_X12_logged hst hs   hq12)) (by decide) (Nat.le_of_ble_eq_true rfl) (Or.inl rfl) ?_
        show Ev g _ _ _ _ _ _ 54 [some (x_r (16 * 32 + 0)), some (x_i a), some (x_i b), some (x_i v5), some (x_i v6), some (x_i v7)] [x_i v12] (al, ro, fl (ml M [32] [(x_up S 0 0 v3)])) _ _ _ _
        refine e_iloadn (pc := 54) (i := 1) dX12_led_54 rfl rfl ?_
        obtain ⟨v14, v15, hr15, hf10⟩ := x_bd2 hf10
        have hjhr15 : Ev g yX12_led cX12_led 6 (some .int) [] 2 73 [some (x_r (16 * 32 + 0)), some (x_i a), some (x_i b), some (x_i v14), some (x_i v15), some (x_i v7)] [] (al, ro, fl (ml M [32] [(x_up S 0 0 v3)])) 0 0 (.inl (some (x_i t.1))) (al, ro, fl (ml M [32] [t.2])) := by
          refine e_iinc (pc := 73) dX12_led_73 rfl (by decide) rfl ?_
          show Ev g _ _ _ _ _ _ 76 [some (x_r (16 * 32 + 0)), some (x_i a), some (x_i b), some (x_i v14), some (x_i v15), some (x_i (x_add v7 (-1)))] [] (al, ro, fl (ml M [32] [(x_up S 0 0 v3)])) _ _ _ _
          refine e_goto (pc := 76) (tgt := 42) dX12_led_76 (by decide) ?_
          cases hf10
          have hh := hi10 _ rfl
          try dsimp only at hh
          exact hh
        clear hf10
        refine e_icmp_eq (pc := 55) (tgt := 61) dX12_led_55 (by decide) (fun hb => ?_) (fun hb => ?_)
        · rw [if_pos hb] at hr15
          refine e_iinc (pc := 61) dX12_led_61 rfl (by decide) rfl ?_
          show Ev g _ _ _ _ _ _ 64 [some (x_r (16 * 32 + 0)), some (x_i a), some (x_i b), some (x_i (x_add v5 1)), some (x_i v6), some (x_i v7)] [] (al, ro, fl (ml M [32] [(x_up S 0 0 v3)])) _ _ _ _
          refine e_aloadn (pc := 64) (i := 0) dX12_led_64 rfl rfl ?_
          refine e_iload (pc := 65) dX12_led_65 rfl ?_
          refine e_iconst (pc := 67) dX12_led_67 (x_R rfl) ?_
          obtain ⟨v17, hq17, hr15⟩ := x_bd1 hr15
          refine e_invV (pc := 68) (K1 := 0) (S1 := 0) (K := 0) (S := 0) (dd2 := 0) (av := [x_i v7, x_i 4]) (st := []) (id := 16 * 32 + 0) dX12_led_68 xmX12_419 rfl (Or.inl ⟨10, 27, TX12, (sa_32_0 hs), rfl, by decide⟩) (f_cal (M := M) (us2 := [32]) [0] hn rfl (And.intro rfl trivial) rfl rfl rfl (c_X12_logged hst hs   hq17)) (by decide) (Nat.le_of_ble_eq_true rfl) (Or.inl rfl) ?_
          show Ev g _ _ _ _ _ _ 71 [some (x_r (16 * 32 + 0)), some (x_i a), some (x_i b), some (x_i (x_add v5 1)), some (x_i v6), some (x_i v7)] [x_i v17] (al, ro, fl (ml M [32] [(x_up S 0 0 v3)])) _ _ _ _
          refine e_istore (pc := 71) (i := 4) dX12_led_71 (by decide) rfl ?_
          show Ev g _ _ _ _ _ _ 73 [some (x_r (16 * 32 + 0)), some (x_i a), some (x_i b), some (x_i (x_add v5 1)), some (x_i v17), some (x_i v7)] [] (al, ro, fl (ml M [32] [(x_up S 0 0 v3)])) _ _ _ _
          cases hr15
          exact hjhr15
        · rw [if_neg hb] at hr15
          refine e_goto (pc := 58) (tgt := 73) dX12_led_58 (by decide) ?_
          cases hr15
          exact hjhr15
    · rw [if_neg hb] at hG
      refine e_iconst (pc := 24) dX12_led_24 (x_R rfl) ?_
      cases hG
      exact (e_ireturn rfl dX12_led_25 rfl)
  clear hG
  refine e_if_ne (pc := 6) (tgt := 13) dX12_led_6 (by decide) (fun hb => ?_) (fun hb => ?_)
  · rw [if_neg hb] at hr3
    refine e_iconst (pc := 13) dX12_led_13 (x_R rfl) ?_
    cases hr3
    exact hjhr3
  · rw [if_pos hb] at hr3
    refine e_iconst (pc := 9) dX12_led_9 (x_R rfl) ?_
    refine e_goto (pc := 10) (tgt := 14) dX12_led_10 (by decide) ?_
    cases hr3
    exact hjhr3
set_option maxRecDepth 100000 in
set_option maxHeartbeats 4000000 in
theorem c_X12_log {g : xG} {al : List (Nat × Nat × Nat)} {ro : Nat → Nat → Option Nat} (hst : g.1.stackTraces = false) (hs : SH al ro) {M : Nat → xU} {a : Int} {b : Int} {S : xU}  {t : (Int × xU)} (hG : G12_log a b S = some t) :
    Cal g yX12_log cX12_log 3 (some .int) 1 [x_r (16 * 32 + 0), x_i a, x_i b] (al, ro, fl (ml M [32] [S])) 0 0 (.inl (some (x_i t.1))) (al, ro, fl (ml M [32] [t.2])) := by
  have hn : ([32] : List Nat).Nodup := by decide
  refine cal_of_ev (plainFor_of_name (by decide)) (x_c1 rfl) (Nat.le_of_ble_eq_true rfl) hst ?_
  show Ev g _ _ _ _ _ _ 0 [some (x_r (16 * 32 + 0)), some (x_i a), some (x_i b)] [] (al, ro, fl (ml M [32] [S])) _ _ _ _
  rw [G12_log] at hG
  refine e_aloadn (pc := 0) (i := 0) dX12_log_0 rfl rfl ?_
  refine e_iloadn (pc := 1) (i := 2) dX12_log_1 rfl rfl ?_
  refine e_iconst (pc := 2) dX12_log_2 (x_R rfl) ?_
  refine e_iconst (pc := 3) dX12_log_3 (x_R rfl) ?_
  obtain ⟨v1, hq1, hG⟩ := x_bd1 hG
  refine e_invS (pc := 4) (K1 := 0) (S1 := 0) (K := 0) (S := 0) (dd2 := 0) (av := [x_i b, x_i 0, x_i 4]) (st := [x_r (16 * 32 + 0)]) dX12_log_4 xmX12_61 rfl (f_cal (M := M) (us2 := []) [] hn rfl trivial rfl rfl rfl (c_X12_isIn hst hs   hq1)) (by decide) (Nat.le_of_ble_eq_true rfl) (Or.inl rfl) ?_
  show Ev g _ _ _ _ _ _ 7 [some (x_r (16 * 32 + 0)), some (x_i a), some (x_i b)] [x_i v1, x_r (16 * 32 + 0)] (al, ro, fl (ml M [32] [S])) _ _ _ _
  obtain ⟨v3, hr3, hG⟩ := x_bd1 hG
  have hjhr3 : Ev g yX12_log cX12_log 3 (some .int) [] 1 15 [some (x_r (16 * 32 + 0)), some (x_i a), some (x_i b)] [x_i v3, x_r (16 * 32 + 0)] (al, ro, fl (ml M [32] [S])) 0 0 (.inl (some (x_i t.1))) (al, ro, fl (ml M [32] [t.2])) := by
    refine f_puti (pc := 15) (k := 0) (u := 32) (q := 0) dX12_log_15 xf12_58 xw10_0 (sa_32_0 hs) hn rfl rfl rfl (by decide) ?_
    show Ev g _ _ _ _ _ _ 18 [some (x_r (16 * 32 + 0)), some (x_i a), some (x_i b)] [] (al, ro, fl (ml M [32] [(x_up S 0 0 v3)])) _ _ _ _
    refine e_aloadn (pc := 18) (i := 0) dX12_log_18 rfl rfl ?_
    refine f_geti (pc := 19) (k := 0) (u := 32) (q := 0) dX12_log_19 xf12_58 (sa_32_0 hs) rfl hn rfl rfl (by decide) ?_
    show Ev g _ _ _ _ _ _ 22 [some (x_r (16 * 32 + 0)), some (x_i a), some (x_i b)] [x_i ((x_up S 0 0 v3) 0 0)] (al, ro, fl (ml M [32] [(x_up S 0 0 v3)])) _ _ _ _
    refine e_if_le (pc := 22) (tgt := 27) dX12_log_22 (by decide) (fun hb => ?_) (fun hb => ?_)
    · rw [if_pos hb] at hG
      refine e_iloadn (pc := 27) (i := 1) dX12_log_27 rfl rfl ?_
      refine e_iconst (pc := 28) dX12_log_28 (x_R rfl) ?_
      refine e_aloadn (pc := 29) (i := 0) dX12_log_29 rfl rfl ?_
      refine f_getr (pc := 30) (u := 32) (q := 0) dX12_log_30 xf12_7 (sa_32_0 hs) rfl (sr_32_0_1 hs) ?_
      refine e_bipush (pc := 33) dX12_log_33 (by decide +kernel) (x_R rfl) ?_
      refine f_iald (pc := 35) (k := 0) (u := 32) (q := 1) (len := 772) dX12_log_35 (sa_32_1 hs) (by decide) hn rfl rfl (by decide) ?_
      show Ev g _ _ _ _ _ _ 36 [some (x_r (16 * 32 + 0)), some (x_i a), some (x_i b)] [x_i ((x_up S 0 0 v3) 1 10), x_i 0, x_i a] (al, ro, fl (ml M [32] [(x_up S 0 0 v3)])) _ _ _ _
      refine e_iconst (pc := 36) dX12_log_36 (x_R rfl) ?_
      refine e_isub (pc := 37) dX12_log_37 ?_
      obtain ⟨v5, hq5, hG⟩ := x_bd1 hG
      refine e_invS (pc := 38) (K1 := 0) (S1 := 0) (K := 0) (S := 0) (dd2 := 0) (av := [x_i a, x_i 0, x_i (x_sub ((x_up S 0 0 v3) 1 10) 1)]) (st := []) dX12_log_38 xmX12_61 rfl (f_cal (M := M) (us2 := []) [] hn rfl trivial rfl rfl rfl (c_X12_isIn hst hs   hq5)) (by decide) (Nat.le_of_ble_eq_true rfl) (Or.inl rfl) ?_
      show Ev g _ _ _ _ _ _ 41 [some (x_r (16 * 32 + 0)), some (x_i a), some (x_i b)] [x_i v5] (al, ro, fl (ml M [32] [(x_up S 0 0 v3)])) _ _ _ _
      obtain ⟨v7, hr7, hG⟩ := x_bd1 hG
      have hjhr7 : Ev g yX12_log cX12_log 3 (some .int) [] 1 54 [some (x_r (16 * 32 + 0)), some (x_i a), some (x_i b)] [x_i v7] (al, ro, fl (ml M [32] [(x_up S 0 0 v3)])) 0 0 (.inl (some (x_i t.1))) (al, ro, fl (ml M [32] [t.2])) := by
        cases hG
        exact (e_ireturn rfl dX12_log_54 rfl)
      clear hG
      refine e_if_eq (pc := 41) (tgt := 53) dX12_log_41 (by decide) (fun hb => ?_) (fun hb => ?_)
      · rw [if_pos hb] at hr7
        refine e_iconst (pc := 53) dX12_log_53 (x_R rfl) ?_
        cases hr7
        exact hjhr7
      · rw [if_neg hb] at hr7
        refine e_aloadn (pc := 44) (i := 0) dX12_log_44 rfl rfl ?_
        refine e_iloadn (pc := 45) (i := 1) dX12_log_45 rfl rfl ?_
        refine e_iloadn (pc := 46) (i := 2) dX12_log_46 rfl rfl ?_
        obtain ⟨v9, hq9, hr7⟩ := x_bd1 hr7
        refine e_invV (pc := 47) (K1 := 0) (S1 := 0) (K := 0) (S := 0) (dd2 := 0) (av := [x_i a, x_i b]) (st := []) (id := 16 * 32 + 0) dX12_log_47 xmX12_419 rfl (Or.inl ⟨10, 27, TX12, (sa_32_0 hs), rfl, by decide⟩) (f_cal (M := M) (us2 := [32]) [0] hn rfl (And.intro rfl trivial) rfl rfl rfl (c_X12_logged hst hs   hq9)) (by decide) (Nat.le_of_ble_eq_true rfl) (Or.inl rfl) ?_
        show Ev g _ _ _ _ _ _ 50 [some (x_r (16 * 32 + 0)), some (x_i a), some (x_i b)] [x_i v9] (al, ro, fl (ml M [32] [(x_up S 0 0 v3)])) _ _ _ _
        refine e_goto (pc := 50) (tgt := 54) dX12_log_50 (by decide) ?_
        cases hr7
        exact hjhr7
    · rw [if_neg hb] at hG
      refine e_iconst (pc := 25) dX12_log_25 (x_R rfl) ?_
      cases hG
      exact (e_ireturn rfl dX12_log_26 rfl)
  clear hG
  refine e_if_ne (pc := 7) (tgt := 14) dX12_log_7 (by decide) (fun hb => ?_) (fun hb => ?_)
  · rw [if_neg hb] at hr3
    refine e_iconst (pc := 14) dX12_log_14 (x_R rfl) ?_
    cases hr3
    exact hjhr3
  · rw [if_pos hb] at hr3
    refine e_iconst (pc := 10) dX12_log_10 (x_R rfl) ?_
    refine e_goto (pc := 11) (tgt := 15) dX12_log_11 (by decide) ?_
    cases hr3
    exact hjhr3
set_option maxRecDepth 100000 in
set_option maxHeartbeats 4000000 in
theorem c_X12_seed {g : xG} {al : List (Nat × Nat × Nat)} {ro : Nat → Nat → Option Nat} (hst : g.1.stackTraces = false) (hs : SH al ro) {M : Nat → xU} {a : Int} {S : xU}  {t : (Int × xU)} (hG : G12_seed a S = some t) :
    Cal g yX12_seed cX12_seed 3 (some .int) 0 [x_r (16 * 32 + 0), x_i a] (al, ro, fl (ml M [32] [S])) 0 0 (.inl (some (x_i t.1))) (al, ro, fl (ml M [32] [t.2])) := by
  have hn : ([32] : List Nat).Nodup := by decide
  refine cal_of_ev (plainFor_of_name (by decide)) (x_c1 rfl) (Nat.le_of_ble_eq_true rfl) hst ?_
  show Ev g _ _ _ _ _ _ 0 [some (x_r (16 * 32 + 0)), some (x_i a), none] [] (al, ro, fl (ml M [32] [S])) _ _ _ _
  rw [G12_seed] at hG
  refine e_aloadn (pc := 0) (i := 0) dX12_seed_0 rfl rfl ?_
  refine e_iconst (pc := 1) dX12_seed_1 (x_R rfl) ?_
  refine f_puti (pc := 2) (k := 0) (u := 32) (q := 0) dX12_seed_2 xf12_58 xw10_0 (sa_32_0 hs) hn rfl rfl rfl (by decide) ?_
  show Ev g _ _ _ _ _ _ 5 [some (x_r (16 * 32 + 0)), some (x_i a), none] [] (al, ro, fl (ml M [32] [(x_up S 0 0 0)])) _ _ _ _
  refine e_aloadn (pc := 5) (i := 0) dX12_seed_5 rfl rfl ?_
  refine f_getr (pc := 6) (u := 32) (q := 0) dX12_seed_6 xf12_7 (sa_32_0 hs) rfl (sr_32_0_1 hs) ?_
  refine e_bipush (pc := 9) dX12_seed_9 (by decide +kernel) (x_R rfl) ?_
  refine f_iald (pc := 11) (k := 0) (u := 32) (q := 1) (len := 772) dX12_seed_11 (sa_32_1 hs) (by decide) hn rfl rfl (by decide) ?_
  show Ev g _ _ _ _ _ _ 12 [some (x_r (16 * 32 + 0)), some (x_i a), none] [x_i ((x_up S 0 0 0) 1 11)] (al, ro, fl (ml M [32] [(x_up S 0 0 0)])) _ _ _ _
  refine e_istoren (pc := 12) (i := 2) dX12_seed_12 rfl (by decide) rfl ?_
  show Ev g _ _ _ _ _ _ 13 [some (x_r (16 * 32 + 0)), some (x_i a), some (x_i ((x_up S 0 0 0) 1 11))] [] (al, ro, fl (ml M [32] [(x_up S 0 0 0)])) _ _ _ _
  refine e_aloadn (pc := 13) (i := 0) dX12_seed_13 rfl rfl ?_
  refine f_getr (pc := 14) (u := 32) (q := 0) dX12_seed_14 xf12_7 (sa_32_0 hs) rfl (sr_32_0_1 hs) ?_
  refine e_bipush (pc := 17) dX12_seed_17 (by decide +kernel) (x_R rfl) ?_
  refine e_iloadn (pc := 19) (i := 1) dX12_seed_19 rfl rfl ?_
  refine f_iast (pc := 20) (k := 0) (u := 32) (q := 1) (len := 772) dX12_seed_20 (sa_32_1 hs) (by decide) hn rfl rfl rfl (by decide) ?_
  show Ev g _ _ _ _ _ _ 21 [some (x_r (16 * 32 + 0)), some (x_i a), some (x_i ((x_up S 0 0 0) 1 11))] [] (al, ro, fl (ml M [32] [(x_up (x_up S 0 0 0) 1 11 a)])) _ _ _ _
  refine e_iloadn (pc := 21) (i := 2) dX12_seed_21 rfl rfl ?_
  cases hG
  exact (e_ireturn rfl dX12_seed_22 rfl)
set_option maxRecDepth 100000 in
set_option maxHeartbeats 4000000 in
theorem c_X12_undo {g : xG} {al : List (Nat × Nat × Nat)} {ro : Nat → Nat → Option Nat} (hst : g.1.stackTraces = false) (hs : SH al ro) {M : Nat → xU} {S : xU}  {t : (Int × xU)} (hG : G12_undo S = some t) :
    Cal g yX12_undo cX12_undo 2 (some .boolean) 0 [x_r (16 * 32 + 0)] (al, ro, fl (ml M [32] [S])) 0 0 (.inl (some (x_i t.1))) (al, ro, fl (ml M [32] [t.2])) := by
  have hn : ([32] : List Nat).Nodup := by decide
  refine cal_of_ev (plainFor_of_name (by decide)) (x_c1 rfl) (Nat.le_of_ble_eq_true rfl) hst ?_
  show Ev g _ _ _ _ _ _ 0 [some (x_r (16 * 32 + 0)), none] [] (al, ro, fl (ml M [32] [S])) _ _ _ _
  rw [G12_undo] at hG
  refine e_aloadn (pc := 0) (i := 0) dX12_undo_0 rfl rfl ?_
  refine e_iconst (pc := 1) dX12_undo_1 (x_R rfl) ?_
  refine f_puti (pc := 2) (k := 0) (u := 32) (q := 0) dX12_undo_2 xf12_58 xw10_0 (sa_32_0 hs) hn rfl rfl rfl (by decide) ?_
  show Ev g _ _ _ _ _ _ 5 [some (x_r (16 * 32 + 0)), none] [] (al, ro, fl (ml M [32] [(x_up S 0 0 0)])) _ _ _ _
  refine e_aloadn (pc := 5) (i := 0) dX12_undo_5 rfl rfl ?_
  refine f_geti (pc := 6) (k := 0) (u := 32) (q := 0) dX12_undo_6 xf12_204 (sa_32_0 hs) rfl hn rfl rfl (by decide) ?_
  show Ev g _ _ _ _ _ _ 9 [some (x_r (16 * 32 + 0)), none] [x_i ((x_up S 0 0 0) 0 6)] (al, ro, fl (ml M [32] [(x_up S 0 0 0)])) _ _ _ _
  refine e_if_ne (pc := 9) (tgt := 14) dX12_undo_9 (by decide) (fun hb => ?_) (fun hb => ?_)
  · rw [if_neg hb] at hG
    refine e_aloadn (pc := 14) (i := 0) dX12_undo_14 rfl rfl ?_
    refine e_dup (pc := 15) dX12_undo_15 rfl ?_
    refine f_geti (pc := 16) (k := 0) (u := 32) (q := 0) dX12_undo_16 xf12_204 (sa_32_0 hs) rfl hn rfl rfl (by decide) ?_
    show Ev g _ _ _ _ _ _ 19 [some (x_r (16 * 32 + 0)), none] [x_i ((x_up S 0 0 0) 0 6), x_r (16 * 32 + 0)] (al, ro, fl (ml M [32] [(x_up S 0 0 0)])) _ _ _ _
    refine e_iconst (pc := 19) dX12_undo_19 (x_R rfl) ?_
    refine e_isub (pc := 20) dX12_undo_20 ?_
    refine f_puti (pc := 21) (k := 0) (u := 32) (q := 0) dX12_undo_21 xf12_204 xw10_6 (sa_32_0 hs) hn rfl rfl rfl (by decide) ?_
    show Ev g _ _ _ _ _ _ 24 [some (x_r (16 * 32 + 0)), none] [] (al, ro, fl (ml M [32] [(x_up (x_up S 0 0 0) 0 6 (x_sub ((x_up S 0 0 0) 0 6) 1))])) _ _ _ _
    refine e_iconst (pc := 24) dX12_undo_24 (x_R rfl) ?_
    refine e_istoren (pc := 25) (i := 1) dX12_undo_25 rfl (by decide) rfl ?_
    show Ev g _ _ _ _ _ _ 26 [some (x_r (16 * 32 + 0)), some (x_i 0)] [] (al, ro, fl (ml M [32] [(x_up (x_up S 0 0 0) 0 6 (x_sub ((x_up S 0 0 0) 0 6) 1))])) _ _ _ _
    obtain ⟨S3, hl4, hG⟩ := x_bd1 hG
    have hk4 : ∀ q : xU, q = S3 → Ev g yX12_undo cX12_undo 2 (some .boolean) [] 0 60 [some (x_r (16 * 32 + 0)), none] [] (al, ro, fl (ml M [32] [q])) 0 0 (.inl (some (x_i t.1))) (al, ro, fl (ml M [32] [t.2])) := by
      intro q hq
      replace hq := hq.symm
      subst hq
      refine e_iconst (pc := 60) dX12_undo_60 (x_R rfl) ?_
      cases hG
      exact (e_ireturn rfl dX12_undo_61 (x_bool (by decide)).1)
    clear hG
    refine e_whl G12_undo_L26 (fun z : (Int × xU) => Ev g yX12_undo cX12_undo 2 (some .boolean) [] 0 26 [some (x_r (16 * 32 + 0)), some (x_i z.1)] [] (al, ro, fl (ml M [32] [z.2])) 0 0 (.inl (some (x_i t.1))) (al, ro, fl (ml M [32] [t.2]))) (fun q => q = S3) ?_ xFU (0, (x_up (x_up S 0 0 0) 0 6 (x_sub ((x_up S 0 0 0) 0 6) 1))) _ hl4 rfl
    intro z t4 hf4 hi4 hx4
    obtain ⟨v1, S2⟩ := z
    rw [G12_undo_L26] at hf4
    show Ev g _ _ _ _ _ _ 26 [some (x_r (16 * 32 + 0)), some (x_i v1)] [] (al, ro, fl (ml M [32] [S2])) _ _ _ _
    refine e_iloadn (pc := 26) (i := 1) dX12_undo_26 rfl rfl ?_
    refine e_sipush (pc := 27) dX12_undo_27 (by decide +kernel) (x_R rfl) ?_
    refine e_icmp_ge (pc := 30) (tgt := 60) dX12_undo_30 (by decide) (fun hb => ?_) (fun hb => ?_)
    · rw [if_pos hb] at hf4
      cases hf4
      refine e_drop (i := 1) ?_
      have hh := hk4 _ (hx4 _ rfl)
      try dsimp only at hh
      exact hh
    · rw [if_neg hb] at hf4
      refine e_aloadn (pc := 33) (i := 0) dX12_undo_33 rfl rfl ?_
      refine f_getr (pc := 34) (u := 32) (q := 0) dX12_undo_34 xf12_7 (sa_32_0 hs) rfl (sr_32_0_1 hs) ?_
      refine e_iloadn (pc := 37) (i := 1) dX12_undo_37 rfl rfl ?_
      refine e_aloadn (pc := 38) (i := 0) dX12_undo_38 rfl rfl ?_
      refine f_getr (pc := 39) (u := 32) (q := 0) dX12_undo_39 xf12_19 (sa_32_0 hs) rfl (sr_32_0_5 hs) ?_
      refine e_sipush (pc := 42) dX12_undo_42 (by decide +kernel) (x_R rfl) ?_
      refine e_aloadn (pc := 45) (i := 0) dX12_undo_45 rfl rfl ?_
      refine f_geti (pc := 46) (k := 0) (u := 32) (q := 0) dX12_undo_46 xf12_204 (sa_32_0 hs) rfl hn rfl rfl (by decide) ?_
      show Ev g _ _ _ _ _ _ 49 [some (x_r (16 * 32 + 0)), some (x_i v1)] [x_i (S2 0 6), x_i 372, x_r (16 * 32 + 4), x_i v1, x_r (16 * 32 + 1)] (al, ro, fl (ml M [32] [S2])) _ _ _ _
      refine e_imul (pc := 49) dX12_undo_49 ?_
      refine e_iloadn (pc := 50) (i := 1) dX12_undo_50 rfl rfl ?_
      refine e_iadd (pc := 51) dX12_undo_51 ?_
      obtain ⟨hc0, hf4⟩ := x_gd_some hf4
      refine f_iald (pc := 52) (k := 0) (u := 32) (q := 4) (len := 4464) dX12_undo_52 (sa_32_4 hs) hc0 hn rfl rfl (by decide) ?_
      show Ev g _ _ _ _ _ _ 53 [some (x_r (16 * 32 + 0)), some (x_i v1)] [x_i (S2 4 ((x_add (x_mul 372 (S2 0 6)) v1)).toNat), x_i v1, x_r (16 * 32 + 1)] (al, ro, fl (ml M [32] [S2])) _ _ _ _
      obtain ⟨hc0, hf4⟩ := x_gd_some hf4
      refine f_iast (pc := 53) (k := 0) (u := 32) (q := 1) (len := 772) dX12_undo_53 (sa_32_1 hs) hc0 hn rfl rfl rfl (by decide) ?_
      show Ev g _ _ _ _ _ _ 54 [some (x_r (16 * 32 + 0)), some (x_i v1)] [] (al, ro, fl (ml M [32] [(x_up S2 1 (v1).toNat (S2 4 ((x_add (x_mul 372 (S2 0 6)) v1)).toNat))])) _ _ _ _
      refine e_iinc (pc := 54) dX12_undo_54 rfl (by decide) rfl ?_
      show Ev g _ _ _ _ _ _ 57 [some (x_r (16 * 32 + 0)), some (x_i (x_add v1 1))] [] (al, ro, fl (ml M [32] [(x_up S2 1 (v1).toNat (S2 4 ((x_add (x_mul 372 (S2 0 6)) v1)).toNat))])) _ _ _ _
      refine e_goto (pc := 57) (tgt := 26) dX12_undo_57 (by decide) ?_
      cases hf4
      have hh := hi4 _ rfl
      try dsimp only at hh
      exact hh
  · rw [if_pos hb] at hG
    refine e_iconst (pc := 12) dX12_undo_12 (x_R rfl) ?_
    cases hG
    exact (e_ireturn rfl dX12_undo_13 (x_bool (by decide)).1)
set_option maxRecDepth 100000 in
set_option maxHeartbeats 4000000 in
theorem c_X12_image {g : xG} {al : List (Nat × Nat × Nat)} {ro : Nat → Nat → Option Nat} (hst : g.1.stackTraces = false) (hs : SH al ro) {M : Nat → xU} {S : xU}  {t : xU} (hG : G12_image S = some t) :
    Cal g yX12_image cX12_image 2 none 0 [x_r (16 * 32 + 0)] (al, ro, fl (ml M [32] [S])) 0 0 (.inl none) (al, ro, fl (ml M [32] [t])) := by
  have hn : ([32] : List Nat).Nodup := by decide
  refine cal_of_ev (plainFor_of_name (by decide)) (x_c1 rfl) (Nat.le_of_ble_eq_true rfl) hst ?_
  show Ev g _ _ _ _ _ _ 0 [some (x_r (16 * 32 + 0)), none] [] (al, ro, fl (ml M [32] [S])) _ _ _ _
  rw [G12_image] at hG
  refine e_aloadn (pc := 0) (i := 0) dX12_image_0 rfl rfl ?_
  refine e_iconst (pc := 1) dX12_image_1 (x_R rfl) ?_
  refine f_puti (pc := 2) (k := 0) (u := 32) (q := 0) dX12_image_2 xf12_58 xw10_0 (sa_32_0 hs) hn rfl rfl rfl (by decide) ?_
  show Ev g _ _ _ _ _ _ 5 [some (x_r (16 * 32 + 0)), none] [] (al, ro, fl (ml M [32] [(x_up S 0 0 0)])) _ _ _ _
  refine e_iconst (pc := 5) dX12_image_5 (x_R rfl) ?_
  refine e_istoren (pc := 6) (i := 1) dX12_image_6 rfl (by decide) rfl ?_
  show Ev g _ _ _ _ _ _ 7 [some (x_r (16 * 32 + 0)), some (x_i 0)] [] (al, ro, fl (ml M [32] [(x_up S 0 0 0)])) _ _ _ _
  obtain ⟨S3, hl4, hG⟩ := x_bd1 hG
  have hk4 : ∀ q : xU, q = S3 → Ev g yX12_image cX12_image 2 none [] 0 32 [some (x_r (16 * 32 + 0)), none] [] (al, ro, fl (ml M [32] [q])) 0 0 (.inl none) (al, ro, fl (ml M [32] [t])) := by
    intro q hq
    replace hq := hq.symm
    subst hq
    refine e_aloadn (pc := 32) (i := 0) dX12_image_32 rfl rfl ?_
    refine e_iconst (pc := 33) dX12_image_33 (x_R rfl) ?_
    refine f_putz (pc := 34) (k := 0) (u := 32) (q := 0) dX12_image_34 xf12_422 xw10_3 (by decide) (sa_32_0 hs) hn rfl rfl rfl (by decide) ?_
    show Ev g _ _ _ _ _ _ 37 [some (x_r (16 * 32 + 0)), none] [] (al, ro, fl (ml M [32] [(x_up S3 0 3 1)])) _ _ _ _
    cases hG
    exact (e_return rfl dX12_image_37)
  clear hG
  refine e_whl G12_image_L7 (fun z : (Int × xU) => Ev g yX12_image cX12_image 2 none [] 0 7 [some (x_r (16 * 32 + 0)), some (x_i z.1)] [] (al, ro, fl (ml M [32] [z.2])) 0 0 (.inl none) (al, ro, fl (ml M [32] [t]))) (fun q => q = S3) ?_ xFU (0, (x_up S 0 0 0)) _ hl4 rfl
  intro z t4 hf4 hi4 hx4
  obtain ⟨v1, S2⟩ := z
  rw [G12_image_L7] at hf4
  show Ev g _ _ _ _ _ _ 7 [some (x_r (16 * 32 + 0)), some (x_i v1)] [] (al, ro, fl (ml M [32] [S2])) _ _ _ _
  refine e_iloadn (pc := 7) (i := 1) dX12_image_7 rfl rfl ?_
  refine e_sipush (pc := 8) dX12_image_8 (by decide +kernel) (x_R rfl) ?_
  refine e_icmp_ge (pc := 11) (tgt := 32) dX12_image_11 (by decide) (fun hb => ?_) (fun hb => ?_)
  · rw [if_pos hb] at hf4
    cases hf4
    refine e_drop (i := 1) ?_
    have hh := hk4 _ (hx4 _ rfl)
    try dsimp only at hh
    exact hh
  · rw [if_neg hb] at hf4
    refine e_aloadn (pc := 14) (i := 0) dX12_image_14 rfl rfl ?_
    refine f_getr (pc := 15) (u := 32) (q := 0) dX12_image_15 xf12_13 (sa_32_0 hs) rfl (sr_32_0_2 hs) ?_
    refine e_iloadn (pc := 18) (i := 1) dX12_image_18 rfl rfl ?_
    refine e_aloadn (pc := 19) (i := 0) dX12_image_19 rfl rfl ?_
    refine f_getr (pc := 20) (u := 32) (q := 0) dX12_image_20 xf12_7 (sa_32_0 hs) rfl (sr_32_0_1 hs) ?_
    refine e_iloadn (pc := 23) (i := 1) dX12_image_23 rfl rfl ?_
    obtain ⟨hc0, hf4⟩ := x_gd_some hf4
    refine f_iald (pc := 24) (k := 0) (u := 32) (q := 1) (len := 772) dX12_image_24 (sa_32_1 hs) hc0 hn rfl rfl (by decide) ?_
    show Ev g _ _ _ _ _ _ 25 [some (x_r (16 * 32 + 0)), some (x_i v1)] [x_i (S2 1 (v1).toNat), x_i v1, x_r (16 * 32 + 2)] (al, ro, fl (ml M [32] [S2])) _ _ _ _
    obtain ⟨hc0, hf4⟩ := x_gd_some hf4
    refine f_iast (pc := 25) (k := 0) (u := 32) (q := 2) (len := 772) dX12_image_25 (sa_32_2 hs) hc0 hn rfl rfl rfl (by decide) ?_
    show Ev g _ _ _ _ _ _ 26 [some (x_r (16 * 32 + 0)), some (x_i v1)] [] (al, ro, fl (ml M [32] [(x_up S2 2 (v1).toNat (S2 1 (v1).toNat))])) _ _ _ _
    refine e_iinc (pc := 26) dX12_image_26 rfl (by decide) rfl ?_
    show Ev g _ _ _ _ _ _ 29 [some (x_r (16 * 32 + 0)), some (x_i (x_add v1 1))] [] (al, ro, fl (ml M [32] [(x_up S2 2 (v1).toNat (S2 1 (v1).toNat))])) _ _ _ _
    refine e_goto (pc := 29) (tgt := 7) dX12_image_29 (by decide) ?_
    cases hf4
    have hh := hi4 _ rfl
    try dsimp only at hh
    exact hh
set_option maxRecDepth 100000 in
set_option maxHeartbeats 4000000 in
theorem c_X12_back {g : xG} {al : List (Nat × Nat × Nat)} {ro : Nat → Nat → Option Nat} (hst : g.1.stackTraces = false) (hs : SH al ro) {M : Nat → xU} {S : xU}  {t : (Int × xU)} (hG : G12_back S = some t) :
    Cal g yX12_back cX12_back 2 (some .boolean) 0 [x_r (16 * 32 + 0)] (al, ro, fl (ml M [32] [S])) 0 0 (.inl (some (x_i t.1))) (al, ro, fl (ml M [32] [t.2])) := by
  have hn : ([32] : List Nat).Nodup := by decide
  refine cal_of_ev (plainFor_of_name (by decide)) (x_c1 rfl) (Nat.le_of_ble_eq_true rfl) hst ?_
  show Ev g _ _ _ _ _ _ 0 [some (x_r (16 * 32 + 0)), none] [] (al, ro, fl (ml M [32] [S])) _ _ _ _
  rw [G12_back] at hG
  refine e_aloadn (pc := 0) (i := 0) dX12_back_0 rfl rfl ?_
  refine e_iconst (pc := 1) dX12_back_1 (x_R rfl) ?_
  refine f_puti (pc := 2) (k := 0) (u := 32) (q := 0) dX12_back_2 xf12_58 xw10_0 (sa_32_0 hs) hn rfl rfl rfl (by decide) ?_
  show Ev g _ _ _ _ _ _ 5 [some (x_r (16 * 32 + 0)), none] [] (al, ro, fl (ml M [32] [(x_up S 0 0 0)])) _ _ _ _
  refine e_aloadn (pc := 5) (i := 0) dX12_back_5 rfl rfl ?_
  refine f_geti (pc := 6) (k := 0) (u := 32) (q := 0) dX12_back_6 xf12_422 (sa_32_0 hs) rfl hn rfl rfl (by decide) ?_
  show Ev g _ _ _ _ _ _ 9 [some (x_r (16 * 32 + 0)), none] [x_i ((x_up S 0 0 0) 0 3)] (al, ro, fl (ml M [32] [(x_up S 0 0 0)])) _ _ _ _
  refine e_if_ne (pc := 9) (tgt := 14) dX12_back_9 (by decide) (fun hb => ?_) (fun hb => ?_)
  · rw [if_neg hb] at hG
    refine e_iconst (pc := 14) dX12_back_14 (x_R rfl) ?_
    refine e_istoren (pc := 15) (i := 1) dX12_back_15 rfl (by decide) rfl ?_
    show Ev g _ _ _ _ _ _ 16 [some (x_r (16 * 32 + 0)), some (x_i 0)] [] (al, ro, fl (ml M [32] [(x_up S 0 0 0)])) _ _ _ _
    obtain ⟨S3, hl4, hG⟩ := x_bd1 hG
    have hk4 : ∀ q : xU, q = S3 → Ev g yX12_back cX12_back 2 (some .boolean) [] 0 41 [some (x_r (16 * 32 + 0)), none] [] (al, ro, fl (ml M [32] [q])) 0 0 (.inl (some (x_i t.1))) (al, ro, fl (ml M [32] [t.2])) := by
      intro q hq
      replace hq := hq.symm
      subst hq
      refine e_aloadn (pc := 41) (i := 0) dX12_back_41 rfl rfl ?_
      refine e_iconst (pc := 42) dX12_back_42 (x_R rfl) ?_
      refine f_puti (pc := 43) (k := 0) (u := 32) (q := 0) dX12_back_43 xf12_204 xw10_6 (sa_32_0 hs) hn rfl rfl rfl (by decide) ?_
      show Ev g _ _ _ _ _ _ 46 [some (x_r (16 * 32 + 0)), none] [] (al, ro, fl (ml M [32] [(x_up S3 0 6 0)])) _ _ _ _
      refine e_iconst (pc := 46) dX12_back_46 (x_R rfl) ?_
      cases hG
      exact (e_ireturn rfl dX12_back_47 (x_bool (by decide)).1)
    clear hG
    refine e_whl G12_back_L16 (fun z : (Int × xU) => Ev g yX12_back cX12_back 2 (some .boolean) [] 0 16 [some (x_r (16 * 32 + 0)), some (x_i z.1)] [] (al, ro, fl (ml M [32] [z.2])) 0 0 (.inl (some (x_i t.1))) (al, ro, fl (ml M [32] [t.2]))) (fun q => q = S3) ?_ xFU (0, (x_up S 0 0 0)) _ hl4 rfl
    intro z t4 hf4 hi4 hx4
    obtain ⟨v1, S2⟩ := z
    rw [G12_back_L16] at hf4
    show Ev g _ _ _ _ _ _ 16 [some (x_r (16 * 32 + 0)), some (x_i v1)] [] (al, ro, fl (ml M [32] [S2])) _ _ _ _
    refine e_iloadn (pc := 16) (i := 1) dX12_back_16 rfl rfl ?_
    refine e_sipush (pc := 17) dX12_back_17 (by decide +kernel) (x_R rfl) ?_
    refine e_icmp_ge (pc := 20) (tgt := 41) dX12_back_20 (by decide) (fun hb => ?_) (fun hb => ?_)
    · rw [if_pos hb] at hf4
      cases hf4
      refine e_drop (i := 1) ?_
      have hh := hk4 _ (hx4 _ rfl)
      try dsimp only at hh
      exact hh
    · rw [if_neg hb] at hf4
      refine e_aloadn (pc := 23) (i := 0) dX12_back_23 rfl rfl ?_
      refine f_getr (pc := 24) (u := 32) (q := 0) dX12_back_24 xf12_7 (sa_32_0 hs) rfl (sr_32_0_1 hs) ?_
      refine e_iloadn (pc := 27) (i := 1) dX12_back_27 rfl rfl ?_
      refine e_aloadn (pc := 28) (i := 0) dX12_back_28 rfl rfl ?_
      refine f_getr (pc := 29) (u := 32) (q := 0) dX12_back_29 xf12_13 (sa_32_0 hs) rfl (sr_32_0_2 hs) ?_
      refine e_iloadn (pc := 32) (i := 1) dX12_back_32 rfl rfl ?_
      obtain ⟨hc0, hf4⟩ := x_gd_some hf4
      refine f_iald (pc := 33) (k := 0) (u := 32) (q := 2) (len := 772) dX12_back_33 (sa_32_2 hs) hc0 hn rfl rfl (by decide) ?_
      show Ev g _ _ _ _ _ _ 34 [some (x_r (16 * 32 + 0)), some (x_i v1)] [x_i (S2 2 (v1).toNat), x_i v1, x_r (16 * 32 + 1)] (al, ro, fl (ml M [32] [S2])) _ _ _ _
      obtain ⟨hc0, hf4⟩ := x_gd_some hf4
      refine f_iast (pc := 34) (k := 0) (u := 32) (q := 1) (len := 772) dX12_back_34 (sa_32_1 hs) hc0 hn rfl rfl rfl (by decide) ?_
      show Ev g _ _ _ _ _ _ 35 [some (x_r (16 * 32 + 0)), some (x_i v1)] [] (al, ro, fl (ml M [32] [(x_up S2 1 (v1).toNat (S2 2 (v1).toNat))])) _ _ _ _
      refine e_iinc (pc := 35) dX12_back_35 rfl (by decide) rfl ?_
      show Ev g _ _ _ _ _ _ 38 [some (x_r (16 * 32 + 0)), some (x_i (x_add v1 1))] [] (al, ro, fl (ml M [32] [(x_up S2 1 (v1).toNat (S2 2 (v1).toNat))])) _ _ _ _
      refine e_goto (pc := 38) (tgt := 16) dX12_back_38 (by decide) ?_
      cases hf4
      have hh := hi4 _ rfl
      try dsimp only at hh
      exact hh
  · rw [if_pos hb] at hG
    refine e_iconst (pc := 12) dX12_back_12 (x_R rfl) ?_
    cases hG
    exact (e_ireturn rfl dX12_back_13 (x_bool (by decide)).1)
