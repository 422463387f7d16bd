set_option maxRecDepth 100000 in
set_option maxHeartbeats 4000000 in
theorem c_X12_roundsOf {g : xG} {al : List (Nat × Nat × Nat)} {ro : Nat → Nat → Option Nat} (hst : g.1.stackTraces = false) (hs : SH al ro) {M : Nat → xU} {a : Int} {S : xU}  {t : Int} (hG : G12_roundsOf a S = some t) :
    Cal g yX12_roundsOf cX12_roundsOf 4 (some .int) 1 [x_r (16 * 32 + 0), x_i a] (al, ro, fl (ml M [32] [S])) 0 0 (.inl (some (x_i t))) (al, ro, fl (ml M [32] [S])) := by
  have hn : ([32] : List Nat).Nodup := by decide
  refine cal_of_ev (plainFor_of_name (by decide)) (x_c1 rfl) (Nat.le_of_ble_eq_true rfl) hst ?_
  show Ev g _ _ _ _ _ _ 0 [some (x_r (16 * 32 + 0)), some (x_i a), none, none] [] (al, ro, fl (ml M [32] [S])) _ _ _ _
  rw [G12_roundsOf] at hG
  refine e_iconst (pc := 0) dX12_roundsOf_0 (x_R rfl) ?_
  refine e_istoren (pc := 1) (i := 2) dX12_roundsOf_1 rfl (by decide) rfl ?_
  show Ev g _ _ _ _ _ _ 2 [some (x_r (16 * 32 + 0)), some (x_i a), some (x_i 0), none] [] (al, ro, fl (ml M [32] [S])) _ _ _ _
  refine e_iconst (pc := 2) dX12_roundsOf_2 (x_R rfl) ?_
  refine e_istoren (pc := 3) (i := 3) dX12_roundsOf_3 rfl (by decide) rfl ?_
  show Ev g _ _ _ _ _ _ 4 [some (x_r (16 * 32 + 0)), some (x_i a), some (x_i 0), some (x_i 0)] [] (al, ro, fl (ml M [32] [S])) _ _ _ _
  obtain ⟨v3, hl4, hG⟩ := x_bd1 hG
  have hk4 : ∀ q : Int, q = v3 → Ev g yX12_roundsOf cX12_roundsOf 4 (some .int) [] 1 42 [some (x_r (16 * 32 + 0)), some (x_i a), some (x_i q), none] [] (al, ro, fl (ml M [32] [S])) 0 0 (.inl (some (x_i t))) (al, ro, fl (ml M [32] [S])) := by
    intro q hq
    replace hq := hq.symm
    subst hq
    refine e_iloadn (pc := 42) (i := 2) dX12_roundsOf_42 rfl rfl ?_
    cases hG
    exact (e_ireturn rfl dX12_roundsOf_43 rfl)
  clear hG
  refine e_whl (G12_roundsOf_L4 a S) (fun z : (Int × Int) => Ev g yX12_roundsOf cX12_roundsOf 4 (some .int) [] 1 4 [some (x_r (16 * 32 + 0)), some (x_i a), some (x_i z.1), some (x_i z.2)] [] (al, ro, fl (ml M [32] [S])) 0 0 (.inl (some (x_i t))) (al, ro, fl (ml M [32] [S]))) (fun q => q = v3) ?_ xFU (0, 0) _ hl4 rfl
  intro z t4 hf4 hi4 hx4
  obtain ⟨v1, v2⟩ := z
  rw [G12_roundsOf_L4] at hf4
  show Ev g _ _ _ _ _ _ 4 [some (x_r (16 * 32 + 0)), some (x_i a), some (x_i v1), some (x_i v2)] [] (al, ro, fl (ml M [32] [S])) _ _ _ _
  refine e_iloadn (pc := 4) (i := 3) dX12_roundsOf_4 rfl rfl ?_
  refine e_aloadn (pc := 5) (i := 0) dX12_roundsOf_5 rfl rfl ?_
  refine f_getr (pc := 6) (u := 32) (q := 0) dX12_roundsOf_6 xf12_7 (sa_32_0 hs) rfl (sr_32_0_1 hs) ?_
  refine e_iconst (pc := 9) dX12_roundsOf_9 (x_R rfl) ?_
  refine f_iald (pc := 10) (k := 0) (u := 32) (q := 1) (len := 772) dX12_roundsOf_10 (sa_32_1 hs) (by decide) hn rfl rfl (by decide) ?_
  show Ev g _ _ _ _ _ _ 11 [some (x_r (16 * 32 + 0)), some (x_i a), some (x_i v1), some (x_i v2)] [x_i (S 1 3), x_i v2] (al, ro, fl (ml M [32] [S])) _ _ _ _
  refine e_icmp_ge (pc := 11) (tgt := 42) dX12_roundsOf_11 (by decide) (fun hb => ?_) (fun hb => ?_)
  · rw [if_pos hb] at hf4
    cases hf4
    refine e_drop (i := 3) ?_
    have hh := hk4 _ (hx4 _ rfl)
    try dsimp only at hh
    exact hh
  · rw [if_neg hb] at hf4
    refine e_iloadn (pc := 14) (i := 2) dX12_roundsOf_14 rfl rfl ?_
    refine e_iloadn (pc := 15) (i := 1) dX12_roundsOf_15 rfl rfl ?_
    refine e_iloadn (pc := 16) (i := 3) dX12_roundsOf_16 rfl rfl ?_
    obtain ⟨v6, hq6, hf4⟩ := x_bd1 hf4
    refine e_invS (pc := 17) (K1 := 0) (S1 := 0) (K := 0) (S := 0) (dd2 := 0) (av := [x_i a, x_i v2]) (st := [x_i v1]) dX12_roundsOf_17 xmX12_119 rfl (f_cal (M := M) (us2 := []) [] hn rfl trivial rfl rfl rfl (c_X12_isOf hst hs   hq6)) (by decide) (Nat.le_of_ble_eq_true rfl) (Or.inl rfl) ?_
    show Ev g _ _ _ _ _ _ 20 [some (x_r (16 * 32 + 0)), some (x_i a), some (x_i v1), some (x_i v2)] [x_i v6, x_i v1] (al, ro, fl (ml M [32] [S])) _ _ _ _
    obtain ⟨v8, hr8, hf4⟩ := x_bd1 hf4
    have hjhr8 : Ev g yX12_roundsOf cX12_roundsOf 4 (some .int) [] 1 34 [some (x_r (16 * 32 + 0)), some (x_i a), some (x_i v1), some (x_i v2)] [x_i v8, x_i v1] (al, ro, fl (ml M [32] [S])) 0 0 (.inl (some (x_i t))) (al, ro, fl (ml M [32] [S])) := by
      refine e_iadd (pc := 34) dX12_roundsOf_34 ?_
      refine e_istoren (pc := 35) (i := 2) dX12_roundsOf_35 rfl (by decide) rfl ?_
      show Ev g _ _ _ _ _ _ 36 [some (x_r (16 * 32 + 0)), some (x_i a), some (x_i (x_add v1 v8)), some (x_i v2)] [] (al, ro, fl (ml M [32] [S])) _ _ _ _
      refine e_iinc (pc := 36) dX12_roundsOf_36 rfl (by decide) rfl ?_
      show Ev g _ _ _ _ _ _ 39 [some (x_r (16 * 32 + 0)), some (x_i a), some (x_i (x_add v1 v8)), some (x_i (x_add v2 1))] [] (al, ro, fl (ml M [32] [S])) _ _ _ _
      refine e_goto (pc := 39) (tgt := 4) dX12_roundsOf_39 (by decide) ?_
      cases hf4
      have hh := hi4 _ rfl
      try dsimp only at hh
      exact hh
    clear hf4
    refine e_if_eq (pc := 20) (tgt := 33) dX12_roundsOf_20 (by decide) (fun hb => ?_) (fun hb => ?_)
    · rw [if_pos hb] at hr8
      refine e_iconst (pc := 33) dX12_roundsOf_33 (x_R rfl) ?_
      cases hr8
      exact hjhr8
    · rw [if_neg hb] at hr8
      refine e_aloadn (pc := 23) (i := 0) dX12_roundsOf_23 rfl rfl ?_
      refine e_iloadn (pc := 24) (i := 3) dX12_roundsOf_24 rfl rfl ?_
      refine e_bipush (pc := 25) dX12_roundsOf_25 (by decide +kernel) (x_R rfl) ?_
      obtain ⟨v10, hq10, hr8⟩ := x_bd1 hr8
      refine e_invV (pc := 27) (K1 := 0) (S1 := 0) (K := 0) (S := 0) (dd2 := 0) (av := [x_i v2, x_i 7]) (st := [x_i v1]) (id := 16 * 32 + 0) dX12_roundsOf_27 xmX12_65 rfl (Or.inl ⟨10, 27, TX12, (sa_32_0 hs), rfl, by decide⟩) (f_cal (M := M) (us2 := [32]) [0] hn rfl (And.intro rfl trivial) rfl rfl rfl (c_X12_of hst hs   hq10)) (by decide) (Nat.le_of_ble_eq_true rfl) (Or.inl rfl) ?_
      show Ev g _ _ _ _ _ _ 30 [some (x_r (16 * 32 + 0)), some (x_i a), some (x_i v1), some (x_i v2)] [x_i v10, x_i v1] (al, ro, fl (ml M [32] [S])) _ _ _ _
      refine e_goto (pc := 30) (tgt := 34) dX12_roundsOf_30 (by decide) ?_
      cases hr8
      exact hjhr8
set_option maxRecDepth 100000 in
set_option maxHeartbeats 4000000 in
theorem c_X12_carries {g : xG} {al : List (Nat × Nat × Nat)} {ro : Nat → Nat → Option Nat} (hst : g.1.stackTraces = false) (hs : SH al ro) {M : Nat → xU} {a : Int} {S : xU}  {t : Int} (hG : G12_carries a S = some t) :
    Cal g yX12_carries cX12_carries 2 (some .boolean) 2 [x_r (16 * 32 + 0), x_i a] (al, ro, fl (ml M [32] [S])) 0 0 (.inl (some (x_i t))) (al, ro, fl (ml M [32] [S])) := by
  have hn : ([32] : List Nat).Nodup := by decide
  refine cal_of_ev (plainFor_of_name (by decide)) (x_c1 rfl) (Nat.le_of_ble_eq_true rfl) hst ?_
  show Ev g _ _ _ _ _ _ 0 [some (x_r (16 * 32 + 0)), some (x_i a)] [] (al, ro, fl (ml M [32] [S])) _ _ _ _
  rw [G12_carries] at hG
  refine e_iconst (pc := 0) dX12_carries_0 (x_R rfl) ?_
  refine e_aloadn (pc := 1) (i := 0) dX12_carries_1 rfl rfl ?_
  refine e_iloadn (pc := 2) (i := 1) dX12_carries_2 rfl rfl ?_
  obtain ⟨v1, hq1, hG⟩ := x_bd1 hG
  refine e_invV (pc := 3) (K1 := 0) (S1 := 0) (K := 0) (S := 0) (dd2 := 1) (av := [x_i a]) (st := [x_i 2]) (id := 16 * 32 + 0) dX12_carries_3 xmX12_400 rfl (Or.inl ⟨10, 27, TX12, (sa_32_0 hs), rfl, by decide⟩) (f_cal (M := M) (us2 := [32]) [0] hn rfl (And.intro rfl trivial) rfl rfl rfl (c_X12_roundsOf hst hs   hq1)) (by decide) (Nat.le_of_ble_eq_true rfl) (Or.inl rfl) ?_
  show Ev g _ _ _ _ _ _ 6 [some (x_r (16 * 32 + 0)), some (x_i a)] [x_i v1, x_i 2] (al, ro, fl (ml M [32] [S])) _ _ _ _
  refine e_imul (pc := 6) dX12_carries_6 ?_
  refine e_aloadn (pc := 7) (i := 0) dX12_carries_7 rfl rfl ?_
  refine e_aloadn (pc := 8) (i := 0) dX12_carries_8 rfl rfl ?_
  obtain ⟨v3, hq3, hG⟩ := x_bd1 hG
  refine e_invV (pc := 9) (K1 := 0) (S1 := 0) (K := 0) (S := 0) (dd2 := 0) (av := []) (st := [x_r (16 * 32 + 0), x_i (x_mul 2 v1)]) (id := 16 * 32 + 0) dX12_carries_9 xmX12_346 rfl (Or.inl ⟨10, 27, TX12, (sa_32_0 hs), rfl, by decide⟩) (f_cal (M := M) (us2 := [32]) [0] hn rfl (And.intro rfl trivial) rfl rfl rfl (c_X12_all hst hs   hq3)) (by decide) (Nat.le_of_ble_eq_true rfl) (Or.inl rfl) ?_
  show Ev g _ _ _ _ _ _ 12 [some (x_r (16 * 32 + 0)), some (x_i a)] [x_i v3, x_r (16 * 32 + 0), x_i (x_mul 2 v1)] (al, ro, fl (ml M [32] [S])) _ _ _ _
  obtain ⟨v5, hq5, hG⟩ := x_bd1 hG
  refine e_invV (pc := 12) (K1 := 0) (S1 := 0) (K := 0) (S := 0) (dd2 := 1) (av := [x_i v3]) (st := [x_i (x_mul 2 v1)]) (id := 16 * 32 + 0) dX12_carries_12 xmX12_400 rfl (Or.inl ⟨10, 27, TX12, (sa_32_0 hs), rfl, by decide⟩) (f_cal (M := M) (us2 := [32]) [0] hn rfl (And.intro rfl trivial) rfl rfl rfl (c_X12_roundsOf hst hs   hq5)) (by decide) (Nat.le_of_ble_eq_true rfl) (Or.inl rfl) ?_
  show Ev g _ _ _ _ _ _ 15 [some (x_r (16 * 32 + 0)), some (x_i a)] [x_i v5, x_i (x_mul 2 v1)] (al, ro, fl (ml M [32] [S])) _ _ _ _
  obtain ⟨v7, hr7, hG⟩ := x_bd1 hG
  have hjhr7 : Ev g yX12_carries cX12_carries 2 (some .boolean) [] 2 23 [some (x_r (16 * 32 + 0)), some (x_i a)] [x_i v7] (al, ro, fl (ml M [32] [S])) 0 0 (.inl (some (x_i t))) (al, ro, fl (ml M [32] [S])) := by
    obtain ⟨hc0, hG⟩ := x_gd_some hG
    cases hG
    exact (e_ireturn rfl dX12_carries_23 (x_bool hc0).1)
  clear hG
  refine e_icmp_le (pc := 15) (tgt := 22) dX12_carries_15 (by decide) (fun hb => ?_) (fun hb => ?_)
  · rw [if_pos hb] at hr7
    refine e_iconst (pc := 22) dX12_carries_22 (x_R rfl) ?_
    cases hr7
    exact hjhr7
  · rw [if_neg hb] at hr7
    refine e_iconst (pc := 18) dX12_carries_18 (x_R rfl) ?_
    refine e_goto (pc := 19) (tgt := 23) dX12_carries_19 (by decide) ?_
    cases hr7
    exact hjhr7
set_option maxRecDepth 100000 in
set_option maxHeartbeats 4000000 in
theorem c_X12_chapter {g : xG} {al : List (Nat × Nat × Nat)} {ro : Nat → Nat → Option Nat} (hst : g.1.stackTraces = false) (hs : SH al ro) {M : Nat → xU} {a : Int} {S : xU}  {t : (Int × xU)} (hG : G12_chapter a S = some t) :
    Cal g yX12_chapter cX12_chapter 2 (some .boolean) 3 [x_r (16 * 32 + 0), x_i a] (al, ro, fl (ml M [32] [S])) 0 0 (.inl (some (x_i t.1))) (al, ro, fl (ml M [32] [t.2])) := by
  have hn : ([32] : List Nat).Nodup := by decide
  refine cal_of_ev (plainFor_of_name (by decide)) (x_c1 rfl) (Nat.le_of_ble_eq_true rfl) hst ?_
  show Ev g _ _ _ _ _ _ 0 [some (x_r (16 * 32 + 0)), some (x_i a)] [] (al, ro, fl (ml M [32] [S])) _ _ _ _
  rw [G12_chapter] at hG
  refine e_aloadn (pc := 0) (i := 0) dX12_chapter_0 rfl rfl ?_
  refine e_iconst (pc := 1) dX12_chapter_1 (x_R rfl) ?_
  refine f_puti (pc := 2) (k := 0) (u := 32) (q := 0) dX12_chapter_2 xf12_58 xw10_0 (sa_32_0 hs) hn rfl rfl rfl (by decide) ?_
  show Ev g _ _ _ _ _ _ 5 [some (x_r (16 * 32 + 0)), some (x_i a)] [] (al, ro, fl (ml M [32] [(x_up S 0 0 0)])) _ _ _ _
  refine e_aloadn (pc := 5) (i := 0) dX12_chapter_5 rfl rfl ?_
  refine e_iloadn (pc := 6) (i := 1) dX12_chapter_6 rfl rfl ?_
  obtain ⟨v1, hq1, hG⟩ := x_bd1 hG
  refine e_invV (pc := 7) (K1 := 0) (S1 := 0) (K := 0) (S := 0) (dd2 := 2) (av := [x_i a]) (st := []) (id := 16 * 32 + 0) dX12_chapter_7 xmX12_403 rfl (Or.inl ⟨10, 27, TX12, (sa_32_0 hs), rfl, by decide⟩) (f_cal (M := M) (us2 := [32]) [0] hn rfl (And.intro rfl trivial) rfl rfl rfl (c_X12_carries hst hs   hq1)) (by decide) (Nat.le_of_ble_eq_true rfl) (Or.inl rfl) ?_
  show Ev g _ _ _ _ _ _ 10 [some (x_r (16 * 32 + 0)), some (x_i a)] [x_i v1] (al, ro, fl (ml M [32] [(x_up S 0 0 0)])) _ _ _ _
  obtain ⟨hc0, hG⟩ := x_gd_some hG
  cases hG
  exact (e_ireturn rfl dX12_chapter_10 (x_bool hc0).1)
set_option maxRecDepth 100000 in
set_option maxHeartbeats 4000000 in
theorem c_X12_swingsOf {g : xG} {al : List (Nat × Nat × Nat)} {ro : Nat → Nat → Option Nat} (hst : g.1.stackTraces = false) (hs : SH al ro) {M : Nat → xU} {a : Int} {S : xU}  {t : Int} (hG : G12_swingsOf a S = some t) :
    Cal g yX12_swingsOf cX12_swingsOf 4 (some .int) 3 [x_r (16 * 32 + 0), x_i a] (al, ro, fl (ml M [32] [S])) 0 0 (.inl (some (x_i t))) (al, ro, fl (ml M [32] [S])) := by
  have hn : ([32] : List Nat).Nodup := by decide
  refine cal_of_ev (plainFor_of_name (by decide)) (x_c1 rfl) (Nat.le_of_ble_eq_true rfl) hst ?_
  show Ev g _ _ _ _ _ _ 0 [some (x_r (16 * 32 + 0)), some (x_i a), none, none] [] (al, ro, fl (ml M [32] [S])) _ _ _ _
  rw [G12_swingsOf] at hG
  refine e_iconst (pc := 0) dX12_swingsOf_0 (x_R rfl) ?_
  refine e_istoren (pc := 1) (i := 2) dX12_swingsOf_1 rfl (by decide) rfl ?_
  show Ev g _ _ _ _ _ _ 2 [some (x_r (16 * 32 + 0)), some (x_i a), some (x_i 0), none] [] (al, ro, fl (ml M [32] [S])) _ _ _ _
  refine e_iconst (pc := 2) dX12_swingsOf_2 (x_R rfl) ?_
  refine e_istoren (pc := 3) (i := 3) dX12_swingsOf_3 rfl (by decide) rfl ?_
  show Ev g _ _ _ _ _ _ 4 [some (x_r (16 * 32 + 0)), some (x_i a), some (x_i 0), some (x_i 0)] [] (al, ro, fl (ml M [32] [S])) _ _ _ _
  obtain ⟨v3, hl4, hG⟩ := x_bd1 hG
  have hk4 : ∀ q : Int, q = v3 → Ev g yX12_swingsOf cX12_swingsOf 4 (some .int) [] 3 56 [some (x_r (16 * 32 + 0)), some (x_i a), some (x_i q), none] [] (al, ro, fl (ml M [32] [S])) 0 0 (.inl (some (x_i t))) (al, ro, fl (ml M [32] [S])) := by
    intro q hq
    replace hq := hq.symm
    subst hq
    refine e_iloadn (pc := 56) (i := 2) dX12_swingsOf_56 rfl rfl ?_
    cases hG
    exact (e_ireturn rfl dX12_swingsOf_57 rfl)
  clear hG
  refine e_whl (G12_swingsOf_L4 a S) (fun z : (Int × Int) => Ev g yX12_swingsOf cX12_swingsOf 4 (some .int) [] 3 4 [some (x_r (16 * 32 + 0)), some (x_i a), some (x_i z.1), some (x_i z.2)] [] (al, ro, fl (ml M [32] [S])) 0 0 (.inl (some (x_i t))) (al, ro, fl (ml M [32] [S]))) (fun q => q = v3) ?_ xFU (0, 0) _ hl4 rfl
  intro z t4 hf4 hi4 hx4
  obtain ⟨v1, v2⟩ := z
  rw [G12_swingsOf_L4] at hf4
  show Ev g _ _ _ _ _ _ 4 [some (x_r (16 * 32 + 0)), some (x_i a), some (x_i v1), some (x_i v2)] [] (al, ro, fl (ml M [32] [S])) _ _ _ _
  refine e_iloadn (pc := 4) (i := 3) dX12_swingsOf_4 rfl rfl ?_
  refine e_aloadn (pc := 5) (i := 0) dX12_swingsOf_5 rfl rfl ?_
  obtain ⟨v6, hq6, hf4⟩ := x_bd1 hf4
  refine e_invV (pc := 6) (K1 := 0) (S1 := 0) (K := 0) (S := 0) (dd2 := 0) (av := []) (st := [x_i v2]) (id := 16 * 32 + 0) dX12_swingsOf_6 xmX12_346 rfl (Or.inl ⟨10, 27, TX12, (sa_32_0 hs), rfl, by decide⟩) (f_cal (M := M) (us2 := [32]) [0] hn rfl (And.intro rfl trivial) rfl rfl rfl (c_X12_all hst hs   hq6)) (by decide) (Nat.le_of_ble_eq_true rfl) (Or.inl rfl) ?_
  show Ev g _ _ _ _ _ _ 9 [some (x_r (16 * 32 + 0)), some (x_i a), some (x_i v1), some (x_i v2)] [x_i v6, x_i v2] (al, ro, fl (ml M [32] [S])) _ _ _ _
  refine e_icmp_gt (pc := 9) (tgt := 56) dX12_swingsOf_9 (by decide) (fun hb => ?_) (fun hb => ?_)
  · rw [if_pos hb] at hf4
    cases hf4
    refine e_drop (i := 3) ?_
    have hh := hk4 _ (hx4 _ rfl)
    try dsimp only at hh
    exact hh
  · rw [if_neg hb] at hf4
    refine e_iloadn (pc := 12) (i := 2) dX12_swingsOf_12 rfl rfl ?_
    refine e_iloadn (pc := 13) (i := 3) dX12_swingsOf_13 rfl rfl ?_
    refine e_iloadn (pc := 14) (i := 1) dX12_swingsOf_14 rfl rfl ?_
    obtain ⟨v8, hq8, hf4⟩ := x_bd1 hf4
    refine e_invS (pc := 15) (K1 := 0) (S1 := 0) (K := 0) (S := 0) (dd2 := 0) (av := [x_i v2, x_i a]) (st := [x_i v1]) dX12_swingsOf_15 xmX12_119 rfl (f_cal (M := M) (us2 := []) [] hn rfl trivial rfl rfl rfl (c_X12_isOf hst hs   hq8)) (by decide) (Nat.le_of_ble_eq_true rfl) (Or.inl rfl) ?_
    show Ev g _ _ _ _ _ _ 18 [some (x_r (16 * 32 + 0)), some (x_i a), some (x_i v1), some (x_i v2)] [x_i v8, x_i v1] (al, ro, fl (ml M [32] [S])) _ _ _ _
    obtain ⟨v10, hr10, hf4⟩ := x_bd1 hf4
    have hjhr10 : Ev g yX12_swingsOf cX12_swingsOf 4 (some .int) [] 3 48 [some (x_r (16 * 32 + 0)), some (x_i a), some (x_i v1), some (x_i v2)] [x_i v10, x_i v1] (al, ro, fl (ml M [32] [S])) 0 0 (.inl (some (x_i t))) (al, ro, fl (ml M [32] [S])) := by
      refine e_iadd (pc := 48) dX12_swingsOf_48 ?_
      refine e_istoren (pc := 49) (i := 2) dX12_swingsOf_49 rfl (by decide) rfl ?_
      show Ev g _ _ _ _ _ _ 50 [some (x_r (16 * 32 + 0)), some (x_i a), some (x_i (x_add v1 v10)), some (x_i v2)] [] (al, ro, fl (ml M [32] [S])) _ _ _ _
      refine e_iinc (pc := 50) dX12_swingsOf_50 rfl (by decide) rfl ?_
      show Ev g _ _ _ _ _ _ 53 [some (x_r (16 * 32 + 0)), some (x_i a), some (x_i (x_add v1 v10)), some (x_i (x_add v2 1))] [] (al, ro, fl (ml M [32] [S])) _ _ _ _
      refine e_goto (pc := 53) (tgt := 4) dX12_swingsOf_53 (by decide) ?_
      cases hf4
      have hh := hi4 _ rfl
      try dsimp only at hh
      exact hh
    clear hf4
    refine e_if_eq (pc := 18) (tgt := 47) dX12_swingsOf_18 (by decide) (fun hb => ?_) (fun hb => ?_)
    · rw [if_pos hb] at hr10
      refine e_iconst (pc := 47) dX12_swingsOf_47 (x_R rfl) ?_
      cases hr10
      exact hjhr10
    · rw [if_neg hb] at hr10
      refine e_aloadn (pc := 21) (i := 0) dX12_swingsOf_21 rfl rfl ?_
      refine e_iloadn (pc := 22) (i := 3) dX12_swingsOf_22 rfl rfl ?_
      obtain ⟨v12, hq12, hr10⟩ := x_bd1 hr10
      refine e_invV (pc := 23) (K1 := 0) (S1 := 0) (K := 0) (S := 0) (dd2 := 2) (av := [x_i v2]) (st := [x_i v1]) (id := 16 * 32 + 0) dX12_swingsOf_23 xmX12_403 rfl (Or.inl ⟨10, 27, TX12, (sa_32_0 hs), rfl, by decide⟩) (f_cal (M := M) (us2 := [32]) [0] hn rfl (And.intro rfl trivial) rfl rfl rfl (c_X12_carries hst hs   hq12)) (by decide) (Nat.le_of_ble_eq_true rfl) (Or.inl rfl) ?_
      show Ev g _ _ _ _ _ _ 26 [some (x_r (16 * 32 + 0)), some (x_i a), some (x_i v1), some (x_i v2)] [x_i v12, x_i v1] (al, ro, fl (ml M [32] [S])) _ _ _ _
      refine e_if_eq (pc := 26) (tgt := 47) dX12_swingsOf_26 (by decide) (fun hb => ?_) (fun hb => ?_)
      · rw [if_pos hb] at hr10
        refine e_iconst (pc := 47) dX12_swingsOf_47 (x_R rfl) ?_
        cases hr10
        exact hjhr10
      · rw [if_neg hb] at hr10
        refine e_aloadn (pc := 29) (i := 0) dX12_swingsOf_29 rfl rfl ?_
        refine e_iloadn (pc := 30) (i := 3) dX12_swingsOf_30 rfl rfl ?_
        refine e_iconst (pc := 31) dX12_swingsOf_31 (x_R rfl) ?_
        refine e_iloadn (pc := 32) (i := 1) dX12_swingsOf_32 rfl rfl ?_
        refine e_ishl (pc := 33) dX12_swingsOf_33 ?_
        refine e_iconst (pc := 34) dX12_swingsOf_34 (x_R rfl) ?_
        refine e_ixor (pc := 35) dX12_swingsOf_35 ?_
        refine e_iand (pc := 36) dX12_swingsOf_36 ?_
        obtain ⟨v14, hq14, hr10⟩ := x_bd1 hr10
        refine e_invV (pc := 37) (K1 := 0) (S1 := 0) (K := 0) (S := 0) (dd2 := 2) (av := [x_i (x_and v2 (x_xor (x_shl 1 a) (-1)))]) (st := [x_i v1]) (id := 16 * 32 + 0) dX12_swingsOf_37 xmX12_403 rfl (Or.inl ⟨10, 27, TX12, (sa_32_0 hs), rfl, by decide⟩) (f_cal (M := M) (us2 := [32]) [0] hn rfl (And.intro rfl trivial) rfl rfl rfl (c_X12_carries hst hs   hq14)) (by decide) (Nat.le_of_ble_eq_true rfl) (Or.inl rfl) ?_
        show Ev g _ _ _ _ _ _ 40 [some (x_r (16 * 32 + 0)), some (x_i a), some (x_i v1), some (x_i v2)] [x_i v14, x_i v1] (al, ro, fl (ml M [32] [S])) _ _ _ _
        refine e_if_ne (pc := 40) (tgt := 47) dX12_swingsOf_40 (by decide) (fun hb => ?_) (fun hb => ?_)
        · rw [if_neg hb] at hr10
          refine e_iconst (pc := 47) dX12_swingsOf_47 (x_R rfl) ?_
          cases hr10
          exact hjhr10
        · rw [if_pos hb] at hr10
          refine e_iconst (pc := 43) dX12_swingsOf_43 (x_R rfl) ?_
          refine e_goto (pc := 44) (tgt := 48) dX12_swingsOf_44 (by decide) ?_
          cases hr10
          exact hjhr10
set_option maxRecDepth 100000 in
set_option maxHeartbeats 4000000 in
theorem c_X12_swings {g : xG} {al : List (Nat × Nat × Nat)} {ro : Nat → Nat → Option Nat} (hst : g.1.stackTraces = false) (hs : SH al ro) {M : Nat → xU} {a : Int} {S : xU}  {t : (Int × xU)} (hG : G12_swings a S = some t) :
    Cal g yX12_swings cX12_swings 2 (some .int) 4 [x_r (16 * 32 + 0), x_i a] (al, ro, fl (ml M [32] [S])) 0 0 (.inl (some (x_i t.1))) (al, ro, fl (ml M [32] [t.2])) := by
  have hn : ([32] : List Nat).Nodup := by decide
  refine cal_of_ev (plainFor_of_name (by decide)) (x_c1 rfl) (Nat.le_of_ble_eq_true rfl) hst ?_
  show Ev g _ _ _ _ _ _ 0 [some (x_r (16 * 32 + 0)), some (x_i a)] [] (al, ro, fl (ml M [32] [S])) _ _ _ _
  rw [G12_swings] at hG
  refine e_aloadn (pc := 0) (i := 0) dX12_swings_0 rfl rfl ?_
  refine e_aloadn (pc := 1) (i := 0) dX12_swings_1 rfl rfl ?_
  refine e_iloadn (pc := 2) (i := 1) dX12_swings_2 rfl rfl ?_
  obtain ⟨v1, hq1, hG⟩ := x_bd1 hG
  refine e_invV (pc := 3) (K1 := 0) (S1 := 0) (K := 0) (S := 0) (dd2 := 1) (av := [x_i a]) (st := [x_r (16 * 32 + 0)]) (id := 16 * 32 + 0) dX12_swings_3 xmX12_295 rfl (Or.inl ⟨10, 27, TX12, (sa_32_0 hs), rfl, by decide⟩) (f_cal (M := M) (us2 := [32]) [0] hn rfl (And.intro rfl trivial) rfl rfl rfl (c_X12_isMonk hst hs   hq1)) (by decide) (Nat.le_of_ble_eq_true rfl) (Or.inl rfl) ?_
  show Ev g _ _ _ _ _ _ 6 [some (x_r (16 * 32 + 0)), some (x_i a)] [x_i v1, x_r (16 * 32 + 0)] (al, ro, fl (ml M [32] [S])) _ _ _ _
  obtain ⟨v3, hr3, hG⟩ := x_bd1 hG
  have hjhr3 : Ev g yX12_swings cX12_swings 2 (some .int) [] 4 14 [some (x_r (16 * 32 + 0)), some (x_i a)] [x_i v3, x_r (16 * 32 + 0)] (al, ro, fl (ml M [32] [S])) 0 0 (.inl (some (x_i t.1))) (al, ro, fl (ml M [32] [t.2])) := by
    refine f_puti (pc := 14) (k := 0) (u := 32) (q := 0) dX12_swings_14 xf12_58 xw10_0 (sa_32_0 hs) hn rfl rfl rfl (by decide) ?_
    show Ev g _ _ _ _ _ _ 17 [some (x_r (16 * 32 + 0)), some (x_i a)] [] (al, ro, fl (ml M [32] [(x_up S 0 0 v3)])) _ _ _ _
    refine e_aloadn (pc := 17) (i := 0) dX12_swings_17 rfl rfl ?_
    refine f_geti (pc := 18) (k := 0) (u := 32) (q := 0) dX12_swings_18 xf12_58 (sa_32_0 hs) rfl hn rfl rfl (by decide) ?_
    show Ev g _ _ _ _ _ _ 21 [some (x_r (16 * 32 + 0)), some (x_i a)] [x_i ((x_up S 0 0 v3) 0 0)] (al, ro, fl (ml M [32] [(x_up S 0 0 v3)])) _ _ _ _
    obtain ⟨v5, hr5, hG⟩ := x_bd1 hG
    have hjhr5 : Ev g yX12_swings cX12_swings 2 (some .int) [] 4 33 [some (x_r (16 * 32 + 0)), some (x_i a)] [x_i v5] (al, ro, fl (ml M [32] [(x_up S 0 0 v3)])) 0 0 (.inl (some (x_i t.1))) (al, ro, fl (ml M [32] [t.2])) := by
      cases hG
      exact (e_ireturn rfl dX12_swings_33 rfl)
    clear hG
    refine e_if_le (pc := 21) (tgt := 28) dX12_swings_21 (by decide) (fun hb => ?_) (fun hb => ?_)
    · rw [if_pos hb] at hr5
      refine e_aloadn (pc := 28) (i := 0) dX12_swings_28 rfl rfl ?_
      refine e_iloadn (pc := 29) (i := 1) dX12_swings_29 rfl rfl ?_
      obtain ⟨v7, hq7, hr5⟩ := x_bd1 hr5
      refine e_invV (pc := 30) (K1 := 0) (S1 := 0) (K := 0) (S := 0) (dd2 := 3) (av := [x_i a]) (st := []) (id := 16 * 32 + 0) dX12_swings_30 xmX12_406 rfl (Or.inl ⟨10, 27, TX12, (sa_32_0 hs), rfl, by decide⟩) (f_cal (M := M) (us2 := [32]) [0] hn rfl (And.intro rfl trivial) rfl rfl rfl (c_X12_swingsOf hst hs   hq7)) (by decide) (Nat.le_of_ble_eq_true rfl) (Or.inl rfl) ?_
      show Ev g _ _ _ _ _ _ 33 [some (x_r (16 * 32 + 0)), some (x_i a)] [x_i v7] (al, ro, fl (ml M [32] [(x_up S 0 0 v3)])) _ _ _ _
      cases hr5
      exact hjhr5
    · rw [if_neg hb] at hr5
      refine e_iconst (pc := 24) dX12_swings_24 (x_R rfl) ?_
      refine e_goto (pc := 25) (tgt := 33) dX12_swings_25 (by decide) ?_
      cases hr5
      exact hjhr5
  clear hG
  refine e_if_ne (pc := 6) (tgt := 13) dX12_swings_6 (by decide) (fun hb => ?_) (fun hb => ?_)
  · rw [if_neg hb] at hr3
    refine e_iconst (pc := 13) dX12_swings_13 (x_R rfl) ?_
    cases hr3
    exact hjhr3
  · rw [if_pos hb] at hr3
    refine e_iconst (pc := 9) dX12_swings_9 (x_R rfl) ?_
    refine e_goto (pc := 10) (tgt := 14) dX12_swings_10 (by decide) ?_
    cases hr3
    exact hjhr3
set_option maxRecDepth 100000 in
set_option maxHeartbeats 4000000 in
theorem c_X12_elder {g : xG} {al : List (Nat × Nat × Nat)} {ro : Nat → Nat → Option Nat} (hst : g.1.stackTraces = false) (hs : SH al ro) {M : Nat → xU} {S : xU}  {t : (Int × xU)} (hG : G12_elder S = some t) :
    Cal g yX12_elder cX12_elder 5 (some .int) 4 [x_r (16 * 32 + 0)] (al, ro, fl (ml M [32] [S])) 0 0 (.inl (some (x_i t.1))) (al, ro, fl (ml M [32] [t.2])) := by
  have hn : ([32] : List Nat).Nodup := by decide
  refine cal_of_ev (plainFor_of_name (by decide)) (x_c1 rfl) (Nat.le_of_ble_eq_true rfl) hst ?_
  show Ev g _ _ _ _ _ _ 0 [some (x_r (16 * 32 + 0)), none, none, none, none] [] (al, ro, fl (ml M [32] [S])) _ _ _ _
  rw [G12_elder] at hG
  refine e_aloadn (pc := 0) (i := 0) dX12_elder_0 rfl rfl ?_
  refine e_iconst (pc := 1) dX12_elder_1 (x_R rfl) ?_
  refine f_puti (pc := 2) (k := 0) (u := 32) (q := 0) dX12_elder_2 xf12_58 xw10_0 (sa_32_0 hs) hn rfl rfl rfl (by decide) ?_
  show Ev g _ _ _ _ _ _ 5 [some (x_r (16 * 32 + 0)), none, none, none, none] [] (al, ro, fl (ml M [32] [(x_up S 0 0 0)])) _ _ _ _
  refine e_iconst (pc := 5) dX12_elder_5 (x_R rfl) ?_
  refine e_istoren (pc := 6) (i := 1) dX12_elder_6 rfl (by decide) rfl ?_
  show Ev g _ _ _ _ _ _ 7 [some (x_r (16 * 32 + 0)), some (x_i (-1)), none, none, none] [] (al, ro, fl (ml M [32] [(x_up S 0 0 0)])) _ _ _ _
  refine e_iconst (pc := 7) dX12_elder_7 (x_R rfl) ?_
  refine e_istoren (pc := 8) (i := 2) dX12_elder_8 rfl (by decide) rfl ?_
  show Ev g _ _ _ _ _ _ 9 [some (x_r (16 * 32 + 0)), some (x_i (-1)), some (x_i 0), none, none] [] (al, ro, fl (ml M [32] [(x_up S 0 0 0)])) _ _ _ _
  refine e_iconst (pc := 9) dX12_elder_9 (x_R rfl) ?_
  refine e_istoren (pc := 10) (i := 3) dX12_elder_10 rfl (by decide) rfl ?_
  show Ev g _ _ _ _ _ _ 11 [some (x_r (16 * 32 + 0)), some (x_i (-1)), some (x_i 0), some (x_i 0), none] [] (al, ro, fl (ml M [32] [(x_up S 0 0 0)])) _ _ _ _
  obtain ⟨v4, hl5, hG⟩ := x_bd1 hG
  have hk5 : ∀ q : Int, q = v4 → Ev g yX12_elder cX12_elder 5 (some .int) [] 4 48 [some (x_r (16 * 32 + 0)), some (x_i q), none, none, none] [] (al, ro, fl (ml M [32] [(x_up S 0 0 0)])) 0 0 (.inl (some (x_i t.1))) (al, ro, fl (ml M [32] [t.2])) := by
    intro q hq
    replace hq := hq.symm
    subst hq
    refine e_iloadn (pc := 48) (i := 1) dX12_elder_48 rfl rfl ?_
    cases hG
    exact (e_ireturn rfl dX12_elder_49 rfl)
  clear hG
  refine e_whl (G12_elder_L11 S) (fun z : (Int × Int × Int) => Ev g yX12_elder cX12_elder 5 (some .int) [] 4 11 [some (x_r (16 * 32 + 0)), some (x_i z.1), some (x_i z.2.1), some (x_i z.2.2), none] [] (al, ro, fl (ml M [32] [(x_up S 0 0 0)])) 0 0 (.inl (some (x_i t.1))) (al, ro, fl (ml M [32] [t.2]))) (fun q => q = v4) ?_ xFU ((-1), 0, 0) _ hl5 rfl
  intro z t5 hf5 hi5 hx5
  obtain ⟨v1, v2, v3⟩ := z
  rw [G12_elder_L11] at hf5
  show Ev g _ _ _ _ _ _ 11 [some (x_r (16 * 32 + 0)), some (x_i v1), some (x_i v2), some (x_i v3), none] [] (al, ro, fl (ml M [32] [(x_up S 0 0 0)])) _ _ _ _
  refine e_iloadn (pc := 11) (i := 3) dX12_elder_11 rfl rfl ?_
  refine e_aloadn (pc := 12) (i := 0) dX12_elder_12 rfl rfl ?_
  refine f_getr (pc := 13) (u := 32) (q := 0) dX12_elder_13 xf12_7 (sa_32_0 hs) rfl (sr_32_0_1 hs) ?_
  refine e_iconst (pc := 16) dX12_elder_16 (x_R rfl) ?_
  refine f_iald (pc := 17) (k := 0) (u := 32) (q := 1) (len := 772) dX12_elder_17 (sa_32_1 hs) (by decide) hn rfl rfl (by decide) ?_
  show Ev g _ _ _ _ _ _ 18 [some (x_r (16 * 32 + 0)), some (x_i v1), some (x_i v2), some (x_i v3), none] [x_i ((x_up S 0 0 0) 1 3), x_i v3] (al, ro, fl (ml M [32] [(x_up S 0 0 0)])) _ _ _ _
  refine e_icmp_ge (pc := 18) (tgt := 48) dX12_elder_18 (by decide) (fun hb => ?_) (fun hb => ?_)
  · rw [if_pos hb] at hf5
    cases hf5
    refine e_drop (i := 2) ?_
    refine e_drop (i := 3) ?_
    have hh := hk5 _ (hx5 _ rfl)
    try dsimp only at hh
    exact hh
  · rw [if_neg hb] at hf5
    refine e_aloadn (pc := 21) (i := 0) dX12_elder_21 rfl rfl ?_
    refine e_iloadn (pc := 22) (i := 3) dX12_elder_22 rfl rfl ?_
    obtain ⟨v7, hq7, hf5⟩ := x_bd1 hf5
    refine e_invV (pc := 23) (K1 := 0) (S1 := 0) (K := 0) (S := 0) (dd2 := 3) (av := [x_i v3]) (st := []) (id := 16 * 32 + 0) dX12_elder_23 xmX12_406 rfl (Or.inl ⟨10, 27, TX12, (sa_32_0 hs), rfl, by decide⟩) (f_cal (M := M) (us2 := [32]) [0] hn rfl (And.intro rfl trivial) rfl rfl rfl (c_X12_swingsOf hst hs   hq7)) (by decide) (Nat.le_of_ble_eq_true rfl) (Or.inl rfl) ?_
    show Ev g _ _ _ _ _ _ 26 [some (x_r (16 * 32 + 0)), some (x_i v1), some (x_i v2), some (x_i v3), none] [x_i v7] (al, ro, fl (ml M [32] [(x_up S 0 0 0)])) _ _ _ _
    refine e_istore (pc := 26) (i := 4) dX12_elder_26 (by decide) rfl ?_
    show Ev g _ _ _ _ _ _ 28 [some (x_r (16 * 32 + 0)), some (x_i v1), some (x_i v2), some (x_i v3), some (x_i v7)] [] (al, ro, fl (ml M [32] [(x_up S 0 0 0)])) _ _ _ _
    refine e_iload (pc := 28) dX12_elder_28 rfl ?_
    refine e_iloadn (pc := 30) (i := 2) dX12_elder_30 rfl rfl ?_
    obtain ⟨v9, v10, hr10, hf5⟩ := x_bd2 hf5
    have hjhr10 : Ev g yX12_elder cX12_elder 5 (some .int) [] 4 42 [some (x_r (16 * 32 + 0)), some (x_i v9), some (x_i v10), some (x_i v3), some (x_i v7)] [] (al, ro, fl (ml M [32] [(x_up S 0 0 0)])) 0 0 (.inl (some (x_i t.1))) (al, ro, fl (ml M [32] [t.2])) := by
      refine e_iinc (pc := 42) dX12_elder_42 rfl (by decide) rfl ?_
      show Ev g _ _ _ _ _ _ 45 [some (x_r (16 * 32 + 0)), some (x_i v9), some (x_i v10), some (x_i (x_add v3 1)), some (x_i v7)] [] (al, ro, fl (ml M [32] [(x_up S 0 0 0)])) _ _ _ _
      refine e_goto (pc := 45) (tgt := 11) dX12_elder_45 (by decide) ?_
      cases hf5
      refine e_drop (i := 4) ?_
      have hh := hi5 _ rfl
      try dsimp only at hh
      exact hh
    clear hf5
    refine e_icmp_gt (pc := 31) (tgt := 37) dX12_elder_31 (by decide) (fun hb => ?_) (fun hb => ?_)
    · rw [if_pos hb] at hr10
      refine e_iload (pc := 37) dX12_elder_37 rfl ?_
      refine e_istoren (pc := 39) (i := 2) dX12_elder_39 rfl (by decide) rfl ?_
      show Ev g _ _ _ _ _ _ 40 [some (x_r (16 * 32 + 0)), some (x_i v1), some (x_i v7), some (x_i v3), some (x_i v7)] [] (al, ro, fl (ml M [32] [(x_up S 0 0 0)])) _ _ _ _
      refine e_iloadn (pc := 40) (i := 3) dX12_elder_40 rfl rfl ?_
      refine e_istoren (pc := 41) (i := 1) dX12_elder_41 rfl (by decide) rfl ?_
      show Ev g _ _ _ _ _ _ 42 [some (x_r (16 * 32 + 0)), some (x_i v3), some (x_i v7), some (x_i v3), some (x_i v7)] [] (al, ro, fl (ml M [32] [(x_up S 0 0 0)])) _ _ _ _
      cases hr10
      exact hjhr10
    · rw [if_neg hb] at hr10
      refine e_goto (pc := 34) (tgt := 42) dX12_elder_34 (by decide) ?_
      cases hr10
      exact hjhr10
set_option maxRecDepth 100000 in
set_option maxHeartbeats 4000000 in
theorem c_X12_heHas {g : xG} {al : List (Nat × Nat × Nat)} {ro : Nat → Nat → Option Nat} (hst : g.1.stackTraces = false) (hs : SH al ro) {M : Nat → xU} {a : Int} {b : Int} {c : Int} {S : xU}  {t : Int} (hG : G12_heHas a b c S = some t) :
    Cal g yX12_heHas cX12_heHas 4 (some .int) 2 [x_r (16 * 32 + 0), x_i a, x_i b, x_i c] (al, ro, fl (ml M [32] [S])) 0 0 (.inl (some (x_i t))) (al, ro, fl (ml M [32] [S])) := by
  have hn : ([32] : List Nat).Nodup := by decide
  refine cal_of_ev (plainFor_of_name (by decide)) (x_c1 rfl) (Nat.le_of_ble_eq_true rfl) hst ?_
  show Ev g _ _ _ _ _ _ 0 [some (x_r (16 * 32 + 0)), some (x_i a), some (x_i b), some (x_i c)] [] (al, ro, fl (ml M [32] [S])) _ _ _ _
  rw [G12_heHas] at hG
  refine e_iloadn (pc := 0) (i := 2) dX12_heHas_0 rfl rfl ?_
  refine e_iconst (pc := 1) dX12_heHas_1 (x_R rfl) ?_
  refine e_icmp_ne (pc := 2) (tgt := 7) dX12_heHas_2 (by decide) (fun hb => ?_) (fun hb => ?_)
  · rw [if_neg hb] at hG
    refine e_iloadn (pc := 7) (i := 3) dX12_heHas_7 rfl rfl ?_
    obtain ⟨v1, hr1, hG⟩ := x_bd1 hG
    have hjhr1 : Ev g yX12_heHas cX12_heHas 4 (some .int) [] 2 38 [some (x_r (16 * 32 + 0)), some (x_i a), some (x_i b), some (x_i c)] [x_i v1] (al, ro, fl (ml M [32] [S])) 0 0 (.inl (some (x_i t))) (al, ro, fl (ml M [32] [S])) := by
      cases hG
      exact (e_ireturn rfl dX12_heHas_38 rfl)
    clear hG
    refine e_if_ne (pc := 8) (tgt := 22) dX12_heHas_8 (by decide) (fun hb => ?_) (fun hb => ?_)
    · rw [if_neg hb] at hr1
      refine e_aloadn (pc := 22) (i := 0) dX12_heHas_22 rfl rfl ?_
      refine e_iloadn (pc := 23) (i := 1) dX12_heHas_23 rfl rfl ?_
      refine e_iconst (pc := 24) dX12_heHas_24 (x_R rfl) ?_
      obtain ⟨v3, hq3, hr1⟩ := x_bd1 hr1
      refine e_invV (pc := 25) (K1 := 0) (S1 := 0) (K := 0) (S := 0) (dd2 := 0) (av := [x_i a, x_i 0]) (st := []) (id := 16 * 32 + 0) dX12_heHas_25 xmX12_65 rfl (Or.inl ⟨10, 27, TX12, (sa_32_0 hs), rfl, by decide⟩) (f_cal (M := M) (us2 := [32]) [0] hn rfl (And.intro rfl trivial) rfl rfl rfl (c_X12_of hst hs   hq3)) (by decide) (Nat.le_of_ble_eq_true rfl) (Or.inl rfl) ?_
      show Ev g _ _ _ _ _ _ 28 [some (x_r (16 * 32 + 0)), some (x_i a), some (x_i b), some (x_i c)] [x_i v3] (al, ro, fl (ml M [32] [S])) _ _ _ _
      refine e_aloadn (pc := 28) (i := 0) dX12_heHas_28 rfl rfl ?_
      refine f_getr (pc := 29) (u := 32) (q := 0) dX12_heHas_29 xf12_7 (sa_32_0 hs) rfl (sr_32_0_1 hs) ?_
      refine e_bipush (pc := 32) dX12_heHas_32 (by decide +kernel) (x_R rfl) ?_
      refine f_iald (pc := 34) (k := 0) (u := 32) (q := 1) (len := 772) dX12_heHas_34 (sa_32_1 hs) (by decide) hn rfl rfl (by decide) ?_
      show Ev g _ _ _ _ _ _ 35 [some (x_r (16 * 32 + 0)), some (x_i a), some (x_i b), some (x_i c)] [x_i (S 1 6), x_i v3] (al, ro, fl (ml M [32] [S])) _ _ _ _
      obtain ⟨v5, hq5, hr1⟩ := x_bd1 hr1
      refine e_invS (pc := 35) (K1 := 0) (S1 := 0) (K := 0) (S := 0) (dd2 := 1) (av := [x_i v3, x_i (S 1 6)]) (st := []) dX12_heHas_35 xmX12_331 rfl (f_cal (M := M) (us2 := []) [] hn rfl trivial rfl rfl rfl (c_X12_steps hst hs   hq5)) (by decide) (Nat.le_of_ble_eq_true rfl) (Or.inl rfl) ?_
      show Ev g _ _ _ _ _ _ 38 [some (x_r (16 * 32 + 0)), some (x_i a), some (x_i b), some (x_i c)] [x_i v5] (al, ro, fl (ml M [32] [S])) _ _ _ _
      cases hr1
      exact hjhr1
    · rw [if_pos hb] at hr1
      refine e_aloadn (pc := 11) (i := 0) dX12_heHas_11 rfl rfl ?_
      refine f_getr (pc := 12) (u := 32) (q := 0) dX12_heHas_12 xf12_7 (sa_32_0 hs) rfl (sr_32_0_1 hs) ?_
      refine e_bipush (pc := 15) dX12_heHas_15 (by decide +kernel) (x_R rfl) ?_
      refine f_iald (pc := 17) (k := 0) (u := 32) (q := 1) (len := 772) dX12_heHas_17 (sa_32_1 hs) (by decide) hn rfl rfl (by decide) ?_
      show Ev g _ _ _ _ _ _ 18 [some (x_r (16 * 32 + 0)), some (x_i a), some (x_i b), some (x_i c)] [x_i (S 1 9)] (al, ro, fl (ml M [32] [S])) _ _ _ _
      refine e_ineg (pc := 18) dX12_heHas_18 ?_
      refine e_goto (pc := 19) (tgt := 38) dX12_heHas_19 (by decide) ?_
      cases hr1
      exact hjhr1
  · rw [if_pos hb] at hG
    refine e_iconst (pc := 5) dX12_heHas_5 (x_R rfl) ?_
    cases hG
    exact (e_ireturn rfl dX12_heHas_6 rfl)
set_option maxRecDepth 100000 in
set_option maxHeartbeats 4000000 in
theorem c_X12_gardenerHas {g : xG} {al : List (Nat × Nat × Nat)} {ro : Nat → Nat → Option Nat} (hst : g.1.stackTraces = false) (hs : SH al ro) {M : Nat → xU} {a : Int} {b : Int}  {t : Int} (hG : G12_gardenerHas a b = some t) :
    Cal g yX12_gardenerHas cX12_gardenerHas 2 (some .int) 0 [x_i a, x_i b] (al, ro, fl (ml M [] [])) 0 0 (.inl (some (x_i t))) (al, ro, fl (ml M [] [])) := by
  have hn : ([] : List Nat).Nodup := by decide
  refine cal_of_ev (plainFor_of_name (by decide)) (x_c1 rfl) (Nat.le_of_ble_eq_true rfl) hst ?_
  show Ev g _ _ _ _ _ _ 0 [some (x_i a), some (x_i b)] [] (al, ro, fl (ml M [] [])) _ _ _ _
  rw [G12_gardenerHas] at hG
  refine e_iloadn (pc := 0) (i := 1) dX12_gardenerHas_0 rfl rfl ?_
  refine e_iconst (pc := 1) dX12_gardenerHas_1 (x_R rfl) ?_
  refine e_icmp_ne (pc := 2) (tgt := 16) dX12_gardenerHas_2 (by decide) (fun hb => ?_) (fun hb => ?_)
  · rw [if_neg hb] at hG
    refine e_iloadn (pc := 16) (i := 0) dX12_gardenerHas_16 rfl rfl ?_
    obtain ⟨v1, hr1, hG⟩ := x_bd1 hG
    have hjhr1 : Ev g yX12_gardenerHas cX12_gardenerHas 2 (some .int) [] 0 25 [some (x_i a), some (x_i b)] [x_i v1] (al, ro, fl (ml M [] [])) 0 0 (.inl (some (x_i t))) (al, ro, fl (ml M [] [])) := by
      cases hG
      exact (e_ireturn rfl dX12_gardenerHas_25 rfl)
    clear hG
    refine e_if_ne (pc := 17) (tgt := 24) dX12_gardenerHas_17 (by decide) (fun hb => ?_) (fun hb => ?_)
    · rw [if_neg hb] at hr1
      refine e_iconst (pc := 24) dX12_gardenerHas_24 (x_R rfl) ?_
      cases hr1
      exact hjhr1
    · rw [if_pos hb] at hr1
      refine e_iconst (pc := 20) dX12_gardenerHas_20 (x_R rfl) ?_
      refine e_goto (pc := 21) (tgt := 25) dX12_gardenerHas_21 (by decide) ?_
      cases hr1
      exact hjhr1
  · rw [if_pos hb] at hG
    refine e_iloadn (pc := 5) (i := 0) dX12_gardenerHas_5 rfl rfl ?_
    obtain ⟨v3, hr3, hG⟩ := x_bd1 hG
    have hjhr3 : Ev g yX12_gardenerHas cX12_gardenerHas 2 (some .int) [] 0 15 [some (x_i a), some (x_i b)] [x_i v3] (al, ro, fl (ml M [] [])) 0 0 (.inl (some (x_i t))) (al, ro, fl (ml M [] [])) := by
      cases hG
      exact (e_ireturn rfl dX12_gardenerHas_15 rfl)
    clear hG
    refine e_if_ne (pc := 6) (tgt := 14) dX12_gardenerHas_6 (by decide) (fun hb => ?_) (fun hb => ?_)
    · rw [if_neg hb] at hr3
      refine e_iconst (pc := 14) dX12_gardenerHas_14 (x_R rfl) ?_
      cases hr3
      exact hjhr3
    · rw [if_pos hb] at hr3
      refine e_bipush (pc := 9) dX12_gardenerHas_9 (by decide +kernel) (x_R rfl) ?_
      refine e_goto (pc := 11) (tgt := 15) dX12_gardenerHas_11 (by decide) ?_
      cases hr3
      exact hjhr3
set_option maxRecDepth 100000 in
set_option maxHeartbeats 4000000 in
theorem c_X12_rests {g : xG} {al : List (Nat × Nat × Nat)} {ro : Nat → Nat → Option Nat} (hst : g.1.stackTraces = false) (hs : SH al ro) {M : Nat → xU} {a : Int} {S : xU}  {t : (Int × xU)} (hG : G12_rests a S = some t) :
    Cal g yX12_rests cX12_rests 6 (some .int) 3 [x_r (16 * 32 + 0), x_i a] (al, ro, fl (ml M [32] [S])) 0 0 (.inl (some (x_i t.1))) (al, ro, fl (ml M [32] [t.2])) := by
  have hn : ([32] : List Nat).Nodup := by decide
  refine cal_of_ev (plainFor_of_name (by decide)) (x_c1 rfl) (Nat.le_of_ble_eq_true rfl) hst ?_
  show Ev g _ _ _ _ _ _ 0 [some (x_r (16 * 32 + 0)), some (x_i a), none, none, none, none] [] (al, ro, fl (ml M [32] [S])) _ _ _ _
  rw [G12_rests] at hG
  refine e_aloadn (pc := 0) (i := 0) dX12_rests_0 rfl rfl ?_
  refine e_aloadn (pc := 1) (i := 0) dX12_rests_1 rfl rfl ?_
  refine e_iloadn (pc := 2) (i := 1) dX12_rests_2 rfl rfl ?_
  obtain ⟨v1, hq1, hG⟩ := x_bd1 hG
  refine e_invV (pc := 3) (K1 := 0) (S1 := 0) (K := 0) (S := 0) (dd2 := 1) (av := [x_i a]) (st := [x_r (16 * 32 + 0)]) (id := 16 * 32 + 0) dX12_rests_3 xmX12_295 rfl (Or.inl ⟨10, 27, TX12, (sa_32_0 hs), rfl, by decide⟩) (f_cal (M := M) (us2 := [32]) [0] hn rfl (And.intro rfl trivial) rfl rfl rfl (c_X12_isMonk hst hs   hq1)) (by decide) (Nat.le_of_ble_eq_true rfl) (Or.inl rfl) ?_
  show Ev g _ _ _ _ _ _ 6 [some (x_r (16 * 32 + 0)), some (x_i a), none, none, none, none] [x_i v1, x_r (16 * 32 + 0)] (al, ro, fl (ml M [32] [S])) _ _ _ _
  obtain ⟨v3, hr3, hG⟩ := x_bd1 hG
  have hjhr3 : Ev g yX12_rests cX12_rests 6 (some .int) [] 3 14 [some (x_r (16 * 32 + 0)), some (x_i a), none, none, none, none] [x_i v3, x_r (16 * 32 + 0)] (al, ro, fl (ml M [32] [S])) 0 0 (.inl (some (x_i t.1))) (al, ro, fl (ml M [32] [t.2])) := by
    refine f_puti (pc := 14) (k := 0) (u := 32) (q := 0) dX12_rests_14 xf12_58 xw10_0 (sa_32_0 hs) hn rfl rfl rfl (by decide) ?_
    show Ev g _ _ _ _ _ _ 17 [some (x_r (16 * 32 + 0)), some (x_i a), none, none, none, none] [] (al, ro, fl (ml M [32] [(x_up S 0 0 v3)])) _ _ _ _
    refine e_aloadn (pc := 17) (i := 0) dX12_rests_17 rfl rfl ?_
    refine f_geti (pc := 18) (k := 0) (u := 32) (q := 0) dX12_rests_18 xf12_58 (sa_32_0 hs) rfl hn rfl rfl (by decide) ?_
    show Ev g _ _ _ _ _ _ 21 [some (x_r (16 * 32 + 0)), some (x_i a), none, none, none, none] [x_i ((x_up S 0 0 v3) 0 0)] (al, ro, fl (ml M [32] [(x_up S 0 0 v3)])) _ _ _ _
    refine e_if_le (pc := 21) (tgt := 26) dX12_rests_21 (by decide) (fun hb => ?_) (fun hb => ?_)
    · rw [if_pos hb] at hG
      refine e_aloadn (pc := 26) (i := 0) dX12_rests_26 rfl rfl ?_
      refine e_iloadn (pc := 27) (i := 1) dX12_rests_27 rfl rfl ?_
      obtain ⟨v5, hq5, hG⟩ := x_bd1 hG
      refine e_invV (pc := 28) (K1 := 0) (S1 := 0) (K := 0) (S := 0) (dd2 := 1) (av := [x_i a]) (st := []) (id := 16 * 32 + 0) dX12_rests_28 xmX12_69 rfl (Or.inl ⟨10, 27, TX12, (sa_32_0 hs), rfl, by decide⟩) (f_cal (M := M) (us2 := [32]) [0] hn rfl (And.intro rfl trivial) rfl rfl rfl (c_X12_isLost hst hs   hq5)) (by decide) (Nat.le_of_ble_eq_true rfl) (Or.inl rfl) ?_
      show Ev g _ _ _ _ _ _ 31 [some (x_r (16 * 32 + 0)), some (x_i a), none, none, none, none] [x_i v5] (al, ro, fl (ml M [32] [(x_up S 0 0 v3)])) _ _ _ _
      refine e_if_eq (pc := 31) (tgt := 36) dX12_rests_31 (by decide) (fun hb => ?_) (fun hb => ?_)
      · rw [if_pos hb] at hG
        refine e_iconst (pc := 36) dX12_rests_36 (x_R rfl) ?_
        refine e_istoren (pc := 37) (i := 2) dX12_rests_37 rfl (by decide) rfl ?_
        show Ev g _ _ _ _ _ _ 38 [some (x_r (16 * 32 + 0)), some (x_i a), some (x_i 0), none, none, none] [] (al, ro, fl (ml M [32] [(x_up S 0 0 v3)])) _ _ _ _
        refine e_iconst (pc := 38) dX12_rests_38 (x_R rfl) ?_
        refine e_istoren (pc := 39) (i := 3) dX12_rests_39 rfl (by decide) rfl ?_
        show Ev g _ _ _ _ _ _ 40 [some (x_r (16 * 32 + 0)), some (x_i a), some (x_i 0), some (x_i 0), none, none] [] (al, ro, fl (ml M [32] [(x_up S 0 0 v3)])) _ _ _ _
        obtain ⟨v9, hl10, hG⟩ := x_bd1 hG
        have hk10 : ∀ q : Int, q = v9 → Ev g yX12_rests cX12_rests 6 (some .int) [] 3 109 [some (x_r (16 * 32 + 0)), some (x_i a), some (x_i q), none, none, none] [] (al, ro, fl (ml M [32] [(x_up S 0 0 v3)])) 0 0 (.inl (some (x_i t.1))) (al, ro, fl (ml M [32] [t.2])) := by
          intro q hq
          replace hq := hq.symm
          subst hq
          refine e_iloadn (pc := 109) (i := 2) dX12_rests_109 rfl rfl ?_
          cases hG
          exact (e_ireturn rfl dX12_rests_110 rfl)
        clear hG
        refine e_whl (G12_rests_L40 a S v3) (fun z : (Int × Int) => Ev g yX12_rests cX12_rests 6 (some .int) [] 3 40 [some (x_r (16 * 32 + 0)), some (x_i a), some (x_i z.1), some (x_i z.2), none, none] [] (al, ro, fl (ml M [32] [(x_up S 0 0 v3)])) 0 0 (.inl (some (x_i t.1))) (al, ro, fl (ml M [32] [t.2]))) (fun q => q = v9) ?_ xFU (0, 0) _ hl10 rfl
        intro z t10 hf10 hi10 hx10
        obtain ⟨v7, v8⟩ := z
        rw [G12_rests_L40] at hf10
        show Ev g _ _ _ _ _ _ 40 [some (x_r (16 * 32 + 0)), some (x_i a), some (x_i v7), some (x_i v8), none, none] [] (al, ro, fl (ml M [32] [(x_up S 0 0 v3)])) _ _ _ _
        refine e_iloadn (pc := 40) (i := 3) dX12_rests_40 rfl rfl ?_
        refine e_iconst (pc := 41) dX12_rests_41 (x_R rfl) ?_
        refine e_icmp_ge (pc := 42) (tgt := 109) dX12_rests_42 (by decide) (fun hb => ?_) (fun hb => ?_)
        · rw [if_pos hb] at hf10
          cases hf10
          refine e_drop (i := 3) ?_
          have hh := hk10 _ (hx10 _ rfl)
          try dsimp only at hh
          exact hh
        · rw [if_neg hb] at hf10
          refine e_iloadn (pc := 45) (i := 3) dX12_rests_45 rfl rfl ?_
          refine e_iconst (pc := 46) dX12_rests_46 (x_R rfl) ?_
          refine e_idiv (pc := 47) dX12_rests_47 (by decide) ?_
          refine e_istore (pc := 48) (i := 4) dX12_rests_48 (by decide) rfl ?_
          show Ev g _ _ _ _ _ _ 50 [some (x_r (16 * 32 + 0)), some (x_i a), some (x_i v7), some (x_i v8), some (x_i (x_div v8 2)), none] [] (al, ro, fl (ml M [32] [(x_up S 0 0 v3)])) _ _ _ _
          refine e_iloadn (pc := 50) (i := 3) dX12_rests_50 rfl rfl ?_
          refine e_iconst (pc := 51) dX12_rests_51 (x_R rfl) ?_
          refine e_irem (pc := 52) dX12_rests_52 (by decide) ?_
          refine e_istore (pc := 53) (i := 5) dX12_rests_53 (by decide) rfl ?_
          show Ev g _ _ _ _ _ _ 55 [some (x_r (16 * 32 + 0)), some (x_i a), some (x_i v7), some (x_i v8), some (x_i (x_div v8 2)), some (x_i (x_rem v8 2))] [] (al, ro, fl (ml M [32] [(x_up S 0 0 v3)])) _ _ _ _
          refine e_aloadn (pc := 55) (i := 0) dX12_rests_55 rfl rfl ?_
          refine e_iloadn (pc := 56) (i := 1) dX12_rests_56 rfl rfl ?_
          refine e_iconst (pc := 57) dX12_rests_57 (x_R rfl) ?_
          refine e_iload (pc := 58) dX12_rests_58 rfl ?_
          refine e_isub (pc := 60) dX12_rests_60 ?_
          refine e_iload (pc := 61) dX12_rests_61 rfl ?_
          obtain ⟨v12, hq12, hf10⟩ := x_bd1 hf10
          refine e_invV (pc := 63) (K1 := 0) (S1 := 0) (K := 0) (S := 0) (dd2 := 2) (av := [x_i a, x_i (x_sub 1 (x_div v8 2)), x_i (x_rem v8 2)]) (st := []) (id := 16 * 32 + 0) dX12_rests_63 xmX12_409 rfl (Or.inl ⟨10, 27, TX12, (sa_32_0 hs), rfl, by decide⟩) (f_cal (M := M) (us2 := [32]) [0] hn rfl (And.intro rfl trivial) rfl rfl rfl (c_X12_heHas hst hs   hq12)) (by decide) (Nat.le_of_ble_eq_true rfl) (Or.inl rfl) ?_
          show Ev g _ _ _ _ _ _ 66 [some (x_r (16 * 32 + 0)), some (x_i a), some (x_i v7), some (x_i v8), some (x_i (x_div v8 2)), some (x_i (x_rem v8 2))] [x_i v12] (al, ro, fl (ml M [32] [(x_up S 0 0 v3)])) _ _ _ _
          refine e_aloadn (pc := 66) (i := 0) dX12_rests_66 rfl rfl ?_
          refine e_iloadn (pc := 67) (i := 1) dX12_rests_67 rfl rfl ?_
          refine e_iload (pc := 68) dX12_rests_68 rfl ?_
          refine e_iload (pc := 70) dX12_rests_70 rfl ?_
          obtain ⟨v14, hq14, hf10⟩ := x_bd1 hf10
          refine e_invV (pc := 72) (K1 := 0) (S1 := 0) (K := 0) (S := 0) (dd2 := 2) (av := [x_i a, x_i (x_div v8 2), x_i (x_rem v8 2)]) (st := [x_i v12]) (id := 16 * 32 + 0) dX12_rests_72 xmX12_409 rfl (Or.inl ⟨10, 27, TX12, (sa_32_0 hs), rfl, by decide⟩) (f_cal (M := M) (us2 := [32]) [0] hn rfl (And.intro rfl trivial) rfl rfl rfl (c_X12_heHas hst hs   hq14)) (by decide) (Nat.le_of_ble_eq_true rfl) (Or.inl rfl) ?_
          show Ev g _ _ _ _ _ _ 75 [some (x_r (16 * 32 + 0)), some (x_i a), some (x_i v7), some (x_i v8), some (x_i (x_div v8 2)), some (x_i (x_rem v8 2))] [x_i v14, x_i v12] (al, ro, fl (ml M [32] [(x_up S 0 0 v3)])) _ _ _ _
          obtain ⟨v16, hr16, hf10⟩ := x_bd1 hf10
          have hjhr16 : Ev g yX12_rests cX12_rests 6 (some .int) [] 3 103 [some (x_r (16 * 32 + 0)), some (x_i a), some (x_i v16), some (x_i v8), some (x_i (x_div v8 2)), some (x_i (x_rem v8 2))] [] (al, ro, fl (ml M [32] [(x_up S 0 0 v3)])) 0 0 (.inl (some (x_i t.1))) (al, ro, fl (ml M [32] [t.2])) := by
            refine e_iinc (pc := 103) dX12_rests_103 rfl (by decide) rfl ?_
            show Ev g _ _ _ _ _ _ 106 [some (x_r (16 * 32 + 0)), some (x_i a), some (x_i v16), some (x_i (x_add v8 1)), some (x_i (x_div v8 2)), some (x_i (x_rem v8 2))] [] (al, ro, fl (ml M [32] [(x_up S 0 0 v3)])) _ _ _ _
            refine e_goto (pc := 106) (tgt := 40) dX12_rests_106 (by decide) ?_
            cases hf10
            refine e_drop (i := 4) ?_
            refine e_drop (i := 5) ?_
            have hh := hi10 _ rfl
            try dsimp only at hh
            exact hh
          clear hf10
          refine e_icmp_gt (pc := 75) (tgt := 103) dX12_rests_75 (by decide) (fun hb => ?_) (fun hb => ?_)
          · rw [if_pos hb] at hr16
            cases hr16
            exact hjhr16
          · rw [if_neg hb] at hr16
            refine e_iload (pc := 78) dX12_rests_78 rfl ?_
            refine e_iconst (pc := 80) dX12_rests_80 (x_R rfl) ?_
            refine e_iload (pc := 81) dX12_rests_81 rfl ?_
            refine e_isub (pc := 83) dX12_rests_83 ?_
            obtain ⟨v18, hq18, hr16⟩ := x_bd1 hr16
            refine e_invS (pc := 84) (K1 := 0) (S1 := 0) (K := 0) (S := 0) (dd2 := 0) (av := [x_i (x_div v8 2), x_i (x_sub 1 (x_rem v8 2))]) (st := []) dX12_rests_84 xmX12_412 rfl (f_cal (M := M) (us2 := []) [] hn rfl trivial rfl rfl rfl (c_X12_gardenerHas hst hs   hq18)) (by decide) (Nat.le_of_ble_eq_true rfl) (Or.inl rfl) ?_
            show Ev g _ _ _ _ _ _ 87 [some (x_r (16 * 32 + 0)), some (x_i a), some (x_i v7), some (x_i v8), some (x_i (x_div v8 2)), some (x_i (x_rem v8 2))] [x_i v18] (al, ro, fl (ml M [32] [(x_up S 0 0 v3)])) _ _ _ _
            refine e_iload (pc := 87) dX12_rests_87 rfl ?_
            refine e_iload (pc := 89) dX12_rests_89 rfl ?_
            obtain ⟨v20, hq20, hr16⟩ := x_bd1 hr16
            refine e_invS (pc := 91) (K1 := 0) (S1 := 0) (K := 0) (S := 0) (dd2 := 0) (av := [x_i (x_div v8 2), x_i (x_rem v8 2)]) (st := [x_i v18]) dX12_rests_91 xmX12_412 rfl (f_cal (M := M) (us2 := []) [] hn rfl trivial rfl rfl rfl (c_X12_gardenerHas hst hs   hq20)) (by decide) (Nat.le_of_ble_eq_true rfl) (Or.inl rfl) ?_
            show Ev g _ _ _ _ _ _ 94 [some (x_r (16 * 32 + 0)), some (x_i a), some (x_i v7), some (x_i v8), some (x_i (x_div v8 2)), some (x_i (x_rem v8 2))] [x_i v20, x_i v18] (al, ro, fl (ml M [32] [(x_up S 0 0 v3)])) _ _ _ _
            refine e_icmp_gt (pc := 94) (tgt := 103) dX12_rests_94 (by decide) (fun hb => ?_) (fun hb => ?_)
            · rw [if_pos hb] at hr16
              cases hr16
              exact hjhr16
            · rw [if_neg hb] at hr16
              refine e_iloadn (pc := 97) (i := 2) dX12_rests_97 rfl rfl ?_
              refine e_iconst (pc := 98) dX12_rests_98 (x_R rfl) ?_
              refine e_iloadn (pc := 99) (i := 3) dX12_rests_99 rfl rfl ?_
              refine e_ishl (pc := 100) dX12_rests_100 ?_
              refine e_ior (pc := 101) dX12_rests_101 ?_
              refine e_istoren (pc := 102) (i := 2) dX12_rests_102 rfl (by decide) rfl ?_
              show Ev g _ _ _ _ _ _ 103 [some (x_r (16 * 32 + 0)), some (x_i a), some (x_i (x_or v7 (x_shl 1 v8))), some (x_i v8), some (x_i (x_div v8 2)), some (x_i (x_rem v8 2))] [] (al, ro, fl (ml M [32] [(x_up S 0 0 v3)])) _ _ _ _
              cases hr16
              exact hjhr16
      · rw [if_neg hb] at hG
        refine e_iconst (pc := 34) dX12_rests_34 (x_R rfl) ?_
        cases hG
        exact (e_ireturn rfl dX12_rests_35 rfl)
    · rw [if_neg hb] at hG
      refine e_iconst (pc := 24) dX12_rests_24 (x_R rfl) ?_
      cases hG
      exact (e_ireturn rfl dX12_rests_25 rfl)
  clear hG
  refine e_if_ne (pc := 6) (tgt := 13) dX12_rests_6 (by decide) (fun hb => ?_) (fun hb => ?_)
  · rw [if_neg hb] at hr3
    refine e_iconst (pc := 13) dX12_rests_13 (x_R rfl) ?_
    cases hr3
    exact hjhr3
  · rw [if_pos hb] at hr3
    refine e_iconst (pc := 9) dX12_rests_9 (x_R rfl) ?_
    refine e_goto (pc := 10) (tgt := 14) dX12_rests_10 (by decide) ?_
    cases hr3
    exact hjhr3
