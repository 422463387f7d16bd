set_option maxRecDepth 100000 in
set_option maxHeartbeats 4000000 in
theorem c_X12_leastBy {g : xG} {al : List (Nat × Nat × Nat)} {ro : Nat → Nat → Option Nat} (hst : g.1.stackTraces = false) (hs : SH al ro) {M : Nat → xU} {a : Int} {b : Int} {S : xU}  {t : (Int × xU)} (hG : G12_leastBy a b S = some t) :
    Cal g yX12_leastBy cX12_leastBy 8 (some .int) 47 [x_r (16 * 32 + 0), x_i a, x_i b] (al, ro, fl (ml M [32] [S])) 0 0 (.inl (some (x_i t.1))) (al, ro, fl (ml M [32] [t.2])) := by
  have hn : ([32] : List Nat).Nodup := by decide
  refine cal_of_ev (plainFor_of_name (by decide)) (x_c1 rfl) (Nat.le_of_ble_eq_true rfl) hst ?_
  show Ev g _ _ _ _ _ _ 0 [some (x_r (16 * 32 + 0)), some (x_i a), some (x_i b), none, none, none, none, none] [] (al, ro, fl (ml M [32] [S])) _ _ _ _
  rw [G12_leastBy] at hG
  refine e_aloadn (pc := 0) (i := 0) dX12_leastBy_0 rfl rfl ?_
  refine f_getr (pc := 1) (u := 32) (q := 0) dX12_leastBy_1 xf12_7 (sa_32_0 hs) rfl (sr_32_0_1 hs) ?_
  refine e_iloadn (pc := 4) (i := 1) dX12_leastBy_4 rfl rfl ?_
  obtain ⟨hc0, hG⟩ := x_gd_some hG
  refine f_iald (pc := 5) (k := 0) (u := 32) (q := 1) (len := 772) dX12_leastBy_5 (sa_32_1 hs) hc0 hn rfl rfl (by decide) ?_
  show Ev g _ _ _ _ _ _ 6 [some (x_r (16 * 32 + 0)), some (x_i a), some (x_i b), none, none, none, none, none] [x_i (S 1 (a).toNat)] (al, ro, fl (ml M [32] [S])) _ _ _ _
  refine e_istoren (pc := 6) (i := 3) dX12_leastBy_6 rfl (by decide) rfl ?_
  show Ev g _ _ _ _ _ _ 7 [some (x_r (16 * 32 + 0)), some (x_i a), some (x_i b), some (x_i (S 1 (a).toNat)), none, none, none, none] [] (al, ro, fl (ml M [32] [S])) _ _ _ _
  refine e_iconst (pc := 7) dX12_leastBy_7 (x_R rfl) ?_
  refine e_istore (pc := 8) (i := 4) dX12_leastBy_8 (by decide) rfl ?_
  show Ev g _ _ _ _ _ _ 10 [some (x_r (16 * 32 + 0)), some (x_i a), some (x_i b), some (x_i (S 1 (a).toNat)), some (x_i 0), none, none, none] [] (al, ro, fl (ml M [32] [S])) _ _ _ _
  refine e_ldcw (pc := 10) dX12_leastBy_10 xkX12_327 (x_R rfl) ?_
  refine e_istore (pc := 13) (i := 5) dX12_leastBy_13 (by decide) rfl ?_
  show Ev g _ _ _ _ _ _ 15 [some (x_r (16 * 32 + 0)), some (x_i a), some (x_i b), some (x_i (S 1 (a).toNat)), some (x_i 0), some (x_i 2000000000), none, none] [] (al, ro, fl (ml M [32] [S])) _ _ _ _
  refine e_iconst (pc := 15) dX12_leastBy_15 (x_R rfl) ?_
  refine e_istore (pc := 16) (i := 6) dX12_leastBy_16 (by decide) rfl ?_
  show Ev g _ _ _ _ _ _ 18 [some (x_r (16 * 32 + 0)), some (x_i a), some (x_i b), some (x_i (S 1 (a).toNat)), some (x_i 0), some (x_i 2000000000), some (x_i 0), none] [] (al, ro, fl (ml M [32] [S])) _ _ _ _
  obtain ⟨v5, S6, hl7, hG⟩ := x_bd2 hG
  have hk7 : ∀ q : (Int × xU), q = (v5, S6) → Ev g yX12_leastBy cX12_leastBy 8 (some .int) [] 47 64 [some (x_r (16 * 32 + 0)), some (x_i a), some (x_i b), some (x_i (S 1 (a).toNat)), some (x_i q.1), none, none, none] [] (al, ro, fl (ml M [32] [q.2])) 0 0 (.inl (some (x_i t.1))) (al, ro, fl (ml M [32] [t.2])) := by
    intro q hq
    cases hq
    refine e_aloadn (pc := 64) (i := 0) dX12_leastBy_64 rfl rfl ?_
    refine f_getr (pc := 65) (u := 32) (q := 0) dX12_leastBy_65 xf12_7 (sa_32_0 hs) rfl (sr_32_0_1 hs) ?_
    refine e_iloadn (pc := 68) (i := 1) dX12_leastBy_68 rfl rfl ?_
    refine e_iloadn (pc := 69) (i := 3) dX12_leastBy_69 rfl rfl ?_
    obtain ⟨hc0, hG⟩ := x_gd_some hG
    refine f_iast (pc := 70) (k := 0) (u := 32) (q := 1) (len := 772) dX12_leastBy_70 (sa_32_1 hs) hc0 hn rfl rfl rfl (by decide) ?_
    show Ev g _ _ _ _ _ _ 71 [some (x_r (16 * 32 + 0)), some (x_i a), some (x_i b), some (x_i (S 1 (a).toNat)), some (x_i v5), none, none, none] [] (al, ro, fl (ml M [32] [(x_up S6 1 (a).toNat (S 1 (a).toNat))])) _ _ _ _
    refine e_iload (pc := 71) dX12_leastBy_71 rfl ?_
    cases hG
    exact (e_ireturn rfl dX12_leastBy_73 rfl)
  clear hG
  refine e_whl (G12_leastBy_L18 a b) (fun z : (Int × Int × Int × xU) => Ev g yX12_leastBy cX12_leastBy 8 (some .int) [] 47 18 [some (x_r (16 * 32 + 0)), some (x_i a), some (x_i b), some (x_i (S 1 (a).toNat)), some (x_i z.1), some (x_i z.2.1), some (x_i z.2.2.1), none] [] (al, ro, fl (ml M [32] [z.2.2.2])) 0 0 (.inl (some (x_i t.1))) (al, ro, fl (ml M [32] [t.2]))) (fun q => q = (v5, S6)) ?_ xFU (0, 2000000000, 0, S) _ hl7 rfl
  intro z t7 hf7 hi7 hx7
  obtain ⟨v1, v2, v3, S4⟩ := z
  rw [G12_leastBy_L18] at hf7
  show Ev g _ _ _ _ _ _ 18 [some (x_r (16 * 32 + 0)), some (x_i a), some (x_i b), some (x_i (S 1 (a).toNat)), some (x_i v1), some (x_i v2), some (x_i v3), none] [] (al, ro, fl (ml M [32] [S4])) _ _ _ _
  refine e_iload (pc := 18) dX12_leastBy_18 rfl ?_
  refine e_iloadn (pc := 20) (i := 2) dX12_leastBy_20 rfl rfl ?_
  refine e_icmp_ge (pc := 21) (tgt := 64) dX12_leastBy_21 (by decide) (fun hb => ?_) (fun hb => ?_)
  · rw [if_pos hb] at hf7
    cases hf7
    refine e_drop (i := 5) ?_
    refine e_drop (i := 6) ?_
    have hh := hk7 _ (hx7 _ rfl)
    try dsimp only at hh
    exact hh
  · rw [if_neg hb] at hf7
    refine e_aloadn (pc := 24) (i := 0) dX12_leastBy_24 rfl rfl ?_
    refine f_getr (pc := 25) (u := 32) (q := 0) dX12_leastBy_25 xf12_7 (sa_32_0 hs) rfl (sr_32_0_1 hs) ?_
    refine e_iloadn (pc := 28) (i := 1) dX12_leastBy_28 rfl rfl ?_
    refine e_iload (pc := 29) dX12_leastBy_29 rfl ?_
    obtain ⟨hc0, hf7⟩ := x_gd_some hf7
    refine f_iast (pc := 31) (k := 0) (u := 32) (q := 1) (len := 772) dX12_leastBy_31 (sa_32_1 hs) hc0 hn rfl rfl rfl (by decide) ?_
    show Ev g _ _ _ _ _ _ 32 [some (x_r (16 * 32 + 0)), some (x_i a), some (x_i b), some (x_i (S 1 (a).toNat)), some (x_i v1), some (x_i v2), some (x_i v3), none] [] (al, ro, fl (ml M [32] [(x_up S4 1 (a).toNat v3)])) _ _ _ _
    refine e_aloadn (pc := 32) (i := 0) dX12_leastBy_32 rfl rfl ?_
    refine e_bipush (pc := 33) dX12_leastBy_33 (by decide +kernel) (x_R rfl) ?_
    obtain ⟨v9, S10, hq10, hf7⟩ := x_bd2 hf7
    refine e_invV (pc := 35) (K1 := 0) (S1 := 0) (K := 0) (S := 0) (dd2 := 46) (av := [x_i 8]) (st := []) (id := 16 * 32 + 0) dX12_leastBy_35 xmX12_324 rfl (Or.inl ⟨10, 27, TX12, (sa_32_0 hs), rfl, by decide⟩) (f_cal (M := M) (us2 := [32]) [0] hn rfl (And.intro rfl trivial) rfl rfl rfl (c_X12_latesIn hst hs   hq10)) (by decide) (Nat.le_of_ble_eq_true rfl) (Or.inl rfl) ?_
    show Ev g _ _ _ _ _ _ 38 [some (x_r (16 * 32 + 0)), some (x_i a), some (x_i b), some (x_i (S 1 (a).toNat)), some (x_i v1), some (x_i v2), some (x_i v3), none] [x_i v9] (al, ro, fl (ml M [32] [S10])) _ _ _ _
    refine e_istore (pc := 38) (i := 7) dX12_leastBy_38 (by decide) rfl ?_
    show Ev g _ _ _ _ _ _ 40 [some (x_r (16 * 32 + 0)), some (x_i a), some (x_i b), some (x_i (S 1 (a).toNat)), some (x_i v1), some (x_i v2), some (x_i v3), some (x_i v9)] [] (al, ro, fl (ml M [32] [S10])) _ _ _ _
    refine e_iload (pc := 40) dX12_leastBy_40 rfl ?_
    refine e_iload (pc := 42) dX12_leastBy_42 rfl ?_
    obtain ⟨v12, v13, hr13, hf7⟩ := x_bd2 hf7
    have hjhr13 : Ev g yX12_leastBy cX12_leastBy 8 (some .int) [] 47 58 [some (x_r (16 * 32 + 0)), some (x_i a), some (x_i b), some (x_i (S 1 (a).toNat)), some (x_i v12), some (x_i v13), some (x_i v3), some (x_i v9)] [] (al, ro, fl (ml M [32] [S10])) 0 0 (.inl (some (x_i t.1))) (al, ro, fl (ml M [32] [t.2])) := by
      refine e_iinc (pc := 58) dX12_leastBy_58 rfl (by decide) rfl ?_
      show Ev g _ _ _ _ _ _ 61 [some (x_r (16 * 32 + 0)), some (x_i a), some (x_i b), some (x_i (S 1 (a).toNat)), some (x_i v12), some (x_i v13), some (x_i (x_add v3 1)), some (x_i v9)] [] (al, ro, fl (ml M [32] [S10])) _ _ _ _
      refine e_goto (pc := 61) (tgt := 18) dX12_leastBy_61 (by decide) ?_
      cases hf7
      refine e_drop (i := 7) ?_
      have hh := hi7 _ rfl
      try dsimp only at hh
      exact hh
    clear hf7
    refine e_icmp_lt (pc := 44) (tgt := 50) dX12_leastBy_44 (by decide) (fun hb => ?_) (fun hb => ?_)
    · rw [if_pos hb] at hr13
      refine e_iload (pc := 50) dX12_leastBy_50 rfl ?_
      refine e_istore (pc := 52) (i := 5) dX12_leastBy_52 (by decide) rfl ?_
      show Ev g _ _ _ _ _ _ 54 [some (x_r (16 * 32 + 0)), some (x_i a), some (x_i b), some (x_i (S 1 (a).toNat)), some (x_i v1), some (x_i v9), some (x_i v3), some (x_i v9)] [] (al, ro, fl (ml M [32] [S10])) _ _ _ _
      refine e_iload (pc := 54) dX12_leastBy_54 rfl ?_
      refine e_istore (pc := 56) (i := 4) dX12_leastBy_56 (by decide) rfl ?_
      show Ev g _ _ _ _ _ _ 58 [some (x_r (16 * 32 + 0)), some (x_i a), some (x_i b), some (x_i (S 1 (a).toNat)), some (x_i v3), some (x_i v9), some (x_i v3), some (x_i v9)] [] (al, ro, fl (ml M [32] [S10])) _ _ _ _
      cases hr13
      exact hjhr13
    · rw [if_neg hb] at hr13
      refine e_goto (pc := 47) (tgt := 58) dX12_leastBy_47 (by decide) ?_
      cases hr13
      exact hjhr13
set_option maxRecDepth 100000 in
set_option maxHeartbeats 4000000 in
theorem c_X12_ring {g : xG} {al : List (Nat × Nat × Nat)} {ro : Nat → Nat → Option Nat} (hst : g.1.stackTraces = false) (hs : SH al ro) {M : Nat → xU} {S : xU}  {t : (Int × xU)} (hG : G12_ring S = some t) :
    Cal g yX12_ring cX12_ring 1 (some .int) 48 [x_r (16 * 32 + 0)] (al, ro, fl (ml M [32] [S])) 0 0 (.inl (some (x_i t.1))) (al, ro, fl (ml M [32] [t.2])) := by
  have hn : ([32] : List Nat).Nodup := by decide
  refine cal_of_ev (plainFor_of_name (by decide)) (x_c1 rfl) (Nat.le_of_ble_eq_true rfl) hst ?_
  show Ev g _ _ _ _ _ _ 0 [some (x_r (16 * 32 + 0))] [] (al, ro, fl (ml M [32] [S])) _ _ _ _
  rw [G12_ring] at hG
  refine e_aloadn (pc := 0) (i := 0) dX12_ring_0 rfl rfl ?_
  refine e_iconst (pc := 1) dX12_ring_1 (x_R rfl) ?_
  refine f_puti (pc := 2) (k := 0) (u := 32) (q := 0) dX12_ring_2 xf12_58 xw10_0 (sa_32_0 hs) hn rfl rfl rfl (by decide) ?_
  show Ev g _ _ _ _ _ _ 5 [some (x_r (16 * 32 + 0))] [] (al, ro, fl (ml M [32] [(x_up S 0 0 0)])) _ _ _ _
  refine e_aloadn (pc := 5) (i := 0) dX12_ring_5 rfl rfl ?_
  refine e_bipush (pc := 6) dX12_ring_6 (by decide +kernel) (x_R rfl) ?_
  refine e_bipush (pc := 8) dX12_ring_8 (by decide +kernel) (x_R rfl) ?_
  obtain ⟨v1, S2, hq2, hG⟩ := x_bd2 hG
  refine e_invV (pc := 10) (K1 := 0) (S1 := 0) (K := 0) (S := 0) (dd2 := 47) (av := [x_i 6, x_i 16]) (st := []) (id := 16 * 32 + 0) dX12_ring_10 xmX12_328 rfl (Or.inl ⟨10, 27, TX12, (sa_32_0 hs), rfl, by decide⟩) (f_cal (M := M) (us2 := [32]) [0] hn rfl (And.intro rfl trivial) rfl rfl rfl (c_X12_leastBy hst hs   hq2)) (by decide) (Nat.le_of_ble_eq_true rfl) (Or.inl rfl) ?_
  show Ev g _ _ _ _ _ _ 13 [some (x_r (16 * 32 + 0))] [x_i v1] (al, ro, fl (ml M [32] [S2])) _ _ _ _
  cases hG
  exact (e_ireturn rfl dX12_ring_13 rfl)
set_option maxRecDepth 100000 in
set_option maxHeartbeats 4000000 in
theorem c_X12_humour {g : xG} {al : List (Nat × Nat × Nat)} {ro : Nat → Nat → Option Nat} (hst : g.1.stackTraces = false) (hs : SH al ro) {M : Nat → xU} {S : xU}  {t : (Int × xU)} (hG : G12_humour S = some t) :
    Cal g yX12_humour cX12_humour 1 (some .int) 48 [x_r (16 * 32 + 0)] (al, ro, fl (ml M [32] [S])) 0 0 (.inl (some (x_i t.1))) (al, ro, fl (ml M [32] [t.2])) := by
  have hn : ([32] : List Nat).Nodup := by decide
  refine cal_of_ev (plainFor_of_name (by decide)) (x_c1 rfl) (Nat.le_of_ble_eq_true rfl) hst ?_
  show Ev g _ _ _ _ _ _ 0 [some (x_r (16 * 32 + 0))] [] (al, ro, fl (ml M [32] [S])) _ _ _ _
  rw [G12_humour] at hG
  refine e_aloadn (pc := 0) (i := 0) dX12_humour_0 rfl rfl ?_
  refine e_iconst (pc := 1) dX12_humour_1 (x_R rfl) ?_
  refine f_puti (pc := 2) (k := 0) (u := 32) (q := 0) dX12_humour_2 xf12_58 xw10_0 (sa_32_0 hs) hn rfl rfl rfl (by decide) ?_
  show Ev g _ _ _ _ _ _ 5 [some (x_r (16 * 32 + 0))] [] (al, ro, fl (ml M [32] [(x_up S 0 0 0)])) _ _ _ _
  refine e_aloadn (pc := 5) (i := 0) dX12_humour_5 rfl rfl ?_
  refine e_bipush (pc := 6) dX12_humour_6 (by decide +kernel) (x_R rfl) ?_
  refine e_iconst (pc := 8) dX12_humour_8 (x_R rfl) ?_
  obtain ⟨v1, S2, hq2, hG⟩ := x_bd2 hG
  refine e_invV (pc := 9) (K1 := 0) (S1 := 0) (K := 0) (S := 0) (dd2 := 47) (av := [x_i 7, x_i 5]) (st := []) (id := 16 * 32 + 0) dX12_humour_9 xmX12_328 rfl (Or.inl ⟨10, 27, TX12, (sa_32_0 hs), rfl, by decide⟩) (f_cal (M := M) (us2 := [32]) [0] hn rfl (And.intro rfl trivial) rfl rfl rfl (c_X12_leastBy hst hs   hq2)) (by decide) (Nat.le_of_ble_eq_true rfl) (Or.inl rfl) ?_
  show Ev g _ _ _ _ _ _ 12 [some (x_r (16 * 32 + 0))] [x_i v1] (al, ro, fl (ml M [32] [S2])) _ _ _ _
  cases hG
  exact (e_ireturn rfl dX12_humour_12 rfl)
set_option maxRecDepth 100000 in
set_option maxHeartbeats 4000000 in
theorem c_X12_starves {g : xG} {al : List (Nat × Nat × Nat)} {ro : Nat → Nat → Option Nat} (hst : g.1.stackTraces = false) (hs : SH al ro) {M : Nat → xU} {S : xU}  {t : (Int × xU)} (hG : G12_starves S = some t) :
    Cal g yX12_starves cX12_starves 4 (some .int) 46 [x_r (16 * 32 + 0)] (al, ro, fl (ml M [32] [S])) 0 0 (.inl (some (x_i t.1))) (al, ro, fl (ml M [32] [t.2])) := by
  have hn : ([32] : List Nat).Nodup := by decide
  refine cal_of_ev (plainFor_of_name (by decide)) (x_c1 rfl) (Nat.le_of_ble_eq_true rfl) hst ?_
  show Ev g _ _ _ _ _ _ 0 [some (x_r (16 * 32 + 0)), none, none, none] [] (al, ro, fl (ml M [32] [S])) _ _ _ _
  rw [G12_starves] at hG
  refine e_aloadn (pc := 0) (i := 0) dX12_starves_0 rfl rfl ?_
  refine e_iconst (pc := 1) dX12_starves_1 (x_R rfl) ?_
  refine f_puti (pc := 2) (k := 0) (u := 32) (q := 0) dX12_starves_2 xf12_58 xw10_0 (sa_32_0 hs) hn rfl rfl rfl (by decide) ?_
  show Ev g _ _ _ _ _ _ 5 [some (x_r (16 * 32 + 0)), none, none, none] [] (al, ro, fl (ml M [32] [(x_up S 0 0 0)])) _ _ _ _
  refine e_aloadn (pc := 5) (i := 0) dX12_starves_5 rfl rfl ?_
  obtain ⟨S1, hq1, hG⟩ := x_bd1 hG
  refine e_invV (pc := 6) (K1 := 0) (S1 := 0) (K := 0) (S := 0) (dd2 := 0) (av := []) (st := []) (id := 16 * 32 + 0) dX12_starves_6 xmX12_192 rfl (Or.inl ⟨10, 27, TX12, (sa_32_0 hs), rfl, by decide⟩) (f_cal (M := M) (us2 := [32]) [0] hn rfl (And.intro rfl trivial) rfl rfl rfl (c_X12_putsAside hst hs   hq1)) (by decide) (Nat.le_of_ble_eq_true rfl) (Or.inl rfl) ?_
  show Ev g _ _ _ _ _ _ 9 [some (x_r (16 * 32 + 0)), none, none, none] [] (al, ro, fl (ml M [32] [S1])) _ _ _ _
  refine e_iconst (pc := 9) dX12_starves_9 (x_R rfl) ?_
  refine e_istoren (pc := 10) (i := 1) dX12_starves_10 rfl (by decide) rfl ?_
  show Ev g _ _ _ _ _ _ 11 [some (x_r (16 * 32 + 0)), some (x_i (-1)), none, none] [] (al, ro, fl (ml M [32] [S1])) _ _ _ _
  refine e_iconst (pc := 11) dX12_starves_11 (x_R rfl) ?_
  refine e_istoren (pc := 12) (i := 2) dX12_starves_12 rfl (by decide) rfl ?_
  show Ev g _ _ _ _ _ _ 13 [some (x_r (16 * 32 + 0)), some (x_i (-1)), some (x_i 0), none] [] (al, ro, fl (ml M [32] [S1])) _ _ _ _
  obtain ⟨v6, S7, hl8, hG⟩ := x_bd2 hG
  have hk8 : ∀ q : (Int × xU), q = (v6, S7) → Ev g yX12_starves cX12_starves 4 (some .int) [] 46 66 [some (x_r (16 * 32 + 0)), some (x_i q.1), none, none] [] (al, ro, fl (ml M [32] [q.2])) 0 0 (.inl (some (x_i t.1))) (al, ro, fl (ml M [32] [t.2])) := by
    intro q hq
    cases hq
    refine e_aloadn (pc := 66) (i := 0) dX12_starves_66 rfl rfl ?_
    obtain ⟨S22, hq22, hG⟩ := x_bd1 hG
    refine e_invV (pc := 67) (K1 := 0) (S1 := 0) (K := 0) (S := 0) (dd2 := 0) (av := []) (st := []) (id := 16 * 32 + 0) dX12_starves_67 xmX12_201 rfl (Or.inl ⟨10, 27, TX12, (sa_32_0 hs), rfl, by decide⟩) (f_cal (M := M) (us2 := [32]) [0] hn rfl (And.intro rfl trivial) rfl rfl rfl (c_X12_comesBack hst hs   hq22)) (by decide) (Nat.le_of_ble_eq_true rfl) (Or.inl rfl) ?_
    show Ev g _ _ _ _ _ _ 70 [some (x_r (16 * 32 + 0)), some (x_i v6), none, none] [] (al, ro, fl (ml M [32] [S22])) _ _ _ _
    refine e_iloadn (pc := 70) (i := 1) dX12_starves_70 rfl rfl ?_
    cases hG
    exact (e_ireturn rfl dX12_starves_71 rfl)
  clear hG
  refine e_whl G12_starves_L13 (fun z : (Int × Int × xU) => Ev g yX12_starves cX12_starves 4 (some .int) [] 46 13 [some (x_r (16 * 32 + 0)), some (x_i z.1), some (x_i z.2.1), none] [] (al, ro, fl (ml M [32] [z.2.2])) 0 0 (.inl (some (x_i t.1))) (al, ro, fl (ml M [32] [t.2]))) (fun q => q = (v6, S7)) ?_ xFU ((-1), 0, S1) _ hl8 rfl
  intro z t8 hf8 hi8 hx8
  obtain ⟨v3, v4, S5⟩ := z
  rw [G12_starves_L13] at hf8
  show Ev g _ _ _ _ _ _ 13 [some (x_r (16 * 32 + 0)), some (x_i v3), some (x_i v4), none] [] (al, ro, fl (ml M [32] [S5])) _ _ _ _
  refine e_iloadn (pc := 13) (i := 2) dX12_starves_13 rfl rfl ?_
  refine e_bipush (pc := 14) dX12_starves_14 (by decide +kernel) (x_R rfl) ?_
  refine e_icmp_gt (pc := 16) (tgt := 66) dX12_starves_16 (by decide) (fun hb => ?_) (fun hb => ?_)
  · rw [if_pos hb] at hf8
    cases hf8
    refine e_drop (i := 2) ?_
    have hh := hk8 _ (hx8 _ rfl)
    try dsimp only at hh
    exact hh
  · rw [if_neg hb] at hf8
    refine e_iloadn (pc := 19) (i := 1) dX12_starves_19 rfl rfl ?_
    refine e_iconst (pc := 20) dX12_starves_20 (x_R rfl) ?_
    refine e_icmp_ne (pc := 21) (tgt := 66) dX12_starves_21 (by decide) (fun hb => ?_) (fun hb => ?_)
    · rw [if_neg hb] at hf8
      cases hf8
      refine e_drop (i := 2) ?_
      have hh := hk8 _ (hx8 _ rfl)
      try dsimp only at hh
      exact hh
    · rw [if_pos hb] at hf8
      refine e_iconst (pc := 24) dX12_starves_24 (x_R rfl) ?_
      refine e_istoren (pc := 25) (i := 3) dX12_starves_25 rfl (by decide) rfl ?_
      show Ev g _ _ _ _ _ _ 26 [some (x_r (16 * 32 + 0)), some (x_i v3), some (x_i v4), some (x_i 0)] [] (al, ro, fl (ml M [32] [S5])) _ _ _ _
      obtain ⟨v12, hl13, hf8⟩ := x_bd1 hf8
      have hk13 : ∀ q : Int, q = v12 → Ev g yX12_starves cX12_starves 4 (some .int) [] 46 54 [some (x_r (16 * 32 + 0)), some (x_i q), some (x_i v4), none] [] (al, ro, fl (ml M [32] [S5])) 0 0 (.inl (some (x_i t.1))) (al, ro, fl (ml M [32] [t.2])) := by
        intro q hq
        replace hq := hq.symm
        subst hq
        refine e_aloadn (pc := 54) (i := 0) dX12_starves_54 rfl rfl ?_
        refine e_iconst (pc := 55) dX12_starves_55 (x_R rfl) ?_
        obtain ⟨v19, S20, hq20, hf8⟩ := x_bd2 hf8
        refine e_invV (pc := 56) (K1 := 0) (S1 := 0) (K := 0) (S := 0) (dd2 := 45) (av := [x_i 0]) (st := []) (id := 16 * 32 + 0) dX12_starves_56 xmX12_292 rfl (Or.inl ⟨10, 27, TX12, (sa_32_0 hs), rfl, by decide⟩) (f_cal (M := M) (us2 := [32]) [0] hn rfl (And.intro rfl trivial) rfl rfl rfl (c_X12_passes hst hs   hq20)) (by decide) (Nat.le_of_ble_eq_true rfl) (Or.inl rfl) ?_
        show Ev g _ _ _ _ _ _ 59 [some (x_r (16 * 32 + 0)), some (x_i v12), some (x_i v4), none] [x_i v19] (al, ro, fl (ml M [32] [S20])) _ _ _ _
        refine e_istoren (pc := 59) (i := 3) dX12_starves_59 rfl (by decide) rfl ?_
        show Ev g _ _ _ _ _ _ 60 [some (x_r (16 * 32 + 0)), some (x_i v12), some (x_i v4), some (x_i v19)] [] (al, ro, fl (ml M [32] [S20])) _ _ _ _
        refine e_iinc (pc := 60) dX12_starves_60 rfl (by decide) rfl ?_
        show Ev g _ _ _ _ _ _ 63 [some (x_r (16 * 32 + 0)), some (x_i v12), some (x_i (x_add v4 1)), some (x_i v19)] [] (al, ro, fl (ml M [32] [S20])) _ _ _ _
        refine e_goto (pc := 63) (tgt := 13) dX12_starves_63 (by decide) ?_
        cases hf8
        refine e_drop (i := 3) ?_
        have hh := hi8 _ rfl
        try dsimp only at hh
        exact hh
      clear hf8
      refine e_whl (G12_starves_L26 v4 S5) (fun z : (Int × Int) => Ev g yX12_starves cX12_starves 4 (some .int) [] 46 26 [some (x_r (16 * 32 + 0)), some (x_i z.1), some (x_i v4), some (x_i z.2)] [] (al, ro, fl (ml M [32] [S5])) 0 0 (.inl (some (x_i t.1))) (al, ro, fl (ml M [32] [t.2]))) (fun q => q = v12) ?_ xFU (v3, 0) _ hl13 rfl
      intro z t13 hf13 hi13 hx13
      obtain ⟨v10, v11⟩ := z
      rw [G12_starves_L26] at hf13
      show Ev g _ _ _ _ _ _ 26 [some (x_r (16 * 32 + 0)), some (x_i v10), some (x_i v4), some (x_i v11)] [] (al, ro, fl (ml M [32] [S5])) _ _ _ _
      refine e_iloadn (pc := 26) (i := 3) dX12_starves_26 rfl rfl ?_
      refine e_aloadn (pc := 27) (i := 0) dX12_starves_27 rfl rfl ?_
      refine f_getr (pc := 28) (u := 32) (q := 0) dX12_starves_28 xf12_7 (sa_32_0 hs) rfl (sr_32_0_1 hs) ?_
      refine e_iconst (pc := 31) dX12_starves_31 (x_R rfl) ?_
      refine f_iald (pc := 32) (k := 0) (u := 32) (q := 1) (len := 772) dX12_starves_32 (sa_32_1 hs) (by decide) hn rfl rfl (by decide) ?_
      show Ev g _ _ _ _ _ _ 33 [some (x_r (16 * 32 + 0)), some (x_i v10), some (x_i v4), some (x_i v11)] [x_i (S5 1 3), x_i v11] (al, ro, fl (ml M [32] [S5])) _ _ _ _
      refine e_icmp_ge (pc := 33) (tgt := 54) dX12_starves_33 (by decide) (fun hb => ?_) (fun hb => ?_)
      · rw [if_pos hb] at hf13
        cases hf13
        refine e_drop (i := 3) ?_
        have hh := hk13 _ (hx13 _ rfl)
        try dsimp only at hh
        exact hh
      · rw [if_neg hb] at hf13
        refine e_aloadn (pc := 36) (i := 0) dX12_starves_36 rfl rfl ?_
        refine e_iloadn (pc := 37) (i := 3) dX12_starves_37 rfl rfl ?_
        refine e_bipush (pc := 38) dX12_starves_38 (by decide +kernel) (x_R rfl) ?_
        obtain ⟨v15, hq15, hf13⟩ := x_bd1 hf13
        refine e_invV (pc := 40) (K1 := 0) (S1 := 0) (K := 0) (S := 0) (dd2 := 0) (av := [x_i v11, x_i 6]) (st := []) (id := 16 * 32 + 0) dX12_starves_40 xmX12_65 rfl (Or.inl ⟨10, 27, TX12, (sa_32_0 hs), rfl, by decide⟩) (f_cal (M := M) (us2 := [32]) [0] hn rfl (And.intro rfl trivial) rfl rfl rfl (c_X12_of hst hs   hq15)) (by decide) (Nat.le_of_ble_eq_true rfl) (Or.inl rfl) ?_
        show Ev g _ _ _ _ _ _ 43 [some (x_r (16 * 32 + 0)), some (x_i v10), some (x_i v4), some (x_i v11)] [x_i v15] (al, ro, fl (ml M [32] [S5])) _ _ _ _
        obtain ⟨v17, hr17, hf13⟩ := x_bd1 hf13
        have hjhr17 : Ev g yX12_starves cX12_starves 4 (some .int) [] 46 48 [some (x_r (16 * 32 + 0)), some (x_i v17), some (x_i v4), some (x_i v11)] [] (al, ro, fl (ml M [32] [S5])) 0 0 (.inl (some (x_i t.1))) (al, ro, fl (ml M [32] [t.2])) := by
          refine e_iinc (pc := 48) dX12_starves_48 rfl (by decide) rfl ?_
          show Ev g _ _ _ _ _ _ 51 [some (x_r (16 * 32 + 0)), some (x_i v17), some (x_i v4), some (x_i (x_add v11 1))] [] (al, ro, fl (ml M [32] [S5])) _ _ _ _
          refine e_goto (pc := 51) (tgt := 26) dX12_starves_51 (by decide) ?_
          cases hf13
          have hh := hi13 _ rfl
          try dsimp only at hh
          exact hh
        clear hf13
        refine e_if_le (pc := 43) (tgt := 48) dX12_starves_43 (by decide) (fun hb => ?_) (fun hb => ?_)
        · rw [if_pos hb] at hr17
          cases hr17
          exact hjhr17
        · rw [if_neg hb] at hr17
          refine e_iloadn (pc := 46) (i := 2) dX12_starves_46 rfl rfl ?_
          refine e_istoren (pc := 47) (i := 1) dX12_starves_47 rfl (by decide) rfl ?_
          show Ev g _ _ _ _ _ _ 48 [some (x_r (16 * 32 + 0)), some (x_i v4), some (x_i v4), some (x_i v11)] [] (al, ro, fl (ml M [32] [S5])) _ _ _ _
          cases hr17
          exact hjhr17
set_option maxRecDepth 100000 in
set_option maxHeartbeats 4000000 in
theorem c_X12_farOf {g : xG} {al : List (Nat × Nat × Nat)} {ro : Nat → Nat → Option Nat} (hst : g.1.stackTraces = false) (hs : SH al ro) {M : Nat → xU} {a : Int} {b : Int} {S : xU}  {t : Int} (hG : G12_farOf a b S = some t) :
    Cal g yX12_farOf cX12_farOf 3 (some .int) 2 [x_r (16 * 32 + 0), x_i a, x_i b] (al, ro, fl (ml M [32] [S])) 0 0 (.inl (some (x_i t))) (al, ro, fl (ml M [32] [S])) := by
  have hn : ([32] : List Nat).Nodup := by decide
  refine cal_of_ev (plainFor_of_name (by decide)) (x_c1 rfl) (Nat.le_of_ble_eq_true rfl) hst ?_
  show Ev g _ _ _ _ _ _ 0 [some (x_r (16 * 32 + 0)), some (x_i a), some (x_i b)] [] (al, ro, fl (ml M [32] [S])) _ _ _ _
  rw [G12_farOf] at hG
  refine e_iloadn (pc := 0) (i := 1) dX12_farOf_0 rfl rfl ?_
  refine e_iloadn (pc := 1) (i := 2) dX12_farOf_1 rfl rfl ?_
  obtain ⟨v1, hq1, hG⟩ := x_bd1 hG
  refine e_invS (pc := 2) (K1 := 0) (S1 := 0) (K := 0) (S := 0) (dd2 := 1) (av := [x_i a, x_i b]) (st := []) dX12_farOf_2 xmX12_331 rfl (f_cal (M := M) (us2 := []) [] hn rfl trivial rfl rfl rfl (c_X12_steps hst hs   hq1)) (by decide) (Nat.le_of_ble_eq_true rfl) (Or.inl rfl) ?_
  show Ev g _ _ _ _ _ _ 5 [some (x_r (16 * 32 + 0)), some (x_i a), some (x_i b)] [x_i v1] (al, ro, fl (ml M [32] [S])) _ _ _ _
  refine e_iconst (pc := 5) dX12_farOf_5 (x_R rfl) ?_
  refine e_aloadn (pc := 6) (i := 0) dX12_farOf_6 rfl rfl ?_
  refine f_getr (pc := 7) (u := 32) (q := 0) dX12_farOf_7 xf12_7 (sa_32_0 hs) rfl (sr_32_0_1 hs) ?_
  refine e_bipush (pc := 10) dX12_farOf_10 (by decide +kernel) (x_R rfl) ?_
  refine f_iald (pc := 12) (k := 0) (u := 32) (q := 1) (len := 772) dX12_farOf_12 (sa_32_1 hs) (by decide) hn rfl rfl (by decide) ?_
  show Ev g _ _ _ _ _ _ 13 [some (x_r (16 * 32 + 0)), some (x_i a), some (x_i b)] [x_i (S 1 9), x_i 1, x_i v1] (al, ro, fl (ml M [32] [S])) _ _ _ _
  obtain ⟨v3, hq3, hG⟩ := x_bd1 hG
  refine e_invS (pc := 13) (K1 := 0) (S1 := 0) (K := 0) (S := 0) (dd2 := 0) (av := [x_i 1, x_i (S 1 9)]) (st := [x_i v1]) dX12_farOf_13 xmX12_266 rfl (f_cal (M := M) (us2 := []) [] hn rfl trivial rfl rfl rfl (c_X12_greater hst hs   hq3)) (by decide) (Nat.le_of_ble_eq_true rfl) (Or.inl rfl) ?_
  show Ev g _ _ _ _ _ _ 16 [some (x_r (16 * 32 + 0)), some (x_i a), some (x_i b)] [x_i v3, x_i v1] (al, ro, fl (ml M [32] [S])) _ _ _ _
  refine e_iloadn (pc := 16) (i := 1) dX12_farOf_16 rfl rfl ?_
  refine e_bipush (pc := 17) dX12_farOf_17 (by decide +kernel) (x_R rfl) ?_
  refine e_iadd (pc := 19) dX12_farOf_19 ?_
  refine e_bipush (pc := 20) dX12_farOf_20 (by decide +kernel) (x_R rfl) ?_
  refine e_irem (pc := 22) dX12_farOf_22 (by decide) ?_
  refine e_iloadn (pc := 23) (i := 2) dX12_farOf_23 rfl rfl ?_
  obtain ⟨v5, hq5, hG⟩ := x_bd1 hG
  refine e_invS (pc := 24) (K1 := 0) (S1 := 0) (K := 0) (S := 0) (dd2 := 1) (av := [x_i (x_rem (x_add a 8) 16), x_i b]) (st := [x_i v3, x_i v1]) dX12_farOf_24 xmX12_331 rfl (f_cal (M := M) (us2 := []) [] hn rfl trivial rfl rfl rfl (c_X12_steps hst hs   hq5)) (by decide) (Nat.le_of_ble_eq_true rfl) (Or.inl rfl) ?_
  show Ev g _ _ _ _ _ _ 27 [some (x_r (16 * 32 + 0)), some (x_i a), some (x_i b)] [x_i v5, x_i v3, x_i v1] (al, ro, fl (ml M [32] [S])) _ _ _ _
  refine e_iadd (pc := 27) dX12_farOf_27 ?_
  obtain ⟨v7, hq7, hG⟩ := x_bd1 hG
  refine e_invS (pc := 28) (K1 := 0) (S1 := 0) (K := 0) (S := 0) (dd2 := 0) (av := [x_i v1, x_i (x_add v3 v5)]) (st := []) dX12_farOf_28 xmX12_73 rfl (f_cal (M := M) (us2 := []) [] hn rfl trivial rfl rfl rfl (c_X12_lesser hst hs   hq7)) (by decide) (Nat.le_of_ble_eq_true rfl) (Or.inl rfl) ?_
  show Ev g _ _ _ _ _ _ 31 [some (x_r (16 * 32 + 0)), some (x_i a), some (x_i b)] [x_i v7] (al, ro, fl (ml M [32] [S])) _ _ _ _
  cases hG
  exact (e_ireturn rfl dX12_farOf_31 rfl)
set_option maxRecDepth 100000 in
set_option maxHeartbeats 4000000 in
theorem c_X12_far {g : xG} {al : List (Nat × Nat × Nat)} {ro : Nat → Nat → Option Nat} (hst : g.1.stackTraces = false) (hs : SH al ro) {M : Nat → xU} {a : Int} {b : Int} {S : xU}  {t : (Int × xU)} (hG : G12_far a b S = some t) :
    Cal g yX12_far cX12_far 3 (some .int) 3 [x_r (16 * 32 + 0), x_i a, x_i b] (al, ro, fl (ml M [32] [S])) 0 0 (.inl (some (x_i t.1))) (al, ro, fl (ml M [32] [t.2])) := by
  have hn : ([32] : List Nat).Nodup := by decide
  refine cal_of_ev (plainFor_of_name (by decide)) (x_c1 rfl) (Nat.le_of_ble_eq_true rfl) hst ?_
  show Ev g _ _ _ _ _ _ 0 [some (x_r (16 * 32 + 0)), some (x_i a), some (x_i b)] [] (al, ro, fl (ml M [32] [S])) _ _ _ _
  rw [G12_far] at hG
  refine e_aloadn (pc := 0) (i := 0) dX12_far_0 rfl rfl ?_
  refine e_iloadn (pc := 1) (i := 1) dX12_far_1 rfl rfl ?_
  obtain ⟨v1, hq1, hG⟩ := x_bd1 hG
  refine e_invS (pc := 2) (K1 := 0) (S1 := 0) (K := 0) (S := 0) (dd2 := 1) (av := [x_i a]) (st := [x_r (16 * 32 + 0)]) dX12_far_2 xmX12_304 rfl (f_cal (M := M) (us2 := []) [] hn rfl trivial rfl rfl rfl (c_X12_isFlag hst hs   hq1)) (by decide) (Nat.le_of_ble_eq_true rfl) (Or.inl rfl) ?_
  show Ev g _ _ _ _ _ _ 5 [some (x_r (16 * 32 + 0)), some (x_i a), some (x_i b)] [x_i v1, x_r (16 * 32 + 0)] (al, ro, fl (ml M [32] [S])) _ _ _ _
  obtain ⟨v3, hr3, hG⟩ := x_bd1 hG
  have hjhr3 : Ev g yX12_far cX12_far 3 (some .int) [] 3 20 [some (x_r (16 * 32 + 0)), some (x_i a), some (x_i b)] [x_i v3, x_r (16 * 32 + 0)] (al, ro, fl (ml M [32] [S])) 0 0 (.inl (some (x_i t.1))) (al, ro, fl (ml M [32] [t.2])) := by
    refine f_puti (pc := 20) (k := 0) (u := 32) (q := 0) dX12_far_20 xf12_58 xw10_0 (sa_32_0 hs) hn rfl rfl rfl (by decide) ?_
    show Ev g _ _ _ _ _ _ 23 [some (x_r (16 * 32 + 0)), some (x_i a), some (x_i b)] [] (al, ro, fl (ml M [32] [(x_up S 0 0 v3)])) _ _ _ _
    refine e_aloadn (pc := 23) (i := 0) dX12_far_23 rfl rfl ?_
    refine f_geti (pc := 24) (k := 0) (u := 32) (q := 0) dX12_far_24 xf12_58 (sa_32_0 hs) rfl hn rfl rfl (by decide) ?_
    show Ev g _ _ _ _ _ _ 27 [some (x_r (16 * 32 + 0)), some (x_i a), some (x_i b)] [x_i ((x_up S 0 0 v3) 0 0)] (al, ro, fl (ml M [32] [(x_up S 0 0 v3)])) _ _ _ _
    obtain ⟨v7, hr7, hG⟩ := x_bd1 hG
    have hjhr7 : Ev g yX12_far cX12_far 3 (some .int) [] 3 40 [some (x_r (16 * 32 + 0)), some (x_i a), some (x_i b)] [x_i v7] (al, ro, fl (ml M [32] [(x_up S 0 0 v3)])) 0 0 (.inl (some (x_i t.1))) (al, ro, fl (ml M [32] [t.2])) := by
      cases hG
      exact (e_ireturn rfl dX12_far_40 rfl)
    clear hG
    refine e_if_le (pc := 27) (tgt := 34) dX12_far_27 (by decide) (fun hb => ?_) (fun hb => ?_)
    · rw [if_pos hb] at hr7
      refine e_aloadn (pc := 34) (i := 0) dX12_far_34 rfl rfl ?_
      refine e_iloadn (pc := 35) (i := 1) dX12_far_35 rfl rfl ?_
      refine e_iloadn (pc := 36) (i := 2) dX12_far_36 rfl rfl ?_
      obtain ⟨v9, hq9, hr7⟩ := x_bd1 hr7
      refine e_invV (pc := 37) (K1 := 0) (S1 := 0) (K := 0) (S := 0) (dd2 := 2) (av := [x_i a, x_i b]) (st := []) (id := 16 * 32 + 0) dX12_far_37 xmX12_334 rfl (Or.inl ⟨10, 27, TX12, (sa_32_0 hs), rfl, by decide⟩) (f_cal (M := M) (us2 := [32]) [0] hn rfl (And.intro rfl trivial) rfl rfl rfl (c_X12_farOf hst hs   hq9)) (by decide) (Nat.le_of_ble_eq_true rfl) (Or.inl rfl) ?_
      show Ev g _ _ _ _ _ _ 40 [some (x_r (16 * 32 + 0)), some (x_i a), some (x_i b)] [x_i v9] (al, ro, fl (ml M [32] [(x_up S 0 0 v3)])) _ _ _ _
      cases hr7
      exact hjhr7
    · rw [if_neg hb] at hr7
      refine e_iconst (pc := 30) dX12_far_30 (x_R rfl) ?_
      refine e_goto (pc := 31) (tgt := 40) dX12_far_31 (by decide) ?_
      cases hr7
      exact hjhr7
  clear hG
  refine e_if_eq (pc := 5) (tgt := 15) dX12_far_5 (by decide) (fun hb => ?_) (fun hb => ?_)
  · rw [if_pos hb] at hr3
    refine e_iconst (pc := 15) dX12_far_15 (x_R rfl) ?_
    refine e_goto (pc := 16) (tgt := 20) dX12_far_16 (by decide) ?_
    cases hr3
    exact hjhr3
  · rw [if_neg hb] at hr3
    refine e_iloadn (pc := 8) (i := 2) dX12_far_8 rfl rfl ?_
    obtain ⟨v5, hq5, hr3⟩ := x_bd1 hr3
    refine e_invS (pc := 9) (K1 := 0) (S1 := 0) (K := 0) (S := 0) (dd2 := 1) (av := [x_i b]) (st := [x_r (16 * 32 + 0)]) dX12_far_9 xmX12_304 rfl (f_cal (M := M) (us2 := []) [] hn rfl trivial rfl rfl rfl (c_X12_isFlag hst hs   hq5)) (by decide) (Nat.le_of_ble_eq_true rfl) (Or.inl rfl) ?_
    show Ev g _ _ _ _ _ _ 12 [some (x_r (16 * 32 + 0)), some (x_i a), some (x_i b)] [x_i v5, x_r (16 * 32 + 0)] (al, ro, fl (ml M [32] [S])) _ _ _ _
    refine e_if_ne (pc := 12) (tgt := 19) dX12_far_12 (by decide) (fun hb => ?_) (fun hb => ?_)
    · rw [if_neg hb] at hr3
      refine e_iconst (pc := 19) dX12_far_19 (x_R rfl) ?_
      cases hr3
      exact hjhr3
    · rw [if_pos hb] at hr3
      refine e_iconst (pc := 15) dX12_far_15 (x_R rfl) ?_
      refine e_goto (pc := 16) (tgt := 20) dX12_far_16 (by decide) ?_
      cases hr3
      exact hjhr3
set_option maxRecDepth 100000 in
set_option maxHeartbeats 4000000 in
theorem c_X12_areFlags {g : xG} {al : List (Nat × Nat × Nat)} {ro : Nat → Nat → Option Nat} (hst : g.1.stackTraces = false) (hs : SH al ro) {M : Nat → xU} {a : Int} {S : xU}  {t : Int} (hG : G12_areFlags a S = some t) :
    Cal g yX12_areFlags cX12_areFlags 5 (some .boolean) 1 [x_r (16 * 32 + 0), x_i a] (al, ro, fl (ml M [32] [S])) 0 0 (.inl (some (x_i t))) (al, ro, fl (ml M [32] [S])) := by
  have hn : ([32] : List Nat).Nodup := by decide
  refine cal_of_ev (plainFor_of_name (by decide)) (x_c1 rfl) (Nat.le_of_ble_eq_true rfl) hst ?_
  show Ev g _ _ _ _ _ _ 0 [some (x_r (16 * 32 + 0)), some (x_i a), none, none, none] [] (al, ro, fl (ml M [32] [S])) _ _ _ _
  rw [G12_areFlags] at hG
  refine e_iloadn (pc := 0) (i := 1) dX12_areFlags_0 rfl rfl ?_
  refine e_bipush (pc := 1) dX12_areFlags_1 (by decide +kernel) (x_R rfl) ?_
  obtain ⟨v1, hr1, hG⟩ := x_bd1 hG
  have hjhr1 : Ev g yX12_areFlags cX12_areFlags 5 (some .boolean) [] 1 11 [some (x_r (16 * 32 + 0)), some (x_i a), none, none, none] [x_i v1] (al, ro, fl (ml M [32] [S])) 0 0 (.inl (some (x_i t))) (al, ro, fl (ml M [32] [S])) := by
    refine e_istoren (pc := 11) (i := 2) dX12_areFlags_11 rfl (by decide) rfl ?_
    show Ev g _ _ _ _ _ _ 12 [some (x_r (16 * 32 + 0)), some (x_i a), some (x_i v1), none, none] [] (al, ro, fl (ml M [32] [S])) _ _ _ _
    refine e_iconst (pc := 12) dX12_areFlags_12 (x_R rfl) ?_
    refine e_istoren (pc := 13) (i := 3) dX12_areFlags_13 rfl (by decide) rfl ?_
    show Ev g _ _ _ _ _ _ 14 [some (x_r (16 * 32 + 0)), some (x_i a), some (x_i v1), some (x_i 0), none] [] (al, ro, fl (ml M [32] [S])) _ _ _ _
    refine e_iconst (pc := 14) dX12_areFlags_14 (x_R rfl) ?_
    refine e_istore (pc := 15) (i := 4) dX12_areFlags_15 (by decide) rfl ?_
    show Ev g _ _ _ _ _ _ 17 [some (x_r (16 * 32 + 0)), some (x_i a), some (x_i v1), some (x_i 0), some (x_i 0)] [] (al, ro, fl (ml M [32] [S])) _ _ _ _
    obtain ⟨v6, hl7, hG⟩ := x_bd1 hG
    have hk7 : ∀ q : Int, q = v6 → Ev g yX12_areFlags cX12_areFlags 5 (some .boolean) [] 1 85 [some (x_r (16 * 32 + 0)), some (x_i a), some (x_i q), none, none] [] (al, ro, fl (ml M [32] [S])) 0 0 (.inl (some (x_i t))) (al, ro, fl (ml M [32] [S])) := by
      intro q hq
      replace hq := hq.symm
      subst hq
      refine e_iloadn (pc := 85) (i := 2) dX12_areFlags_85 rfl rfl ?_
      obtain ⟨hc0, hG⟩ := x_gd_some hG
      cases hG
      exact (e_ireturn rfl dX12_areFlags_86 (x_bool hc0).1)
    clear hG
    refine e_whl (G12_areFlags_L17 a S) (fun z : (Int × Int × Int) => Ev g yX12_areFlags cX12_areFlags 5 (some .boolean) [] 1 17 [some (x_r (16 * 32 + 0)), some (x_i a), some (x_i z.1), some (x_i z.2.1), some (x_i z.2.2)] [] (al, ro, fl (ml M [32] [S])) 0 0 (.inl (some (x_i t))) (al, ro, fl (ml M [32] [S]))) (fun q => q = v6) ?_ xFU (v1, 0, 0) _ hl7 rfl
    intro z t7 hf7 hi7 hx7
    obtain ⟨v3, v4, v5⟩ := z
    rw [G12_areFlags_L17] at hf7
    show Ev g _ _ _ _ _ _ 17 [some (x_r (16 * 32 + 0)), some (x_i a), some (x_i v3), some (x_i v4), some (x_i v5)] [] (al, ro, fl (ml M [32] [S])) _ _ _ _
    refine e_iload (pc := 17) dX12_areFlags_17 rfl ?_
    refine e_iloadn (pc := 19) (i := 1) dX12_areFlags_19 rfl rfl ?_
    refine e_icmp_ge (pc := 20) (tgt := 85) dX12_areFlags_20 (by decide) (fun hb => ?_) (fun hb => ?_)
    · rw [if_pos hb] at hf7
      cases hf7
      refine e_drop (i := 3) ?_
      refine e_drop (i := 4) ?_
      have hh := hk7 _ (hx7 _ rfl)
      try dsimp only at hh
      exact hh
    · rw [if_neg hb] at hf7
      refine e_iloadn (pc := 23) (i := 2) dX12_areFlags_23 rfl rfl ?_
      refine e_if_eq (pc := 24) (tgt := 85) dX12_areFlags_24 (by decide) (fun hb => ?_) (fun hb => ?_)
      · rw [if_pos hb] at hf7
        cases hf7
        refine e_drop (i := 3) ?_
        refine e_drop (i := 4) ?_
        have hh := hk7 _ (hx7 _ rfl)
        try dsimp only at hh
        exact hh
      · rw [if_neg hb] at hf7
        refine e_aloadn (pc := 27) (i := 0) dX12_areFlags_27 rfl rfl ?_
        refine f_getr (pc := 28) (u := 32) (q := 0) dX12_areFlags_28 xf12_22 (sa_32_0 hs) rfl (sr_32_0_7 hs) ?_
        refine e_iload (pc := 31) dX12_areFlags_31 rfl ?_
        obtain ⟨hc0, hf7⟩ := x_gd_some hf7
        refine f_iald (pc := 33) (k := 0) (u := 32) (q := 5) (len := 400) dX12_areFlags_33 (sa_32_5 hs) hc0 hn rfl rfl (by decide) ?_
        show Ev g _ _ _ _ _ _ 34 [some (x_r (16 * 32 + 0)), some (x_i a), some (x_i v3), some (x_i v4), some (x_i v5)] [x_i (S 5 (v5).toNat)] (al, ro, fl (ml M [32] [S])) _ _ _ _
        refine e_bipush (pc := 34) dX12_areFlags_34 (by decide +kernel) (x_R rfl) ?_
        obtain ⟨v9, hr9, hf7⟩ := x_bd1 hf7
        have hjhr9 : Ev g yX12_areFlags cX12_areFlags 5 (some .boolean) [] 1 58 [some (x_r (16 * 32 + 0)), some (x_i a), some (x_i v3), some (x_i v4), some (x_i v5)] [x_i v9] (al, ro, fl (ml M [32] [S])) 0 0 (.inl (some (x_i t))) (al, ro, fl (ml M [32] [S])) := by
          refine e_istoren (pc := 58) (i := 2) dX12_areFlags_58 rfl (by decide) rfl ?_
          show Ev g _ _ _ _ _ _ 59 [some (x_r (16 * 32 + 0)), some (x_i a), some (x_i v9), some (x_i v4), some (x_i v5)] [] (al, ro, fl (ml M [32] [S])) _ _ _ _
          refine e_iloadn (pc := 59) (i := 3) dX12_areFlags_59 rfl rfl ?_
          refine e_iloadn (pc := 60) (i := 2) dX12_areFlags_60 rfl rfl ?_
          obtain ⟨v13, hr13, hf7⟩ := x_bd1 hf7
          have hjhr13 : Ev g yX12_areFlags cX12_areFlags 5 (some .boolean) [] 1 77 [some (x_r (16 * 32 + 0)), some (x_i a), some (x_i v9), some (x_i v4), some (x_i v5)] [x_i v13, x_i v4] (al, ro, fl (ml M [32] [S])) 0 0 (.inl (some (x_i t))) (al, ro, fl (ml M [32] [S])) := by
            refine e_ior (pc := 77) dX12_areFlags_77 ?_
            refine e_istoren (pc := 78) (i := 3) dX12_areFlags_78 rfl (by decide) rfl ?_
            show Ev g _ _ _ _ _ _ 79 [some (x_r (16 * 32 + 0)), some (x_i a), some (x_i v9), some (x_i (x_or v4 v13)), some (x_i v5)] [] (al, ro, fl (ml M [32] [S])) _ _ _ _
            refine e_iinc (pc := 79) dX12_areFlags_79 rfl (by decide) rfl ?_
            show Ev g _ _ _ _ _ _ 82 [some (x_r (16 * 32 + 0)), some (x_i a), some (x_i v9), some (x_i (x_or v4 v13)), some (x_i (x_add v5 1))] [] (al, ro, fl (ml M [32] [S])) _ _ _ _
            refine e_goto (pc := 82) (tgt := 17) dX12_areFlags_82 (by decide) ?_
            cases hf7
            have hh := hi7 _ rfl
            try dsimp only at hh
            exact hh
          clear hf7
          refine e_if_eq (pc := 61) (tgt := 76) dX12_areFlags_61 (by decide) (fun hb => ?_) (fun hb => ?_)
          · rw [if_pos hb] at hr13
            refine e_iconst (pc := 76) dX12_areFlags_76 (x_R rfl) ?_
            cases hr13
            exact hjhr13
          · rw [if_neg hb] at hr13
            refine e_iconst (pc := 64) dX12_areFlags_64 (x_R rfl) ?_
            refine e_aloadn (pc := 65) (i := 0) dX12_areFlags_65 rfl rfl ?_
            refine f_getr (pc := 66) (u := 32) (q := 0) dX12_areFlags_66 xf12_22 (sa_32_0 hs) rfl (sr_32_0_7 hs) ?_
            refine e_iload (pc := 69) dX12_areFlags_69 rfl ?_
            obtain ⟨hc0, hr13⟩ := x_gd_some hr13
            refine f_iald (pc := 71) (k := 0) (u := 32) (q := 5) (len := 400) dX12_areFlags_71 (sa_32_5 hs) hc0 hn rfl rfl (by decide) ?_
            show Ev g _ _ _ _ _ _ 72 [some (x_r (16 * 32 + 0)), some (x_i a), some (x_i v9), some (x_i v4), some (x_i v5)] [x_i (S 5 (v5).toNat), x_i 1, x_i v4] (al, ro, fl (ml M [32] [S])) _ _ _ _
            refine e_ishl (pc := 72) dX12_areFlags_72 ?_
            refine e_goto (pc := 73) (tgt := 77) dX12_areFlags_73 (by decide) ?_
            cases hr13
            exact hjhr13
        clear hf7
        refine e_icmp_ge (pc := 36) (tgt := 57) dX12_areFlags_36 (by decide) (fun hb => ?_) (fun hb => ?_)
        · rw [if_pos hb] at hr9
          refine e_iconst (pc := 57) dX12_areFlags_57 (x_R rfl) ?_
          cases hr9
          exact hjhr9
        · rw [if_neg hb] at hr9
          refine e_iloadn (pc := 39) (i := 3) dX12_areFlags_39 rfl rfl ?_
          refine e_aloadn (pc := 40) (i := 0) dX12_areFlags_40 rfl rfl ?_
          refine f_getr (pc := 41) (u := 32) (q := 0) dX12_areFlags_41 xf12_22 (sa_32_0 hs) rfl (sr_32_0_7 hs) ?_
          refine e_iload (pc := 44) dX12_areFlags_44 rfl ?_
          obtain ⟨hc0, hr9⟩ := x_gd_some hr9
          refine f_iald (pc := 46) (k := 0) (u := 32) (q := 5) (len := 400) dX12_areFlags_46 (sa_32_5 hs) hc0 hn rfl rfl (by decide) ?_
          show Ev g _ _ _ _ _ _ 47 [some (x_r (16 * 32 + 0)), some (x_i a), some (x_i v3), some (x_i v4), some (x_i v5)] [x_i (S 5 (v5).toNat), x_i v4] (al, ro, fl (ml M [32] [S])) _ _ _ _
          obtain ⟨v11, hq11, hr9⟩ := x_bd1 hr9
          refine e_invS (pc := 47) (K1 := 0) (S1 := 0) (K := 0) (S := 0) (dd2 := 0) (av := [x_i v4, x_i (S 5 (v5).toNat)]) (st := []) dX12_areFlags_47 xmX12_119 rfl (f_cal (M := M) (us2 := []) [] hn rfl trivial rfl rfl rfl (c_X12_isOf hst hs   hq11)) (by decide) (Nat.le_of_ble_eq_true rfl) (Or.inl rfl) ?_
          show Ev g _ _ _ _ _ _ 50 [some (x_r (16 * 32 + 0)), some (x_i a), some (x_i v3), some (x_i v4), some (x_i v5)] [x_i v11] (al, ro, fl (ml M [32] [S])) _ _ _ _
          refine e_if_ne (pc := 50) (tgt := 57) dX12_areFlags_50 (by decide) (fun hb => ?_) (fun hb => ?_)
          · rw [if_neg hb] at hr9
            refine e_iconst (pc := 57) dX12_areFlags_57 (x_R rfl) ?_
            cases hr9
            exact hjhr9
          · rw [if_pos hb] at hr9
            refine e_iconst (pc := 53) dX12_areFlags_53 (x_R rfl) ?_
            refine e_goto (pc := 54) (tgt := 58) dX12_areFlags_54 (by decide) ?_
            cases hr9
            exact hjhr9
  clear hG
  refine e_icmp_gt (pc := 3) (tgt := 10) dX12_areFlags_3 (by decide) (fun hb => ?_) (fun hb => ?_)
  · rw [if_pos hb] at hr1
    refine e_iconst (pc := 10) dX12_areFlags_10 (x_R rfl) ?_
    cases hr1
    exact hjhr1
  · rw [if_neg hb] at hr1
    refine e_iconst (pc := 6) dX12_areFlags_6 (x_R rfl) ?_
    refine e_goto (pc := 7) (tgt := 11) dX12_areFlags_7 (by decide) ?_
    cases hr1
    exact hjhr1
set_option maxRecDepth 100000 in
set_option maxHeartbeats 4000000 in
theorem c_X12_roadsOf {g : xG} {al : List (Nat × Nat × Nat)} {ro : Nat → Nat → Option Nat} (hst : g.1.stackTraces = false) (hs : SH al ro) {M : Nat → xU} {a : Int} {S : xU}  {t : xU} (hG : G12_roadsOf a S = some t) :
    Cal g yX12_roadsOf cX12_roadsOf 6 none 3 [x_r (16 * 32 + 0), x_i a] (al, ro, fl (ml M [32] [S])) 0 0 (.inl none) (al, ro, fl (ml M [32] [t])) := by
  have hn : ([32] : List Nat).Nodup := by decide
  refine cal_of_ev (plainFor_of_name (by decide)) (x_c1 rfl) (Nat.le_of_ble_eq_true rfl) hst ?_
  show Ev g _ _ _ _ _ _ 0 [some (x_r (16 * 32 + 0)), some (x_i a), none, none, none, none] [] (al, ro, fl (ml M [32] [S])) _ _ _ _
  rw [G12_roadsOf] at hG
  refine e_iconst (pc := 0) dX12_roadsOf_0 (x_R rfl) ?_
  refine e_iloadn (pc := 1) (i := 1) dX12_roadsOf_1 rfl rfl ?_
  refine e_ishl (pc := 2) dX12_roadsOf_2 ?_
  refine e_iconst (pc := 3) dX12_roadsOf_3 (x_R rfl) ?_
  refine e_isub (pc := 4) dX12_roadsOf_4 ?_
  refine e_istoren (pc := 5) (i := 2) dX12_roadsOf_5 rfl (by decide) rfl ?_
  show Ev g _ _ _ _ _ _ 6 [some (x_r (16 * 32 + 0)), some (x_i a), some (x_i (x_sub (x_shl 1 a) 1)), none, none, none] [] (al, ro, fl (ml M [32] [S])) _ _ _ _
  obtain ⟨S3, hl4, hG⟩ := x_bd1 hG
  have hk4 : ∀ q : xU, q = S3 → Ev g yX12_roadsOf cX12_roadsOf 6 none [] 3 126 [some (x_r (16 * 32 + 0)), some (x_i a), none, none, none, none] [] (al, ro, fl (ml M [32] [q])) 0 0 (.inl none) (al, ro, fl (ml M [32] [t])) := by
    intro q hq
    replace hq := hq.symm
    subst hq
    cases hG
    exact (e_return rfl dX12_roadsOf_126)
  clear hG
  refine e_whl (G12_roadsOf_L6 a) (fun z : (Int × xU) => Ev g yX12_roadsOf cX12_roadsOf 6 none [] 3 6 [some (x_r (16 * 32 + 0)), some (x_i a), some (x_i z.1), none, none, none] [] (al, ro, fl (ml M [32] [z.2])) 0 0 (.inl none) (al, ro, fl (ml M [32] [t]))) (fun q => q = S3) ?_ xFU ((x_sub (x_shl 1 a) 1), S) _ hl4 rfl
  intro z t4 hf4 hi4 hx4
  obtain ⟨v1, S2⟩ := z
  rw [G12_roadsOf_L6] at hf4
  show Ev g _ _ _ _ _ _ 6 [some (x_r (16 * 32 + 0)), some (x_i a), some (x_i v1), none, none, none] [] (al, ro, fl (ml M [32] [S2])) _ _ _ _
  refine e_iloadn (pc := 6) (i := 2) dX12_roadsOf_6 rfl rfl ?_
  refine e_if_lt (pc := 7) (tgt := 126) dX12_roadsOf_7 (by decide) (fun hb => ?_) (fun hb => ?_)
  · rw [if_pos hb] at hf4
    cases hf4
    refine e_drop (i := 2) ?_
    have hh := hk4 _ (hx4 _ rfl)
    try dsimp only at hh
    exact hh
  · rw [if_neg hb] at hf4
    refine e_iconst (pc := 10) dX12_roadsOf_10 (x_R rfl) ?_
    refine e_istoren (pc := 11) (i := 3) dX12_roadsOf_11 rfl (by decide) rfl ?_
    show Ev g _ _ _ _ _ _ 12 [some (x_r (16 * 32 + 0)), some (x_i a), some (x_i v1), some (x_i 0), none, none] [] (al, ro, fl (ml M [32] [S2])) _ _ _ _
    obtain ⟨S8, hl9, hf4⟩ := x_bd1 hf4
    have hk9 : ∀ q : xU, q = S8 → Ev g yX12_roadsOf cX12_roadsOf 6 none [] 3 120 [some (x_r (16 * 32 + 0)), some (x_i a), some (x_i v1), none, none, none] [] (al, ro, fl (ml M [32] [q])) 0 0 (.inl none) (al, ro, fl (ml M [32] [t])) := by
      intro q hq
      replace hq := hq.symm
      subst hq
      refine e_iinc (pc := 120) dX12_roadsOf_120 rfl (by decide) rfl ?_
      show Ev g _ _ _ _ _ _ 123 [some (x_r (16 * 32 + 0)), some (x_i a), some (x_i (x_add v1 (-1))), none, none, none] [] (al, ro, fl (ml M [32] [S8])) _ _ _ _
      refine e_goto (pc := 123) (tgt := 6) dX12_roadsOf_123 (by decide) ?_
      cases hf4
      have hh := hi4 _ rfl
      try dsimp only at hh
      exact hh
    clear hf4
    refine e_whl (G12_roadsOf_L12 a v1) (fun z : (Int × xU) => Ev g yX12_roadsOf cX12_roadsOf 6 none [] 3 12 [some (x_r (16 * 32 + 0)), some (x_i a), some (x_i v1), some (x_i z.1), none, none] [] (al, ro, fl (ml M [32] [z.2])) 0 0 (.inl none) (al, ro, fl (ml M [32] [t]))) (fun q => q = S8) ?_ xFU (0, S2) _ hl9 rfl
    intro z t9 hf9 hi9 hx9
    obtain ⟨v6, S7⟩ := z
    rw [G12_roadsOf_L12] at hf9
    show Ev g _ _ _ _ _ _ 12 [some (x_r (16 * 32 + 0)), some (x_i a), some (x_i v1), some (x_i v6), none, none] [] (al, ro, fl (ml M [32] [S7])) _ _ _ _
    refine e_iloadn (pc := 12) (i := 3) dX12_roadsOf_12 rfl rfl ?_
    refine e_iloadn (pc := 13) (i := 1) dX12_roadsOf_13 rfl rfl ?_
    refine e_icmp_ge (pc := 14) (tgt := 120) dX12_roadsOf_14 (by decide) (fun hb => ?_) (fun hb => ?_)
    · rw [if_pos hb] at hf9
      cases hf9
      refine e_drop (i := 3) ?_
      have hh := hk9 _ (hx9 _ rfl)
      try dsimp only at hh
      exact hh
    · rw [if_neg hb] at hf9
      refine e_iloadn (pc := 17) (i := 2) dX12_roadsOf_17 rfl rfl ?_
      refine e_iconst (pc := 18) dX12_roadsOf_18 (x_R rfl) ?_
      refine e_iloadn (pc := 19) (i := 1) dX12_roadsOf_19 rfl rfl ?_
      refine e_ishl (pc := 20) dX12_roadsOf_20 ?_
      refine e_iconst (pc := 21) dX12_roadsOf_21 (x_R rfl) ?_
      refine e_isub (pc := 22) dX12_roadsOf_22 ?_
      obtain ⟨v11, hr11, hf9⟩ := x_bd1 hf9
      have hjhr11 : Ev g yX12_roadsOf cX12_roadsOf 6 none [] 3 33 [some (x_r (16 * 32 + 0)), some (x_i a), some (x_i v1), some (x_i v6), none, none] [x_i v11] (al, ro, fl (ml M [32] [S7])) 0 0 (.inl none) (al, ro, fl (ml M [32] [t])) := by
        refine e_istore (pc := 33) (i := 4) dX12_roadsOf_33 (by decide) rfl ?_
        show Ev g _ _ _ _ _ _ 35 [some (x_r (16 * 32 + 0)), some (x_i a), some (x_i v1), some (x_i v6), some (x_i v11), none] [] (al, ro, fl (ml M [32] [S7])) _ _ _ _
        refine e_iconst (pc := 35) dX12_roadsOf_35 (x_R rfl) ?_
        refine e_istore (pc := 36) (i := 5) dX12_roadsOf_36 (by decide) rfl ?_
        show Ev g _ _ _ _ _ _ 38 [some (x_r (16 * 32 + 0)), some (x_i a), some (x_i v1), some (x_i v6), some (x_i v11), some (x_i 0)] [] (al, ro, fl (ml M [32] [S7])) _ _ _ _
        obtain ⟨v15, hl16, hf9⟩ := x_bd1 hf9
        have hk16 : ∀ q : Int, q = v15 → Ev g yX12_roadsOf cX12_roadsOf 6 none [] 3 101 [some (x_r (16 * 32 + 0)), some (x_i a), some (x_i v1), some (x_i v6), some (x_i q), none] [] (al, ro, fl (ml M [32] [S7])) 0 0 (.inl none) (al, ro, fl (ml M [32] [t])) := by
          intro q hq
          replace hq := hq.symm
          subst hq
          refine e_aloadn (pc := 101) (i := 0) dX12_roadsOf_101 rfl rfl ?_
          refine f_getr (pc := 102) (u := 32) (q := 0) dX12_roadsOf_102 xf12_42 (sa_32_0 hs) rfl (sr_32_0_22 hs) ?_
          refine e_bipush (pc := 105) dX12_roadsOf_105 (by decide +kernel) (x_R rfl) ?_
          refine e_iloadn (pc := 107) (i := 2) dX12_roadsOf_107 rfl rfl ?_
          refine e_imul (pc := 108) dX12_roadsOf_108 ?_
          refine e_iloadn (pc := 109) (i := 3) dX12_roadsOf_109 rfl rfl ?_
          refine e_iadd (pc := 110) dX12_roadsOf_110 ?_
          refine e_iload (pc := 111) dX12_roadsOf_111 rfl ?_
          obtain ⟨hc0, hf9⟩ := x_gd_some hf9
          refine f_iast (pc := 113) (k := 0) (u := 32) (q := 10) (len := 1024) dX12_roadsOf_113 (sa_32_10 hs) hc0 hn rfl rfl rfl (by decide) ?_
          show Ev g _ _ _ _ _ _ 114 [some (x_r (16 * 32 + 0)), some (x_i a), some (x_i v1), some (x_i v6), some (x_i v15), none] [] (al, ro, fl (ml M [32] [(x_up S7 10 ((x_add (x_mul 8 v1) v6)).toNat v15)])) _ _ _ _
          refine e_iinc (pc := 114) dX12_roadsOf_114 rfl (by decide) rfl ?_
          show Ev g _ _ _ _ _ _ 117 [some (x_r (16 * 32 + 0)), some (x_i a), some (x_i v1), some (x_i (x_add v6 1)), some (x_i v15), none] [] (al, ro, fl (ml M [32] [(x_up S7 10 ((x_add (x_mul 8 v1) v6)).toNat v15)])) _ _ _ _
          refine e_goto (pc := 117) (tgt := 12) dX12_roadsOf_117 (by decide) ?_
          cases hf9
          refine e_drop (i := 4) ?_
          have hh := hi9 _ rfl
          try dsimp only at hh
          exact hh
        clear hf9
        refine e_whl (G12_roadsOf_L38 a v1 v6 S7) (fun z : (Int × Int) => Ev g yX12_roadsOf cX12_roadsOf 6 none [] 3 38 [some (x_r (16 * 32 + 0)), some (x_i a), some (x_i v1), some (x_i v6), some (x_i z.1), some (x_i z.2)] [] (al, ro, fl (ml M [32] [S7])) 0 0 (.inl none) (al, ro, fl (ml M [32] [t]))) (fun q => q = v15) ?_ xFU (v11, 0) _ hl16 rfl
        intro z t16 hf16 hi16 hx16
        obtain ⟨v13, v14⟩ := z
        rw [G12_roadsOf_L38] at hf16
        show Ev g _ _ _ _ _ _ 38 [some (x_r (16 * 32 + 0)), some (x_i a), some (x_i v1), some (x_i v6), some (x_i v13), some (x_i v14)] [] (al, ro, fl (ml M [32] [S7])) _ _ _ _
        refine e_iload (pc := 38) dX12_roadsOf_38 rfl ?_
        refine e_iloadn (pc := 40) (i := 1) dX12_roadsOf_40 rfl rfl ?_
        refine e_icmp_ge (pc := 41) (tgt := 101) dX12_roadsOf_41 (by decide) (fun hb => ?_) (fun hb => ?_)
        · rw [if_pos hb] at hf16
          cases hf16
          refine e_drop (i := 5) ?_
          have hh := hk16 _ (hx16 _ rfl)
          try dsimp only at hh
          exact hh
        · rw [if_neg hb] at hf16
          refine e_iloadn (pc := 44) (i := 2) dX12_roadsOf_44 rfl rfl ?_
          refine e_iload (pc := 45) dX12_roadsOf_45 rfl ?_
          obtain ⟨v18, hq18, hf16⟩ := x_bd1 hf16
          refine e_invS (pc := 47) (K1 := 0) (S1 := 0) (K := 0) (S := 0) (dd2 := 0) (av := [x_i v1, x_i v14]) (st := []) dX12_roadsOf_47 xmX12_119 rfl (f_cal (M := M) (us2 := []) [] hn rfl trivial rfl rfl rfl (c_X12_isOf hst hs   hq18)) (by decide) (Nat.le_of_ble_eq_true rfl) (Or.inl rfl) ?_
          show Ev g _ _ _ _ _ _ 50 [some (x_r (16 * 32 + 0)), some (x_i a), some (x_i v1), some (x_i v6), some (x_i v13), some (x_i v14)] [x_i v18] (al, ro, fl (ml M [32] [S7])) _ _ _ _
          obtain ⟨v20, hr20, hf16⟩ := x_bd1 hf16
          have hjhr20 : Ev g yX12_roadsOf cX12_roadsOf 6 none [] 3 95 [some (x_r (16 * 32 + 0)), some (x_i a), some (x_i v1), some (x_i v6), some (x_i v20), some (x_i v14)] [] (al, ro, fl (ml M [32] [S7])) 0 0 (.inl none) (al, ro, fl (ml M [32] [t])) := by
            refine e_iinc (pc := 95) dX12_roadsOf_95 rfl (by decide) rfl ?_
            show Ev g _ _ _ _ _ _ 98 [some (x_r (16 * 32 + 0)), some (x_i a), some (x_i v1), some (x_i v6), some (x_i v20), some (x_i (x_add v14 1))] [] (al, ro, fl (ml M [32] [S7])) _ _ _ _
            refine e_goto (pc := 98) (tgt := 38) dX12_roadsOf_98 (by decide) ?_
            cases hf16
            have hh := hi16 _ rfl
            try dsimp only at hh
            exact hh
          clear hf16
          refine e_if_ne (pc := 50) (tgt := 95) dX12_roadsOf_50 (by decide) (fun hb => ?_) (fun hb => ?_)
          · rw [if_neg hb] at hr20
            cases hr20
            exact hjhr20
          · rw [if_pos hb] at hr20
            refine e_iload (pc := 53) dX12_roadsOf_53 rfl ?_
            refine e_aloadn (pc := 55) (i := 0) dX12_roadsOf_55 rfl rfl ?_
            refine e_aloadn (pc := 56) (i := 0) dX12_roadsOf_56 rfl rfl ?_
            refine f_getr (pc := 57) (u := 32) (q := 0) dX12_roadsOf_57 xf12_22 (sa_32_0 hs) rfl (sr_32_0_7 hs) ?_
            refine e_iloadn (pc := 60) (i := 3) dX12_roadsOf_60 rfl rfl ?_
            obtain ⟨hc0, hr20⟩ := x_gd_some hr20
            refine f_iald (pc := 61) (k := 0) (u := 32) (q := 5) (len := 400) dX12_roadsOf_61 (sa_32_5 hs) hc0 hn rfl rfl (by decide) ?_
            show Ev g _ _ _ _ _ _ 62 [some (x_r (16 * 32 + 0)), some (x_i a), some (x_i v1), some (x_i v6), some (x_i v13), some (x_i v14)] [x_i (S7 5 (v6).toNat), x_r (16 * 32 + 0), x_i v13] (al, ro, fl (ml M [32] [S7])) _ _ _ _
            refine e_aloadn (pc := 62) (i := 0) dX12_roadsOf_62 rfl rfl ?_
            refine f_getr (pc := 63) (u := 32) (q := 0) dX12_roadsOf_63 xf12_22 (sa_32_0 hs) rfl (sr_32_0_7 hs) ?_
            refine e_iload (pc := 66) dX12_roadsOf_66 rfl ?_
            obtain ⟨hc0, hr20⟩ := x_gd_some hr20
            refine f_iald (pc := 68) (k := 0) (u := 32) (q := 5) (len := 400) dX12_roadsOf_68 (sa_32_5 hs) hc0 hn rfl rfl (by decide) ?_
            show Ev g _ _ _ _ _ _ 69 [some (x_r (16 * 32 + 0)), some (x_i a), some (x_i v1), some (x_i v6), some (x_i v13), some (x_i v14)] [x_i (S7 5 (v14).toNat), x_i (S7 5 (v6).toNat), x_r (16 * 32 + 0), x_i v13] (al, ro, fl (ml M [32] [S7])) _ _ _ _
            obtain ⟨v22, hq22, hr20⟩ := x_bd1 hr20
            refine e_invV (pc := 69) (K1 := 0) (S1 := 0) (K := 0) (S := 0) (dd2 := 2) (av := [x_i (S7 5 (v6).toNat), x_i (S7 5 (v14).toNat)]) (st := [x_i v13]) (id := 16 * 32 + 0) dX12_roadsOf_69 xmX12_334 rfl (Or.inl ⟨10, 27, TX12, (sa_32_0 hs), rfl, by decide⟩) (f_cal (M := M) (us2 := [32]) [0] hn rfl (And.intro rfl trivial) rfl rfl rfl (c_X12_farOf hst hs   hq22)) (by decide) (Nat.le_of_ble_eq_true rfl) (Or.inl rfl) ?_
            show Ev g _ _ _ _ _ _ 72 [some (x_r (16 * 32 + 0)), some (x_i a), some (x_i v1), some (x_i v6), some (x_i v13), some (x_i v14)] [x_i v22, x_i v13] (al, ro, fl (ml M [32] [S7])) _ _ _ _
            refine e_aloadn (pc := 72) (i := 0) dX12_roadsOf_72 rfl rfl ?_
            refine f_getr (pc := 73) (u := 32) (q := 0) dX12_roadsOf_73 xf12_42 (sa_32_0 hs) rfl (sr_32_0_22 hs) ?_
            refine e_bipush (pc := 76) dX12_roadsOf_76 (by decide +kernel) (x_R rfl) ?_
            refine e_iloadn (pc := 78) (i := 2) dX12_roadsOf_78 rfl rfl ?_
            refine e_iconst (pc := 79) dX12_roadsOf_79 (x_R rfl) ?_
            refine e_iload (pc := 80) dX12_roadsOf_80 rfl ?_
            refine e_ishl (pc := 82) dX12_roadsOf_82 ?_
            refine e_ior (pc := 83) dX12_roadsOf_83 ?_
            refine e_imul (pc := 84) dX12_roadsOf_84 ?_
            refine e_iload (pc := 85) dX12_roadsOf_85 rfl ?_
            refine e_iadd (pc := 87) dX12_roadsOf_87 ?_
            obtain ⟨hc0, hr20⟩ := x_gd_some hr20
            refine f_iald (pc := 88) (k := 0) (u := 32) (q := 10) (len := 1024) dX12_roadsOf_88 (sa_32_10 hs) hc0 hn rfl rfl (by decide) ?_
            show Ev g _ _ _ _ _ _ 89 [some (x_r (16 * 32 + 0)), some (x_i a), some (x_i v1), some (x_i v6), some (x_i v13), some (x_i v14)] [x_i (S7 10 ((x_add (x_mul 8 (x_or v1 (x_shl 1 v14))) v14)).toNat), x_i v22, x_i v13] (al, ro, fl (ml M [32] [S7])) _ _ _ _
            refine e_iadd (pc := 89) dX12_roadsOf_89 ?_
            obtain ⟨v24, hq24, hr20⟩ := x_bd1 hr20
            refine e_invS (pc := 90) (K1 := 0) (S1 := 0) (K := 0) (S := 0) (dd2 := 0) (av := [x_i v13, x_i (x_add v22 (S7 10 ((x_add (x_mul 8 (x_or v1 (x_shl 1 v14))) v14)).toNat))]) (st := []) dX12_roadsOf_90 xmX12_73 rfl (f_cal (M := M) (us2 := []) [] hn rfl trivial rfl rfl rfl (c_X12_lesser hst hs   hq24)) (by decide) (Nat.le_of_ble_eq_true rfl) (Or.inl rfl) ?_
            show Ev g _ _ _ _ _ _ 93 [some (x_r (16 * 32 + 0)), some (x_i a), some (x_i v1), some (x_i v6), some (x_i v13), some (x_i v14)] [x_i v24] (al, ro, fl (ml M [32] [S7])) _ _ _ _
            refine e_istore (pc := 93) (i := 4) dX12_roadsOf_93 (by decide) rfl ?_
            show Ev g _ _ _ _ _ _ 95 [some (x_r (16 * 32 + 0)), some (x_i a), some (x_i v1), some (x_i v6), some (x_i v24), some (x_i v14)] [] (al, ro, fl (ml M [32] [S7])) _ _ _ _
            cases hr20
            exact hjhr20
      clear hf9
      refine e_icmp_ne (pc := 23) (tgt := 30) dX12_roadsOf_23 (by decide) (fun hb => ?_) (fun hb => ?_)
      · rw [if_neg hb] at hr11
        refine e_ldcw (pc := 30) dX12_roadsOf_30 xkX12_327 (x_R rfl) ?_
        cases hr11
        exact hjhr11
      · rw [if_pos hb] at hr11
        refine e_iconst (pc := 26) dX12_roadsOf_26 (x_R rfl) ?_
        refine e_goto (pc := 27) (tgt := 33) dX12_roadsOf_27 (by decide) ?_
        cases hr11
        exact hjhr11
