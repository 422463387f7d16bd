set_option maxRecDepth 100000 in
set_option maxHeartbeats 4000000 in
theorem c_X9_firstSeat {g : xG} {al : List (Nat × Nat × Nat)} {ro : Nat → Nat → Option Nat} (hst : g.1.stackTraces = false) (hs : SH al ro) {M : Nat → xU} {a : Int} {b : Int} {c : Int} {d : Int} {St : xU}  {t : Int} (hG : G9_firstSeat a b c d St = some t) :
    Cal g yX9_firstSeat cX9_firstSeat 6 (some .int) 2 [x_r (16 * 23 + 0), x_i a, x_i b, x_i c, x_i d] (al, ro, fl (ml M [23] [St])) 0 0 (.inl (some (x_i t))) (al, ro, fl (ml M [23] [St])) := by
  have hn : ([23] : List Nat).Nodup := by decide
  refine cal_of_ev (plainFor_of_name (by decide)) (x_c1 rfl) (Nat.le_of_ble_eq_true rfl) hst ?_
  show Ev g _ _ _ _ _ _ 0 [some (x_r (16 * 23 + 0)), some (x_i a), some (x_i b), some (x_i c), some (x_i d), none] [] (al, ro, fl (ml M [23] [St])) _ _ _ _
  rw [G9_firstSeat] at hG
  refine e_iconst (pc := 0) dX9_firstSeat_0 (x_R rfl) ?_
  refine e_istore (pc := 1) (i := 5) dX9_firstSeat_1 (by decide) rfl ?_
  show Ev g _ _ _ _ _ _ 3 [some (x_r (16 * 23 + 0)), some (x_i a), some (x_i b), some (x_i c), some (x_i d), some (x_i 0)] [] (al, ro, fl (ml M [23] [St])) _ _ _ _
  obtain ⟨r2, hl2, hG⟩ := x_lrd hG
  have hk2 : ∀ q : Unit, r2 = .inl q → Ev g yX9_firstSeat cX9_firstSeat 6 (some .int) [] 2 48 [some (x_r (16 * 23 + 0)), some (x_i a), some (x_i b), some (x_i c), some (x_i d), none] [] (al, ro, fl (ml M [23] [St])) 0 0 (.inl (some (x_i t))) (al, ro, fl (ml M [23] [St])) := by
    intro q hq
    subst hq
    replace hG := x_lr_l hG
    replace hG := x_ed1 hG
    refine e_iconst (pc := 48) dX9_firstSeat_48 (x_R rfl) ?_
    cases hG
    exact (e_ireturn rfl dX9_firstSeat_49 rfl)
  have hv2 : ∀ q : Int, r2 = .inr q → some q = some t := by
    intro q hq
    subst hq
    exact x_lr_r hG
  clear hG
  refine e_whl (G9_firstSeat_L3 a b c d St) (fun z : Int => Ev g yX9_firstSeat cX9_firstSeat 6 (some .int) [] 2 3 [some (x_r (16 * 23 + 0)), some (x_i a), some (x_i b), some (x_i c), some (x_i d), some (x_i z)] [] (al, ro, fl (ml M [23] [St])) 0 0 (.inl (some (x_i t))) (al, ro, fl (ml M [23] [St]))) (fun q => q = r2) ?_ xFU 0 _ hl2 rfl
  intro z t2 hf2 hi2 hx2
  obtain ⟨v1, hzz⟩ : ∃ y, y = z := ⟨z, rfl⟩
  subst hzz
  rw [G9_firstSeat_L3] at hf2
  show Ev g _ _ _ _ _ _ 3 [some (x_r (16 * 23 + 0)), some (x_i a), some (x_i b), some (x_i c), some (x_i d), some (x_i v1)] [] (al, ro, fl (ml M [23] [St])) _ _ _ _
  refine e_iload (pc := 3) dX9_firstSeat_3 rfl ?_
  refine e_bipush (pc := 5) dX9_firstSeat_5 (by decide +kernel) (x_R rfl) ?_
  refine e_icmp_ge (pc := 7) (tgt := 48) dX9_firstSeat_7 (by decide) (fun hb => ?_) (fun hb => ?_)
  · rw [if_pos hb] at hf2
    cases hf2
    refine e_drop (i := 5) ?_
    have hh := hk2 _ (hx2 _ rfl).symm
    try dsimp only at hh
    exact hh
  · rw [if_neg hb] at hf2
    refine e_iloadn (pc := 10) (i := 1) dX9_firstSeat_10 rfl rfl ?_
    refine e_iload (pc := 11) dX9_firstSeat_11 rfl ?_
    obtain ⟨v4, hq4, hf2⟩ := x_bd1 hf2
    refine e_invS (pc := 13) (K1 := 0) (S1 := 0) (K := 0) (S := 0) (dd2 := 0) (av := [x_i a, x_i v1]) (st := []) dX9_firstSeat_13 xmX9_30 rfl (f_cal (M := M) (us2 := []) [] hn rfl trivial rfl rfl rfl (c_X11_holdsBit hst hs   hq4)) (by decide) (Nat.le_of_ble_eq_true rfl) (Or.inl rfl) ?_
    show Ev g _ _ _ _ _ _ 16 [some (x_r (16 * 23 + 0)), some (x_i a), some (x_i b), some (x_i c), some (x_i d), some (x_i v1)] [x_i v4] (al, ro, fl (ml M [23] [St])) _ _ _ _
    refine e_if_eq (pc := 16) (tgt := 42) dX9_firstSeat_16 (by decide) (fun hb => ?_) (fun hb => ?_)
    · rw [if_pos hb] at hf2
      refine e_iinc (pc := 42) dX9_firstSeat_42 rfl (by decide) rfl ?_
      show Ev g _ _ _ _ _ _ 45 [some (x_r (16 * 23 + 0)), some (x_i a), some (x_i b), some (x_i c), some (x_i d), some (x_i (x_add v1 1))] [] (al, ro, fl (ml M [23] [St])) _ _ _ _
      refine e_goto (pc := 45) (tgt := 3) dX9_firstSeat_45 (by decide) ?_
      cases hf2
      have hh := hi2 _ rfl
      try dsimp only at hh
      exact hh
    · rw [if_neg hb] at hf2
      refine e_iconst (pc := 19) dX9_firstSeat_19 (x_R rfl) ?_
      refine e_aloadn (pc := 20) (i := 0) dX9_firstSeat_20 rfl rfl ?_
      refine e_iloadn (pc := 21) (i := 2) dX9_firstSeat_21 rfl rfl ?_
      refine e_iloadn (pc := 22) (i := 3) dX9_firstSeat_22 rfl rfl ?_
      refine e_iconst (pc := 23) dX9_firstSeat_23 (x_R rfl) ?_
      refine e_iload (pc := 24) dX9_firstSeat_24 rfl ?_
      refine e_ishl (pc := 26) dX9_firstSeat_26 ?_
      refine e_iconst (pc := 27) dX9_firstSeat_27 (x_R rfl) ?_
      refine e_ixor (pc := 28) dX9_firstSeat_28 ?_
      refine e_iand (pc := 29) dX9_firstSeat_29 ?_
      obtain ⟨v6, hq6, hf2⟩ := x_bd1 hf2
      refine e_invV (pc := 30) (K1 := 0) (S1 := 0) (K := 0) (S := 0) (dd2 := 1) (av := [x_i b, x_i (x_and c (x_xor (x_shl 1 v1) (-1)))]) (st := [x_i 1]) (id := 16 * 23 + 0) dX9_firstSeat_30 xmX9_53 rfl (Or.inl ⟨7, 4, TX9, (sa_23_0 hs), rfl, by decide⟩) (f_cal (M := M) (us2 := [23]) [0] hn rfl (And.intro rfl trivial) rfl rfl rfl (c_X9_seatable hst hs   hq6)) (by decide) (Nat.le_of_ble_eq_true rfl) (Or.inl rfl) ?_
      show Ev g _ _ _ _ _ _ 33 [some (x_r (16 * 23 + 0)), some (x_i a), some (x_i b), some (x_i c), some (x_i d), some (x_i v1)] [x_i v6, x_i 1] (al, ro, fl (ml M [23] [St])) _ _ _ _
      refine e_iadd (pc := 33) dX9_firstSeat_33 ?_
      refine e_iload (pc := 34) dX9_firstSeat_34 rfl ?_
      refine e_icmp_ne (pc := 36) (tgt := 42) dX9_firstSeat_36 (by decide) (fun hb => ?_) (fun hb => ?_)
      · rw [if_neg hb] at hf2
        refine e_iinc (pc := 42) dX9_firstSeat_42 rfl (by decide) rfl ?_
        show Ev g _ _ _ _ _ _ 45 [some (x_r (16 * 23 + 0)), some (x_i a), some (x_i b), some (x_i c), some (x_i d), some (x_i (x_add v1 1))] [] (al, ro, fl (ml M [23] [St])) _ _ _ _
        refine e_goto (pc := 45) (tgt := 3) dX9_firstSeat_45 (by decide) ?_
        cases hf2
        have hh := hi2 _ rfl
        try dsimp only at hh
        exact hh
      · rw [if_pos hb] at hf2
        refine e_iload (pc := 39) dX9_firstSeat_39 rfl ?_
        cases hf2
        have hz := hv2 _ (hx2 _ rfl).symm
        cases hz
        exact (e_ireturn rfl dX9_firstSeat_41 rfl)
set_option maxRecDepth 100000 in
set_option maxHeartbeats 4000000 in
theorem c_X9_seatOf {g : xG} {al : List (Nat × Nat × Nat)} {ro : Nat → Nat → Option Nat} (hst : g.1.stackTraces = false) (hs : SH al ro) {M : Nat → xU} {a : Int} {N : xU} {St : xU}  {t : (Int × xU)} (hG : G9_seatOf a N St = some t) :
    Cal g yX9_seatOf cX9_seatOf 8 (some .int) 3 [x_r (16 * 23 + 0), x_r (16 * 3 + 0), x_i a] (al, ro, fl (ml M [3, 23] [N, St])) 0 0 (.inl (some (x_i t.1))) (al, ro, fl (ml M [3, 23] [N, t.2])) := by
  have hn : ([3, 23] : List Nat).Nodup := by decide
  refine cal_of_ev (plainFor_of_name (by decide)) (x_c1 rfl) (Nat.le_of_ble_eq_true rfl) hst ?_
  show Ev g _ _ _ _ _ _ 0 [some (x_r (16 * 23 + 0)), some (x_r (16 * 3 + 0)), some (x_i a), none, none, none, none, none] [] (al, ro, fl (ml M [3, 23] [N, St])) _ _ _ _
  rw [G9_seatOf] at hG
  refine e_sipush (pc := 0) dX9_seatOf_0 (by decide +kernel) (x_R rfl) ?_
  refine e_istoren (pc := 3) (i := 3) dX9_seatOf_3 rfl (by decide) rfl ?_
  show Ev g _ _ _ _ _ _ 4 [some (x_r (16 * 23 + 0)), some (x_r (16 * 3 + 0)), some (x_i a), some (x_i 4095), none, none, none, none] [] (al, ro, fl (ml M [3, 23] [N, St])) _ _ _ _
  refine e_aloadn (pc := 4) (i := 0) dX9_seatOf_4 rfl rfl ?_
  refine e_aloadn (pc := 5) (i := 1) dX9_seatOf_5 rfl rfl ?_
  obtain ⟨v1, St2, hq2, hG⟩ := x_bd2 hG
  refine e_invV (pc := 6) (K1 := 0) (S1 := 0) (K := 0) (S := 0) (dd2 := 2) (av := [x_r (16 * 3 + 0)]) (st := []) (id := 16 * 23 + 0) dX9_seatOf_6 xmX9_56 rfl (Or.inl ⟨7, 4, TX9, (sa_23_0 hs), rfl, by decide⟩) (f_cal (M := M) (us2 := [3, 23]) [0, 1] hn rfl (And.intro rfl (And.intro rfl trivial)) rfl rfl rfl (c_X9_mostSeated hst hs   hq2)) (by decide) (Nat.le_of_ble_eq_true rfl) (Or.inl rfl) ?_
  show Ev g _ _ _ _ _ _ 9 [some (x_r (16 * 23 + 0)), some (x_r (16 * 3 + 0)), some (x_i a), some (x_i 4095), none, none, none, none] [x_i v1] (al, ro, fl (ml M [3, 23] [N, St2])) _ _ _ _
  refine e_istore (pc := 9) (i := 4) dX9_seatOf_9 (by decide) rfl ?_
  show Ev g _ _ _ _ _ _ 11 [some (x_r (16 * 23 + 0)), some (x_r (16 * 3 + 0)), some (x_i a), some (x_i 4095), some (x_i v1), none, none, none] [] (al, ro, fl (ml M [3, 23] [N, St2])) _ _ _ _
  refine e_iconst (pc := 11) dX9_seatOf_11 (x_R rfl) ?_
  refine e_aloadn (pc := 12) (i := 1) dX9_seatOf_12 rfl rfl ?_
  refine f_geti (pc := 13) (k := 0) (u := 3) (q := 0) dX9_seatOf_13 xf9_24 (sa_3_0 hs) rfl hn rfl rfl (by decide) ?_
  show Ev g _ _ _ _ _ _ 16 [some (x_r (16 * 23 + 0)), some (x_r (16 * 3 + 0)), some (x_i a), some (x_i 4095), some (x_i v1), none, none, none] [x_i (N 0 3), x_i 1] (al, ro, fl (ml M [3, 23] [N, St2])) _ _ _ _
  refine e_ishl (pc := 16) dX9_seatOf_16 ?_
  refine e_iconst (pc := 17) dX9_seatOf_17 (x_R rfl) ?_
  refine e_isub (pc := 18) dX9_seatOf_18 ?_
  refine e_istore (pc := 19) (i := 5) dX9_seatOf_19 (by decide) rfl ?_
  show Ev g _ _ _ _ _ _ 21 [some (x_r (16 * 23 + 0)), some (x_r (16 * 3 + 0)), some (x_i a), some (x_i 4095), some (x_i v1), some (x_i (x_sub (x_shl 1 (N 0 3)) 1)), none, none] [] (al, ro, fl (ml M [3, 23] [N, St2])) _ _ _ _
  refine e_iconst (pc := 21) dX9_seatOf_21 (x_R rfl) ?_
  refine e_istore (pc := 22) (i := 6) dX9_seatOf_22 (by decide) rfl ?_
  show Ev g _ _ _ _ _ _ 24 [some (x_r (16 * 23 + 0)), some (x_r (16 * 3 + 0)), some (x_i a), some (x_i 4095), some (x_i v1), some (x_i (x_sub (x_shl 1 (N 0 3)) 1)), some (x_i (-1)), none] [] (al, ro, fl (ml M [3, 23] [N, St2])) _ _ _ _
  refine e_iconst (pc := 24) dX9_seatOf_24 (x_R rfl) ?_
  refine e_istore (pc := 25) (i := 7) dX9_seatOf_25 (by decide) rfl ?_
  show Ev g _ _ _ _ _ _ 27 [some (x_r (16 * 23 + 0)), some (x_r (16 * 3 + 0)), some (x_i a), some (x_i 4095), some (x_i v1), some (x_i (x_sub (x_shl 1 (N 0 3)) 1)), some (x_i (-1)), some (x_i 0)] [] (al, ro, fl (ml M [3, 23] [N, St2])) _ _ _ _
  obtain ⟨v9, hl10, hG⟩ := x_bd1 hG
  have hk10 : ∀ q : Int, q = v9 → Ev g yX9_seatOf cX9_seatOf 8 (some .int) [] 3 88 [some (x_r (16 * 23 + 0)), some (x_r (16 * 3 + 0)), some (x_i a), none, none, none, some (x_i q), none] [] (al, ro, fl (ml M [3, 23] [N, St2])) 0 0 (.inl (some (x_i t.1))) (al, ro, fl (ml M [3, 23] [N, t.2])) := by
    intro q hq
    replace hq := hq.symm
    subst hq
    refine e_iload (pc := 88) dX9_seatOf_88 rfl ?_
    cases hG
    exact (e_ireturn rfl dX9_seatOf_90 rfl)
  clear hG
  refine e_whl (G9_seatOf_L27 a N St2) (fun z : (Int × Int × Int × Int × Int) => Ev g yX9_seatOf cX9_seatOf 8 (some .int) [] 3 27 [some (x_r (16 * 23 + 0)), some (x_r (16 * 3 + 0)), some (x_i a), some (x_i z.1), some (x_i z.2.1), some (x_i z.2.2.1), some (x_i z.2.2.2.1), some (x_i z.2.2.2.2)] [] (al, ro, fl (ml M [3, 23] [N, St2])) 0 0 (.inl (some (x_i t.1))) (al, ro, fl (ml M [3, 23] [N, t.2]))) (fun q => q = v9) ?_ xFU (4095, v1, (x_sub (x_shl 1 (N 0 3)) 1), (-1), 0) _ hl10 rfl
  intro z t10 hf10 hi10 hx10
  obtain ⟨v4, v5, v6, v7, v8⟩ := z
  rw [G9_seatOf_L27] at hf10
  show Ev g _ _ _ _ _ _ 27 [some (x_r (16 * 23 + 0)), some (x_r (16 * 3 + 0)), some (x_i a), some (x_i v4), some (x_i v5), some (x_i v6), some (x_i v7), some (x_i v8)] [] (al, ro, fl (ml M [3, 23] [N, St2])) _ _ _ _
  refine e_iload (pc := 27) dX9_seatOf_27 rfl ?_
  refine e_iloadn (pc := 29) (i := 2) dX9_seatOf_29 rfl rfl ?_
  refine e_icmp_gt (pc := 30) (tgt := 88) dX9_seatOf_30 (by decide) (fun hb => ?_) (fun hb => ?_)
  · rw [if_pos hb] at hf10
    cases hf10
    refine e_drop (i := 3) ?_
    refine e_drop (i := 4) ?_
    refine e_drop (i := 5) ?_
    refine e_drop (i := 7) ?_
    have hh := hk10 _ (hx10 _ rfl)
    try dsimp only at hh
    exact hh
  · rw [if_neg hb] at hf10
    refine e_iload (pc := 33) dX9_seatOf_33 rfl ?_
    refine e_iconst (pc := 35) dX9_seatOf_35 (x_R rfl) ?_
    refine e_iload (pc := 36) dX9_seatOf_36 rfl ?_
    refine e_ishl (pc := 38) dX9_seatOf_38 ?_
    refine e_iconst (pc := 39) dX9_seatOf_39 (x_R rfl) ?_
    refine e_ixor (pc := 40) dX9_seatOf_40 ?_
    refine e_iand (pc := 41) dX9_seatOf_41 ?_
    refine e_istore (pc := 42) (i := 5) dX9_seatOf_42 (by decide) rfl ?_
    show Ev g _ _ _ _ _ _ 44 [some (x_r (16 * 23 + 0)), some (x_r (16 * 3 + 0)), some (x_i a), some (x_i v4), some (x_i v5), some (x_i (x_and v6 (x_xor (x_shl 1 v8) (-1)))), some (x_i v7), some (x_i v8)] [] (al, ro, fl (ml M [3, 23] [N, St2])) _ _ _ _
    refine e_aloadn (pc := 44) (i := 0) dX9_seatOf_44 rfl rfl ?_
    refine e_aloadn (pc := 45) (i := 1) dX9_seatOf_45 rfl rfl ?_
    refine e_iconst (pc := 46) dX9_seatOf_46 (x_R rfl) ?_
    refine e_iload (pc := 47) dX9_seatOf_47 rfl ?_
    obtain ⟨v12, hq12, hf10⟩ := x_bd1 hf10
    refine e_invV (pc := 49) (K1 := 0) (S1 := 0) (K := 0) (S := 0) (dd2 := 0) (av := [x_i 3, x_i v8]) (st := [x_r (16 * 23 + 0)]) (id := 16 * 3 + 0) dX9_seatOf_49 xmX9_34 rfl (Or.inl ⟨1, 12, TX1, (sa_3_0 hs), rfl, by decide⟩) (f_cal (M := M) (us2 := [3]) [0] hn rfl (And.intro rfl trivial) rfl rfl rfl (c_X1_of hst hs (by decide)  hq12)) (by decide) (Nat.le_of_ble_eq_true rfl) (Or.inl rfl) ?_
    show Ev g _ _ _ _ _ _ 52 [some (x_r (16 * 23 + 0)), some (x_r (16 * 3 + 0)), some (x_i a), some (x_i v4), some (x_i v5), some (x_i (x_and v6 (x_xor (x_shl 1 v8) (-1)))), some (x_i v7), some (x_i v8)] [x_i v12, x_r (16 * 23 + 0)] (al, ro, fl (ml M [3, 23] [N, St2])) _ _ _ _
    refine e_iloadn (pc := 52) (i := 3) dX9_seatOf_52 rfl rfl ?_
    refine e_iand (pc := 53) dX9_seatOf_53 ?_
    refine e_iload (pc := 54) dX9_seatOf_54 rfl ?_
    refine e_iloadn (pc := 56) (i := 3) dX9_seatOf_56 rfl rfl ?_
    refine e_iload (pc := 57) dX9_seatOf_57 rfl ?_
    obtain ⟨v14, hq14, hf10⟩ := x_bd1 hf10
    refine e_invV (pc := 59) (K1 := 0) (S1 := 0) (K := 0) (S := 0) (dd2 := 2) (av := [x_i (x_and v12 v4), x_i (x_and v6 (x_xor (x_shl 1 v8) (-1))), x_i v4, x_i v5]) (st := []) (id := 16 * 23 + 0) dX9_seatOf_59 xmX9_60 rfl (Or.inl ⟨7, 4, TX9, (sa_23_0 hs), rfl, by decide⟩) (f_cal (M := M) (us2 := [23]) [1] hn rfl (And.intro rfl trivial) rfl rfl rfl (c_X9_firstSeat hst hs   hq14)) (by decide) (Nat.le_of_ble_eq_true rfl) (Or.inl rfl) ?_
    show Ev g _ _ _ _ _ _ 62 [some (x_r (16 * 23 + 0)), some (x_r (16 * 3 + 0)), some (x_i a), some (x_i v4), some (x_i v5), some (x_i (x_and v6 (x_xor (x_shl 1 v8) (-1)))), some (x_i v7), some (x_i v8)] [x_i v14] (al, ro, fl (ml M [3, 23] [N, St2])) _ _ _ _
    refine e_istore (pc := 62) (i := 6) dX9_seatOf_62 (by decide) rfl ?_
    show Ev g _ _ _ _ _ _ 64 [some (x_r (16 * 23 + 0)), some (x_r (16 * 3 + 0)), some (x_i a), some (x_i v4), some (x_i v5), some (x_i (x_and v6 (x_xor (x_shl 1 v8) (-1)))), some (x_i v14), some (x_i v8)] [] (al, ro, fl (ml M [3, 23] [N, St2])) _ _ _ _
    refine e_iload (pc := 64) dX9_seatOf_64 rfl ?_
    refine e_iconst (pc := 66) dX9_seatOf_66 (x_R rfl) ?_
    obtain ⟨v16, v17, hr17, hf10⟩ := x_bd2 hf10
    have hjhr17 : Ev g yX9_seatOf cX9_seatOf 8 (some .int) [] 3 82 [some (x_r (16 * 23 + 0)), some (x_r (16 * 3 + 0)), some (x_i a), some (x_i v16), some (x_i v17), some (x_i (x_and v6 (x_xor (x_shl 1 v8) (-1)))), some (x_i v14), some (x_i v8)] [] (al, ro, fl (ml M [3, 23] [N, St2])) 0 0 (.inl (some (x_i t.1))) (al, ro, fl (ml M [3, 23] [N, t.2])) := by
      refine e_iinc (pc := 82) dX9_seatOf_82 rfl (by decide) rfl ?_
      show Ev g _ _ _ _ _ _ 85 [some (x_r (16 * 23 + 0)), some (x_r (16 * 3 + 0)), some (x_i a), some (x_i v16), some (x_i v17), some (x_i (x_and v6 (x_xor (x_shl 1 v8) (-1)))), some (x_i v14), some (x_i (x_add v8 1))] [] (al, ro, fl (ml M [3, 23] [N, St2])) _ _ _ _
      refine e_goto (pc := 85) (tgt := 27) dX9_seatOf_85 (by decide) ?_
      cases hf10
      have hh := hi10 _ rfl
      try dsimp only at hh
      exact hh
    clear hf10
    refine e_icmp_eq (pc := 67) (tgt := 82) dX9_seatOf_67 (by decide) (fun hb => ?_) (fun hb => ?_)
    · rw [if_pos hb] at hr17
      cases hr17
      exact hjhr17
    · rw [if_neg hb] at hr17
      refine e_iloadn (pc := 70) (i := 3) dX9_seatOf_70 rfl rfl ?_
      refine e_iconst (pc := 71) dX9_seatOf_71 (x_R rfl) ?_
      refine e_iload (pc := 72) dX9_seatOf_72 rfl ?_
      refine e_ishl (pc := 74) dX9_seatOf_74 ?_
      refine e_iconst (pc := 75) dX9_seatOf_75 (x_R rfl) ?_
      refine e_ixor (pc := 76) dX9_seatOf_76 ?_
      refine e_iand (pc := 77) dX9_seatOf_77 ?_
      refine e_istoren (pc := 78) (i := 3) dX9_seatOf_78 rfl (by decide) rfl ?_
      show Ev g _ _ _ _ _ _ 79 [some (x_r (16 * 23 + 0)), some (x_r (16 * 3 + 0)), some (x_i a), some (x_i (x_and v4 (x_xor (x_shl 1 v14) (-1)))), some (x_i v5), some (x_i (x_and v6 (x_xor (x_shl 1 v8) (-1)))), some (x_i v14), some (x_i v8)] [] (al, ro, fl (ml M [3, 23] [N, St2])) _ _ _ _
      refine e_iinc (pc := 79) dX9_seatOf_79 rfl (by decide) rfl ?_
      show Ev g _ _ _ _ _ _ 82 [some (x_r (16 * 23 + 0)), some (x_r (16 * 3 + 0)), some (x_i a), some (x_i (x_and v4 (x_xor (x_shl 1 v14) (-1)))), some (x_i (x_add v5 (-1))), some (x_i (x_and v6 (x_xor (x_shl 1 v8) (-1)))), some (x_i v14), some (x_i v8)] [] (al, ro, fl (ml M [3, 23] [N, St2])) _ _ _ _
      cases hr17
      exact hjhr17
set_option maxRecDepth 100000 in
set_option maxHeartbeats 4000000 in
theorem c_X9_fewestWithTooFew {g : xG} {al : List (Nat × Nat × Nat)} {ro : Nat → Nat → Option Nat} (hst : g.1.stackTraces = false) (hs : SH al ro) {M : Nat → xU} {N : xU} {St : xU}  {t : (Int × xU)} (hG : G9_fewestWithTooFew N St = some t) :
    Cal g yX9_fewestWithTooFew cX9_fewestWithTooFew 6 (some .int) 2 [x_r (16 * 23 + 0), x_r (16 * 3 + 0)] (al, ro, fl (ml M [3, 23] [N, St])) 0 0 (.inl (some (x_i t.1))) (al, ro, fl (ml M [3, 23] [N, t.2])) := by
  have hn : ([3, 23] : List Nat).Nodup := by decide
  refine cal_of_ev (plainFor_of_name (by decide)) (x_c1 rfl) (Nat.le_of_ble_eq_true rfl) hst ?_
  show Ev g _ _ _ _ _ _ 0 [some (x_r (16 * 23 + 0)), some (x_r (16 * 3 + 0)), none, none, none, none] [] (al, ro, fl (ml M [3, 23] [N, St])) _ _ _ _
  rw [G9_fewestWithTooFew] at hG
  refine e_aloadn (pc := 0) (i := 0) dX9_fewestWithTooFew_0 rfl rfl ?_
  refine e_aloadn (pc := 1) (i := 1) dX9_fewestWithTooFew_1 rfl rfl ?_
  obtain ⟨St1, hq1, hG⟩ := x_bd1 hG
  refine e_invV (pc := 2) (K1 := 0) (S1 := 0) (K := 0) (S := 0) (dd2 := 1) (av := [x_r (16 * 3 + 0)]) (st := []) (id := 16 * 23 + 0) dX9_fewestWithTooFew_2 xmX9_49 rfl (Or.inl ⟨7, 4, TX9, (sa_23_0 hs), rfl, by decide⟩) (f_cal (M := M) (us2 := [3, 23]) [0, 1] hn rfl (And.intro rfl (And.intro rfl trivial)) rfl rfl rfl (c_X9_gatherLikes hst hs   hq1)) (by decide) (Nat.le_of_ble_eq_true rfl) (Or.inl rfl) ?_
  show Ev g _ _ _ _ _ _ 5 [some (x_r (16 * 23 + 0)), some (x_r (16 * 3 + 0)), none, none, none, none] [] (al, ro, fl (ml M [3, 23] [N, St1])) _ _ _ _
  refine e_iconst (pc := 5) dX9_fewestWithTooFew_5 (x_R rfl) ?_
  refine e_istoren (pc := 6) (i := 2) dX9_fewestWithTooFew_6 rfl (by decide) rfl ?_
  show Ev g _ _ _ _ _ _ 7 [some (x_r (16 * 23 + 0)), some (x_r (16 * 3 + 0)), some (x_i 0), none, none, none] [] (al, ro, fl (ml M [3, 23] [N, St1])) _ _ _ _
  refine e_bipush (pc := 7) dX9_fewestWithTooFew_7 (by decide +kernel) (x_R rfl) ?_
  refine e_istoren (pc := 9) (i := 3) dX9_fewestWithTooFew_9 rfl (by decide) rfl ?_
  show Ev g _ _ _ _ _ _ 10 [some (x_r (16 * 23 + 0)), some (x_r (16 * 3 + 0)), some (x_i 0), some (x_i 8), none, none] [] (al, ro, fl (ml M [3, 23] [N, St1])) _ _ _ _
  refine e_iconst (pc := 10) dX9_fewestWithTooFew_10 (x_R rfl) ?_
  refine e_istore (pc := 11) (i := 4) dX9_fewestWithTooFew_11 (by decide) rfl ?_
  show Ev g _ _ _ _ _ _ 13 [some (x_r (16 * 23 + 0)), some (x_r (16 * 3 + 0)), some (x_i 0), some (x_i 8), some (x_i 1), none] [] (al, ro, fl (ml M [3, 23] [N, St1])) _ _ _ _
  obtain ⟨v6, hl7, hG⟩ := x_bd1 hG
  have hk7 : ∀ q : Int, q = v6 → Ev g yX9_fewestWithTooFew cX9_fewestWithTooFew 6 (some .int) [] 2 72 [some (x_r (16 * 23 + 0)), some (x_r (16 * 3 + 0)), some (x_i q), none, none, none] [] (al, ro, fl (ml M [3, 23] [N, St1])) 0 0 (.inl (some (x_i t.1))) (al, ro, fl (ml M [3, 23] [N, t.2])) := by
    intro q hq
    replace hq := hq.symm
    subst hq
    refine e_iloadn (pc := 72) (i := 2) dX9_fewestWithTooFew_72 rfl rfl ?_
    cases hG
    exact (e_ireturn rfl dX9_fewestWithTooFew_73 rfl)
  clear hG
  refine e_whl (G9_fewestWithTooFew_L13 N St1) (fun z : (Int × Int × Int) => Ev g yX9_fewestWithTooFew cX9_fewestWithTooFew 6 (some .int) [] 2 13 [some (x_r (16 * 23 + 0)), some (x_r (16 * 3 + 0)), some (x_i z.1), some (x_i z.2.1), some (x_i z.2.2), none] [] (al, ro, fl (ml M [3, 23] [N, St1])) 0 0 (.inl (some (x_i t.1))) (al, ro, fl (ml M [3, 23] [N, t.2]))) (fun q => q = v6) ?_ xFU (0, 8, 1) _ hl7 rfl
  intro z t7 hf7 hi7 hx7
  obtain ⟨v3, v4, v5⟩ := z
  rw [G9_fewestWithTooFew_L13] at hf7
  show Ev g _ _ _ _ _ _ 13 [some (x_r (16 * 23 + 0)), some (x_r (16 * 3 + 0)), some (x_i v3), some (x_i v4), some (x_i v5), none] [] (al, ro, fl (ml M [3, 23] [N, St1])) _ _ _ _
  refine e_iload (pc := 13) dX9_fewestWithTooFew_13 rfl ?_
  refine e_iconst (pc := 15) dX9_fewestWithTooFew_15 (x_R rfl) ?_
  refine e_aloadn (pc := 16) (i := 1) dX9_fewestWithTooFew_16 rfl rfl ?_
  refine f_geti (pc := 17) (k := 0) (u := 3) (q := 0) dX9_fewestWithTooFew_17 xf9_24 (sa_3_0 hs) rfl hn rfl rfl (by decide) ?_
  show Ev g _ _ _ _ _ _ 20 [some (x_r (16 * 23 + 0)), some (x_r (16 * 3 + 0)), some (x_i v3), some (x_i v4), some (x_i v5), none] [x_i (N 0 3), x_i 1, x_i v5] (al, ro, fl (ml M [3, 23] [N, St1])) _ _ _ _
  refine e_ishl (pc := 20) dX9_fewestWithTooFew_20 ?_
  refine e_icmp_ge (pc := 21) (tgt := 72) dX9_fewestWithTooFew_21 (by decide) (fun hb => ?_) (fun hb => ?_)
  · rw [if_pos hb] at hf7
    cases hf7
    refine e_drop (i := 3) ?_
    refine e_drop (i := 4) ?_
    have hh := hk7 _ (hx7 _ rfl)
    try dsimp only at hh
    exact hh
  · rw [if_neg hb] at hf7
    refine e_iload (pc := 24) dX9_fewestWithTooFew_24 rfl ?_
    refine e_sipush (pc := 26) dX9_fewestWithTooFew_26 (by decide +kernel) (x_R rfl) ?_
    refine e_icmp_ge (pc := 29) (tgt := 72) dX9_fewestWithTooFew_29 (by decide) (fun hb => ?_) (fun hb => ?_)
    · rw [if_pos hb] at hf7
      cases hf7
      refine e_drop (i := 3) ?_
      refine e_drop (i := 4) ?_
      have hh := hk7 _ (hx7 _ rfl)
      try dsimp only at hh
      exact hh
    · rw [if_neg hb] at hf7
      refine e_iload (pc := 32) dX9_fewestWithTooFew_32 rfl ?_
      refine e_invS (pc := 34) (K1 := 0) (S1 := 0) (K := 0) (S := 0) (dd2 := 0) (av := [x_i v5]) (st := []) dX9_fewestWithTooFew_34 xmX9_38 rfl (p_bitCount hst hs) (by decide) (Nat.le_of_ble_eq_true rfl) (Or.inl rfl) ?_
      show Ev g _ _ _ _ _ _ 37 [some (x_r (16 * 23 + 0)), some (x_r (16 * 3 + 0)), some (x_i v3), some (x_i v4), some (x_i v5), none] [x_i (x_bc v5)] (al, ro, fl (ml M [3, 23] [N, St1])) _ _ _ _
      refine e_istore (pc := 37) (i := 5) dX9_fewestWithTooFew_37 (by decide) rfl ?_
      show Ev g _ _ _ _ _ _ 39 [some (x_r (16 * 23 + 0)), some (x_r (16 * 3 + 0)), some (x_i v3), some (x_i v4), some (x_i v5), some (x_i (x_bc v5))] [] (al, ro, fl (ml M [3, 23] [N, St1])) _ _ _ _
      refine e_iload (pc := 39) dX9_fewestWithTooFew_39 rfl ?_
      refine e_iloadn (pc := 41) (i := 3) dX9_fewestWithTooFew_41 rfl rfl ?_
      obtain ⟨v9, v10, hr10, hf7⟩ := x_bd2 hf7
      have hjhr10 : Ev g yX9_fewestWithTooFew cX9_fewestWithTooFew 6 (some .int) [] 2 66 [some (x_r (16 * 23 + 0)), some (x_r (16 * 3 + 0)), some (x_i v9), some (x_i v10), some (x_i v5), some (x_i (x_bc v5))] [] (al, ro, fl (ml M [3, 23] [N, St1])) 0 0 (.inl (some (x_i t.1))) (al, ro, fl (ml M [3, 23] [N, t.2])) := by
        refine e_iinc (pc := 66) dX9_fewestWithTooFew_66 rfl (by decide) rfl ?_
        show Ev g _ _ _ _ _ _ 69 [some (x_r (16 * 23 + 0)), some (x_r (16 * 3 + 0)), some (x_i v9), some (x_i v10), some (x_i (x_add v5 1)), some (x_i (x_bc v5))] [] (al, ro, fl (ml M [3, 23] [N, St1])) _ _ _ _
        refine e_goto (pc := 69) (tgt := 13) dX9_fewestWithTooFew_69 (by decide) ?_
        cases hf7
        refine e_drop (i := 5) ?_
        have hh := hi7 _ rfl
        try dsimp only at hh
        exact hh
      clear hf7
      refine e_icmp_ge (pc := 42) (tgt := 66) dX9_fewestWithTooFew_42 (by decide) (fun hb => ?_) (fun hb => ?_)
      · rw [if_pos hb] at hr10
        cases hr10
        exact hjhr10
      · rw [if_neg hb] at hr10
        refine e_aloadn (pc := 45) (i := 0) dX9_fewestWithTooFew_45 rfl rfl ?_
        refine f_getr (pc := 46) (u := 23) (q := 0) dX9_fewestWithTooFew_46 xf9_9 (sa_23_0 hs) rfl (sr_23_0_0 hs) ?_
        refine e_iload (pc := 49) dX9_fewestWithTooFew_49 rfl ?_
        obtain ⟨hc0, hr10⟩ := x_gd_some hr10
        refine f_iald (pc := 51) (k := 1) (u := 23) (q := 1) (len := 128) dX9_fewestWithTooFew_51 (sa_23_1 hs) hc0 hn rfl rfl (by decide) ?_
        show Ev g _ _ _ _ _ _ 52 [some (x_r (16 * 23 + 0)), some (x_r (16 * 3 + 0)), some (x_i v3), some (x_i v4), some (x_i v5), some (x_i (x_bc v5))] [x_i (St1 1 (v5).toNat)] (al, ro, fl (ml M [3, 23] [N, St1])) _ _ _ _
        refine e_invS (pc := 52) (K1 := 0) (S1 := 0) (K := 0) (S := 0) (dd2 := 0) (av := [x_i (St1 1 (v5).toNat)]) (st := []) dX9_fewestWithTooFew_52 xmX9_38 rfl (p_bitCount hst hs) (by decide) (Nat.le_of_ble_eq_true rfl) (Or.inl rfl) ?_
        show Ev g _ _ _ _ _ _ 55 [some (x_r (16 * 23 + 0)), some (x_r (16 * 3 + 0)), some (x_i v3), some (x_i v4), some (x_i v5), some (x_i (x_bc v5))] [x_i (x_bc (St1 1 (v5).toNat))] (al, ro, fl (ml M [3, 23] [N, St1])) _ _ _ _
        refine e_iload (pc := 55) dX9_fewestWithTooFew_55 rfl ?_
        refine e_icmp_ge (pc := 57) (tgt := 66) dX9_fewestWithTooFew_57 (by decide) (fun hb => ?_) (fun hb => ?_)
        · rw [if_pos hb] at hr10
          cases hr10
          exact hjhr10
        · rw [if_neg hb] at hr10
          refine e_iload (pc := 60) dX9_fewestWithTooFew_60 rfl ?_
          refine e_istoren (pc := 62) (i := 3) dX9_fewestWithTooFew_62 rfl (by decide) rfl ?_
          show Ev g _ _ _ _ _ _ 63 [some (x_r (16 * 23 + 0)), some (x_r (16 * 3 + 0)), some (x_i v3), some (x_i (x_bc v5)), some (x_i v5), some (x_i (x_bc v5))] [] (al, ro, fl (ml M [3, 23] [N, St1])) _ _ _ _
          refine e_iload (pc := 63) dX9_fewestWithTooFew_63 rfl ?_
          refine e_istoren (pc := 65) (i := 2) dX9_fewestWithTooFew_65 rfl (by decide) rfl ?_
          show Ev g _ _ _ _ _ _ 66 [some (x_r (16 * 23 + 0)), some (x_r (16 * 3 + 0)), some (x_i v5), some (x_i (x_bc v5)), some (x_i v5), some (x_i (x_bc v5))] [] (al, ro, fl (ml M [3, 23] [N, St1])) _ _ _ _
          cases hr10
          exact hjhr10
set_option maxRecDepth 100000 in
set_option maxHeartbeats 4000000 in
theorem c_X9_rankOf {g : xG} {al : List (Nat × Nat × Nat)} {ro : Nat → Nat → Option Nat} (hst : g.1.stackTraces = false) (hs : SH al ro) {M : Nat → xU} {a : Int} {b : Int} {N : xU}  {t : Int} (hG : G9_rankOf a b N = some t) :
    Cal g yX9_rankOf cX9_rankOf 5 (some .int) 2 [x_r (16 * 3 + 0), x_i a, x_i b] (al, ro, fl (ml M [3] [N])) 0 0 (.inl (some (x_i t))) (al, ro, fl (ml M [3] [N])) := by
  have hn : ([3] : List Nat).Nodup := by decide
  refine cal_of_ev (plainFor_of_name (by decide)) (x_c1 rfl) (Nat.le_of_ble_eq_true rfl) hst ?_
  show Ev g _ _ _ _ _ _ 0 [some (x_r (16 * 3 + 0)), some (x_i a), some (x_i b), none, none] [] (al, ro, fl (ml M [3] [N])) _ _ _ _
  rw [G9_rankOf] at hG
  refine e_aloadn (pc := 0) (i := 0) dX9_rankOf_0 rfl rfl ?_
  refine e_iconst (pc := 1) dX9_rankOf_1 (x_R rfl) ?_
  refine e_iloadn (pc := 2) (i := 2) dX9_rankOf_2 rfl rfl ?_
  obtain ⟨v1, hq1, hG⟩ := x_bd1 hG
  refine e_invV (pc := 3) (K1 := 0) (S1 := 0) (K := 0) (S := 0) (dd2 := 0) (av := [x_i 2, x_i b]) (st := []) (id := 16 * 3 + 0) dX9_rankOf_3 xmX9_34 rfl (Or.inl ⟨1, 12, TX1, (sa_3_0 hs), rfl, by decide⟩) (f_cal (M := M) (us2 := [3]) [0] hn rfl (And.intro rfl trivial) rfl rfl rfl (c_X1_of hst hs (by decide)  hq1)) (by decide) (Nat.le_of_ble_eq_true rfl) (Or.inl rfl) ?_
  show Ev g _ _ _ _ _ _ 6 [some (x_r (16 * 3 + 0)), some (x_i a), some (x_i b), none, none] [x_i v1] (al, ro, fl (ml M [3] [N])) _ _ _ _
  refine e_istoren (pc := 6) (i := 3) dX9_rankOf_6 rfl (by decide) rfl ?_
  show Ev g _ _ _ _ _ _ 7 [some (x_r (16 * 3 + 0)), some (x_i a), some (x_i b), some (x_i v1), none] [] (al, ro, fl (ml M [3] [N])) _ _ _ _
  refine e_iloadn (pc := 7) (i := 3) dX9_rankOf_7 rfl rfl ?_
  refine e_aloadn (pc := 8) (i := 0) dX9_rankOf_8 rfl rfl ?_
  refine e_iconst (pc := 9) dX9_rankOf_9 (x_R rfl) ?_
  refine e_iloadn (pc := 10) (i := 1) dX9_rankOf_10 rfl rfl ?_
  obtain ⟨v3, hq3, hG⟩ := x_bd1 hG
  refine e_invV (pc := 11) (K1 := 0) (S1 := 0) (K := 0) (S := 0) (dd2 := 0) (av := [x_i 2, x_i a]) (st := [x_i v1]) (id := 16 * 3 + 0) dX9_rankOf_11 xmX9_34 rfl (Or.inl ⟨1, 12, TX1, (sa_3_0 hs), rfl, by decide⟩) (f_cal (M := M) (us2 := [3]) [0] hn rfl (And.intro rfl trivial) rfl rfl rfl (c_X1_of hst hs (by decide)  hq3)) (by decide) (Nat.le_of_ble_eq_true rfl) (Or.inl rfl) ?_
  show Ev g _ _ _ _ _ _ 14 [some (x_r (16 * 3 + 0)), some (x_i a), some (x_i b), some (x_i v1), none] [x_i v3, x_i v1] (al, ro, fl (ml M [3] [N])) _ _ _ _
  refine e_isub (pc := 14) dX9_rankOf_14 ?_
  refine e_bipush (pc := 15) dX9_rankOf_15 (by decide +kernel) (x_R rfl) ?_
  refine e_invS (pc := 17) (K1 := 0) (S1 := 0) (K := 0) (S := 0) (dd2 := 0) (av := [x_i (x_sub v1 v3), x_i 12]) (st := []) dX9_rankOf_17 xmX9_75 rfl (p_floorMod hst hs (by decide)) (by decide) (Nat.le_of_ble_eq_true rfl) (Or.inl rfl) ?_
  show Ev g _ _ _ _ _ _ 20 [some (x_r (16 * 3 + 0)), some (x_i a), some (x_i b), some (x_i v1), none] [x_i (x_mod (x_sub v1 v3) 12)] (al, ro, fl (ml M [3] [N])) _ _ _ _
  refine e_istore (pc := 20) (i := 4) dX9_rankOf_20 (by decide) rfl ?_
  show Ev g _ _ _ _ _ _ 22 [some (x_r (16 * 3 + 0)), some (x_i a), some (x_i b), some (x_i v1), some (x_i (x_mod (x_sub v1 v3) 12))] [] (al, ro, fl (ml M [3] [N])) _ _ _ _
  refine e_aloadn (pc := 22) (i := 0) dX9_rankOf_22 rfl rfl ?_
  refine e_iloadn (pc := 23) (i := 1) dX9_rankOf_23 rfl rfl ?_
  refine e_iloadn (pc := 24) (i := 3) dX9_rankOf_24 rfl rfl ?_
  obtain ⟨v5, hq5, hG⟩ := x_bd1 hG
  refine e_invV (pc := 25) (K1 := 0) (S1 := 0) (K := 0) (S := 0) (dd2 := 1) (av := [x_i a, x_i v1]) (st := []) (id := 16 * 3 + 0) dX9_rankOf_25 xmX9_78 rfl (Or.inl ⟨1, 12, TX1, (sa_3_0 hs), rfl, by decide⟩) (f_cal (M := M) (us2 := [3]) [0] hn rfl (And.intro rfl trivial) rfl rfl rfl (c_X1_doesLike hst hs (by decide)  hq5)) (by decide) (Nat.le_of_ble_eq_true rfl) (Or.inl rfl) ?_
  show Ev g _ _ _ _ _ _ 28 [some (x_r (16 * 3 + 0)), some (x_i a), some (x_i b), some (x_i v1), some (x_i (x_mod (x_sub v1 v3) 12))] [x_i v5] (al, ro, fl (ml M [3] [N])) _ _ _ _
  obtain ⟨v7, hr7, hG⟩ := x_bd1 hG
  have hjhr7 : Ev g yX9_rankOf cX9_rankOf 5 (some .int) [] 2 37 [some (x_r (16 * 3 + 0)), some (x_i a), some (x_i b), some (x_i v1), some (x_i (x_mod (x_sub v1 v3) 12))] [x_i v7] (al, ro, fl (ml M [3] [N])) 0 0 (.inl (some (x_i t))) (al, ro, fl (ml M [3] [N])) := by
    refine e_iload (pc := 37) dX9_rankOf_37 rfl ?_
    refine e_bipush (pc := 39) dX9_rankOf_39 (by decide +kernel) (x_R rfl) ?_
    refine e_iload (pc := 41) dX9_rankOf_41 rfl ?_
    refine e_isub (pc := 43) dX9_rankOf_43 ?_
    refine e_invS (pc := 44) (K1 := 0) (S1 := 0) (K := 0) (S := 0) (dd2 := 0) (av := [x_i (x_mod (x_sub v1 v3) 12), x_i (x_sub 12 (x_mod (x_sub v1 v3) 12))]) (st := [x_i v7]) dX9_rankOf_44 xmX9_44 rfl (p_min hst hs) (by decide) (Nat.le_of_ble_eq_true rfl) (Or.inl rfl) ?_
    show Ev g _ _ _ _ _ _ 47 [some (x_r (16 * 3 + 0)), some (x_i a), some (x_i b), some (x_i v1), some (x_i (x_mod (x_sub v1 v3) 12))] [x_i (min (x_mod (x_sub v1 v3) 12) (x_sub 12 (x_mod (x_sub v1 v3) 12))), x_i v7] (al, ro, fl (ml M [3] [N])) _ _ _ _
    refine e_iadd (pc := 47) dX9_rankOf_47 ?_
    cases hG
    exact (e_ireturn rfl dX9_rankOf_48 rfl)
  clear hG
  refine e_if_eq (pc := 28) (tgt := 35) dX9_rankOf_28 (by decide) (fun hb => ?_) (fun hb => ?_)
  · rw [if_pos hb] at hr7
    refine e_bipush (pc := 35) dX9_rankOf_35 (by decide +kernel) (x_R rfl) ?_
    cases hr7
    exact hjhr7
  · rw [if_neg hb] at hr7
    refine e_iconst (pc := 31) dX9_rankOf_31 (x_R rfl) ?_
    refine e_goto (pc := 32) (tgt := 37) dX9_rankOf_32 (by decide) ?_
    cases hr7
    exact hjhr7
set_option maxRecDepth 100000 in
set_option maxHeartbeats 4000000 in
theorem c_X9_pointerOf {g : xG} {al : List (Nat × Nat × Nat)} {ro : Nat → Nat → Option Nat} (hst : g.1.stackTraces = false) (hs : SH al ro) {M : Nat → xU} {a : Int} {b : Int} {N : xU}  {t : Int} (hG : G9_pointerOf a b N = some t) :
    Cal g yX9_pointerOf cX9_pointerOf 8 (some .int) 3 [x_r (16 * 23 + 0), x_r (16 * 3 + 0), x_i a, x_i b] (al, ro, fl (ml M [3] [N])) 0 0 (.inl (some (x_i t))) (al, ro, fl (ml M [3] [N])) := by
  have hn : ([3] : List Nat).Nodup := by decide
  refine cal_of_ev (plainFor_of_name (by decide)) (x_c1 rfl) (Nat.le_of_ble_eq_true rfl) hst ?_
  show Ev g _ _ _ _ _ _ 0 [some (x_r (16 * 23 + 0)), some (x_r (16 * 3 + 0)), some (x_i a), some (x_i b), none, none, none, none] [] (al, ro, fl (ml M [3] [N])) _ _ _ _
  rw [G9_pointerOf] at hG
  refine e_iloadn (pc := 0) (i := 2) dX9_pointerOf_0 rfl rfl ?_
  refine e_istore (pc := 1) (i := 4) dX9_pointerOf_1 (by decide) rfl ?_
  show Ev g _ _ _ _ _ _ 3 [some (x_r (16 * 23 + 0)), some (x_r (16 * 3 + 0)), some (x_i a), some (x_i b), some (x_i a), none, none, none] [] (al, ro, fl (ml M [3] [N])) _ _ _ _
  refine e_ldc (pc := 3) dX9_pointerOf_3 xkX9_71 (x_R rfl) ?_
  refine e_istore (pc := 5) (i := 5) dX9_pointerOf_5 (by decide) rfl ?_
  show Ev g _ _ _ _ _ _ 7 [some (x_r (16 * 23 + 0)), some (x_r (16 * 3 + 0)), some (x_i a), some (x_i b), some (x_i a), some (x_i 1000000), none, none] [] (al, ro, fl (ml M [3] [N])) _ _ _ _
  refine e_iconst (pc := 7) dX9_pointerOf_7 (x_R rfl) ?_
  refine e_istore (pc := 8) (i := 6) dX9_pointerOf_8 (by decide) rfl ?_
  show Ev g _ _ _ _ _ _ 10 [some (x_r (16 * 23 + 0)), some (x_r (16 * 3 + 0)), some (x_i a), some (x_i b), some (x_i a), some (x_i 1000000), some (x_i 0), none] [] (al, ro, fl (ml M [3] [N])) _ _ _ _
  obtain ⟨v4, hl5, hG⟩ := x_bd1 hG
  have hk5 : ∀ q : Int, q = v4 → Ev g yX9_pointerOf cX9_pointerOf 8 (some .int) [] 3 58 [some (x_r (16 * 23 + 0)), some (x_r (16 * 3 + 0)), some (x_i a), some (x_i b), some (x_i q), none, none, none] [] (al, ro, fl (ml M [3] [N])) 0 0 (.inl (some (x_i t))) (al, ro, fl (ml M [3] [N])) := by
    intro q hq
    replace hq := hq.symm
    subst hq
    refine e_iload (pc := 58) dX9_pointerOf_58 rfl ?_
    cases hG
    exact (e_ireturn rfl dX9_pointerOf_60 rfl)
  clear hG
  refine e_whl (G9_pointerOf_L10 a b N) (fun z : (Int × Int × Int) => Ev g yX9_pointerOf cX9_pointerOf 8 (some .int) [] 3 10 [some (x_r (16 * 23 + 0)), some (x_r (16 * 3 + 0)), some (x_i a), some (x_i b), some (x_i z.1), some (x_i z.2.1), some (x_i z.2.2), none] [] (al, ro, fl (ml M [3] [N])) 0 0 (.inl (some (x_i t))) (al, ro, fl (ml M [3] [N]))) (fun q => q = v4) ?_ xFU (a, 1000000, 0) _ hl5 rfl
  intro z t5 hf5 hi5 hx5
  obtain ⟨v1, v2, v3⟩ := z
  rw [G9_pointerOf_L10] at hf5
  show Ev g _ _ _ _ _ _ 10 [some (x_r (16 * 23 + 0)), some (x_r (16 * 3 + 0)), some (x_i a), some (x_i b), some (x_i v1), some (x_i v2), some (x_i v3), none] [] (al, ro, fl (ml M [3] [N])) _ _ _ _
  refine e_iload (pc := 10) dX9_pointerOf_10 rfl ?_
  refine e_aloadn (pc := 12) (i := 1) dX9_pointerOf_12 rfl rfl ?_
  refine f_geti (pc := 13) (k := 0) (u := 3) (q := 0) dX9_pointerOf_13 xf9_24 (sa_3_0 hs) rfl hn rfl rfl (by decide) ?_
  show Ev g _ _ _ _ _ _ 16 [some (x_r (16 * 23 + 0)), some (x_r (16 * 3 + 0)), some (x_i a), some (x_i b), some (x_i v1), some (x_i v2), some (x_i v3), none] [x_i (N 0 3), x_i v3] (al, ro, fl (ml M [3] [N])) _ _ _ _
  refine e_icmp_ge (pc := 16) (tgt := 58) dX9_pointerOf_16 (by decide) (fun hb => ?_) (fun hb => ?_)
  · rw [if_pos hb] at hf5
    cases hf5
    refine e_drop (i := 5) ?_
    refine e_drop (i := 6) ?_
    have hh := hk5 _ (hx5 _ rfl)
    try dsimp only at hh
    exact hh
  · rw [if_neg hb] at hf5
    refine e_aloadn (pc := 19) (i := 1) dX9_pointerOf_19 rfl rfl ?_
    refine e_iloadn (pc := 20) (i := 2) dX9_pointerOf_20 rfl rfl ?_
    refine e_iload (pc := 21) dX9_pointerOf_21 rfl ?_
    obtain ⟨v7, hq7, hf5⟩ := x_bd1 hf5
    refine e_invS (pc := 23) (K1 := 0) (S1 := 0) (K := 0) (S := 0) (dd2 := 2) (av := [x_r (16 * 3 + 0), x_i a, x_i v3]) (st := []) dX9_pointerOf_23 xmX9_72 rfl (f_cal (M := M) (us2 := [3]) [0] hn rfl (And.intro rfl trivial) rfl rfl rfl (c_X9_rankOf hst hs   hq7)) (by decide) (Nat.le_of_ble_eq_true rfl) (Or.inl rfl) ?_
    show Ev g _ _ _ _ _ _ 26 [some (x_r (16 * 23 + 0)), some (x_r (16 * 3 + 0)), some (x_i a), some (x_i b), some (x_i v1), some (x_i v2), some (x_i v3), none] [x_i v7] (al, ro, fl (ml M [3] [N])) _ _ _ _
    refine e_istore (pc := 26) (i := 7) dX9_pointerOf_26 (by decide) rfl ?_
    show Ev g _ _ _ _ _ _ 28 [some (x_r (16 * 23 + 0)), some (x_r (16 * 3 + 0)), some (x_i a), some (x_i b), some (x_i v1), some (x_i v2), some (x_i v3), some (x_i v7)] [] (al, ro, fl (ml M [3] [N])) _ _ _ _
    refine e_iloadn (pc := 28) (i := 3) dX9_pointerOf_28 rfl rfl ?_
    refine e_iload (pc := 29) dX9_pointerOf_29 rfl ?_
    obtain ⟨v9, hq9, hf5⟩ := x_bd1 hf5
    refine e_invS (pc := 31) (K1 := 0) (S1 := 0) (K := 0) (S := 0) (dd2 := 0) (av := [x_i b, x_i v3]) (st := []) dX9_pointerOf_31 xmX9_30 rfl (f_cal (M := M) (us2 := []) [] hn rfl trivial rfl rfl rfl (c_X11_holdsBit hst hs   hq9)) (by decide) (Nat.le_of_ble_eq_true rfl) (Or.inl rfl) ?_
    show Ev g _ _ _ _ _ _ 34 [some (x_r (16 * 23 + 0)), some (x_r (16 * 3 + 0)), some (x_i a), some (x_i b), some (x_i v1), some (x_i v2), some (x_i v3), some (x_i v7)] [x_i v9] (al, ro, fl (ml M [3] [N])) _ _ _ _
    obtain ⟨v11, v12, hr12, hf5⟩ := x_bd2 hf5
    have hjhr12 : Ev g yX9_pointerOf cX9_pointerOf 8 (some .int) [] 3 52 [some (x_r (16 * 23 + 0)), some (x_r (16 * 3 + 0)), some (x_i a), some (x_i b), some (x_i v11), some (x_i v12), some (x_i v3), some (x_i v7)] [] (al, ro, fl (ml M [3] [N])) 0 0 (.inl (some (x_i t))) (al, ro, fl (ml M [3] [N])) := by
      refine e_iinc (pc := 52) dX9_pointerOf_52 rfl (by decide) rfl ?_
      show Ev g _ _ _ _ _ _ 55 [some (x_r (16 * 23 + 0)), some (x_r (16 * 3 + 0)), some (x_i a), some (x_i b), some (x_i v11), some (x_i v12), some (x_i (x_add v3 1)), some (x_i v7)] [] (al, ro, fl (ml M [3] [N])) _ _ _ _
      refine e_goto (pc := 55) (tgt := 10) dX9_pointerOf_55 (by decide) ?_
      cases hf5
      refine e_drop (i := 7) ?_
      have hh := hi5 _ rfl
      try dsimp only at hh
      exact hh
    clear hf5
    refine e_if_eq (pc := 34) (tgt := 52) dX9_pointerOf_34 (by decide) (fun hb => ?_) (fun hb => ?_)
    · rw [if_pos hb] at hr12
      cases hr12
      exact hjhr12
    · rw [if_neg hb] at hr12
      refine e_iload (pc := 37) dX9_pointerOf_37 rfl ?_
      refine e_iload (pc := 39) dX9_pointerOf_39 rfl ?_
      refine e_icmp_ge (pc := 41) (tgt := 52) dX9_pointerOf_41 (by decide) (fun hb => ?_) (fun hb => ?_)
      · rw [if_pos hb] at hr12
        cases hr12
        exact hjhr12
      · rw [if_neg hb] at hr12
        refine e_iload (pc := 44) dX9_pointerOf_44 rfl ?_
        refine e_istore (pc := 46) (i := 5) dX9_pointerOf_46 (by decide) rfl ?_
        show Ev g _ _ _ _ _ _ 48 [some (x_r (16 * 23 + 0)), some (x_r (16 * 3 + 0)), some (x_i a), some (x_i b), some (x_i v1), some (x_i v7), some (x_i v3), some (x_i v7)] [] (al, ro, fl (ml M [3] [N])) _ _ _ _
        refine e_iload (pc := 48) dX9_pointerOf_48 rfl ?_
        refine e_istore (pc := 50) (i := 4) dX9_pointerOf_50 (by decide) rfl ?_
        show Ev g _ _ _ _ _ _ 52 [some (x_r (16 * 23 + 0)), some (x_r (16 * 3 + 0)), some (x_i a), some (x_i b), some (x_i v3), some (x_i v7), some (x_i v3), some (x_i v7)] [] (al, ro, fl (ml M [3] [N])) _ _ _ _
        cases hr12
        exact hjhr12
set_option maxRecDepth 100000 in
set_option maxHeartbeats 4000000 in
theorem c_X9_ringOf {g : xG} {al : List (Nat × Nat × Nat)} {ro : Nat → Nat → Option Nat} (hst : g.1.stackTraces = false) (hs : SH al ro) {M : Nat → xU} {a : Int} {St : xU}  {t : Int} (hG : G9_ringOf a St = some t) :
    Cal g yX9_ringOf cX9_ringOf 4 (some .int) 0 [x_r (16 * 23 + 0), x_i a] (al, ro, fl (ml M [23] [St])) 0 0 (.inl (some (x_i t))) (al, ro, fl (ml M [23] [St])) := by
  have hn : ([23] : List Nat).Nodup := by decide
  refine cal_of_ev (plainFor_of_name (by decide)) (x_c1 rfl) (Nat.le_of_ble_eq_true rfl) hst ?_
  show Ev g _ _ _ _ _ _ 0 [some (x_r (16 * 23 + 0)), some (x_i a), none, none] [] (al, ro, fl (ml M [23] [St])) _ _ _ _
  rw [G9_ringOf] at hG
  refine e_iloadn (pc := 0) (i := 1) dX9_ringOf_0 rfl rfl ?_
  refine e_istoren (pc := 1) (i := 2) dX9_ringOf_1 rfl (by decide) rfl ?_
  show Ev g _ _ _ _ _ _ 2 [some (x_r (16 * 23 + 0)), some (x_i a), some (x_i a), none] [] (al, ro, fl (ml M [23] [St])) _ _ _ _
  refine e_iconst (pc := 2) dX9_ringOf_2 (x_R rfl) ?_
  refine e_istoren (pc := 3) (i := 3) dX9_ringOf_3 rfl (by decide) rfl ?_
  show Ev g _ _ _ _ _ _ 4 [some (x_r (16 * 23 + 0)), some (x_i a), some (x_i a), some (x_i 1)] [] (al, ro, fl (ml M [23] [St])) _ _ _ _
  obtain ⟨r3, hl3, hG⟩ := x_lrd hG
  have hk3 : ∀ q : Unit, r3 = .inl q → Ev g yX9_ringOf cX9_ringOf 4 (some .int) [] 0 44 [some (x_r (16 * 23 + 0)), some (x_i a), none, none] [] (al, ro, fl (ml M [23] [St])) 0 0 (.inl (some (x_i t))) (al, ro, fl (ml M [23] [St])) := by
    intro q hq
    subst hq
    replace hG := x_lr_l hG
    replace hG := x_ed1 hG
    refine e_iconst (pc := 44) dX9_ringOf_44 (x_R rfl) ?_
    cases hG
    exact (e_ireturn rfl dX9_ringOf_45 rfl)
  have hv3 : ∀ q : Int, r3 = .inr q → some q = some t := by
    intro q hq
    subst hq
    exact x_lr_r hG
  clear hG
  refine e_whl (G9_ringOf_L4 a St) (fun z : (Int × Int) => Ev g yX9_ringOf cX9_ringOf 4 (some .int) [] 0 4 [some (x_r (16 * 23 + 0)), some (x_i a), some (x_i z.1), some (x_i z.2)] [] (al, ro, fl (ml M [23] [St])) 0 0 (.inl (some (x_i t))) (al, ro, fl (ml M [23] [St]))) (fun q => q = r3) ?_ xFU (a, 1) _ hl3 rfl
  intro z t3 hf3 hi3 hx3
  obtain ⟨v1, v2⟩ := z
  rw [G9_ringOf_L4] at hf3
  show Ev g _ _ _ _ _ _ 4 [some (x_r (16 * 23 + 0)), some (x_i a), some (x_i v1), some (x_i v2)] [] (al, ro, fl (ml M [23] [St])) _ _ _ _
  refine e_iloadn (pc := 4) (i := 3) dX9_ringOf_4 rfl rfl ?_
  refine e_bipush (pc := 5) dX9_ringOf_5 (by decide +kernel) (x_R rfl) ?_
  refine e_icmp_gt (pc := 7) (tgt := 44) dX9_ringOf_7 (by decide) (fun hb => ?_) (fun hb => ?_)
  · rw [if_pos hb] at hf3
    cases hf3
    refine e_drop (i := 2) ?_
    refine e_drop (i := 3) ?_
    have hh := hk3 _ (hx3 _ rfl).symm
    try dsimp only at hh
    exact hh
  · rw [if_neg hb] at hf3
    refine e_iloadn (pc := 10) (i := 2) dX9_ringOf_10 rfl rfl ?_
    obtain ⟨v5, hr5, hf3⟩ := x_bd1 hf3
    have hjhr5 : Ev g yX9_ringOf cX9_ringOf 4 (some .int) [] 0 30 [some (x_r (16 * 23 + 0)), some (x_i a), some (x_i v1), some (x_i v2)] [x_i v5] (al, ro, fl (ml M [23] [St])) 0 0 (.inl (some (x_i t))) (al, ro, fl (ml M [23] [St])) := by
      refine e_istoren (pc := 30) (i := 2) dX9_ringOf_30 rfl (by decide) rfl ?_
      show Ev g _ _ _ _ _ _ 31 [some (x_r (16 * 23 + 0)), some (x_i a), some (x_i v5), some (x_i v2)] [] (al, ro, fl (ml M [23] [St])) _ _ _ _
      refine e_iloadn (pc := 31) (i := 2) dX9_ringOf_31 rfl rfl ?_
      refine e_iloadn (pc := 32) (i := 1) dX9_ringOf_32 rfl rfl ?_
      refine e_icmp_ne (pc := 33) (tgt := 38) dX9_ringOf_33 (by decide) (fun hb => ?_) (fun hb => ?_)
      · rw [if_neg hb] at hf3
        refine e_iinc (pc := 38) dX9_ringOf_38 rfl (by decide) rfl ?_
        show Ev g _ _ _ _ _ _ 41 [some (x_r (16 * 23 + 0)), some (x_i a), some (x_i v5), some (x_i (x_add v2 1))] [] (al, ro, fl (ml M [23] [St])) _ _ _ _
        refine e_goto (pc := 41) (tgt := 4) dX9_ringOf_41 (by decide) ?_
        cases hf3
        have hh := hi3 _ rfl
        try dsimp only at hh
        exact hh
      · rw [if_pos hb] at hf3
        refine e_iloadn (pc := 36) (i := 3) dX9_ringOf_36 rfl rfl ?_
        cases hf3
        have hz := hv3 _ (hx3 _ rfl).symm
        cases hz
        exact (e_ireturn rfl dX9_ringOf_37 rfl)
    clear hf3
    refine e_if_lt (pc := 11) (tgt := 29) dX9_ringOf_11 (by decide) (fun hb => ?_) (fun hb => ?_)
    · rw [if_pos hb] at hr5
      refine e_iloadn (pc := 29) (i := 1) dX9_ringOf_29 rfl rfl ?_
      cases hr5
      exact hjhr5
    · rw [if_neg hb] at hr5
      refine e_iloadn (pc := 14) (i := 2) dX9_ringOf_14 rfl rfl ?_
      refine e_bipush (pc := 15) dX9_ringOf_15 (by decide +kernel) (x_R rfl) ?_
      refine e_icmp_ge (pc := 17) (tgt := 29) dX9_ringOf_17 (by decide) (fun hb => ?_) (fun hb => ?_)
      · rw [if_pos hb] at hr5
        refine e_iloadn (pc := 29) (i := 1) dX9_ringOf_29 rfl rfl ?_
        cases hr5
        exact hjhr5
      · rw [if_neg hb] at hr5
        refine e_aloadn (pc := 20) (i := 0) dX9_ringOf_20 rfl rfl ?_
        refine f_getr (pc := 21) (u := 23) (q := 0) dX9_ringOf_21 xf9_15 (sa_23_0 hs) rfl (sr_23_0_1 hs) ?_
        refine e_iloadn (pc := 24) (i := 2) dX9_ringOf_24 rfl rfl ?_
        obtain ⟨hc0, hr5⟩ := x_gd_some hr5
        refine f_iald (pc := 25) (k := 0) (u := 23) (q := 2) (len := 7) dX9_ringOf_25 (sa_23_2 hs) hc0 hn rfl rfl (by decide) ?_
        show Ev g _ _ _ _ _ _ 26 [some (x_r (16 * 23 + 0)), some (x_i a), some (x_i v1), some (x_i v2)] [x_i (St 2 (v1).toNat)] (al, ro, fl (ml M [23] [St])) _ _ _ _
        refine e_goto (pc := 26) (tgt := 30) dX9_ringOf_26 (by decide) ?_
        cases hr5
        exact hjhr5
set_option maxRecDepth 100000 in
set_option maxHeartbeats 4000000 in
theorem c_X9_tradeAll {g : xG} {al : List (Nat × Nat × Nat)} {ro : Nat → Nat → Option Nat} (hst : g.1.stackTraces = false) (hs : SH al ro) {M : Nat → xU} {N : xU} {St : xU}  {t : xU} (hG : G9_tradeAll N St = some t) :
    Cal g yX9_tradeAll cX9_tradeAll 7 none 4 [x_r (16 * 23 + 0), x_r (16 * 3 + 0)] (al, ro, fl (ml M [3, 23] [N, St])) 0 0 (.inl none) (al, ro, fl (ml M [3, 23] [N, t])) := by
  have hn : ([3, 23] : List Nat).Nodup := by decide
  refine cal_of_ev (plainFor_of_name (by decide)) (x_c1 rfl) (Nat.le_of_ble_eq_true rfl) hst ?_
  show Ev g _ _ _ _ _ _ 0 [some (x_r (16 * 23 + 0)), some (x_r (16 * 3 + 0)), none, none, none, none, none] [] (al, ro, fl (ml M [3, 23] [N, St])) _ _ _ _
  rw [G9_tradeAll] at hG
  refine e_iconst (pc := 0) dX9_tradeAll_0 (x_R rfl) ?_
  refine e_aloadn (pc := 1) (i := 1) dX9_tradeAll_1 rfl rfl ?_
  refine f_geti (pc := 2) (k := 0) (u := 3) (q := 0) dX9_tradeAll_2 xf9_24 (sa_3_0 hs) rfl hn rfl rfl (by decide) ?_
  show Ev g _ _ _ _ _ _ 5 [some (x_r (16 * 23 + 0)), some (x_r (16 * 3 + 0)), none, none, none, none, none] [x_i (N 0 3), x_i 1] (al, ro, fl (ml M [3, 23] [N, St])) _ _ _ _
  refine e_ishl (pc := 5) dX9_tradeAll_5 ?_
  refine e_iconst (pc := 6) dX9_tradeAll_6 (x_R rfl) ?_
  refine e_isub (pc := 7) dX9_tradeAll_7 ?_
  refine e_istoren (pc := 8) (i := 2) dX9_tradeAll_8 rfl (by decide) rfl ?_
  show Ev g _ _ _ _ _ _ 9 [some (x_r (16 * 23 + 0)), some (x_r (16 * 3 + 0)), some (x_i (x_sub (x_shl 1 (N 0 3)) 1)), none, none, none, none] [] (al, ro, fl (ml M [3, 23] [N, St])) _ _ _ _
  refine e_iconst (pc := 9) dX9_tradeAll_9 (x_R rfl) ?_
  refine e_istoren (pc := 10) (i := 3) dX9_tradeAll_10 rfl (by decide) rfl ?_
  show Ev g _ _ _ _ _ _ 11 [some (x_r (16 * 23 + 0)), some (x_r (16 * 3 + 0)), some (x_i (x_sub (x_shl 1 (N 0 3)) 1)), some (x_i 0), none, none, none] [] (al, ro, fl (ml M [3, 23] [N, St])) _ _ _ _
  obtain ⟨St4, hl5, hG⟩ := x_bd1 hG
  have hk5 : ∀ q : xU, q = St4 → Ev g yX9_tradeAll cX9_tradeAll 7 none [] 4 160 [some (x_r (16 * 23 + 0)), some (x_r (16 * 3 + 0)), none, none, none, none, none] [] (al, ro, fl (ml M [3, 23] [N, q])) 0 0 (.inl none) (al, ro, fl (ml M [3, 23] [N, t])) := by
    intro q hq
    replace hq := hq.symm
    subst hq
    cases hG
    exact (e_return rfl dX9_tradeAll_160)
  clear hG
  refine e_whl (G9_tradeAll_L11 N) (fun z : (Int × Int × xU) => Ev g yX9_tradeAll cX9_tradeAll 7 none [] 4 11 [some (x_r (16 * 23 + 0)), some (x_r (16 * 3 + 0)), some (x_i z.1), some (x_i z.2.1), none, none, none] [] (al, ro, fl (ml M [3, 23] [N, z.2.2])) 0 0 (.inl none) (al, ro, fl (ml M [3, 23] [N, t]))) (fun q => q = St4) ?_ xFU ((x_sub (x_shl 1 (N 0 3)) 1), 0, St) _ hl5 rfl
  intro z t5 hf5 hi5 hx5
  obtain ⟨v1, v2, St3⟩ := z
  rw [G9_tradeAll_L11] at hf5
  show Ev g _ _ _ _ _ _ 11 [some (x_r (16 * 23 + 0)), some (x_r (16 * 3 + 0)), some (x_i v1), some (x_i v2), none, none, none] [] (al, ro, fl (ml M [3, 23] [N, St3])) _ _ _ _
  refine e_iloadn (pc := 11) (i := 3) dX9_tradeAll_11 rfl rfl ?_
  refine e_bipush (pc := 12) dX9_tradeAll_12 (by decide +kernel) (x_R rfl) ?_
  refine e_icmp_ge (pc := 14) (tgt := 160) dX9_tradeAll_14 (by decide) (fun hb => ?_) (fun hb => ?_)
  · rw [if_pos hb] at hf5
    cases hf5
    refine e_drop (i := 2) ?_
    refine e_drop (i := 3) ?_
    have hh := hk5 _ (hx5 _ rfl)
    try dsimp only at hh
    exact hh
  · rw [if_neg hb] at hf5
    refine e_iloadn (pc := 17) (i := 2) dX9_tradeAll_17 rfl rfl ?_
    refine e_if_eq (pc := 18) (tgt := 160) dX9_tradeAll_18 (by decide) (fun hb => ?_) (fun hb => ?_)
    · rw [if_pos hb] at hf5
      cases hf5
      refine e_drop (i := 2) ?_
      refine e_drop (i := 3) ?_
      have hh := hk5 _ (hx5 _ rfl)
      try dsimp only at hh
      exact hh
    · rw [if_neg hb] at hf5
      refine e_iconst (pc := 21) dX9_tradeAll_21 (x_R rfl) ?_
      refine e_istore (pc := 22) (i := 4) dX9_tradeAll_22 (by decide) rfl ?_
      show Ev g _ _ _ _ _ _ 24 [some (x_r (16 * 23 + 0)), some (x_r (16 * 3 + 0)), some (x_i v1), some (x_i v2), some (x_i 0), none, none] [] (al, ro, fl (ml M [3, 23] [N, St3])) _ _ _ _
      obtain ⟨St9, hl10, hf5⟩ := x_bd1 hf5
      have hk10 : ∀ q : xU, q = St9 → Ev g yX9_tradeAll cX9_tradeAll 7 none [] 4 61 [some (x_r (16 * 23 + 0)), some (x_r (16 * 3 + 0)), some (x_i v1), some (x_i v2), none, none, none] [] (al, ro, fl (ml M [3, 23] [N, q])) 0 0 (.inl none) (al, ro, fl (ml M [3, 23] [N, t])) := by
        intro q hq
        replace hq := hq.symm
        subst hq
        refine e_iconst (pc := 61) dX9_tradeAll_61 (x_R rfl) ?_
        refine e_istore (pc := 62) (i := 4) dX9_tradeAll_62 (by decide) rfl ?_
        show Ev g _ _ _ _ _ _ 64 [some (x_r (16 * 23 + 0)), some (x_r (16 * 3 + 0)), some (x_i v1), some (x_i v2), some (x_i 0), none, none] [] (al, ro, fl (ml M [3, 23] [N, St9])) _ _ _ _
        refine e_iconst (pc := 64) dX9_tradeAll_64 (x_R rfl) ?_
        refine e_istore (pc := 65) (i := 5) dX9_tradeAll_65 (by decide) rfl ?_
        show Ev g _ _ _ _ _ _ 67 [some (x_r (16 * 23 + 0)), some (x_r (16 * 3 + 0)), some (x_i v1), some (x_i v2), some (x_i 0), some (x_i 0), none] [] (al, ro, fl (ml M [3, 23] [N, St9])) _ _ _ _
        obtain ⟨v17, St18, hl19, hf5⟩ := x_bd2 hf5
        have hk19 : ∀ q : (Int × xU), q = (v17, St18) → Ev g yX9_tradeAll cX9_tradeAll 7 none [] 4 147 [some (x_r (16 * 23 + 0)), some (x_r (16 * 3 + 0)), some (x_i v1), some (x_i v2), some (x_i q.1), none, none] [] (al, ro, fl (ml M [3, 23] [N, q.2])) 0 0 (.inl none) (al, ro, fl (ml M [3, 23] [N, t])) := by
          intro q hq
          cases hq
          refine e_iloadn (pc := 147) (i := 2) dX9_tradeAll_147 rfl rfl ?_
          refine e_iload (pc := 148) dX9_tradeAll_148 rfl ?_
          refine e_iconst (pc := 150) dX9_tradeAll_150 (x_R rfl) ?_
          refine e_ixor (pc := 151) dX9_tradeAll_151 ?_
          refine e_iand (pc := 152) dX9_tradeAll_152 ?_
          refine e_istoren (pc := 153) (i := 2) dX9_tradeAll_153 rfl (by decide) rfl ?_
          show Ev g _ _ _ _ _ _ 154 [some (x_r (16 * 23 + 0)), some (x_r (16 * 3 + 0)), some (x_i (x_and v1 (x_xor v17 (-1)))), some (x_i v2), some (x_i v17), none, none] [] (al, ro, fl (ml M [3, 23] [N, St18])) _ _ _ _
          refine e_iinc (pc := 154) dX9_tradeAll_154 rfl (by decide) rfl ?_
          show Ev g _ _ _ _ _ _ 157 [some (x_r (16 * 23 + 0)), some (x_r (16 * 3 + 0)), some (x_i (x_and v1 (x_xor v17 (-1)))), some (x_i (x_add v2 1)), some (x_i v17), none, none] [] (al, ro, fl (ml M [3, 23] [N, St18])) _ _ _ _
          refine e_goto (pc := 157) (tgt := 11) dX9_tradeAll_157 (by decide) ?_
          cases hf5
          refine e_drop (i := 4) ?_
          have hh := hi5 _ rfl
          try dsimp only at hh
          exact hh
        clear hf5
        refine e_whl (G9_tradeAll_L67 N v1) (fun z : (Int × Int × xU) => Ev g yX9_tradeAll cX9_tradeAll 7 none [] 4 67 [some (x_r (16 * 23 + 0)), some (x_r (16 * 3 + 0)), some (x_i v1), some (x_i v2), some (x_i z.1), some (x_i z.2.1), none] [] (al, ro, fl (ml M [3, 23] [N, z.2.2])) 0 0 (.inl none) (al, ro, fl (ml M [3, 23] [N, t]))) (fun q => q = (v17, St18)) ?_ xFU (0, 0, St9) _ hl19 rfl
        intro z t19 hf19 hi19 hx19
        obtain ⟨v14, v15, St16⟩ := z
        rw [G9_tradeAll_L67] at hf19
        show Ev g _ _ _ _ _ _ 67 [some (x_r (16 * 23 + 0)), some (x_r (16 * 3 + 0)), some (x_i v1), some (x_i v2), some (x_i v14), some (x_i v15), none] [] (al, ro, fl (ml M [3, 23] [N, St16])) _ _ _ _
        refine e_iload (pc := 67) dX9_tradeAll_67 rfl ?_
        refine e_aloadn (pc := 69) (i := 1) dX9_tradeAll_69 rfl rfl ?_
        refine f_geti (pc := 70) (k := 0) (u := 3) (q := 0) dX9_tradeAll_70 xf9_24 (sa_3_0 hs) rfl hn rfl rfl (by decide) ?_
        show Ev g _ _ _ _ _ _ 73 [some (x_r (16 * 23 + 0)), some (x_r (16 * 3 + 0)), some (x_i v1), some (x_i v2), some (x_i v14), some (x_i v15), none] [x_i (N 0 3), x_i v15] (al, ro, fl (ml M [3, 23] [N, St16])) _ _ _ _
        refine e_icmp_ge (pc := 73) (tgt := 147) dX9_tradeAll_73 (by decide) (fun hb => ?_) (fun hb => ?_)
        · rw [if_pos hb] at hf19
          cases hf19
          refine e_drop (i := 5) ?_
          have hh := hk19 _ (hx19 _ rfl)
          try dsimp only at hh
          exact hh
        · rw [if_neg hb] at hf19
          refine e_iload (pc := 76) dX9_tradeAll_76 rfl ?_
          refine e_bipush (pc := 78) dX9_tradeAll_78 (by decide +kernel) (x_R rfl) ?_
          refine e_icmp_ge (pc := 80) (tgt := 147) dX9_tradeAll_80 (by decide) (fun hb => ?_) (fun hb => ?_)
          · rw [if_pos hb] at hf19
            cases hf19
            refine e_drop (i := 5) ?_
            have hh := hk19 _ (hx19 _ rfl)
            try dsimp only at hh
            exact hh
          · rw [if_neg hb] at hf19
            refine e_iloadn (pc := 83) (i := 2) dX9_tradeAll_83 rfl rfl ?_
            refine e_iload (pc := 84) dX9_tradeAll_84 rfl ?_
            obtain ⟨v21, hq21, hf19⟩ := x_bd1 hf19
            refine e_invS (pc := 86) (K1 := 0) (S1 := 0) (K := 0) (S := 0) (dd2 := 0) (av := [x_i v1, x_i v15]) (st := []) dX9_tradeAll_86 xmX9_30 rfl (f_cal (M := M) (us2 := []) [] hn rfl trivial rfl rfl rfl (c_X11_holdsBit hst hs   hq21)) (by decide) (Nat.le_of_ble_eq_true rfl) (Or.inl rfl) ?_
            show Ev g _ _ _ _ _ _ 89 [some (x_r (16 * 23 + 0)), some (x_r (16 * 3 + 0)), some (x_i v1), some (x_i v2), some (x_i v14), some (x_i v15), none] [x_i v21] (al, ro, fl (ml M [3, 23] [N, St16])) _ _ _ _
            obtain ⟨v23, hr23, hf19⟩ := x_bd1 hf19
            have hjhr23 : Ev g yX9_tradeAll cX9_tradeAll 7 none [] 4 102 [some (x_r (16 * 23 + 0)), some (x_r (16 * 3 + 0)), some (x_i v1), some (x_i v2), some (x_i v14), some (x_i v15), none] [x_i v23] (al, ro, fl (ml M [3, 23] [N, St16])) 0 0 (.inl none) (al, ro, fl (ml M [3, 23] [N, t])) := by
              refine e_istore (pc := 102) (i := 6) dX9_tradeAll_102 (by decide) rfl ?_
              show Ev g _ _ _ _ _ _ 104 [some (x_r (16 * 23 + 0)), some (x_r (16 * 3 + 0)), some (x_i v1), some (x_i v2), some (x_i v14), some (x_i v15), some (x_i v23)] [] (al, ro, fl (ml M [3, 23] [N, St16])) _ _ _ _
              refine e_iload (pc := 104) dX9_tradeAll_104 rfl ?_
              obtain ⟨v27, St28, hr28, hf19⟩ := x_bd2 hf19
              have hjhr28 : Ev g yX9_tradeAll cX9_tradeAll 7 none [] 4 141 [some (x_r (16 * 23 + 0)), some (x_r (16 * 3 + 0)), some (x_i v1), some (x_i v2), some (x_i v27), some (x_i v15), some (x_i v23)] [] (al, ro, fl (ml M [3, 23] [N, St28])) 0 0 (.inl none) (al, ro, fl (ml M [3, 23] [N, t])) := by
                refine e_iinc (pc := 141) dX9_tradeAll_141 rfl (by decide) rfl ?_
                show Ev g _ _ _ _ _ _ 144 [some (x_r (16 * 23 + 0)), some (x_r (16 * 3 + 0)), some (x_i v1), some (x_i v2), some (x_i v27), some (x_i (x_add v15 1)), some (x_i v23)] [] (al, ro, fl (ml M [3, 23] [N, St28])) _ _ _ _
                refine e_goto (pc := 144) (tgt := 67) dX9_tradeAll_144 (by decide) ?_
                cases hf19
                refine e_drop (i := 6) ?_
                have hh := hi19 _ rfl
                try dsimp only at hh
                exact hh
              clear hf19
              refine e_if_le (pc := 106) (tgt := 141) dX9_tradeAll_106 (by decide) (fun hb => ?_) (fun hb => ?_)
              · rw [if_pos hb] at hr28
                cases hr28
                exact hjhr28
              · rw [if_neg hb] at hr28
                refine e_aloadn (pc := 109) (i := 0) dX9_tradeAll_109 rfl rfl ?_
                refine f_getr (pc := 110) (u := 23) (q := 0) dX9_tradeAll_110 xf9_18 (sa_23_0 hs) rfl (sr_23_0_2 hs) ?_
                refine e_iload (pc := 113) dX9_tradeAll_113 rfl ?_
                refine e_aloadn (pc := 115) (i := 0) dX9_tradeAll_115 rfl rfl ?_
                refine f_getr (pc := 116) (u := 23) (q := 0) dX9_tradeAll_116 xf9_15 (sa_23_0 hs) rfl (sr_23_0_1 hs) ?_
                refine e_iload (pc := 119) dX9_tradeAll_119 rfl ?_
                obtain ⟨hc0, hr28⟩ := x_gd_some hr28
                refine f_iald (pc := 121) (k := 1) (u := 23) (q := 2) (len := 7) dX9_tradeAll_121 (sa_23_2 hs) hc0 hn rfl rfl (by decide) ?_
                show Ev g _ _ _ _ _ _ 122 [some (x_r (16 * 23 + 0)), some (x_r (16 * 3 + 0)), some (x_i v1), some (x_i v2), some (x_i v14), some (x_i v15), some (x_i v23)] [x_i (St16 2 (v15).toNat), x_i v15, x_r (16 * 23 + 3)] (al, ro, fl (ml M [3, 23] [N, St16])) _ _ _ _
                obtain ⟨hc0, hr28⟩ := x_gd_some hr28
                refine f_iast (pc := 122) (k := 1) (u := 23) (q := 3) (len := 7) dX9_tradeAll_122 (sa_23_3 hs) hc0 hn rfl rfl rfl (by decide) ?_
                show Ev g _ _ _ _ _ _ 123 [some (x_r (16 * 23 + 0)), some (x_r (16 * 3 + 0)), some (x_i v1), some (x_i v2), some (x_i v14), some (x_i v15), some (x_i v23)] [] (al, ro, fl (ml M [3, 23] [N, (x_up St16 3 (v15).toNat (St16 2 (v15).toNat))])) _ _ _ _
                refine e_aloadn (pc := 123) (i := 0) dX9_tradeAll_123 rfl rfl ?_
                refine f_getr (pc := 124) (u := 23) (q := 0) dX9_tradeAll_124 xf9_21 (sa_23_0 hs) rfl (sr_23_0_3 hs) ?_
                refine e_iload (pc := 127) dX9_tradeAll_127 rfl ?_
                refine e_iload (pc := 129) dX9_tradeAll_129 rfl ?_
                obtain ⟨hc0, hr28⟩ := x_gd_some hr28
                refine f_iast (pc := 131) (k := 1) (u := 23) (q := 4) (len := 7) dX9_tradeAll_131 (sa_23_4 hs) hc0 hn rfl rfl rfl (by decide) ?_
                show Ev g _ _ _ _ _ _ 132 [some (x_r (16 * 23 + 0)), some (x_r (16 * 3 + 0)), some (x_i v1), some (x_i v2), some (x_i v14), some (x_i v15), some (x_i v23)] [] (al, ro, fl (ml M [3, 23] [N, (x_up (x_up St16 3 (v15).toNat (St16 2 (v15).toNat)) 4 (v15).toNat v23)])) _ _ _ _
                refine e_iload (pc := 132) dX9_tradeAll_132 rfl ?_
                refine e_iconst (pc := 134) dX9_tradeAll_134 (x_R rfl) ?_
                refine e_iload (pc := 135) dX9_tradeAll_135 rfl ?_
                refine e_ishl (pc := 137) dX9_tradeAll_137 ?_
                refine e_ior (pc := 138) dX9_tradeAll_138 ?_
                refine e_istore (pc := 139) (i := 4) dX9_tradeAll_139 (by decide) rfl ?_
                show Ev g _ _ _ _ _ _ 141 [some (x_r (16 * 23 + 0)), some (x_r (16 * 3 + 0)), some (x_i v1), some (x_i v2), some (x_i (x_or v14 (x_shl 1 v15))), some (x_i v15), some (x_i v23)] [] (al, ro, fl (ml M [3, 23] [N, (x_up (x_up St16 3 (v15).toNat (St16 2 (v15).toNat)) 4 (v15).toNat v23)])) _ _ _ _
                cases hr28
                exact hjhr28
            clear hf19
            refine e_if_eq (pc := 89) (tgt := 101) dX9_tradeAll_89 (by decide) (fun hb => ?_) (fun hb => ?_)
            · rw [if_pos hb] at hr23
              refine e_iconst (pc := 101) dX9_tradeAll_101 (x_R rfl) ?_
              cases hr23
              exact hjhr23
            · rw [if_neg hb] at hr23
              refine e_aloadn (pc := 92) (i := 0) dX9_tradeAll_92 rfl rfl ?_
              refine e_iload (pc := 93) dX9_tradeAll_93 rfl ?_
              obtain ⟨v25, hq25, hr23⟩ := x_bd1 hr23
              refine e_invV (pc := 95) (K1 := 0) (S1 := 0) (K := 0) (S := 0) (dd2 := 0) (av := [x_i v15]) (st := []) (id := 16 * 23 + 0) dX9_tradeAll_95 xmX9_68 rfl (Or.inl ⟨7, 4, TX9, (sa_23_0 hs), rfl, by decide⟩) (f_cal (M := M) (us2 := [23]) [1] hn rfl (And.intro rfl trivial) rfl rfl rfl (c_X9_ringOf hst hs   hq25)) (by decide) (Nat.le_of_ble_eq_true rfl) (Or.inl rfl) ?_
              show Ev g _ _ _ _ _ _ 98 [some (x_r (16 * 23 + 0)), some (x_r (16 * 3 + 0)), some (x_i v1), some (x_i v2), some (x_i v14), some (x_i v15), none] [x_i v25] (al, ro, fl (ml M [3, 23] [N, St16])) _ _ _ _
              refine e_goto (pc := 98) (tgt := 102) dX9_tradeAll_98 (by decide) ?_
              cases hr23
              exact hjhr23
      clear hf5
      refine e_whl (G9_tradeAll_L24 N v1) (fun z : (Int × xU) => Ev g yX9_tradeAll cX9_tradeAll 7 none [] 4 24 [some (x_r (16 * 23 + 0)), some (x_r (16 * 3 + 0)), some (x_i v1), some (x_i v2), some (x_i z.1), none, none] [] (al, ro, fl (ml M [3, 23] [N, z.2])) 0 0 (.inl none) (al, ro, fl (ml M [3, 23] [N, t]))) (fun q => q = St9) ?_ xFU (0, St3) _ hl10 rfl
      intro z t10 hf10 hi10 hx10
      obtain ⟨v7, St8⟩ := z
      rw [G9_tradeAll_L24] at hf10
      show Ev g _ _ _ _ _ _ 24 [some (x_r (16 * 23 + 0)), some (x_r (16 * 3 + 0)), some (x_i v1), some (x_i v2), some (x_i v7), none, none] [] (al, ro, fl (ml M [3, 23] [N, St8])) _ _ _ _
      refine e_iload (pc := 24) dX9_tradeAll_24 rfl ?_
      refine e_aloadn (pc := 26) (i := 1) dX9_tradeAll_26 rfl rfl ?_
      refine f_geti (pc := 27) (k := 0) (u := 3) (q := 0) dX9_tradeAll_27 xf9_24 (sa_3_0 hs) rfl hn rfl rfl (by decide) ?_
      show Ev g _ _ _ _ _ _ 30 [some (x_r (16 * 23 + 0)), some (x_r (16 * 3 + 0)), some (x_i v1), some (x_i v2), some (x_i v7), none, none] [x_i (N 0 3), x_i v7] (al, ro, fl (ml M [3, 23] [N, St8])) _ _ _ _
      refine e_icmp_ge (pc := 30) (tgt := 61) dX9_tradeAll_30 (by decide) (fun hb => ?_) (fun hb => ?_)
      · rw [if_pos hb] at hf10
        cases hf10
        refine e_drop (i := 4) ?_
        have hh := hk10 _ (hx10 _ rfl)
        try dsimp only at hh
        exact hh
      · rw [if_neg hb] at hf10
        refine e_iload (pc := 33) dX9_tradeAll_33 rfl ?_
        refine e_bipush (pc := 35) dX9_tradeAll_35 (by decide +kernel) (x_R rfl) ?_
        refine e_icmp_ge (pc := 37) (tgt := 61) dX9_tradeAll_37 (by decide) (fun hb => ?_) (fun hb => ?_)
        · rw [if_pos hb] at hf10
          cases hf10
          refine e_drop (i := 4) ?_
          have hh := hk10 _ (hx10 _ rfl)
          try dsimp only at hh
          exact hh
        · rw [if_neg hb] at hf10
          refine e_aloadn (pc := 40) (i := 0) dX9_tradeAll_40 rfl rfl ?_
          refine f_getr (pc := 41) (u := 23) (q := 0) dX9_tradeAll_41 xf9_15 (sa_23_0 hs) rfl (sr_23_0_1 hs) ?_
          refine e_iload (pc := 44) dX9_tradeAll_44 rfl ?_
          refine e_aloadn (pc := 46) (i := 0) dX9_tradeAll_46 rfl rfl ?_
          refine e_aloadn (pc := 47) (i := 1) dX9_tradeAll_47 rfl rfl ?_
          refine e_iload (pc := 48) dX9_tradeAll_48 rfl ?_
          refine e_iloadn (pc := 50) (i := 2) dX9_tradeAll_50 rfl rfl ?_
          obtain ⟨v12, hq12, hf10⟩ := x_bd1 hf10
          refine e_invV (pc := 51) (K1 := 0) (S1 := 0) (K := 0) (S := 0) (dd2 := 3) (av := [x_r (16 * 3 + 0), x_i v7, x_i v1]) (st := [x_i v7, x_r (16 * 23 + 2)]) (id := 16 * 23 + 0) dX9_tradeAll_51 xmX9_64 rfl (Or.inl ⟨7, 4, TX9, (sa_23_0 hs), rfl, by decide⟩) (f_cal (M := M) (us2 := [3]) [0] hn rfl (And.intro rfl trivial) rfl rfl rfl (c_X9_pointerOf hst hs   hq12)) (by decide) (Nat.le_of_ble_eq_true rfl) (Or.inl rfl) ?_
          show Ev g _ _ _ _ _ _ 54 [some (x_r (16 * 23 + 0)), some (x_r (16 * 3 + 0)), some (x_i v1), some (x_i v2), some (x_i v7), none, none] [x_i v12, x_i v7, x_r (16 * 23 + 2)] (al, ro, fl (ml M [3, 23] [N, St8])) _ _ _ _
          obtain ⟨hc0, hf10⟩ := x_gd_some hf10
          refine f_iast (pc := 54) (k := 1) (u := 23) (q := 2) (len := 7) dX9_tradeAll_54 (sa_23_2 hs) hc0 hn rfl rfl rfl (by decide) ?_
          show Ev g _ _ _ _ _ _ 55 [some (x_r (16 * 23 + 0)), some (x_r (16 * 3 + 0)), some (x_i v1), some (x_i v2), some (x_i v7), none, none] [] (al, ro, fl (ml M [3, 23] [N, (x_up St8 2 (v7).toNat v12)])) _ _ _ _
          refine e_iinc (pc := 55) dX9_tradeAll_55 rfl (by decide) rfl ?_
          show Ev g _ _ _ _ _ _ 58 [some (x_r (16 * 23 + 0)), some (x_r (16 * 3 + 0)), some (x_i v1), some (x_i v2), some (x_i (x_add v7 1)), none, none] [] (al, ro, fl (ml M [3, 23] [N, (x_up St8 2 (v7).toNat v12)])) _ _ _ _
          refine e_goto (pc := 58) (tgt := 24) dX9_tradeAll_58 (by decide) ?_
          cases hf10
          have hh := hi10 _ rfl
          try dsimp only at hh
          exact hh
set_option maxRecDepth 100000 in
set_option maxHeartbeats 4000000 in
theorem c_X9_giverOf {g : xG} {al : List (Nat × Nat × Nat)} {ro : Nat → Nat → Option Nat} (hst : g.1.stackTraces = false) (hs : SH al ro) {M : Nat → xU} {a : Int} {St : xU}  {t : Int} (hG : G9_giverOf a St = some t) :
    Cal g yX9_giverOf cX9_giverOf 2 (some .int) 0 [x_r (16 * 23 + 0), x_i a] (al, ro, fl (ml M [23] [St])) 0 0 (.inl (some (x_i t))) (al, ro, fl (ml M [23] [St])) := by
  have hn : ([23] : List Nat).Nodup := by decide
  refine cal_of_ev (plainFor_of_name (by decide)) (x_c1 rfl) (Nat.le_of_ble_eq_true rfl) hst ?_
  show Ev g _ _ _ _ _ _ 0 [some (x_r (16 * 23 + 0)), some (x_i a)] [] (al, ro, fl (ml M [23] [St])) _ _ _ _
  rw [G9_giverOf] at hG
  refine e_iloadn (pc := 0) (i := 1) dX9_giverOf_0 rfl rfl ?_
  obtain ⟨v1, hr1, hG⟩ := x_bd1 hG
  have hjhr1 : Ev g yX9_giverOf cX9_giverOf 2 (some .int) [] 0 20 [some (x_r (16 * 23 + 0)), some (x_i a)] [x_i v1] (al, ro, fl (ml M [23] [St])) 0 0 (.inl (some (x_i t))) (al, ro, fl (ml M [23] [St])) := by
    cases hG
    exact (e_ireturn rfl dX9_giverOf_20 rfl)
  clear hG
  refine e_if_lt (pc := 1) (tgt := 19) dX9_giverOf_1 (by decide) (fun hb => ?_) (fun hb => ?_)
  · rw [if_pos hb] at hr1
    refine e_iconst (pc := 19) dX9_giverOf_19 (x_R rfl) ?_
    cases hr1
    exact hjhr1
  · rw [if_neg hb] at hr1
    refine e_iloadn (pc := 4) (i := 1) dX9_giverOf_4 rfl rfl ?_
    refine e_bipush (pc := 5) dX9_giverOf_5 (by decide +kernel) (x_R rfl) ?_
    refine e_icmp_ge (pc := 7) (tgt := 19) dX9_giverOf_7 (by decide) (fun hb => ?_) (fun hb => ?_)
    · rw [if_pos hb] at hr1
      refine e_iconst (pc := 19) dX9_giverOf_19 (x_R rfl) ?_
      cases hr1
      exact hjhr1
    · rw [if_neg hb] at hr1
      refine e_aloadn (pc := 10) (i := 0) dX9_giverOf_10 rfl rfl ?_
      refine f_getr (pc := 11) (u := 23) (q := 0) dX9_giverOf_11 xf9_18 (sa_23_0 hs) rfl (sr_23_0_2 hs) ?_
      refine e_iloadn (pc := 14) (i := 1) dX9_giverOf_14 rfl rfl ?_
      obtain ⟨hc0, hr1⟩ := x_gd_some hr1
      refine f_iald (pc := 15) (k := 0) (u := 23) (q := 3) (len := 7) dX9_giverOf_15 (sa_23_3 hs) hc0 hn rfl rfl (by decide) ?_
      show Ev g _ _ _ _ _ _ 16 [some (x_r (16 * 23 + 0)), some (x_i a)] [x_i (St 3 (a).toNat)] (al, ro, fl (ml M [23] [St])) _ _ _ _
      refine e_goto (pc := 16) (tgt := 20) dX9_giverOf_16 (by decide) ?_
      cases hr1
      exact hjhr1
set_option maxRecDepth 100000 in
set_option maxHeartbeats 4000000 in
theorem c_X9_ringSizeOf {g : xG} {al : List (Nat × Nat × Nat)} {ro : Nat → Nat → Option Nat} (hst : g.1.stackTraces = false) (hs : SH al ro) {M : Nat → xU} {a : Int} {St : xU}  {t : Int} (hG : G9_ringSizeOf a St = some t) :
    Cal g yX9_ringSizeOf cX9_ringSizeOf 2 (some .int) 0 [x_r (16 * 23 + 0), x_i a] (al, ro, fl (ml M [23] [St])) 0 0 (.inl (some (x_i t))) (al, ro, fl (ml M [23] [St])) := by
  have hn : ([23] : List Nat).Nodup := by decide
  refine cal_of_ev (plainFor_of_name (by decide)) (x_c1 rfl) (Nat.le_of_ble_eq_true rfl) hst ?_
  show Ev g _ _ _ _ _ _ 0 [some (x_r (16 * 23 + 0)), some (x_i a)] [] (al, ro, fl (ml M [23] [St])) _ _ _ _
  rw [G9_ringSizeOf] at hG
  refine e_iloadn (pc := 0) (i := 1) dX9_ringSizeOf_0 rfl rfl ?_
  obtain ⟨v1, hr1, hG⟩ := x_bd1 hG
  have hjhr1 : Ev g yX9_ringSizeOf cX9_ringSizeOf 2 (some .int) [] 0 20 [some (x_r (16 * 23 + 0)), some (x_i a)] [x_i v1] (al, ro, fl (ml M [23] [St])) 0 0 (.inl (some (x_i t))) (al, ro, fl (ml M [23] [St])) := by
    cases hG
    exact (e_ireturn rfl dX9_ringSizeOf_20 rfl)
  clear hG
  refine e_if_lt (pc := 1) (tgt := 19) dX9_ringSizeOf_1 (by decide) (fun hb => ?_) (fun hb => ?_)
  · rw [if_pos hb] at hr1
    refine e_iconst (pc := 19) dX9_ringSizeOf_19 (x_R rfl) ?_
    cases hr1
    exact hjhr1
  · rw [if_neg hb] at hr1
    refine e_iloadn (pc := 4) (i := 1) dX9_ringSizeOf_4 rfl rfl ?_
    refine e_bipush (pc := 5) dX9_ringSizeOf_5 (by decide +kernel) (x_R rfl) ?_
    refine e_icmp_ge (pc := 7) (tgt := 19) dX9_ringSizeOf_7 (by decide) (fun hb => ?_) (fun hb => ?_)
    · rw [if_pos hb] at hr1
      refine e_iconst (pc := 19) dX9_ringSizeOf_19 (x_R rfl) ?_
      cases hr1
      exact hjhr1
    · rw [if_neg hb] at hr1
      refine e_aloadn (pc := 10) (i := 0) dX9_ringSizeOf_10 rfl rfl ?_
      refine f_getr (pc := 11) (u := 23) (q := 0) dX9_ringSizeOf_11 xf9_21 (sa_23_0 hs) rfl (sr_23_0_3 hs) ?_
      refine e_iloadn (pc := 14) (i := 1) dX9_ringSizeOf_14 rfl rfl ?_
      obtain ⟨hc0, hr1⟩ := x_gd_some hr1
      refine f_iald (pc := 15) (k := 0) (u := 23) (q := 4) (len := 7) dX9_ringSizeOf_15 (sa_23_4 hs) hc0 hn rfl rfl (by decide) ?_
      show Ev g _ _ _ _ _ _ 16 [some (x_r (16 * 23 + 0)), some (x_i a)] [x_i (St 4 (a).toNat)] (al, ro, fl (ml M [23] [St])) _ _ _ _
      refine e_goto (pc := 16) (tgt := 20) dX9_ringSizeOf_16 (by decide) ?_
      cases hr1
      exact hjhr1
