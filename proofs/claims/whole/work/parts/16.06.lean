set_option maxRecDepth 100000 in
set_option maxHeartbeats 4000000 in
theorem c_X0_sharedWith {g : xG} {al : List (Nat × Nat × Nat)} {ro : Nat → Nat → Option Nat} (hst : g.1.stackTraces = false) (hs : SH al ro) {M : Nat → xU} {a : Int} {b : Int} {c : Int} {N : xU} {Br : xU}  {t : Int} (hG : G0_sharedWith a b c N Br = some t) :
    Cal g yX0_sharedWith cX0_sharedWith 6 (some .int) 1 [x_r (16 * 25 + 0), x_r (16 * 3 + 0), x_i a, x_i b, x_i c] (al, ro, fl (ml M [3, 25] [N, Br])) 0 0 (.inl (some (x_i t))) (al, ro, fl (ml M [3, 25] [N, Br])) := by
  have hn : ([3, 25] : List Nat).Nodup := by decide
  refine cal_of_ev (plainFor_of_name (by decide)) (x_c1 rfl) (Nat.le_of_ble_eq_true rfl) hst ?_
  show Ev g _ _ _ _ _ _ 0 [some (x_r (16 * 25 + 0)), some (x_r (16 * 3 + 0)), some (x_i a), some (x_i b), some (x_i c), none] [] (al, ro, fl (ml M [3, 25] [N, Br])) _ _ _ _
  rw [G0_sharedWith] at hG
  refine e_aloadn (pc := 0) (i := 1) dX0_sharedWith_0 rfl rfl ?_
  refine e_iconst (pc := 1) dX0_sharedWith_1 (x_R rfl) ?_
  refine e_iloadn (pc := 2) (i := 3) dX0_sharedWith_2 rfl rfl ?_
  obtain ⟨v1, hq1, hG⟩ := x_bd1 hG
  refine e_invV (pc := 3) (K1 := 0) (S1 := 0) (K := 0) (S := 0) (dd2 := 0) (av := [x_i 3, x_i b]) (st := []) (id := 16 * 3 + 0) dX0_sharedWith_3 xmX0_39 rfl (Or.inl ⟨1, 12, TX1, (sa_3_0 hs), rfl, by decide⟩) (f_cal (M := M) (us2 := [3]) [0] hn rfl (And.intro rfl trivial) rfl rfl rfl (c_X1_of hst hs (by decide)  hq1)) (by decide) (Nat.le_of_ble_eq_true rfl) (Or.inl rfl) ?_
  show Ev g _ _ _ _ _ _ 6 [some (x_r (16 * 25 + 0)), some (x_r (16 * 3 + 0)), some (x_i a), some (x_i b), some (x_i c), none] [x_i v1] (al, ro, fl (ml M [3, 25] [N, Br])) _ _ _ _
  refine e_aloadn (pc := 6) (i := 1) dX0_sharedWith_6 rfl rfl ?_
  refine e_iconst (pc := 7) dX0_sharedWith_7 (x_R rfl) ?_
  refine e_iload (pc := 8) dX0_sharedWith_8 rfl ?_
  obtain ⟨v3, hq3, hG⟩ := x_bd1 hG
  refine e_invV (pc := 10) (K1 := 0) (S1 := 0) (K := 0) (S := 0) (dd2 := 0) (av := [x_i 3, x_i c]) (st := [x_i v1]) (id := 16 * 3 + 0) dX0_sharedWith_10 xmX0_39 rfl (Or.inl ⟨1, 12, TX1, (sa_3_0 hs), rfl, by decide⟩) (f_cal (M := M) (us2 := [3]) [0] hn rfl (And.intro rfl trivial) rfl rfl rfl (c_X1_of hst hs (by decide)  hq3)) (by decide) (Nat.le_of_ble_eq_true rfl) (Or.inl rfl) ?_
  show Ev g _ _ _ _ _ _ 13 [some (x_r (16 * 25 + 0)), some (x_r (16 * 3 + 0)), some (x_i a), some (x_i b), some (x_i c), none] [x_i v3, x_i v1] (al, ro, fl (ml M [3, 25] [N, Br])) _ _ _ _
  refine e_iand (pc := 13) dX0_sharedWith_13 ?_
  refine e_istore (pc := 14) (i := 5) dX0_sharedWith_14 (by decide) rfl ?_
  show Ev g _ _ _ _ _ _ 16 [some (x_r (16 * 25 + 0)), some (x_r (16 * 3 + 0)), some (x_i a), some (x_i b), some (x_i c), some (x_i (x_and v1 v3))] [] (al, ro, fl (ml M [3, 25] [N, Br])) _ _ _ _
  refine e_iload (pc := 16) dX0_sharedWith_16 rfl ?_
  refine e_invS (pc := 18) (K1 := 0) (S1 := 0) (K := 0) (S := 0) (dd2 := 0) (av := [x_i (x_and v1 v3)]) (st := []) dX0_sharedWith_18 xmX0_42 rfl (p_bitCount hst hs) (by decide) (Nat.le_of_ble_eq_true rfl) (Or.inl rfl) ?_
  show Ev g _ _ _ _ _ _ 21 [some (x_r (16 * 25 + 0)), some (x_r (16 * 3 + 0)), some (x_i a), some (x_i b), some (x_i c), some (x_i (x_and v1 v3))] [x_i (x_bc (x_and v1 v3))] (al, ro, fl (ml M [3, 25] [N, Br])) _ _ _ _
  refine e_aloadn (pc := 21) (i := 0) dX0_sharedWith_21 rfl rfl ?_
  refine e_iloadn (pc := 22) (i := 2) dX0_sharedWith_22 rfl rfl ?_
  refine e_iconst (pc := 23) dX0_sharedWith_23 (x_R rfl) ?_
  refine e_iloadn (pc := 24) (i := 3) dX0_sharedWith_24 rfl rfl ?_
  refine e_ishl (pc := 25) dX0_sharedWith_25 ?_
  refine e_iconst (pc := 26) dX0_sharedWith_26 (x_R rfl) ?_
  refine e_ixor (pc := 27) dX0_sharedWith_27 ?_
  refine e_iand (pc := 28) dX0_sharedWith_28 ?_
  refine e_iconst (pc := 29) dX0_sharedWith_29 (x_R rfl) ?_
  refine e_iload (pc := 30) dX0_sharedWith_30 rfl ?_
  refine e_ishl (pc := 32) dX0_sharedWith_32 ?_
  refine e_iconst (pc := 33) dX0_sharedWith_33 (x_R rfl) ?_
  refine e_ixor (pc := 34) dX0_sharedWith_34 ?_
  refine e_iand (pc := 35) dX0_sharedWith_35 ?_
  obtain ⟨v5, hq5, hG⟩ := x_bd1 hG
  refine e_invV (pc := 36) (K1 := 0) (S1 := 0) (K := 0) (S := 0) (dd2 := 0) (av := [x_i (x_and (x_and a (x_xor (x_shl 1 b) (-1))) (x_xor (x_shl 1 c) (-1)))]) (st := [x_i (x_bc (x_and v1 v3))]) (id := 16 * 25 + 0) dX0_sharedWith_36 xmX0_25 rfl (Or.inl ⟨0, 1, TX0, (sa_25_0 hs), rfl, by decide⟩) (f_cal (M := M) (us2 := [25]) [1] hn rfl (And.intro rfl trivial) rfl rfl rfl (c_X0_sharedOf hst hs   hq5)) (by decide) (Nat.le_of_ble_eq_true rfl) (Or.inl rfl) ?_
  show Ev g _ _ _ _ _ _ 39 [some (x_r (16 * 25 + 0)), some (x_r (16 * 3 + 0)), some (x_i a), some (x_i b), some (x_i c), some (x_i (x_and v1 v3))] [x_i v5, x_i (x_bc (x_and v1 v3))] (al, ro, fl (ml M [3, 25] [N, Br])) _ _ _ _
  refine e_iadd (pc := 39) dX0_sharedWith_39 ?_
  cases hG
  exact (e_ireturn rfl dX0_sharedWith_40 rfl)
set_option maxRecDepth 100000 in
set_option maxHeartbeats 4000000 in
theorem c_X0_mostShared {g : xG} {al : List (Nat × Nat × Nat)} {ro : Nat → Nat → Option Nat} (hst : g.1.stackTraces = false) (hs : SH al ro) {M : Nat → xU} {N : xU} {Br : xU}  {t : (Int × xU)} (hG : G0_mostShared N Br = some t) :
    Cal g yX0_mostShared cX0_mostShared 7 (some .int) 2 [x_r (16 * 25 + 0), x_r (16 * 3 + 0)] (al, ro, fl (ml M [3, 25] [N, Br])) 0 0 (.inl (some (x_i t.1))) (al, ro, fl (ml M [3, 25] [N, t.2])) := by
  have hn : ([3, 25] : List Nat).Nodup := by decide
  refine cal_of_ev (plainFor_of_name (by decide)) (x_c1 rfl) (Nat.le_of_ble_eq_true rfl) hst ?_
  show Ev g _ _ _ _ _ _ 0 [some (x_r (16 * 25 + 0)), some (x_r (16 * 3 + 0)), none, none, none, none, none] [] (al, ro, fl (ml M [3, 25] [N, Br])) _ _ _ _
  rw [G0_mostShared] at hG
  refine e_iconst (pc := 0) dX0_mostShared_0 (x_R rfl) ?_
  refine e_aloadn (pc := 1) (i := 1) dX0_mostShared_1 rfl rfl ?_
  refine f_geti (pc := 2) (k := 0) (u := 3) (q := 0) dX0_mostShared_2 xf0_15 (sa_3_0 hs) rfl hn rfl rfl (by decide) ?_
  show Ev g _ _ _ _ _ _ 5 [some (x_r (16 * 25 + 0)), some (x_r (16 * 3 + 0)), none, none, none, none, none] [x_i (N 0 3), x_i 1] (al, ro, fl (ml M [3, 25] [N, Br])) _ _ _ _
  refine e_ishl (pc := 5) dX0_mostShared_5 ?_
  refine e_iconst (pc := 6) dX0_mostShared_6 (x_R rfl) ?_
  refine e_isub (pc := 7) dX0_mostShared_7 ?_
  refine e_istoren (pc := 8) (i := 2) dX0_mostShared_8 rfl (by decide) rfl ?_
  show Ev g _ _ _ _ _ _ 9 [some (x_r (16 * 25 + 0)), some (x_r (16 * 3 + 0)), some (x_i (x_sub (x_shl 1 (N 0 3)) 1)), none, none, none, none] [] (al, ro, fl (ml M [3, 25] [N, Br])) _ _ _ _
  refine e_iconst (pc := 9) dX0_mostShared_9 (x_R rfl) ?_
  refine e_istoren (pc := 10) (i := 3) dX0_mostShared_10 rfl (by decide) rfl ?_
  show Ev g _ _ _ _ _ _ 11 [some (x_r (16 * 25 + 0)), some (x_r (16 * 3 + 0)), some (x_i (x_sub (x_shl 1 (N 0 3)) 1)), some (x_i 0), none, none, none] [] (al, ro, fl (ml M [3, 25] [N, Br])) _ _ _ _
  obtain ⟨Br3, hl4, hG⟩ := x_bd1 hG
  have hk4 : ∀ q : xU, q = Br3 → Ev g yX0_mostShared cX0_mostShared 7 (some .int) [] 2 125 [some (x_r (16 * 25 + 0)), some (x_r (16 * 3 + 0)), some (x_i (x_sub (x_shl 1 (N 0 3)) 1)), none, none, none, none] [] (al, ro, fl (ml M [3, 25] [N, q])) 0 0 (.inl (some (x_i t.1))) (al, ro, fl (ml M [3, 25] [N, t.2])) := by
    intro q hq
    replace hq := hq.symm
    subst hq
    refine e_aloadn (pc := 125) (i := 0) dX0_mostShared_125 rfl rfl ?_
    refine e_iloadn (pc := 126) (i := 2) dX0_mostShared_126 rfl rfl ?_
    obtain ⟨v25, hq25, hG⟩ := x_bd1 hG
    refine e_invV (pc := 127) (K1 := 0) (S1 := 0) (K := 0) (S := 0) (dd2 := 0) (av := [x_i (x_sub (x_shl 1 (N 0 3)) 1)]) (st := []) (id := 16 * 25 + 0) dX0_mostShared_127 xmX0_25 rfl (Or.inl ⟨0, 1, TX0, (sa_25_0 hs), rfl, by decide⟩) (f_cal (M := M) (us2 := [25]) [1] hn rfl (And.intro rfl trivial) rfl rfl rfl (c_X0_sharedOf hst hs   hq25)) (by decide) (Nat.le_of_ble_eq_true rfl) (Or.inl rfl) ?_
    show Ev g _ _ _ _ _ _ 130 [some (x_r (16 * 25 + 0)), some (x_r (16 * 3 + 0)), some (x_i (x_sub (x_shl 1 (N 0 3)) 1)), none, none, none, none] [x_i v25] (al, ro, fl (ml M [3, 25] [N, Br3])) _ _ _ _
    cases hG
    exact (e_ireturn rfl dX0_mostShared_130 rfl)
  clear hG
  refine e_whl (G0_mostShared_L11 N) (fun z : (Int × xU) => Ev g yX0_mostShared cX0_mostShared 7 (some .int) [] 2 11 [some (x_r (16 * 25 + 0)), some (x_r (16 * 3 + 0)), some (x_i (x_sub (x_shl 1 (N 0 3)) 1)), some (x_i z.1), none, none, none] [] (al, ro, fl (ml M [3, 25] [N, z.2])) 0 0 (.inl (some (x_i t.1))) (al, ro, fl (ml M [3, 25] [N, t.2]))) (fun q => q = Br3) ?_ xFU (0, Br) _ hl4 rfl
  intro z t4 hf4 hi4 hx4
  obtain ⟨v1, Br2⟩ := z
  rw [G0_mostShared_L11] at hf4
  show Ev g _ _ _ _ _ _ 11 [some (x_r (16 * 25 + 0)), some (x_r (16 * 3 + 0)), some (x_i (x_sub (x_shl 1 (N 0 3)) 1)), some (x_i v1), none, none, none] [] (al, ro, fl (ml M [3, 25] [N, Br2])) _ _ _ _
  refine e_iloadn (pc := 11) (i := 3) dX0_mostShared_11 rfl rfl ?_
  refine e_iloadn (pc := 12) (i := 2) dX0_mostShared_12 rfl rfl ?_
  refine e_icmp_gt (pc := 13) (tgt := 125) dX0_mostShared_13 (by decide) (fun hb => ?_) (fun hb => ?_)
  · rw [if_pos hb] at hf4
    cases hf4
    refine e_drop (i := 3) ?_
    have hh := hk4 _ (hx4 _ rfl)
    try dsimp only at hh
    exact hh
  · rw [if_neg hb] at hf4
    refine e_iloadn (pc := 16) (i := 3) dX0_mostShared_16 rfl rfl ?_
    refine e_sipush (pc := 17) dX0_mostShared_17 (by decide +kernel) (x_R rfl) ?_
    refine e_icmp_ge (pc := 20) (tgt := 125) dX0_mostShared_20 (by decide) (fun hb => ?_) (fun hb => ?_)
    · rw [if_pos hb] at hf4
      cases hf4
      refine e_drop (i := 3) ?_
      have hh := hk4 _ (hx4 _ rfl)
      try dsimp only at hh
      exact hh
    · rw [if_neg hb] at hf4
      refine e_iconst (pc := 23) dX0_mostShared_23 (x_R rfl) ?_
      refine e_istore (pc := 24) (i := 4) dX0_mostShared_24 (by decide) rfl ?_
      show Ev g _ _ _ _ _ _ 26 [some (x_r (16 * 25 + 0)), some (x_r (16 * 3 + 0)), some (x_i (x_sub (x_shl 1 (N 0 3)) 1)), some (x_i v1), some (x_i 0), none, none] [] (al, ro, fl (ml M [3, 25] [N, Br2])) _ _ _ _
      obtain ⟨v7, hl8, hf4⟩ := x_bd1 hf4
      have hk8 : ∀ q : Int, q = v7 → Ev g yX0_mostShared cX0_mostShared 7 (some .int) [] 2 50 [some (x_r (16 * 25 + 0)), some (x_r (16 * 3 + 0)), some (x_i (x_sub (x_shl 1 (N 0 3)) 1)), some (x_i v1), some (x_i q), none, none] [] (al, ro, fl (ml M [3, 25] [N, Br2])) 0 0 (.inl (some (x_i t.1))) (al, ro, fl (ml M [3, 25] [N, t.2])) := by
        intro q hq
        replace hq := hq.symm
        subst hq
        refine e_aloadn (pc := 50) (i := 0) dX0_mostShared_50 rfl rfl ?_
        refine e_iloadn (pc := 51) (i := 3) dX0_mostShared_51 rfl rfl ?_
        refine e_iconst (pc := 52) dX0_mostShared_52 (x_R rfl) ?_
        refine e_iload (pc := 53) dX0_mostShared_53 rfl ?_
        refine e_ishl (pc := 55) dX0_mostShared_55 ?_
        refine e_iconst (pc := 56) dX0_mostShared_56 (x_R rfl) ?_
        refine e_ixor (pc := 57) dX0_mostShared_57 ?_
        refine e_iand (pc := 58) dX0_mostShared_58 ?_
        obtain ⟨v12, hq12, hf4⟩ := x_bd1 hf4
        refine e_invV (pc := 59) (K1 := 0) (S1 := 0) (K := 0) (S := 0) (dd2 := 0) (av := [x_i (x_and v1 (x_xor (x_shl 1 v7) (-1)))]) (st := []) (id := 16 * 25 + 0) dX0_mostShared_59 xmX0_25 rfl (Or.inl ⟨0, 1, TX0, (sa_25_0 hs), rfl, by decide⟩) (f_cal (M := M) (us2 := [25]) [1] hn rfl (And.intro rfl trivial) rfl rfl rfl (c_X0_sharedOf hst hs   hq12)) (by decide) (Nat.le_of_ble_eq_true rfl) (Or.inl rfl) ?_
        show Ev g _ _ _ _ _ _ 62 [some (x_r (16 * 25 + 0)), some (x_r (16 * 3 + 0)), some (x_i (x_sub (x_shl 1 (N 0 3)) 1)), some (x_i v1), some (x_i v7), none, none] [x_i v12] (al, ro, fl (ml M [3, 25] [N, Br2])) _ _ _ _
        refine e_istore (pc := 62) (i := 5) dX0_mostShared_62 (by decide) rfl ?_
        show Ev g _ _ _ _ _ _ 64 [some (x_r (16 * 25 + 0)), some (x_r (16 * 3 + 0)), some (x_i (x_sub (x_shl 1 (N 0 3)) 1)), some (x_i v1), some (x_i v7), some (x_i v12), none] [] (al, ro, fl (ml M [3, 25] [N, Br2])) _ _ _ _
        refine e_iload (pc := 64) dX0_mostShared_64 rfl ?_
        refine e_iconst (pc := 66) dX0_mostShared_66 (x_R rfl) ?_
        refine e_iadd (pc := 67) dX0_mostShared_67 ?_
        refine e_istore (pc := 68) (i := 6) dX0_mostShared_68 (by decide) rfl ?_
        show Ev g _ _ _ _ _ _ 70 [some (x_r (16 * 25 + 0)), some (x_r (16 * 3 + 0)), some (x_i (x_sub (x_shl 1 (N 0 3)) 1)), some (x_i v1), some (x_i v7), some (x_i v12), some (x_i (x_add v7 1))] [] (al, ro, fl (ml M [3, 25] [N, Br2])) _ _ _ _
        obtain ⟨v16, hl17, hf4⟩ := x_bd1 hf4
        have hk17 : ∀ q : Int, q = v16 → Ev g yX0_mostShared cX0_mostShared 7 (some .int) [] 2 111 [some (x_r (16 * 25 + 0)), some (x_r (16 * 3 + 0)), some (x_i (x_sub (x_shl 1 (N 0 3)) 1)), some (x_i v1), some (x_i v7), some (x_i q), none] [] (al, ro, fl (ml M [3, 25] [N, Br2])) 0 0 (.inl (some (x_i t.1))) (al, ro, fl (ml M [3, 25] [N, t.2])) := by
          intro q hq
          replace hq := hq.symm
          subst hq
          refine e_aloadn (pc := 111) (i := 0) dX0_mostShared_111 rfl rfl ?_
          refine f_getr (pc := 112) (u := 25) (q := 0) dX0_mostShared_112 xf0_9 (sa_25_0 hs) rfl (sr_25_0_0 hs) ?_
          refine e_iloadn (pc := 115) (i := 3) dX0_mostShared_115 rfl rfl ?_
          refine e_iload (pc := 116) dX0_mostShared_116 rfl ?_
          obtain ⟨hc0, hf4⟩ := x_gd_some hf4
          refine f_iast (pc := 118) (k := 1) (u := 25) (q := 1) (len := 128) dX0_mostShared_118 (sa_25_1 hs) hc0 hn rfl rfl rfl (by decide) ?_
          show Ev g _ _ _ _ _ _ 119 [some (x_r (16 * 25 + 0)), some (x_r (16 * 3 + 0)), some (x_i (x_sub (x_shl 1 (N 0 3)) 1)), some (x_i v1), some (x_i v7), some (x_i v16), none] [] (al, ro, fl (ml M [3, 25] [N, (x_up Br2 1 (v1).toNat v16)])) _ _ _ _
          refine e_iinc (pc := 119) dX0_mostShared_119 rfl (by decide) rfl ?_
          show Ev g _ _ _ _ _ _ 122 [some (x_r (16 * 25 + 0)), some (x_r (16 * 3 + 0)), some (x_i (x_sub (x_shl 1 (N 0 3)) 1)), some (x_i (x_add v1 1)), some (x_i v7), some (x_i v16), none] [] (al, ro, fl (ml M [3, 25] [N, (x_up Br2 1 (v1).toNat v16)])) _ _ _ _
          refine e_goto (pc := 122) (tgt := 11) dX0_mostShared_122 (by decide) ?_
          cases hf4
          refine e_drop (i := 4) ?_
          refine e_drop (i := 5) ?_
          have hh := hi4 _ rfl
          try dsimp only at hh
          exact hh
        clear hf4
        refine e_whl (G0_mostShared_L70 N v1 Br2 v7) (fun z : (Int × Int) => Ev g yX0_mostShared cX0_mostShared 7 (some .int) [] 2 70 [some (x_r (16 * 25 + 0)), some (x_r (16 * 3 + 0)), some (x_i (x_sub (x_shl 1 (N 0 3)) 1)), some (x_i v1), some (x_i v7), some (x_i z.1), some (x_i z.2)] [] (al, ro, fl (ml M [3, 25] [N, Br2])) 0 0 (.inl (some (x_i t.1))) (al, ro, fl (ml M [3, 25] [N, t.2]))) (fun q => q = v16) ?_ xFU (v12, (x_add v7 1)) _ hl17 rfl
        intro z t17 hf17 hi17 hx17
        obtain ⟨v14, v15⟩ := z
        rw [G0_mostShared_L70] at hf17
        show Ev g _ _ _ _ _ _ 70 [some (x_r (16 * 25 + 0)), some (x_r (16 * 3 + 0)), some (x_i (x_sub (x_shl 1 (N 0 3)) 1)), some (x_i v1), some (x_i v7), some (x_i v14), some (x_i v15)] [] (al, ro, fl (ml M [3, 25] [N, Br2])) _ _ _ _
        refine e_iload (pc := 70) dX0_mostShared_70 rfl ?_
        refine e_aloadn (pc := 72) (i := 1) dX0_mostShared_72 rfl rfl ?_
        refine f_geti (pc := 73) (k := 0) (u := 3) (q := 0) dX0_mostShared_73 xf0_15 (sa_3_0 hs) rfl hn rfl rfl (by decide) ?_
        show Ev g _ _ _ _ _ _ 76 [some (x_r (16 * 25 + 0)), some (x_r (16 * 3 + 0)), some (x_i (x_sub (x_shl 1 (N 0 3)) 1)), some (x_i v1), some (x_i v7), some (x_i v14), some (x_i v15)] [x_i (N 0 3), x_i v15] (al, ro, fl (ml M [3, 25] [N, Br2])) _ _ _ _
        refine e_icmp_ge (pc := 76) (tgt := 111) dX0_mostShared_76 (by decide) (fun hb => ?_) (fun hb => ?_)
        · rw [if_pos hb] at hf17
          cases hf17
          refine e_drop (i := 6) ?_
          have hh := hk17 _ (hx17 _ rfl)
          try dsimp only at hh
          exact hh
        · rw [if_neg hb] at hf17
          refine e_iloadn (pc := 79) (i := 3) dX0_mostShared_79 rfl rfl ?_
          refine e_iload (pc := 80) dX0_mostShared_80 rfl ?_
          obtain ⟨v19, hq19, hf17⟩ := x_bd1 hf17
          refine e_invS (pc := 82) (K1 := 0) (S1 := 0) (K := 0) (S := 0) (dd2 := 0) (av := [x_i v1, x_i v15]) (st := []) dX0_mostShared_82 xmX0_21 rfl (f_cal (M := M) (us2 := []) [] hn rfl trivial rfl rfl rfl (c_X11_holdsBit hst hs   hq19)) (by decide) (Nat.le_of_ble_eq_true rfl) (Or.inl rfl) ?_
          show Ev g _ _ _ _ _ _ 85 [some (x_r (16 * 25 + 0)), some (x_r (16 * 3 + 0)), some (x_i (x_sub (x_shl 1 (N 0 3)) 1)), some (x_i v1), some (x_i v7), some (x_i v14), some (x_i v15)] [x_i v19] (al, ro, fl (ml M [3, 25] [N, Br2])) _ _ _ _
          obtain ⟨v21, hr21, hf17⟩ := x_bd1 hf17
          have hjhr21 : Ev g yX0_mostShared cX0_mostShared 7 (some .int) [] 2 105 [some (x_r (16 * 25 + 0)), some (x_r (16 * 3 + 0)), some (x_i (x_sub (x_shl 1 (N 0 3)) 1)), some (x_i v1), some (x_i v7), some (x_i v21), some (x_i v15)] [] (al, ro, fl (ml M [3, 25] [N, Br2])) 0 0 (.inl (some (x_i t.1))) (al, ro, fl (ml M [3, 25] [N, t.2])) := by
            refine e_iinc (pc := 105) dX0_mostShared_105 rfl (by decide) rfl ?_
            show Ev g _ _ _ _ _ _ 108 [some (x_r (16 * 25 + 0)), some (x_r (16 * 3 + 0)), some (x_i (x_sub (x_shl 1 (N 0 3)) 1)), some (x_i v1), some (x_i v7), some (x_i v21), some (x_i (x_add v15 1))] [] (al, ro, fl (ml M [3, 25] [N, Br2])) _ _ _ _
            refine e_goto (pc := 108) (tgt := 70) dX0_mostShared_108 (by decide) ?_
            cases hf17
            have hh := hi17 _ rfl
            try dsimp only at hh
            exact hh
          clear hf17
          refine e_if_eq (pc := 85) (tgt := 105) dX0_mostShared_85 (by decide) (fun hb => ?_) (fun hb => ?_)
          · rw [if_pos hb] at hr21
            cases hr21
            exact hjhr21
          · rw [if_neg hb] at hr21
            refine e_iload (pc := 88) dX0_mostShared_88 rfl ?_
            refine e_aloadn (pc := 90) (i := 0) dX0_mostShared_90 rfl rfl ?_
            refine e_aloadn (pc := 91) (i := 1) dX0_mostShared_91 rfl rfl ?_
            refine e_iloadn (pc := 92) (i := 3) dX0_mostShared_92 rfl rfl ?_
            refine e_iload (pc := 93) dX0_mostShared_93 rfl ?_
            refine e_iload (pc := 95) dX0_mostShared_95 rfl ?_
            obtain ⟨v23, hq23, hr21⟩ := x_bd1 hr21
            refine e_invV (pc := 97) (K1 := 0) (S1 := 0) (K := 0) (S := 0) (dd2 := 1) (av := [x_r (16 * 3 + 0), x_i v1, x_i v7, x_i v15]) (st := [x_i v14]) (id := 16 * 25 + 0) dX0_mostShared_97 xmX0_29 rfl (Or.inl ⟨0, 1, TX0, (sa_25_0 hs), rfl, by decide⟩) (f_cal (M := M) (us2 := [3, 25]) [0, 1] hn rfl (And.intro rfl (And.intro rfl trivial)) rfl rfl rfl (c_X0_sharedWith hst hs   hq23)) (by decide) (Nat.le_of_ble_eq_true rfl) (Or.inl rfl) ?_
            show Ev g _ _ _ _ _ _ 100 [some (x_r (16 * 25 + 0)), some (x_r (16 * 3 + 0)), some (x_i (x_sub (x_shl 1 (N 0 3)) 1)), some (x_i v1), some (x_i v7), some (x_i v14), some (x_i v15)] [x_i v23, x_i v14] (al, ro, fl (ml M [3, 25] [N, Br2])) _ _ _ _
            refine e_invS (pc := 100) (K1 := 0) (S1 := 0) (K := 0) (S := 0) (dd2 := 0) (av := [x_i v14, x_i v23]) (st := []) dX0_mostShared_100 xmX0_33 rfl (p_max hst hs) (by decide) (Nat.le_of_ble_eq_true rfl) (Or.inl rfl) ?_
            show Ev g _ _ _ _ _ _ 103 [some (x_r (16 * 25 + 0)), some (x_r (16 * 3 + 0)), some (x_i (x_sub (x_shl 1 (N 0 3)) 1)), some (x_i v1), some (x_i v7), some (x_i v14), some (x_i v15)] [x_i (max v14 v23)] (al, ro, fl (ml M [3, 25] [N, Br2])) _ _ _ _
            refine e_istore (pc := 103) (i := 5) dX0_mostShared_103 (by decide) rfl ?_
            show Ev g _ _ _ _ _ _ 105 [some (x_r (16 * 25 + 0)), some (x_r (16 * 3 + 0)), some (x_i (x_sub (x_shl 1 (N 0 3)) 1)), some (x_i v1), some (x_i v7), some (x_i (max v14 v23)), some (x_i v15)] [] (al, ro, fl (ml M [3, 25] [N, Br2])) _ _ _ _
            cases hr21
            exact hjhr21
      clear hf4
      refine e_whl (G0_mostShared_L26 N v1) (fun z : Int => Ev g yX0_mostShared cX0_mostShared 7 (some .int) [] 2 26 [some (x_r (16 * 25 + 0)), some (x_r (16 * 3 + 0)), some (x_i (x_sub (x_shl 1 (N 0 3)) 1)), some (x_i v1), some (x_i z), none, none] [] (al, ro, fl (ml M [3, 25] [N, Br2])) 0 0 (.inl (some (x_i t.1))) (al, ro, fl (ml M [3, 25] [N, t.2]))) (fun q => q = v7) ?_ xFU 0 _ hl8 rfl
      intro z t8 hf8 hi8 hx8
      obtain ⟨v6, hzz⟩ : ∃ y, y = z := ⟨z, rfl⟩
      subst hzz
      rw [G0_mostShared_L26] at hf8
      show Ev g _ _ _ _ _ _ 26 [some (x_r (16 * 25 + 0)), some (x_r (16 * 3 + 0)), some (x_i (x_sub (x_shl 1 (N 0 3)) 1)), some (x_i v1), some (x_i v6), none, none] [] (al, ro, fl (ml M [3, 25] [N, Br2])) _ _ _ _
      refine e_iload (pc := 26) dX0_mostShared_26 rfl ?_
      refine e_aloadn (pc := 28) (i := 1) dX0_mostShared_28 rfl rfl ?_
      refine f_geti (pc := 29) (k := 0) (u := 3) (q := 0) dX0_mostShared_29 xf0_15 (sa_3_0 hs) rfl hn rfl rfl (by decide) ?_
      show Ev g _ _ _ _ _ _ 32 [some (x_r (16 * 25 + 0)), some (x_r (16 * 3 + 0)), some (x_i (x_sub (x_shl 1 (N 0 3)) 1)), some (x_i v1), some (x_i v6), none, none] [x_i (N 0 3), x_i v6] (al, ro, fl (ml M [3, 25] [N, Br2])) _ _ _ _
      refine e_icmp_ge (pc := 32) (tgt := 50) dX0_mostShared_32 (by decide) (fun hb => ?_) (fun hb => ?_)
      · rw [if_pos hb] at hf8
        cases hf8
        have hh := hk8 _ (hx8 _ rfl)
        try dsimp only at hh
        exact hh
      · rw [if_neg hb] at hf8
        refine e_iloadn (pc := 35) (i := 3) dX0_mostShared_35 rfl rfl ?_
        refine e_iload (pc := 36) dX0_mostShared_36 rfl ?_
        obtain ⟨v10, hq10, hf8⟩ := x_bd1 hf8
        refine e_invS (pc := 38) (K1 := 0) (S1 := 0) (K := 0) (S := 0) (dd2 := 0) (av := [x_i v1, x_i v6]) (st := []) dX0_mostShared_38 xmX0_21 rfl (f_cal (M := M) (us2 := []) [] hn rfl trivial rfl rfl rfl (c_X11_holdsBit hst hs   hq10)) (by decide) (Nat.le_of_ble_eq_true rfl) (Or.inl rfl) ?_
        show Ev g _ _ _ _ _ _ 41 [some (x_r (16 * 25 + 0)), some (x_r (16 * 3 + 0)), some (x_i (x_sub (x_shl 1 (N 0 3)) 1)), some (x_i v1), some (x_i v6), none, none] [x_i v10] (al, ro, fl (ml M [3, 25] [N, Br2])) _ _ _ _
        refine e_if_ne (pc := 41) (tgt := 50) dX0_mostShared_41 (by decide) (fun hb => ?_) (fun hb => ?_)
        · rw [if_neg hb] at hf8
          cases hf8
          have hh := hk8 _ (hx8 _ rfl)
          try dsimp only at hh
          exact hh
        · rw [if_pos hb] at hf8
          refine e_iinc (pc := 44) dX0_mostShared_44 rfl (by decide) rfl ?_
          show Ev g _ _ _ _ _ _ 47 [some (x_r (16 * 25 + 0)), some (x_r (16 * 3 + 0)), some (x_i (x_sub (x_shl 1 (N 0 3)) 1)), some (x_i v1), some (x_i (x_add v6 1)), none, none] [] (al, ro, fl (ml M [3, 25] [N, Br2])) _ _ _ _
          refine e_goto (pc := 47) (tgt := 26) dX0_mostShared_47 (by decide) ?_
          cases hf8
          have hh := hi8 _ rfl
          try dsimp only at hh
          exact hh
set_option maxRecDepth 100000 in
set_option maxHeartbeats 4000000 in
theorem c_X0_firstPartner {g : xG} {al : List (Nat × Nat × Nat)} {ro : Nat → Nat → Option Nat} (hst : g.1.stackTraces = false) (hs : SH al ro) {M : Nat → xU} {a : Int} {b : Int} {N : xU} {Br : xU}  {t : Int} (hG : G0_firstPartner a b N Br = some t) :
    Cal g yX0_firstPartner cX0_firstPartner 5 (some .int) 2 [x_r (16 * 25 + 0), x_r (16 * 3 + 0), x_i a, x_i b] (al, ro, fl (ml M [3, 25] [N, Br])) 0 0 (.inl (some (x_i t))) (al, ro, fl (ml M [3, 25] [N, Br])) := by
  have hn : ([3, 25] : List Nat).Nodup := by decide
  refine cal_of_ev (plainFor_of_name (by decide)) (x_c1 rfl) (Nat.le_of_ble_eq_true rfl) hst ?_
  show Ev g _ _ _ _ _ _ 0 [some (x_r (16 * 25 + 0)), some (x_r (16 * 3 + 0)), some (x_i a), some (x_i b), none] [] (al, ro, fl (ml M [3, 25] [N, Br])) _ _ _ _
  rw [G0_firstPartner] at hG
  refine e_aloadn (pc := 0) (i := 0) dX0_firstPartner_0 rfl rfl ?_
  refine e_iloadn (pc := 1) (i := 2) dX0_firstPartner_1 rfl rfl ?_
  refine e_iconst (pc := 2) dX0_firstPartner_2 (x_R rfl) ?_
  refine e_iloadn (pc := 3) (i := 3) dX0_firstPartner_3 rfl rfl ?_
  refine e_ishl (pc := 4) dX0_firstPartner_4 ?_
  refine e_iconst (pc := 5) dX0_firstPartner_5 (x_R rfl) ?_
  refine e_ixor (pc := 6) dX0_firstPartner_6 ?_
  refine e_iand (pc := 7) dX0_firstPartner_7 ?_
  obtain ⟨v1, hq1, hG⟩ := x_bd1 hG
  refine e_invV (pc := 8) (K1 := 0) (S1 := 0) (K := 0) (S := 0) (dd2 := 0) (av := [x_i (x_and a (x_xor (x_shl 1 b) (-1)))]) (st := []) (id := 16 * 25 + 0) dX0_firstPartner_8 xmX0_25 rfl (Or.inl ⟨0, 1, TX0, (sa_25_0 hs), rfl, by decide⟩) (f_cal (M := M) (us2 := [25]) [1] hn rfl (And.intro rfl trivial) rfl rfl rfl (c_X0_sharedOf hst hs   hq1)) (by decide) (Nat.le_of_ble_eq_true rfl) (Or.inl rfl) ?_
  show Ev g _ _ _ _ _ _ 11 [some (x_r (16 * 25 + 0)), some (x_r (16 * 3 + 0)), some (x_i a), some (x_i b), none] [x_i v1] (al, ro, fl (ml M [3, 25] [N, Br])) _ _ _ _
  refine e_aloadn (pc := 11) (i := 0) dX0_firstPartner_11 rfl rfl ?_
  refine e_iloadn (pc := 12) (i := 2) dX0_firstPartner_12 rfl rfl ?_
  obtain ⟨v3, hq3, hG⟩ := x_bd1 hG
  refine e_invV (pc := 13) (K1 := 0) (S1 := 0) (K := 0) (S := 0) (dd2 := 0) (av := [x_i a]) (st := [x_i v1]) (id := 16 * 25 + 0) dX0_firstPartner_13 xmX0_25 rfl (Or.inl ⟨0, 1, TX0, (sa_25_0 hs), rfl, by decide⟩) (f_cal (M := M) (us2 := [25]) [1] hn rfl (And.intro rfl trivial) rfl rfl rfl (c_X0_sharedOf hst hs   hq3)) (by decide) (Nat.le_of_ble_eq_true rfl) (Or.inl rfl) ?_
  show Ev g _ _ _ _ _ _ 16 [some (x_r (16 * 25 + 0)), some (x_r (16 * 3 + 0)), some (x_i a), some (x_i b), none] [x_i v3, x_i v1] (al, ro, fl (ml M [3, 25] [N, Br])) _ _ _ _
  refine e_icmp_ne (pc := 16) (tgt := 21) dX0_firstPartner_16 (by decide) (fun hb => ?_) (fun hb => ?_)
  · rw [if_neg hb] at hG
    refine e_iloadn (pc := 21) (i := 3) dX0_firstPartner_21 rfl rfl ?_
    refine e_iconst (pc := 22) dX0_firstPartner_22 (x_R rfl) ?_
    refine e_iadd (pc := 23) dX0_firstPartner_23 ?_
    refine e_istore (pc := 24) (i := 4) dX0_firstPartner_24 (by decide) rfl ?_
    show Ev g _ _ _ _ _ _ 26 [some (x_r (16 * 25 + 0)), some (x_r (16 * 3 + 0)), some (x_i a), some (x_i b), some (x_i (x_add b 1))] [] (al, ro, fl (ml M [3, 25] [N, Br])) _ _ _ _
    obtain ⟨r6, hl6, hG⟩ := x_lrd hG
    have hk6 : ∀ q : Unit, r6 = .inl q → Ev g yX0_firstPartner cX0_firstPartner 5 (some .int) [] 2 70 [some (x_r (16 * 25 + 0)), some (x_r (16 * 3 + 0)), some (x_i a), some (x_i b), none] [] (al, ro, fl (ml M [3, 25] [N, Br])) 0 0 (.inl (some (x_i t))) (al, ro, fl (ml M [3, 25] [N, Br])) := by
      intro q hq
      subst hq
      replace hG := x_lr_l hG
      replace hG := x_ed1 hG
      refine e_iconst (pc := 70) dX0_firstPartner_70 (x_R rfl) ?_
      cases hG
      exact (e_ireturn rfl dX0_firstPartner_71 rfl)
    have hv6 : ∀ q : Int, r6 = .inr q → some q = some t := by
      intro q hq
      subst hq
      exact x_lr_r hG
    clear hG
    refine e_whl (G0_firstPartner_L26 a b N Br) (fun z : Int => Ev g yX0_firstPartner cX0_firstPartner 5 (some .int) [] 2 26 [some (x_r (16 * 25 + 0)), some (x_r (16 * 3 + 0)), some (x_i a), some (x_i b), some (x_i z)] [] (al, ro, fl (ml M [3, 25] [N, Br])) 0 0 (.inl (some (x_i t))) (al, ro, fl (ml M [3, 25] [N, Br]))) (fun q => q = r6) ?_ xFU (x_add b 1) _ hl6 rfl
    intro z t6 hf6 hi6 hx6
    obtain ⟨v5, hzz⟩ : ∃ y, y = z := ⟨z, rfl⟩
    subst hzz
    rw [G0_firstPartner_L26] at hf6
    show Ev g _ _ _ _ _ _ 26 [some (x_r (16 * 25 + 0)), some (x_r (16 * 3 + 0)), some (x_i a), some (x_i b), some (x_i v5)] [] (al, ro, fl (ml M [3, 25] [N, Br])) _ _ _ _
    refine e_iload (pc := 26) dX0_firstPartner_26 rfl ?_
    refine e_aloadn (pc := 28) (i := 1) dX0_firstPartner_28 rfl rfl ?_
    refine f_geti (pc := 29) (k := 0) (u := 3) (q := 0) dX0_firstPartner_29 xf0_15 (sa_3_0 hs) rfl hn rfl rfl (by decide) ?_
    show Ev g _ _ _ _ _ _ 32 [some (x_r (16 * 25 + 0)), some (x_r (16 * 3 + 0)), some (x_i a), some (x_i b), some (x_i v5)] [x_i (N 0 3), x_i v5] (al, ro, fl (ml M [3, 25] [N, Br])) _ _ _ _
    refine e_icmp_ge (pc := 32) (tgt := 70) dX0_firstPartner_32 (by decide) (fun hb => ?_) (fun hb => ?_)
    · rw [if_pos hb] at hf6
      cases hf6
      refine e_drop (i := 4) ?_
      have hh := hk6 _ (hx6 _ rfl).symm
      try dsimp only at hh
      exact hh
    · rw [if_neg hb] at hf6
      refine e_iloadn (pc := 35) (i := 2) dX0_firstPartner_35 rfl rfl ?_
      refine e_iload (pc := 36) dX0_firstPartner_36 rfl ?_
      obtain ⟨v8, hq8, hf6⟩ := x_bd1 hf6
      refine e_invS (pc := 38) (K1 := 0) (S1 := 0) (K := 0) (S := 0) (dd2 := 0) (av := [x_i a, x_i v5]) (st := []) dX0_firstPartner_38 xmX0_21 rfl (f_cal (M := M) (us2 := []) [] hn rfl trivial rfl rfl rfl (c_X11_holdsBit hst hs   hq8)) (by decide) (Nat.le_of_ble_eq_true rfl) (Or.inl rfl) ?_
      show Ev g _ _ _ _ _ _ 41 [some (x_r (16 * 25 + 0)), some (x_r (16 * 3 + 0)), some (x_i a), some (x_i b), some (x_i v5)] [x_i v8] (al, ro, fl (ml M [3, 25] [N, Br])) _ _ _ _
      refine e_if_eq (pc := 41) (tgt := 64) dX0_firstPartner_41 (by decide) (fun hb => ?_) (fun hb => ?_)
      · rw [if_pos hb] at hf6
        refine e_iinc (pc := 64) dX0_firstPartner_64 rfl (by decide) rfl ?_
        show Ev g _ _ _ _ _ _ 67 [some (x_r (16 * 25 + 0)), some (x_r (16 * 3 + 0)), some (x_i a), some (x_i b), some (x_i (x_add v5 1))] [] (al, ro, fl (ml M [3, 25] [N, Br])) _ _ _ _
        refine e_goto (pc := 67) (tgt := 26) dX0_firstPartner_67 (by decide) ?_
        cases hf6
        have hh := hi6 _ rfl
        try dsimp only at hh
        exact hh
      · rw [if_neg hb] at hf6
        refine e_aloadn (pc := 44) (i := 0) dX0_firstPartner_44 rfl rfl ?_
        refine e_aloadn (pc := 45) (i := 1) dX0_firstPartner_45 rfl rfl ?_
        refine e_iloadn (pc := 46) (i := 2) dX0_firstPartner_46 rfl rfl ?_
        refine e_iloadn (pc := 47) (i := 3) dX0_firstPartner_47 rfl rfl ?_
        refine e_iload (pc := 48) dX0_firstPartner_48 rfl ?_
        obtain ⟨v10, hq10, hf6⟩ := x_bd1 hf6
        refine e_invV (pc := 50) (K1 := 0) (S1 := 0) (K := 0) (S := 0) (dd2 := 1) (av := [x_r (16 * 3 + 0), x_i a, x_i b, x_i v5]) (st := []) (id := 16 * 25 + 0) dX0_firstPartner_50 xmX0_29 rfl (Or.inl ⟨0, 1, TX0, (sa_25_0 hs), rfl, by decide⟩) (f_cal (M := M) (us2 := [3, 25]) [0, 1] hn rfl (And.intro rfl (And.intro rfl trivial)) rfl rfl rfl (c_X0_sharedWith hst hs   hq10)) (by decide) (Nat.le_of_ble_eq_true rfl) (Or.inl rfl) ?_
        show Ev g _ _ _ _ _ _ 53 [some (x_r (16 * 25 + 0)), some (x_r (16 * 3 + 0)), some (x_i a), some (x_i b), some (x_i v5)] [x_i v10] (al, ro, fl (ml M [3, 25] [N, Br])) _ _ _ _
        refine e_aloadn (pc := 53) (i := 0) dX0_firstPartner_53 rfl rfl ?_
        refine e_iloadn (pc := 54) (i := 2) dX0_firstPartner_54 rfl rfl ?_
        obtain ⟨v12, hq12, hf6⟩ := x_bd1 hf6
        refine e_invV (pc := 55) (K1 := 0) (S1 := 0) (K := 0) (S := 0) (dd2 := 0) (av := [x_i a]) (st := [x_i v10]) (id := 16 * 25 + 0) dX0_firstPartner_55 xmX0_25 rfl (Or.inl ⟨0, 1, TX0, (sa_25_0 hs), rfl, by decide⟩) (f_cal (M := M) (us2 := [25]) [1] hn rfl (And.intro rfl trivial) rfl rfl rfl (c_X0_sharedOf hst hs   hq12)) (by decide) (Nat.le_of_ble_eq_true rfl) (Or.inl rfl) ?_
        show Ev g _ _ _ _ _ _ 58 [some (x_r (16 * 25 + 0)), some (x_r (16 * 3 + 0)), some (x_i a), some (x_i b), some (x_i v5)] [x_i v12, x_i v10] (al, ro, fl (ml M [3, 25] [N, Br])) _ _ _ _
        refine e_icmp_ne (pc := 58) (tgt := 64) dX0_firstPartner_58 (by decide) (fun hb => ?_) (fun hb => ?_)
        · rw [if_neg hb] at hf6
          refine e_iinc (pc := 64) dX0_firstPartner_64 rfl (by decide) rfl ?_
          show Ev g _ _ _ _ _ _ 67 [some (x_r (16 * 25 + 0)), some (x_r (16 * 3 + 0)), some (x_i a), some (x_i b), some (x_i (x_add v5 1))] [] (al, ro, fl (ml M [3, 25] [N, Br])) _ _ _ _
          refine e_goto (pc := 67) (tgt := 26) dX0_firstPartner_67 (by decide) ?_
          cases hf6
          have hh := hi6 _ rfl
          try dsimp only at hh
          exact hh
        · rw [if_pos hb] at hf6
          refine e_iload (pc := 61) dX0_firstPartner_61 rfl ?_
          cases hf6
          have hz := hv6 _ (hx6 _ rfl).symm
          cases hz
          exact (e_ireturn rfl dX0_firstPartner_63 rfl)
  · rw [if_pos hb] at hG
    refine e_iconst (pc := 19) dX0_firstPartner_19 (x_R rfl) ?_
    cases hG
    exact (e_ireturn rfl dX0_firstPartner_20 rfl)
set_option maxRecDepth 100000 in
set_option maxHeartbeats 4000000 in
theorem c_X0_partnerOf {g : xG} {al : List (Nat × Nat × Nat)} {ro : Nat → Nat → Option Nat} (hst : g.1.stackTraces = false) (hs : SH al ro) {M : Nat → xU} {a : Int} {N : xU} {Br : xU}  {t : (Int × xU)} (hG : G0_partnerOf a N Br = some t) :
    Cal g yX0_partnerOf cX0_partnerOf 6 (some .int) 3 [x_r (16 * 25 + 0), x_r (16 * 3 + 0), x_i a] (al, ro, fl (ml M [3, 25] [N, Br])) 0 0 (.inl (some (x_i t.1))) (al, ro, fl (ml M [3, 25] [N, t.2])) := by
  have hn : ([3, 25] : List Nat).Nodup := by decide
  refine cal_of_ev (plainFor_of_name (by decide)) (x_c1 rfl) (Nat.le_of_ble_eq_true rfl) hst ?_
  show Ev g _ _ _ _ _ _ 0 [some (x_r (16 * 25 + 0)), some (x_r (16 * 3 + 0)), some (x_i a), none, none, none] [] (al, ro, fl (ml M [3, 25] [N, Br])) _ _ _ _
  rw [G0_partnerOf] at hG
  refine e_aloadn (pc := 0) (i := 0) dX0_partnerOf_0 rfl rfl ?_
  refine e_aloadn (pc := 1) (i := 1) dX0_partnerOf_1 rfl rfl ?_
  obtain ⟨v1, Br2, hq2, hG⟩ := x_bd2 hG
  refine e_invV (pc := 2) (K1 := 0) (S1 := 0) (K := 0) (S := 0) (dd2 := 2) (av := [x_r (16 * 3 + 0)]) (st := []) (id := 16 * 25 + 0) dX0_partnerOf_2 xmX0_47 rfl (Or.inl ⟨0, 1, TX0, (sa_25_0 hs), rfl, by decide⟩) (f_cal (M := M) (us2 := [3, 25]) [0, 1] hn rfl (And.intro rfl (And.intro rfl trivial)) rfl rfl rfl (c_X0_mostShared hst hs   hq2)) (by decide) (Nat.le_of_ble_eq_true rfl) (Or.inl rfl) ?_
  show Ev g _ _ _ _ _ _ 5 [some (x_r (16 * 25 + 0)), some (x_r (16 * 3 + 0)), some (x_i a), none, none, none] [x_i v1] (al, ro, fl (ml M [3, 25] [N, Br2])) _ _ _ _
  refine e_pop (pc := 5) dX0_partnerOf_5 rfl ?_
  refine e_iconst (pc := 6) dX0_partnerOf_6 (x_R rfl) ?_
  refine e_aloadn (pc := 7) (i := 1) dX0_partnerOf_7 rfl rfl ?_
  refine f_geti (pc := 8) (k := 0) (u := 3) (q := 0) dX0_partnerOf_8 xf0_15 (sa_3_0 hs) rfl hn rfl rfl (by decide) ?_
  show Ev g _ _ _ _ _ _ 11 [some (x_r (16 * 25 + 0)), some (x_r (16 * 3 + 0)), some (x_i a), none, none, none] [x_i (N 0 3), x_i 1] (al, ro, fl (ml M [3, 25] [N, Br2])) _ _ _ _
  refine e_ishl (pc := 11) dX0_partnerOf_11 ?_
  refine e_iconst (pc := 12) dX0_partnerOf_12 (x_R rfl) ?_
  refine e_isub (pc := 13) dX0_partnerOf_13 ?_
  refine e_istoren (pc := 14) (i := 3) dX0_partnerOf_14 rfl (by decide) rfl ?_
  show Ev g _ _ _ _ _ _ 15 [some (x_r (16 * 25 + 0)), some (x_r (16 * 3 + 0)), some (x_i a), some (x_i (x_sub (x_shl 1 (N 0 3)) 1)), none, none] [] (al, ro, fl (ml M [3, 25] [N, Br2])) _ _ _ _
  refine e_iconst (pc := 15) dX0_partnerOf_15 (x_R rfl) ?_
  refine e_istore (pc := 16) (i := 4) dX0_partnerOf_16 (by decide) rfl ?_
  show Ev g _ _ _ _ _ _ 18 [some (x_r (16 * 25 + 0)), some (x_r (16 * 3 + 0)), some (x_i a), some (x_i (x_sub (x_shl 1 (N 0 3)) 1)), some (x_i 0), none] [] (al, ro, fl (ml M [3, 25] [N, Br2])) _ _ _ _
  obtain ⟨r6, hl6, hG⟩ := x_lrd hG
  have hk6 : ∀ q : Unit, r6 = .inl q → Ev g yX0_partnerOf cX0_partnerOf 6 (some .int) [] 3 98 [some (x_r (16 * 25 + 0)), some (x_r (16 * 3 + 0)), some (x_i a), none, none, none] [] (al, ro, fl (ml M [3, 25] [N, Br2])) 0 0 (.inl (some (x_i t.1))) (al, ro, fl (ml M [3, 25] [N, t.2])) := by
    intro q hq
    subst hq
    replace hG := x_lr_l hG
    replace hG := x_ed1 hG
    refine e_iconst (pc := 98) dX0_partnerOf_98 (x_R rfl) ?_
    cases hG
    exact (e_ireturn rfl dX0_partnerOf_99 rfl)
  have hv6 : ∀ q : (Int × xU), r6 = .inr q → some q = some t := by
    intro q hq
    subst hq
    exact x_lr_r hG
  clear hG
  refine e_whl (G0_partnerOf_L18 a N Br2) (fun z : (Int × Int) => Ev g yX0_partnerOf cX0_partnerOf 6 (some .int) [] 3 18 [some (x_r (16 * 25 + 0)), some (x_r (16 * 3 + 0)), some (x_i a), some (x_i z.1), some (x_i z.2), none] [] (al, ro, fl (ml M [3, 25] [N, Br2])) 0 0 (.inl (some (x_i t.1))) (al, ro, fl (ml M [3, 25] [N, t.2]))) (fun q => q = r6) ?_ xFU ((x_sub (x_shl 1 (N 0 3)) 1), 0) _ hl6 rfl
  intro z t6 hf6 hi6 hx6
  obtain ⟨v4, v5⟩ := z
  rw [G0_partnerOf_L18] at hf6
  show Ev g _ _ _ _ _ _ 18 [some (x_r (16 * 25 + 0)), some (x_r (16 * 3 + 0)), some (x_i a), some (x_i v4), some (x_i v5), none] [] (al, ro, fl (ml M [3, 25] [N, Br2])) _ _ _ _
  refine e_iload (pc := 18) dX0_partnerOf_18 rfl ?_
  refine e_aloadn (pc := 20) (i := 1) dX0_partnerOf_20 rfl rfl ?_
  refine f_geti (pc := 21) (k := 0) (u := 3) (q := 0) dX0_partnerOf_21 xf0_15 (sa_3_0 hs) rfl hn rfl rfl (by decide) ?_
  show Ev g _ _ _ _ _ _ 24 [some (x_r (16 * 25 + 0)), some (x_r (16 * 3 + 0)), some (x_i a), some (x_i v4), some (x_i v5), none] [x_i (N 0 3), x_i v5] (al, ro, fl (ml M [3, 25] [N, Br2])) _ _ _ _
  refine e_icmp_ge (pc := 24) (tgt := 98) dX0_partnerOf_24 (by decide) (fun hb => ?_) (fun hb => ?_)
  · rw [if_pos hb] at hf6
    cases hf6
    refine e_drop (i := 3) ?_
    refine e_drop (i := 4) ?_
    have hh := hk6 _ (hx6 _ rfl).symm
    try dsimp only at hh
    exact hh
  · rw [if_neg hb] at hf6
    refine e_iloadn (pc := 27) (i := 3) dX0_partnerOf_27 rfl rfl ?_
    refine e_iload (pc := 28) dX0_partnerOf_28 rfl ?_
    obtain ⟨v8, hq8, hf6⟩ := x_bd1 hf6
    refine e_invS (pc := 30) (K1 := 0) (S1 := 0) (K := 0) (S := 0) (dd2 := 0) (av := [x_i v4, x_i v5]) (st := []) dX0_partnerOf_30 xmX0_21 rfl (f_cal (M := M) (us2 := []) [] hn rfl trivial rfl rfl rfl (c_X11_holdsBit hst hs   hq8)) (by decide) (Nat.le_of_ble_eq_true rfl) (Or.inl rfl) ?_
    show Ev g _ _ _ _ _ _ 33 [some (x_r (16 * 25 + 0)), some (x_r (16 * 3 + 0)), some (x_i a), some (x_i v4), some (x_i v5), none] [x_i v8] (al, ro, fl (ml M [3, 25] [N, Br2])) _ _ _ _
    refine e_if_eq (pc := 33) (tgt := 92) dX0_partnerOf_33 (by decide) (fun hb => ?_) (fun hb => ?_)
    · rw [if_pos hb] at hf6
      refine e_iinc (pc := 92) dX0_partnerOf_92 rfl (by decide) rfl ?_
      show Ev g _ _ _ _ _ _ 95 [some (x_r (16 * 25 + 0)), some (x_r (16 * 3 + 0)), some (x_i a), some (x_i v4), some (x_i (x_add v5 1)), none] [] (al, ro, fl (ml M [3, 25] [N, Br2])) _ _ _ _
      refine e_goto (pc := 95) (tgt := 18) dX0_partnerOf_95 (by decide) ?_
      cases hf6
      have hh := hi6 _ rfl
      try dsimp only at hh
      exact hh
    · rw [if_neg hb] at hf6
      refine e_aloadn (pc := 36) (i := 0) dX0_partnerOf_36 rfl rfl ?_
      refine e_aloadn (pc := 37) (i := 1) dX0_partnerOf_37 rfl rfl ?_
      refine e_iloadn (pc := 38) (i := 3) dX0_partnerOf_38 rfl rfl ?_
      refine e_iload (pc := 39) dX0_partnerOf_39 rfl ?_
      obtain ⟨v10, hq10, hf6⟩ := x_bd1 hf6
      refine e_invV (pc := 41) (K1 := 0) (S1 := 0) (K := 0) (S := 0) (dd2 := 2) (av := [x_r (16 * 3 + 0), x_i v4, x_i v5]) (st := []) (id := 16 * 25 + 0) dX0_partnerOf_41 xmX0_51 rfl (Or.inl ⟨0, 1, TX0, (sa_25_0 hs), rfl, by decide⟩) (f_cal (M := M) (us2 := [3, 25]) [0, 1] hn rfl (And.intro rfl (And.intro rfl trivial)) rfl rfl rfl (c_X0_firstPartner hst hs   hq10)) (by decide) (Nat.le_of_ble_eq_true rfl) (Or.inl rfl) ?_
      show Ev g _ _ _ _ _ _ 44 [some (x_r (16 * 25 + 0)), some (x_r (16 * 3 + 0)), some (x_i a), some (x_i v4), some (x_i v5), none] [x_i v10] (al, ro, fl (ml M [3, 25] [N, Br2])) _ _ _ _
      refine e_istore (pc := 44) (i := 5) dX0_partnerOf_44 (by decide) rfl ?_
      show Ev g _ _ _ _ _ _ 46 [some (x_r (16 * 25 + 0)), some (x_r (16 * 3 + 0)), some (x_i a), some (x_i v4), some (x_i v5), some (x_i v10)] [] (al, ro, fl (ml M [3, 25] [N, Br2])) _ _ _ _
      refine e_iload (pc := 46) dX0_partnerOf_46 rfl ?_
      refine e_iloadn (pc := 48) (i := 2) dX0_partnerOf_48 rfl rfl ?_
      refine e_icmp_ne (pc := 49) (tgt := 55) dX0_partnerOf_49 (by decide) (fun hb => ?_) (fun hb => ?_)
      · rw [if_neg hb] at hf6
        refine e_iload (pc := 55) dX0_partnerOf_55 rfl ?_
        refine e_iloadn (pc := 57) (i := 2) dX0_partnerOf_57 rfl rfl ?_
        refine e_icmp_ne (pc := 58) (tgt := 64) dX0_partnerOf_58 (by decide) (fun hb => ?_) (fun hb => ?_)
        · rw [if_neg hb] at hf6
          refine e_iloadn (pc := 64) (i := 3) dX0_partnerOf_64 rfl rfl ?_
          refine e_iconst (pc := 65) dX0_partnerOf_65 (x_R rfl) ?_
          refine e_iload (pc := 66) dX0_partnerOf_66 rfl ?_
          refine e_ishl (pc := 68) dX0_partnerOf_68 ?_
          refine e_iconst (pc := 69) dX0_partnerOf_69 (x_R rfl) ?_
          refine e_ixor (pc := 70) dX0_partnerOf_70 ?_
          refine e_iand (pc := 71) dX0_partnerOf_71 ?_
          refine e_istoren (pc := 72) (i := 3) dX0_partnerOf_72 rfl (by decide) rfl ?_
          show Ev g _ _ _ _ _ _ 73 [some (x_r (16 * 25 + 0)), some (x_r (16 * 3 + 0)), some (x_i a), some (x_i (x_and v4 (x_xor (x_shl 1 v5) (-1)))), some (x_i v5), some (x_i v10)] [] (al, ro, fl (ml M [3, 25] [N, Br2])) _ _ _ _
          refine e_iload (pc := 73) dX0_partnerOf_73 rfl ?_
          refine e_iconst (pc := 75) dX0_partnerOf_75 (x_R rfl) ?_
          obtain ⟨v12, hr12, hf6⟩ := x_bd1 hf6
          have hjhr12 : Ev g yX0_partnerOf cX0_partnerOf 6 (some .int) [] 3 91 [some (x_r (16 * 25 + 0)), some (x_r (16 * 3 + 0)), some (x_i a), some (x_i (x_and v4 (x_xor (x_shl 1 v5) (-1)))), some (x_i v5), some (x_i v10)] [x_i v12] (al, ro, fl (ml M [3, 25] [N, Br2])) 0 0 (.inl (some (x_i t.1))) (al, ro, fl (ml M [3, 25] [N, t.2])) := by
            refine e_istoren (pc := 91) (i := 3) dX0_partnerOf_91 rfl (by decide) rfl ?_
            show Ev g _ _ _ _ _ _ 92 [some (x_r (16 * 25 + 0)), some (x_r (16 * 3 + 0)), some (x_i a), some (x_i v12), some (x_i v5), some (x_i v10)] [] (al, ro, fl (ml M [3, 25] [N, Br2])) _ _ _ _
            refine e_iinc (pc := 92) dX0_partnerOf_92 rfl (by decide) rfl ?_
            show Ev g _ _ _ _ _ _ 95 [some (x_r (16 * 25 + 0)), some (x_r (16 * 3 + 0)), some (x_i a), some (x_i v12), some (x_i (x_add v5 1)), some (x_i v10)] [] (al, ro, fl (ml M [3, 25] [N, Br2])) _ _ _ _
            refine e_goto (pc := 95) (tgt := 18) dX0_partnerOf_95 (by decide) ?_
            cases hf6
            refine e_drop (i := 5) ?_
            have hh := hi6 _ rfl
            try dsimp only at hh
            exact hh
          clear hf6
          refine e_icmp_ne (pc := 76) (tgt := 83) dX0_partnerOf_76 (by decide) (fun hb => ?_) (fun hb => ?_)
          · rw [if_neg hb] at hr12
            refine e_iloadn (pc := 83) (i := 3) dX0_partnerOf_83 rfl rfl ?_
            refine e_iconst (pc := 84) dX0_partnerOf_84 (x_R rfl) ?_
            refine e_iload (pc := 85) dX0_partnerOf_85 rfl ?_
            refine e_ishl (pc := 87) dX0_partnerOf_87 ?_
            refine e_iconst (pc := 88) dX0_partnerOf_88 (x_R rfl) ?_
            refine e_ixor (pc := 89) dX0_partnerOf_89 ?_
            refine e_iand (pc := 90) dX0_partnerOf_90 ?_
            cases hr12
            exact hjhr12
          · rw [if_pos hb] at hr12
            refine e_iloadn (pc := 79) (i := 3) dX0_partnerOf_79 rfl rfl ?_
            refine e_goto (pc := 80) (tgt := 91) dX0_partnerOf_80 (by decide) ?_
            cases hr12
            exact hjhr12
        · rw [if_pos hb] at hf6
          refine e_iload (pc := 61) dX0_partnerOf_61 rfl ?_
          cases hf6
          have hz := hv6 _ (hx6 _ rfl).symm
          cases hz
          exact (e_ireturn rfl dX0_partnerOf_63 rfl)
      · rw [if_pos hb] at hf6
        refine e_iload (pc := 52) dX0_partnerOf_52 rfl ?_
        cases hf6
        have hz := hv6 _ (hx6 _ rfl).symm
        cases hz
        exact (e_ireturn rfl dX0_partnerOf_54 rfl)
set_option maxRecDepth 100000 in
set_option maxHeartbeats 4000000 in
theorem c_X1_isLost {g : xG} {al : List (Nat × Nat × Nat)} {ro : Nat → Nat → Option Nat} (hst : g.1.stackTraces = false) (hs : SH al ro) {u : Nat} (hu : 3 ≤ u ∧ u ≤ 18) {M : Nat → xU} {a : Int} {C : xU}  {t : Int} (hG : G1_isLost a C = some t) :
    Cal g yX1_isLost cX1_isLost 2 (some .boolean) 1 [x_r (16 * u + 0), x_i a] (al, ro, fl (ml M [u] [C])) 0 0 (.inl (some (x_i t))) (al, ro, fl (ml M [u] [C])) := by
  have hn : ([u] : List Nat).Nodup := by simp
  refine cal_of_ev (plainFor_of_name (by decide)) (x_c1 rfl) (Nat.le_of_ble_eq_true rfl) hst ?_
  show Ev g _ _ _ _ _ _ 0 [some (x_r (16 * u + 0)), some (x_i a)] [] (al, ro, fl (ml M [u] [C])) _ _ _ _
  rw [G1_isLost] at hG
  refine e_aloadn (pc := 0) (i := 0) dX1_isLost_0 rfl rfl ?_
  refine e_iconst (pc := 1) dX1_isLost_1 (x_R rfl) ?_
  refine e_iloadn (pc := 2) (i := 1) dX1_isLost_2 rfl rfl ?_
  obtain ⟨v1, hq1, hG⟩ := x_bd1 hG
  refine e_invV (pc := 3) (K1 := 0) (S1 := 0) (K := 0) (S := 0) (dd2 := 0) (av := [x_i 4, x_i a]) (st := []) (id := 16 * u + 0) dX1_isLost_3 xmX1_79 rfl (Or.inl ⟨1, 12, TX1, (sc_a0 hs hu), rfl, by decide⟩) (f_cal (M := M) (us2 := [u]) [0] hn rfl (And.intro rfl trivial) rfl rfl rfl (c_X1_of hst hs hu  hq1)) (by decide) (Nat.le_of_ble_eq_true rfl) (Or.inl rfl) ?_
  show Ev g _ _ _ _ _ _ 6 [some (x_r (16 * u + 0)), some (x_i a)] [x_i v1] (al, ro, fl (ml M [u] [C])) _ _ _ _
  obtain ⟨v3, hr3, hG⟩ := x_bd1 hG
  have hjhr3 : Ev g yX1_isLost cX1_isLost 2 (some .boolean) [] 1 14 [some (x_r (16 * u + 0)), some (x_i a)] [x_i v3] (al, ro, fl (ml M [u] [C])) 0 0 (.inl (some (x_i t))) (al, ro, fl (ml M [u] [C])) := by
    obtain ⟨hc0, hG⟩ := x_gd_some hG
    cases hG
    exact (e_ireturn rfl dX1_isLost_14 (x_bool hc0).1)
  clear hG
  refine e_if_le (pc := 6) (tgt := 13) dX1_isLost_6 (by decide) (fun hb => ?_) (fun hb => ?_)
  · rw [if_pos hb] at hr3
    refine e_iconst (pc := 13) dX1_isLost_13 (x_R rfl) ?_
    cases hr3
    exact hjhr3
  · rw [if_neg hb] at hr3
    refine e_iconst (pc := 9) dX1_isLost_9 (x_R rfl) ?_
    refine e_goto (pc := 10) (tgt := 14) dX1_isLost_10 (by decide) ?_
    cases hr3
    exact hjhr3
set_option maxRecDepth 100000 in
set_option maxHeartbeats 4000000 in
theorem c_X11_stepsApart {g : xG} {al : List (Nat × Nat × Nat)} {ro : Nat → Nat → Option Nat} (hst : g.1.stackTraces = false) (hs : SH al ro) {M : Nat → xU} {a : Int} {b : Int}  {t : Int} (hG : G11_stepsApart a b = some t) :
    Cal g yX11_stepsApart cX11_stepsApart 3 (some .int) 1 [x_i a, x_i b] (al, ro, fl (ml M [] [])) 0 0 (.inl (some (x_i t))) (al, ro, fl (ml M [] [])) := by
  have hn : ([] : List Nat).Nodup := by decide
  refine cal_of_ev (plainFor_of_name (by decide)) (x_c1 rfl) (Nat.le_of_ble_eq_true rfl) hst ?_
  show Ev g _ _ _ _ _ _ 0 [some (x_i a), some (x_i b), none] [] (al, ro, fl (ml M [] [])) _ _ _ _
  rw [G11_stepsApart] at hG
  refine e_iloadn (pc := 0) (i := 1) dX11_stepsApart_0 rfl rfl ?_
  refine e_iloadn (pc := 1) (i := 0) dX11_stepsApart_1 rfl rfl ?_
  refine e_isub (pc := 2) dX11_stepsApart_2 ?_
  refine e_bipush (pc := 3) dX11_stepsApart_3 (by decide +kernel) (x_R rfl) ?_
  refine e_invS (pc := 5) (K1 := 0) (S1 := 0) (K := 0) (S := 0) (dd2 := 0) (av := [x_i (x_sub b a), x_i 16]) (st := []) dX11_stepsApart_5 xmX11_385 rfl (p_floorMod hst hs (by decide)) (by decide) (Nat.le_of_ble_eq_true rfl) (Or.inl rfl) ?_
  show Ev g _ _ _ _ _ _ 8 [some (x_i a), some (x_i b), none] [x_i (x_mod (x_sub b a) 16)] (al, ro, fl (ml M [] [])) _ _ _ _
  refine e_istoren (pc := 8) (i := 2) dX11_stepsApart_8 rfl (by decide) rfl ?_
  show Ev g _ _ _ _ _ _ 9 [some (x_i a), some (x_i b), some (x_i (x_mod (x_sub b a) 16))] [] (al, ro, fl (ml M [] [])) _ _ _ _
  refine e_iloadn (pc := 9) (i := 2) dX11_stepsApart_9 rfl rfl ?_
  refine e_bipush (pc := 10) dX11_stepsApart_10 (by decide +kernel) (x_R rfl) ?_
  refine e_iloadn (pc := 12) (i := 2) dX11_stepsApart_12 rfl rfl ?_
  refine e_isub (pc := 13) dX11_stepsApart_13 ?_
  refine e_invS (pc := 14) (K1 := 0) (S1 := 0) (K := 0) (S := 0) (dd2 := 0) (av := [x_i (x_mod (x_sub b a) 16), x_i (x_sub 16 (x_mod (x_sub b a) 16))]) (st := []) dX11_stepsApart_14 xmX11_390 rfl (p_min hst hs) (by decide) (Nat.le_of_ble_eq_true rfl) (Or.inl rfl) ?_
  show Ev g _ _ _ _ _ _ 17 [some (x_i a), some (x_i b), some (x_i (x_mod (x_sub b a) 16))] [x_i (min (x_mod (x_sub b a) 16) (x_sub 16 (x_mod (x_sub b a) 16)))] (al, ro, fl (ml M [] [])) _ _ _ _
  cases hG
  exact (e_ireturn rfl dX11_stepsApart_17 rfl)
set_option maxRecDepth 100000 in
set_option maxHeartbeats 4000000 in
theorem c_X0_isWatched {g : xG} {al : List (Nat × Nat × Nat)} {ro : Nat → Nat → Option Nat} (hst : g.1.stackTraces = false) (hs : SH al ro) {M : Nat → xU} {a : Int} {b : Int} {N : xU}  {t : Int} (hG : G0_isWatched a b N = some t) :
    Cal g yX0_isWatched cX0_isWatched 5 (some .boolean) 2 [x_r (16 * 25 + 0), x_r (16 * 3 + 0), x_i a, x_i b] (al, ro, fl (ml M [3] [N])) 0 0 (.inl (some (x_i t))) (al, ro, fl (ml M [3] [N])) := by
  have hn : ([3] : List Nat).Nodup := by decide
  refine cal_of_ev (plainFor_of_name (by decide)) (x_c1 rfl) (Nat.le_of_ble_eq_true rfl) hst ?_
  show Ev g _ _ _ _ _ _ 0 [some (x_r (16 * 25 + 0)), some (x_r (16 * 3 + 0)), some (x_i a), some (x_i b), none] [] (al, ro, fl (ml M [3] [N])) _ _ _ _
  rw [G0_isWatched] at hG
  refine e_iconst (pc := 0) dX0_isWatched_0 (x_R rfl) ?_
  refine e_istore (pc := 1) (i := 4) dX0_isWatched_1 (by decide) rfl ?_
  show Ev g _ _ _ _ _ _ 3 [some (x_r (16 * 25 + 0)), some (x_r (16 * 3 + 0)), some (x_i a), some (x_i b), some (x_i 0)] [] (al, ro, fl (ml M [3] [N])) _ _ _ _
  obtain ⟨r2, hl2, hG⟩ := x_lrd hG
  have hk2 : ∀ q : Unit, r2 = .inl q → Ev g yX0_isWatched cX0_isWatched 5 (some .boolean) [] 2 44 [some (x_r (16 * 25 + 0)), some (x_r (16 * 3 + 0)), some (x_i a), some (x_i b), none] [] (al, ro, fl (ml M [3] [N])) 0 0 (.inl (some (x_i t))) (al, ro, fl (ml M [3] [N])) := by
    intro q hq
    subst hq
    replace hG := x_lr_l hG
    replace hG := x_ed1 hG
    refine e_iconst (pc := 44) dX0_isWatched_44 (x_R rfl) ?_
    cases hG
    exact (e_ireturn rfl dX0_isWatched_45 (x_bool (by decide)).1)
  have hv2 : ∀ q : Int, r2 = .inr q → some q = some t := by
    intro q hq
    subst hq
    exact x_lr_r hG
  clear hG
  refine e_whl (G0_isWatched_L3 a b N) (fun z : Int => Ev g yX0_isWatched cX0_isWatched 5 (some .boolean) [] 2 3 [some (x_r (16 * 25 + 0)), some (x_r (16 * 3 + 0)), some (x_i a), some (x_i b), some (x_i z)] [] (al, ro, fl (ml M [3] [N])) 0 0 (.inl (some (x_i t))) (al, ro, fl (ml M [3] [N]))) (fun q => q = r2) ?_ xFU 0 _ hl2 rfl
  intro z t2 hf2 hi2 hx2
  obtain ⟨v1, hzz⟩ : ∃ y, y = z := ⟨z, rfl⟩
  subst hzz
  rw [G0_isWatched_L3] at hf2
  show Ev g _ _ _ _ _ _ 3 [some (x_r (16 * 25 + 0)), some (x_r (16 * 3 + 0)), some (x_i a), some (x_i b), some (x_i v1)] [] (al, ro, fl (ml M [3] [N])) _ _ _ _
  refine e_iload (pc := 3) dX0_isWatched_3 rfl ?_
  refine e_aloadn (pc := 5) (i := 1) dX0_isWatched_5 rfl rfl ?_
  refine f_geti (pc := 6) (k := 0) (u := 3) (q := 0) dX0_isWatched_6 xf0_15 (sa_3_0 hs) rfl hn rfl rfl (by decide) ?_
  show Ev g _ _ _ _ _ _ 9 [some (x_r (16 * 25 + 0)), some (x_r (16 * 3 + 0)), some (x_i a), some (x_i b), some (x_i v1)] [x_i (N 0 3), x_i v1] (al, ro, fl (ml M [3] [N])) _ _ _ _
  refine e_icmp_ge (pc := 9) (tgt := 44) dX0_isWatched_9 (by decide) (fun hb => ?_) (fun hb => ?_)
  · rw [if_pos hb] at hf2
    cases hf2
    refine e_drop (i := 4) ?_
    have hh := hk2 _ (hx2 _ rfl).symm
    try dsimp only at hh
    exact hh
  · rw [if_neg hb] at hf2
    refine e_iloadn (pc := 12) (i := 3) dX0_isWatched_12 rfl rfl ?_
    refine e_iload (pc := 13) dX0_isWatched_13 rfl ?_
    obtain ⟨v4, hq4, hf2⟩ := x_bd1 hf2
    refine e_invS (pc := 15) (K1 := 0) (S1 := 0) (K := 0) (S := 0) (dd2 := 0) (av := [x_i b, x_i v1]) (st := []) dX0_isWatched_15 xmX0_21 rfl (f_cal (M := M) (us2 := []) [] hn rfl trivial rfl rfl rfl (c_X11_holdsBit hst hs   hq4)) (by decide) (Nat.le_of_ble_eq_true rfl) (Or.inl rfl) ?_
    show Ev g _ _ _ _ _ _ 18 [some (x_r (16 * 25 + 0)), some (x_r (16 * 3 + 0)), some (x_i a), some (x_i b), some (x_i v1)] [x_i v4] (al, ro, fl (ml M [3] [N])) _ _ _ _
    refine e_if_eq (pc := 18) (tgt := 38) dX0_isWatched_18 (by decide) (fun hb => ?_) (fun hb => ?_)
    · rw [if_pos hb] at hf2
      refine e_iinc (pc := 38) dX0_isWatched_38 rfl (by decide) rfl ?_
      show Ev g _ _ _ _ _ _ 41 [some (x_r (16 * 25 + 0)), some (x_r (16 * 3 + 0)), some (x_i a), some (x_i b), some (x_i (x_add v1 1))] [] (al, ro, fl (ml M [3] [N])) _ _ _ _
      refine e_goto (pc := 41) (tgt := 3) dX0_isWatched_41 (by decide) ?_
      cases hf2
      have hh := hi2 _ rfl
      try dsimp only at hh
      exact hh
    · rw [if_neg hb] at hf2
      refine e_aloadn (pc := 21) (i := 1) dX0_isWatched_21 rfl rfl ?_
      refine e_iconst (pc := 22) dX0_isWatched_22 (x_R rfl) ?_
      refine e_iload (pc := 23) dX0_isWatched_23 rfl ?_
      obtain ⟨v6, hq6, hf2⟩ := x_bd1 hf2
      refine e_invV (pc := 25) (K1 := 0) (S1 := 0) (K := 0) (S := 0) (dd2 := 0) (av := [x_i 0, x_i v1]) (st := []) (id := 16 * 3 + 0) dX0_isWatched_25 xmX0_39 rfl (Or.inl ⟨1, 12, TX1, (sa_3_0 hs), rfl, by decide⟩) (f_cal (M := M) (us2 := [3]) [0] hn rfl (And.intro rfl trivial) rfl rfl rfl (c_X1_of hst hs (by decide)  hq6)) (by decide) (Nat.le_of_ble_eq_true rfl) (Or.inl rfl) ?_
      show Ev g _ _ _ _ _ _ 28 [some (x_r (16 * 25 + 0)), some (x_r (16 * 3 + 0)), some (x_i a), some (x_i b), some (x_i v1)] [x_i v6] (al, ro, fl (ml M [3] [N])) _ _ _ _
      refine e_iloadn (pc := 28) (i := 2) dX0_isWatched_28 rfl rfl ?_
      obtain ⟨v8, hq8, hf2⟩ := x_bd1 hf2
      refine e_invS (pc := 29) (K1 := 0) (S1 := 0) (K := 0) (S := 0) (dd2 := 1) (av := [x_i v6, x_i a]) (st := []) dX0_isWatched_29 xmX0_67 rfl (f_cal (M := M) (us2 := []) [] hn rfl trivial rfl rfl rfl (c_X11_stepsApart hst hs   hq8)) (by decide) (Nat.le_of_ble_eq_true rfl) (Or.inl rfl) ?_
      show Ev g _ _ _ _ _ _ 32 [some (x_r (16 * 25 + 0)), some (x_r (16 * 3 + 0)), some (x_i a), some (x_i b), some (x_i v1)] [x_i v8] (al, ro, fl (ml M [3] [N])) _ _ _ _
      refine e_iconst (pc := 32) dX0_isWatched_32 (x_R rfl) ?_
      refine e_icmp_gt (pc := 33) (tgt := 38) dX0_isWatched_33 (by decide) (fun hb => ?_) (fun hb => ?_)
      · rw [if_pos hb] at hf2
        refine e_iinc (pc := 38) dX0_isWatched_38 rfl (by decide) rfl ?_
        show Ev g _ _ _ _ _ _ 41 [some (x_r (16 * 25 + 0)), some (x_r (16 * 3 + 0)), some (x_i a), some (x_i b), some (x_i (x_add v1 1))] [] (al, ro, fl (ml M [3] [N])) _ _ _ _
        refine e_goto (pc := 41) (tgt := 3) dX0_isWatched_41 (by decide) ?_
        cases hf2
        have hh := hi2 _ rfl
        try dsimp only at hh
        exact hh
      · rw [if_neg hb] at hf2
        refine e_iconst (pc := 36) dX0_isWatched_36 (x_R rfl) ?_
        cases hf2
        have hz := hv2 _ (hx2 _ rfl).symm
        cases hz
        exact (e_ireturn rfl dX0_isWatched_37 (x_bool (by decide)).1)
set_option maxRecDepth 100000 in
set_option maxHeartbeats 4000000 in
theorem c_X0_watchesAll {g : xG} {al : List (Nat × Nat × Nat)} {ro : Nat → Nat → Option Nat} (hst : g.1.stackTraces = false) (hs : SH al ro) {M : Nat → xU} {a : Int} {N : xU}  {t : Int} (hG : G0_watchesAll a N = some t) :
    Cal g yX0_watchesAll cX0_watchesAll 4 (some .boolean) 3 [x_r (16 * 25 + 0), x_r (16 * 3 + 0), x_i a] (al, ro, fl (ml M [3] [N])) 0 0 (.inl (some (x_i t))) (al, ro, fl (ml M [3] [N])) := by
  have hn : ([3] : List Nat).Nodup := by decide
  refine cal_of_ev (plainFor_of_name (by decide)) (x_c1 rfl) (Nat.le_of_ble_eq_true rfl) hst ?_
  show Ev g _ _ _ _ _ _ 0 [some (x_r (16 * 25 + 0)), some (x_r (16 * 3 + 0)), some (x_i a), none] [] (al, ro, fl (ml M [3] [N])) _ _ _ _
  rw [G0_watchesAll] at hG
  refine e_iconst (pc := 0) dX0_watchesAll_0 (x_R rfl) ?_
  refine e_istoren (pc := 1) (i := 3) dX0_watchesAll_1 rfl (by decide) rfl ?_
  show Ev g _ _ _ _ _ _ 2 [some (x_r (16 * 25 + 0)), some (x_r (16 * 3 + 0)), some (x_i a), some (x_i 0)] [] (al, ro, fl (ml M [3] [N])) _ _ _ _
  obtain ⟨r2, hl2, hG⟩ := x_lrd hG
  have hk2 : ∀ q : Unit, r2 = .inl q → Ev g yX0_watchesAll cX0_watchesAll 4 (some .boolean) [] 3 49 [some (x_r (16 * 25 + 0)), some (x_r (16 * 3 + 0)), some (x_i a), none] [] (al, ro, fl (ml M [3] [N])) 0 0 (.inl (some (x_i t))) (al, ro, fl (ml M [3] [N])) := by
    intro q hq
    subst hq
    replace hG := x_lr_l hG
    replace hG := x_ed1 hG
    refine e_iconst (pc := 49) dX0_watchesAll_49 (x_R rfl) ?_
    cases hG
    exact (e_ireturn rfl dX0_watchesAll_50 (x_bool (by decide)).1)
  have hv2 : ∀ q : Int, r2 = .inr q → some q = some t := by
    intro q hq
    subst hq
    exact x_lr_r hG
  clear hG
  refine e_whl (G0_watchesAll_L2 a N) (fun z : Int => Ev g yX0_watchesAll cX0_watchesAll 4 (some .boolean) [] 3 2 [some (x_r (16 * 25 + 0)), some (x_r (16 * 3 + 0)), some (x_i a), some (x_i z)] [] (al, ro, fl (ml M [3] [N])) 0 0 (.inl (some (x_i t))) (al, ro, fl (ml M [3] [N]))) (fun q => q = r2) ?_ xFU 0 _ hl2 rfl
  intro z t2 hf2 hi2 hx2
  obtain ⟨v1, hzz⟩ : ∃ y, y = z := ⟨z, rfl⟩
  subst hzz
  rw [G0_watchesAll_L2] at hf2
  show Ev g _ _ _ _ _ _ 2 [some (x_r (16 * 25 + 0)), some (x_r (16 * 3 + 0)), some (x_i a), some (x_i v1)] [] (al, ro, fl (ml M [3] [N])) _ _ _ _
  refine e_iloadn (pc := 2) (i := 3) dX0_watchesAll_2 rfl rfl ?_
  refine e_aloadn (pc := 3) (i := 1) dX0_watchesAll_3 rfl rfl ?_
  refine f_geti (pc := 4) (k := 0) (u := 3) (q := 0) dX0_watchesAll_4 xf0_15 (sa_3_0 hs) rfl hn rfl rfl (by decide) ?_
  show Ev g _ _ _ _ _ _ 7 [some (x_r (16 * 25 + 0)), some (x_r (16 * 3 + 0)), some (x_i a), some (x_i v1)] [x_i (N 0 3), x_i v1] (al, ro, fl (ml M [3] [N])) _ _ _ _
  refine e_icmp_ge (pc := 7) (tgt := 49) dX0_watchesAll_7 (by decide) (fun hb => ?_) (fun hb => ?_)
  · rw [if_pos hb] at hf2
    cases hf2
    refine e_drop (i := 3) ?_
    have hh := hk2 _ (hx2 _ rfl).symm
    try dsimp only at hh
    exact hh
  · rw [if_neg hb] at hf2
    refine e_iloadn (pc := 10) (i := 2) dX0_watchesAll_10 rfl rfl ?_
    refine e_iloadn (pc := 11) (i := 3) dX0_watchesAll_11 rfl rfl ?_
    obtain ⟨v4, hq4, hf2⟩ := x_bd1 hf2
    refine e_invS (pc := 12) (K1 := 0) (S1 := 0) (K := 0) (S := 0) (dd2 := 0) (av := [x_i a, x_i v1]) (st := []) dX0_watchesAll_12 xmX0_21 rfl (f_cal (M := M) (us2 := []) [] hn rfl trivial rfl rfl rfl (c_X11_holdsBit hst hs   hq4)) (by decide) (Nat.le_of_ble_eq_true rfl) (Or.inl rfl) ?_
    show Ev g _ _ _ _ _ _ 15 [some (x_r (16 * 25 + 0)), some (x_r (16 * 3 + 0)), some (x_i a), some (x_i v1)] [x_i v4] (al, ro, fl (ml M [3] [N])) _ _ _ _
    refine e_if_eq (pc := 15) (tgt := 26) dX0_watchesAll_15 (by decide) (fun hb => ?_) (fun hb => ?_)
    · rw [if_pos hb] at hf2
      refine e_aloadn (pc := 26) (i := 0) dX0_watchesAll_26 rfl rfl ?_
      refine e_aloadn (pc := 27) (i := 1) dX0_watchesAll_27 rfl rfl ?_
      refine e_aloadn (pc := 28) (i := 1) dX0_watchesAll_28 rfl rfl ?_
      refine e_iconst (pc := 29) dX0_watchesAll_29 (x_R rfl) ?_
      refine e_iloadn (pc := 30) (i := 3) dX0_watchesAll_30 rfl rfl ?_
      obtain ⟨v6, hq6, hf2⟩ := x_bd1 hf2
      refine e_invV (pc := 31) (K1 := 0) (S1 := 0) (K := 0) (S := 0) (dd2 := 0) (av := [x_i 0, x_i v1]) (st := [x_r (16 * 3 + 0), x_r (16 * 25 + 0)]) (id := 16 * 3 + 0) dX0_watchesAll_31 xmX0_39 rfl (Or.inl ⟨1, 12, TX1, (sa_3_0 hs), rfl, by decide⟩) (f_cal (M := M) (us2 := [3]) [0] hn rfl (And.intro rfl trivial) rfl rfl rfl (c_X1_of hst hs (by decide)  hq6)) (by decide) (Nat.le_of_ble_eq_true rfl) (Or.inl rfl) ?_
      show Ev g _ _ _ _ _ _ 34 [some (x_r (16 * 25 + 0)), some (x_r (16 * 3 + 0)), some (x_i a), some (x_i v1)] [x_i v6, x_r (16 * 3 + 0), x_r (16 * 25 + 0)] (al, ro, fl (ml M [3] [N])) _ _ _ _
      refine e_iloadn (pc := 34) (i := 2) dX0_watchesAll_34 rfl rfl ?_
      obtain ⟨v8, hq8, hf2⟩ := x_bd1 hf2
      refine e_invV (pc := 35) (K1 := 0) (S1 := 0) (K := 0) (S := 0) (dd2 := 2) (av := [x_r (16 * 3 + 0), x_i v6, x_i a]) (st := []) (id := 16 * 25 + 0) dX0_watchesAll_35 xmX0_63 rfl (Or.inl ⟨0, 1, TX0, (sa_25_0 hs), rfl, by decide⟩) (f_cal (M := M) (us2 := [3]) [0] hn rfl (And.intro rfl trivial) rfl rfl rfl (c_X0_isWatched hst hs   hq8)) (by decide) (Nat.le_of_ble_eq_true rfl) (Or.inl rfl) ?_
      show Ev g _ _ _ _ _ _ 38 [some (x_r (16 * 25 + 0)), some (x_r (16 * 3 + 0)), some (x_i a), some (x_i v1)] [x_i v8] (al, ro, fl (ml M [3] [N])) _ _ _ _
      refine e_if_ne (pc := 38) (tgt := 43) dX0_watchesAll_38 (by decide) (fun hb => ?_) (fun hb => ?_)
      · rw [if_neg hb] at hf2
        refine e_iinc (pc := 43) dX0_watchesAll_43 rfl (by decide) rfl ?_
        show Ev g _ _ _ _ _ _ 46 [some (x_r (16 * 25 + 0)), some (x_r (16 * 3 + 0)), some (x_i a), some (x_i (x_add v1 1))] [] (al, ro, fl (ml M [3] [N])) _ _ _ _
        refine e_goto (pc := 46) (tgt := 2) dX0_watchesAll_46 (by decide) ?_
        cases hf2
        have hh := hi2 _ rfl
        try dsimp only at hh
        exact hh
      · rw [if_pos hb] at hf2
        refine e_iconst (pc := 41) dX0_watchesAll_41 (x_R rfl) ?_
        cases hf2
        have hz := hv2 _ (hx2 _ rfl).symm
        cases hz
        exact (e_ireturn rfl dX0_watchesAll_42 (x_bool (by decide)).1)
    · rw [if_neg hb] at hf2
      refine e_aloadn (pc := 18) (i := 1) dX0_watchesAll_18 rfl rfl ?_
      refine e_iloadn (pc := 19) (i := 3) dX0_watchesAll_19 rfl rfl ?_
      obtain ⟨v10, hq10, hf2⟩ := x_bd1 hf2
      refine e_invV (pc := 20) (K1 := 0) (S1 := 0) (K := 0) (S := 0) (dd2 := 1) (av := [x_i v1]) (st := []) (id := 16 * 3 + 0) dX0_watchesAll_20 xmX0_59 rfl (Or.inl ⟨1, 12, TX1, (sa_3_0 hs), rfl, by decide⟩) (f_cal (M := M) (us2 := [3]) [0] hn rfl (And.intro rfl trivial) rfl rfl rfl (c_X1_isLost hst hs (by decide)  hq10)) (by decide) (Nat.le_of_ble_eq_true rfl) (Or.inl rfl) ?_
      show Ev g _ _ _ _ _ _ 23 [some (x_r (16 * 25 + 0)), some (x_r (16 * 3 + 0)), some (x_i a), some (x_i v1)] [x_i v10] (al, ro, fl (ml M [3] [N])) _ _ _ _
      refine e_if_ne (pc := 23) (tgt := 41) dX0_watchesAll_23 (by decide) (fun hb => ?_) (fun hb => ?_)
      · rw [if_neg hb] at hf2
        refine e_iconst (pc := 41) dX0_watchesAll_41 (x_R rfl) ?_
        cases hf2
        have hz := hv2 _ (hx2 _ rfl).symm
        cases hz
        exact (e_ireturn rfl dX0_watchesAll_42 (x_bool (by decide)).1)
      · rw [if_pos hb] at hf2
        refine e_aloadn (pc := 26) (i := 0) dX0_watchesAll_26 rfl rfl ?_
        refine e_aloadn (pc := 27) (i := 1) dX0_watchesAll_27 rfl rfl ?_
        refine e_aloadn (pc := 28) (i := 1) dX0_watchesAll_28 rfl rfl ?_
        refine e_iconst (pc := 29) dX0_watchesAll_29 (x_R rfl) ?_
        refine e_iloadn (pc := 30) (i := 3) dX0_watchesAll_30 rfl rfl ?_
        obtain ⟨v12, hq12, hf2⟩ := x_bd1 hf2
        refine e_invV (pc := 31) (K1 := 0) (S1 := 0) (K := 0) (S := 0) (dd2 := 0) (av := [x_i 0, x_i v1]) (st := [x_r (16 * 3 + 0), x_r (16 * 25 + 0)]) (id := 16 * 3 + 0) dX0_watchesAll_31 xmX0_39 rfl (Or.inl ⟨1, 12, TX1, (sa_3_0 hs), rfl, by decide⟩) (f_cal (M := M) (us2 := [3]) [0] hn rfl (And.intro rfl trivial) rfl rfl rfl (c_X1_of hst hs (by decide)  hq12)) (by decide) (Nat.le_of_ble_eq_true rfl) (Or.inl rfl) ?_
        show Ev g _ _ _ _ _ _ 34 [some (x_r (16 * 25 + 0)), some (x_r (16 * 3 + 0)), some (x_i a), some (x_i v1)] [x_i v12, x_r (16 * 3 + 0), x_r (16 * 25 + 0)] (al, ro, fl (ml M [3] [N])) _ _ _ _
        refine e_iloadn (pc := 34) (i := 2) dX0_watchesAll_34 rfl rfl ?_
        obtain ⟨v14, hq14, hf2⟩ := x_bd1 hf2
        refine e_invV (pc := 35) (K1 := 0) (S1 := 0) (K := 0) (S := 0) (dd2 := 2) (av := [x_r (16 * 3 + 0), x_i v12, x_i a]) (st := []) (id := 16 * 25 + 0) dX0_watchesAll_35 xmX0_63 rfl (Or.inl ⟨0, 1, TX0, (sa_25_0 hs), rfl, by decide⟩) (f_cal (M := M) (us2 := [3]) [0] hn rfl (And.intro rfl trivial) rfl rfl rfl (c_X0_isWatched hst hs   hq14)) (by decide) (Nat.le_of_ble_eq_true rfl) (Or.inl rfl) ?_
        show Ev g _ _ _ _ _ _ 38 [some (x_r (16 * 25 + 0)), some (x_r (16 * 3 + 0)), some (x_i a), some (x_i v1)] [x_i v14] (al, ro, fl (ml M [3] [N])) _ _ _ _
        refine e_if_ne (pc := 38) (tgt := 43) dX0_watchesAll_38 (by decide) (fun hb => ?_) (fun hb => ?_)
        · rw [if_neg hb] at hf2
          refine e_iinc (pc := 43) dX0_watchesAll_43 rfl (by decide) rfl ?_
          show Ev g _ _ _ _ _ _ 46 [some (x_r (16 * 25 + 0)), some (x_r (16 * 3 + 0)), some (x_i a), some (x_i (x_add v1 1))] [] (al, ro, fl (ml M [3] [N])) _ _ _ _
          refine e_goto (pc := 46) (tgt := 2) dX0_watchesAll_46 (by decide) ?_
          cases hf2
          have hh := hi2 _ rfl
          try dsimp only at hh
          exact hh
        · rw [if_pos hb] at hf2
          refine e_iconst (pc := 41) dX0_watchesAll_41 (x_R rfl) ?_
          cases hf2
          have hz := hv2 _ (hx2 _ rfl).symm
          cases hz
          exact (e_ireturn rfl dX0_watchesAll_42 (x_bool (by decide)).1)
