set_option maxRecDepth 100000 in
set_option maxHeartbeats 4000000 in
theorem c_X12_allBest {g : xG} {al : List (Nat × Nat × Nat)} {ro : Nat → Nat → Option Nat} (hst : g.1.stackTraces = false) (hs : SH al ro) {M : Nat → xU} {S : xU}  {t : xU} (hG : G12_allBest S = some t) :
    Cal g yX12_allBest cX12_allBest 5 none 2 [x_r (16 * 32 + 0)] (al, ro, fl (ml M [32] [S])) 0 0 (.inl none) (al, ro, fl (ml M [32] [t])) := by
  have hn : ([32] : List Nat).Nodup := by decide
  refine cal_of_ev (plainFor_of_name (by decide)) (x_c1 rfl) (Nat.le_of_ble_eq_true rfl) hst ?_
  show Ev g _ _ _ _ _ _ 0 [some (x_r (16 * 32 + 0)), none, none, none, none] [] (al, ro, fl (ml M [32] [S])) _ _ _ _
  rw [G12_allBest] at hG
  refine e_aloadn (pc := 0) (i := 0) dX12_allBest_0 rfl rfl ?_
  refine f_getr (pc := 1) (u := 32) (q := 0) dX12_allBest_1 xf12_39 (sa_32_0 hs) rfl (sr_32_0_21 hs) ?_
  refine e_iconst (pc := 4) dX12_allBest_4 (x_R rfl) ?_
  refine e_iconst (pc := 5) dX12_allBest_5 (x_R rfl) ?_
  refine f_iast (pc := 6) (k := 0) (u := 32) (q := 9) (len := 128) dX12_allBest_6 (sa_32_9 hs) (by decide) hn rfl rfl rfl (by decide) ?_
  show Ev g _ _ _ _ _ _ 7 [some (x_r (16 * 32 + 0)), none, none, none, none] [] (al, ro, fl (ml M [32] [(x_up S 9 0 0)])) _ _ _ _
  refine e_iconst (pc := 7) dX12_allBest_7 (x_R rfl) ?_
  refine e_istoren (pc := 8) (i := 1) dX12_allBest_8 rfl (by decide) rfl ?_
  show Ev g _ _ _ _ _ _ 9 [some (x_r (16 * 32 + 0)), some (x_i 1), none, none, none] [] (al, ro, fl (ml M [32] [(x_up S 9 0 0)])) _ _ _ _
  obtain ⟨S3, hl4, hG⟩ := x_bd1 hG
  have hk4 : ∀ q : xU, q = S3 → Ev g yX12_allBest cX12_allBest 5 none [] 2 115 [some (x_r (16 * 32 + 0)), none, none, none, none] [] (al, ro, fl (ml M [32] [q])) 0 0 (.inl none) (al, ro, fl (ml M [32] [t])) := by
    intro q hq
    replace hq := hq.symm
    subst hq
    cases hG
    exact (e_return rfl dX12_allBest_115)
  clear hG
  refine e_whl G12_allBest_L9 (fun z : (Int × xU) => Ev g yX12_allBest cX12_allBest 5 none [] 2 9 [some (x_r (16 * 32 + 0)), some (x_i z.1), none, none, none] [] (al, ro, fl (ml M [32] [z.2])) 0 0 (.inl none) (al, ro, fl (ml M [32] [t]))) (fun q => q = S3) ?_ xFU (1, (x_up S 9 0 0)) _ hl4 rfl
  intro z t4 hf4 hi4 hx4
  obtain ⟨v1, S2⟩ := z
  rw [G12_allBest_L9] at hf4
  show Ev g _ _ _ _ _ _ 9 [some (x_r (16 * 32 + 0)), some (x_i v1), none, none, none] [] (al, ro, fl (ml M [32] [S2])) _ _ _ _
  refine e_iloadn (pc := 9) (i := 1) dX12_allBest_9 rfl rfl ?_
  refine e_aloadn (pc := 10) (i := 0) dX12_allBest_10 rfl rfl ?_
  obtain ⟨v6, hq6, hf4⟩ := x_bd1 hf4
  refine e_invV (pc := 11) (K1 := 0) (S1 := 0) (K := 0) (S := 0) (dd2 := 0) (av := []) (st := [x_i v1]) (id := 16 * 32 + 0) dX12_allBest_11 xmX12_346 rfl (Or.inl ⟨10, 27, TX12, (sa_32_0 hs), rfl, by decide⟩) (f_cal (M := M) (us2 := [32]) [0] hn rfl (And.intro rfl trivial) rfl rfl rfl (c_X12_all hst hs   hq6)) (by decide) (Nat.le_of_ble_eq_true rfl) (Or.inl rfl) ?_
  show Ev g _ _ _ _ _ _ 14 [some (x_r (16 * 32 + 0)), some (x_i v1), none, none, none] [x_i v6, x_i v1] (al, ro, fl (ml M [32] [S2])) _ _ _ _
  refine e_icmp_gt (pc := 14) (tgt := 115) dX12_allBest_14 (by decide) (fun hb => ?_) (fun hb => ?_)
  · rw [if_pos hb] at hf4
    cases hf4
    refine e_drop (i := 1) ?_
    have hh := hk4 _ (hx4 _ rfl)
    try dsimp only at hh
    exact hh
  · rw [if_neg hb] at hf4
    refine e_iloadn (pc := 17) (i := 1) dX12_allBest_17 rfl rfl ?_
    obtain ⟨v8, hq8, hf4⟩ := x_bd1 hf4
    refine e_invS (pc := 18) (K1 := 0) (S1 := 0) (K := 0) (S := 0) (dd2 := 1) (av := [x_i v1]) (st := []) dX12_allBest_18 xmX12_385 rfl (f_cal (M := M) (us2 := []) [] hn rfl trivial rfl rfl rfl (c_X12_lowest hst hs   hq8)) (by decide) (Nat.le_of_ble_eq_true rfl) (Or.inl rfl) ?_
    show Ev g _ _ _ _ _ _ 21 [some (x_r (16 * 32 + 0)), some (x_i v1), none, none, none] [x_i v8] (al, ro, fl (ml M [32] [S2])) _ _ _ _
    refine e_istoren (pc := 21) (i := 2) dX12_allBest_21 rfl (by decide) rfl ?_
    show Ev g _ _ _ _ _ _ 22 [some (x_r (16 * 32 + 0)), some (x_i v1), some (x_i v8), none, none] [] (al, ro, fl (ml M [32] [S2])) _ _ _ _
    refine e_iloadn (pc := 22) (i := 1) dX12_allBest_22 rfl rfl ?_
    refine e_iconst (pc := 23) dX12_allBest_23 (x_R rfl) ?_
    refine e_iloadn (pc := 24) (i := 2) dX12_allBest_24 rfl rfl ?_
    refine e_ishl (pc := 25) dX12_allBest_25 ?_
    refine e_iconst (pc := 26) dX12_allBest_26 (x_R rfl) ?_
    refine e_ixor (pc := 27) dX12_allBest_27 ?_
    refine e_iand (pc := 28) dX12_allBest_28 ?_
    refine e_istoren (pc := 29) (i := 3) dX12_allBest_29 rfl (by decide) rfl ?_
    show Ev g _ _ _ _ _ _ 30 [some (x_r (16 * 32 + 0)), some (x_i v1), some (x_i v8), some (x_i (x_and v1 (x_xor (x_shl 1 v8) (-1)))), none] [] (al, ro, fl (ml M [32] [S2])) _ _ _ _
    refine e_aloadn (pc := 30) (i := 0) dX12_allBest_30 rfl rfl ?_
    refine f_getr (pc := 31) (u := 32) (q := 0) dX12_allBest_31 xf12_39 (sa_32_0 hs) rfl (sr_32_0_21 hs) ?_
    refine e_iloadn (pc := 34) (i := 1) dX12_allBest_34 rfl rfl ?_
    refine e_aloadn (pc := 35) (i := 0) dX12_allBest_35 rfl rfl ?_
    refine f_getr (pc := 36) (u := 32) (q := 0) dX12_allBest_36 xf12_39 (sa_32_0 hs) rfl (sr_32_0_21 hs) ?_
    refine e_iloadn (pc := 39) (i := 3) dX12_allBest_39 rfl rfl ?_
    obtain ⟨hc0, hf4⟩ := x_gd_some hf4
    refine f_iald (pc := 40) (k := 0) (u := 32) (q := 9) (len := 128) dX12_allBest_40 (sa_32_9 hs) hc0 hn rfl rfl (by decide) ?_
    show Ev g _ _ _ _ _ _ 41 [some (x_r (16 * 32 + 0)), some (x_i v1), some (x_i v8), some (x_i (x_and v1 (x_xor (x_shl 1 v8) (-1)))), none] [x_i (S2 9 ((x_and v1 (x_xor (x_shl 1 v8) (-1)))).toNat), x_i v1, x_r (16 * 32 + 9)] (al, ro, fl (ml M [32] [S2])) _ _ _ _
    obtain ⟨hc0, hf4⟩ := x_gd_some hf4
    refine f_iast (pc := 41) (k := 0) (u := 32) (q := 9) (len := 128) dX12_allBest_41 (sa_32_9 hs) hc0 hn rfl rfl rfl (by decide) ?_
    show Ev g _ _ _ _ _ _ 42 [some (x_r (16 * 32 + 0)), some (x_i v1), some (x_i v8), some (x_i (x_and v1 (x_xor (x_shl 1 v8) (-1)))), none] [] (al, ro, fl (ml M [32] [(x_up S2 9 (v1).toNat (S2 9 ((x_and v1 (x_xor (x_shl 1 v8) (-1)))).toNat))])) _ _ _ _
    refine e_iloadn (pc := 42) (i := 2) dX12_allBest_42 rfl rfl ?_
    refine e_iconst (pc := 43) dX12_allBest_43 (x_R rfl) ?_
    refine e_iadd (pc := 44) dX12_allBest_44 ?_
    refine e_istore (pc := 45) (i := 4) dX12_allBest_45 (by decide) rfl ?_
    show Ev g _ _ _ _ _ _ 47 [some (x_r (16 * 32 + 0)), some (x_i v1), some (x_i v8), some (x_i (x_and v1 (x_xor (x_shl 1 v8) (-1)))), some (x_i (x_add v8 1))] [] (al, ro, fl (ml M [32] [(x_up S2 9 (v1).toNat (S2 9 ((x_and v1 (x_xor (x_shl 1 v8) (-1)))).toNat))])) _ _ _ _
    obtain ⟨S12, hl13, hf4⟩ := x_bd1 hf4
    have hk13 : ∀ q : xU, q = S12 → Ev g yX12_allBest cX12_allBest 5 none [] 2 109 [some (x_r (16 * 32 + 0)), some (x_i v1), some (x_i v8), some (x_i (x_and v1 (x_xor (x_shl 1 v8) (-1)))), none] [] (al, ro, fl (ml M [32] [q])) 0 0 (.inl none) (al, ro, fl (ml M [32] [t])) := by
      intro q hq
      replace hq := hq.symm
      subst hq
      refine e_iinc (pc := 109) dX12_allBest_109 rfl (by decide) rfl ?_
      show Ev g _ _ _ _ _ _ 112 [some (x_r (16 * 32 + 0)), some (x_i (x_add v1 1)), some (x_i v8), some (x_i (x_and v1 (x_xor (x_shl 1 v8) (-1)))), none] [] (al, ro, fl (ml M [32] [S12])) _ _ _ _
      refine e_goto (pc := 112) (tgt := 9) dX12_allBest_112 (by decide) ?_
      cases hf4
      refine e_drop (i := 2) ?_
      refine e_drop (i := 3) ?_
      have hh := hi4 _ rfl
      try dsimp only at hh
      exact hh
    clear hf4
    refine e_whl (G12_allBest_L47 v1 v8) (fun z : (Int × xU) => Ev g yX12_allBest cX12_allBest 5 none [] 2 47 [some (x_r (16 * 32 + 0)), some (x_i v1), some (x_i v8), some (x_i (x_and v1 (x_xor (x_shl 1 v8) (-1)))), some (x_i z.1)] [] (al, ro, fl (ml M [32] [z.2])) 0 0 (.inl none) (al, ro, fl (ml M [32] [t]))) (fun q => q = S12) ?_ xFU ((x_add v8 1), (x_up S2 9 (v1).toNat (S2 9 ((x_and v1 (x_xor (x_shl 1 v8) (-1)))).toNat))) _ hl13 rfl
    intro z t13 hf13 hi13 hx13
    obtain ⟨v10, S11⟩ := z
    rw [G12_allBest_L47] at hf13
    show Ev g _ _ _ _ _ _ 47 [some (x_r (16 * 32 + 0)), some (x_i v1), some (x_i v8), some (x_i (x_and v1 (x_xor (x_shl 1 v8) (-1)))), some (x_i v10)] [] (al, ro, fl (ml M [32] [S11])) _ _ _ _
    refine e_iload (pc := 47) dX12_allBest_47 rfl ?_
    refine e_aloadn (pc := 49) (i := 0) dX12_allBest_49 rfl rfl ?_
    refine f_getr (pc := 50) (u := 32) (q := 0) dX12_allBest_50 xf12_7 (sa_32_0 hs) rfl (sr_32_0_1 hs) ?_
    refine e_iconst (pc := 53) dX12_allBest_53 (x_R rfl) ?_
    refine f_iald (pc := 54) (k := 0) (u := 32) (q := 1) (len := 772) dX12_allBest_54 (sa_32_1 hs) (by decide) hn rfl rfl (by decide) ?_
    show Ev g _ _ _ _ _ _ 55 [some (x_r (16 * 32 + 0)), some (x_i v1), some (x_i v8), some (x_i (x_and v1 (x_xor (x_shl 1 v8) (-1)))), some (x_i v10)] [x_i (S11 1 3), x_i v10] (al, ro, fl (ml M [32] [S11])) _ _ _ _
    refine e_icmp_ge (pc := 55) (tgt := 109) dX12_allBest_55 (by decide) (fun hb => ?_) (fun hb => ?_)
    · rw [if_pos hb] at hf13
      cases hf13
      refine e_drop (i := 4) ?_
      have hh := hk13 _ (hx13 _ rfl)
      try dsimp only at hh
      exact hh
    · rw [if_neg hb] at hf13
      refine e_iloadn (pc := 58) (i := 3) dX12_allBest_58 rfl rfl ?_
      refine e_iload (pc := 59) dX12_allBest_59 rfl ?_
      obtain ⟨v15, hq15, hf13⟩ := x_bd1 hf13
      refine e_invS (pc := 61) (K1 := 0) (S1 := 0) (K := 0) (S := 0) (dd2 := 0) (av := [x_i (x_and v1 (x_xor (x_shl 1 v8) (-1))), x_i v10]) (st := []) dX12_allBest_61 xmX12_119 rfl (f_cal (M := M) (us2 := []) [] hn rfl trivial rfl rfl rfl (c_X12_isOf hst hs   hq15)) (by decide) (Nat.le_of_ble_eq_true rfl) (Or.inl rfl) ?_
      show Ev g _ _ _ _ _ _ 64 [some (x_r (16 * 32 + 0)), some (x_i v1), some (x_i v8), some (x_i (x_and v1 (x_xor (x_shl 1 v8) (-1)))), some (x_i v10)] [x_i v15] (al, ro, fl (ml M [32] [S11])) _ _ _ _
      obtain ⟨S17, hr17, hf13⟩ := x_bd1 hf13
      have hjhr17 : Ev g yX12_allBest cX12_allBest 5 none [] 2 103 [some (x_r (16 * 32 + 0)), some (x_i v1), some (x_i v8), some (x_i (x_and v1 (x_xor (x_shl 1 v8) (-1)))), some (x_i v10)] [] (al, ro, fl (ml M [32] [S17])) 0 0 (.inl none) (al, ro, fl (ml M [32] [t])) := by
        refine e_iinc (pc := 103) dX12_allBest_103 rfl (by decide) rfl ?_
        show Ev g _ _ _ _ _ _ 106 [some (x_r (16 * 32 + 0)), some (x_i v1), some (x_i v8), some (x_i (x_and v1 (x_xor (x_shl 1 v8) (-1)))), some (x_i (x_add v10 1))] [] (al, ro, fl (ml M [32] [S17])) _ _ _ _
        refine e_goto (pc := 106) (tgt := 47) dX12_allBest_106 (by decide) ?_
        cases hf13
        have hh := hi13 _ rfl
        try dsimp only at hh
        exact hh
      clear hf13
      refine e_if_eq (pc := 64) (tgt := 103) dX12_allBest_64 (by decide) (fun hb => ?_) (fun hb => ?_)
      · rw [if_pos hb] at hr17
        cases hr17
        exact hjhr17
      · rw [if_neg hb] at hr17
        refine e_aloadn (pc := 67) (i := 0) dX12_allBest_67 rfl rfl ?_
        refine f_getr (pc := 68) (u := 32) (q := 0) dX12_allBest_68 xf12_39 (sa_32_0 hs) rfl (sr_32_0_21 hs) ?_
        refine e_iloadn (pc := 71) (i := 1) dX12_allBest_71 rfl rfl ?_
        refine e_aloadn (pc := 72) (i := 0) dX12_allBest_72 rfl rfl ?_
        refine f_getr (pc := 73) (u := 32) (q := 0) dX12_allBest_73 xf12_39 (sa_32_0 hs) rfl (sr_32_0_21 hs) ?_
        refine e_iloadn (pc := 76) (i := 1) dX12_allBest_76 rfl rfl ?_
        obtain ⟨hc0, hr17⟩ := x_gd_some hr17
        refine f_iald (pc := 77) (k := 0) (u := 32) (q := 9) (len := 128) dX12_allBest_77 (sa_32_9 hs) hc0 hn rfl rfl (by decide) ?_
        show Ev g _ _ _ _ _ _ 78 [some (x_r (16 * 32 + 0)), some (x_i v1), some (x_i v8), some (x_i (x_and v1 (x_xor (x_shl 1 v8) (-1)))), some (x_i v10)] [x_i (S11 9 (v1).toNat), x_i v1, x_r (16 * 32 + 9)] (al, ro, fl (ml M [32] [S11])) _ _ _ _
        refine e_aloadn (pc := 78) (i := 0) dX12_allBest_78 rfl rfl ?_
        refine e_iloadn (pc := 79) (i := 2) dX12_allBest_79 rfl rfl ?_
        refine e_iload (pc := 80) dX12_allBest_80 rfl ?_
        obtain ⟨v19, hq19, hr17⟩ := x_bd1 hr17
        refine e_invV (pc := 82) (K1 := 0) (S1 := 0) (K := 0) (S := 0) (dd2 := 1) (av := [x_i v8, x_i v10]) (st := [x_i (S11 9 (v1).toNat), x_i v1, x_r (16 * 32 + 9)]) (id := 16 * 32 + 0) dX12_allBest_82 xmX12_388 rfl (Or.inl ⟨10, 27, TX12, (sa_32_0 hs), rfl, by decide⟩) (f_cal (M := M) (us2 := [32]) [0] hn rfl (And.intro rfl trivial) rfl rfl rfl (c_X12_both hst hs   hq19)) (by decide) (Nat.le_of_ble_eq_true rfl) (Or.inl rfl) ?_
        show Ev g _ _ _ _ _ _ 85 [some (x_r (16 * 32 + 0)), some (x_i v1), some (x_i v8), some (x_i (x_and v1 (x_xor (x_shl 1 v8) (-1)))), some (x_i v10)] [x_i v19, x_i (S11 9 (v1).toNat), x_i v1, x_r (16 * 32 + 9)] (al, ro, fl (ml M [32] [S11])) _ _ _ _
        refine e_aloadn (pc := 85) (i := 0) dX12_allBest_85 rfl rfl ?_
        refine f_getr (pc := 86) (u := 32) (q := 0) dX12_allBest_86 xf12_39 (sa_32_0 hs) rfl (sr_32_0_21 hs) ?_
        refine e_iloadn (pc := 89) (i := 3) dX12_allBest_89 rfl rfl ?_
        refine e_iconst (pc := 90) dX12_allBest_90 (x_R rfl) ?_
        refine e_iload (pc := 91) dX12_allBest_91 rfl ?_
        refine e_ishl (pc := 93) dX12_allBest_93 ?_
        refine e_iconst (pc := 94) dX12_allBest_94 (x_R rfl) ?_
        refine e_ixor (pc := 95) dX12_allBest_95 ?_
        refine e_iand (pc := 96) dX12_allBest_96 ?_
        obtain ⟨hc0, hr17⟩ := x_gd_some hr17
        refine f_iald (pc := 97) (k := 0) (u := 32) (q := 9) (len := 128) dX12_allBest_97 (sa_32_9 hs) hc0 hn rfl rfl (by decide) ?_
        show Ev g _ _ _ _ _ _ 98 [some (x_r (16 * 32 + 0)), some (x_i v1), some (x_i v8), some (x_i (x_and v1 (x_xor (x_shl 1 v8) (-1)))), some (x_i v10)] [x_i (S11 9 ((x_and (x_and v1 (x_xor (x_shl 1 v8) (-1))) (x_xor (x_shl 1 v10) (-1)))).toNat), x_i v19, x_i (S11 9 (v1).toNat), x_i v1, x_r (16 * 32 + 9)] (al, ro, fl (ml M [32] [S11])) _ _ _ _
        refine e_iadd (pc := 98) dX12_allBest_98 ?_
        obtain ⟨v21, hq21, hr17⟩ := x_bd1 hr17
        refine e_invS (pc := 99) (K1 := 0) (S1 := 0) (K := 0) (S := 0) (dd2 := 0) (av := [x_i (S11 9 (v1).toNat), x_i (x_add v19 (S11 9 ((x_and (x_and v1 (x_xor (x_shl 1 v8) (-1))) (x_xor (x_shl 1 v10) (-1)))).toNat))]) (st := [x_i v1, x_r (16 * 32 + 9)]) dX12_allBest_99 xmX12_266 rfl (f_cal (M := M) (us2 := []) [] hn rfl trivial rfl rfl rfl (c_X12_greater hst hs   hq21)) (by decide) (Nat.le_of_ble_eq_true rfl) (Or.inl rfl) ?_
        show Ev g _ _ _ _ _ _ 102 [some (x_r (16 * 32 + 0)), some (x_i v1), some (x_i v8), some (x_i (x_and v1 (x_xor (x_shl 1 v8) (-1)))), some (x_i v10)] [x_i v21, x_i v1, x_r (16 * 32 + 9)] (al, ro, fl (ml M [32] [S11])) _ _ _ _
        obtain ⟨hc0, hr17⟩ := x_gd_some hr17
        refine f_iast (pc := 102) (k := 0) (u := 32) (q := 9) (len := 128) dX12_allBest_102 (sa_32_9 hs) hc0 hn rfl rfl rfl (by decide) ?_
        show Ev g _ _ _ _ _ _ 103 [some (x_r (16 * 32 + 0)), some (x_i v1), some (x_i v8), some (x_i (x_and v1 (x_xor (x_shl 1 v8) (-1)))), some (x_i v10)] [] (al, ro, fl (ml M [32] [(x_up S11 9 (v1).toNat v21)])) _ _ _ _
        cases hr17
        exact hjhr17
set_option maxRecDepth 100000 in
set_option maxHeartbeats 4000000 in
theorem c_X12_pairs {g : xG} {al : List (Nat × Nat × Nat)} {ro : Nat → Nat → Option Nat} (hst : g.1.stackTraces = false) (hs : SH al ro) {M : Nat → xU} {a : Int} {S : xU}  {t : (Int × xU)} (hG : G12_pairs a S = some t) :
    Cal g yX12_pairs cX12_pairs 7 (some .int) 3 [x_r (16 * 32 + 0), x_i a] (al, ro, fl (ml M [32] [S])) 0 0 (.inl (some (x_i t.1))) (al, ro, fl (ml M [32] [t.2])) := by
  have hn : ([32] : List Nat).Nodup := by decide
  refine cal_of_ev (plainFor_of_name (by decide)) (x_c1 rfl) (Nat.le_of_ble_eq_true rfl) hst ?_
  show Ev g _ _ _ _ _ _ 0 [some (x_r (16 * 32 + 0)), some (x_i a), none, none, none, none, none] [] (al, ro, fl (ml M [32] [S])) _ _ _ _
  rw [G12_pairs] at hG
  refine e_aloadn (pc := 0) (i := 0) dX12_pairs_0 rfl rfl ?_
  refine e_iloadn (pc := 1) (i := 1) dX12_pairs_1 rfl rfl ?_
  refine e_iconst (pc := 2) dX12_pairs_2 (x_R rfl) ?_
  obtain ⟨v1, hr1, hG⟩ := x_bd1 hG
  have hjhr1 : Ev g yX12_pairs cX12_pairs 7 (some .int) [] 3 19 [some (x_r (16 * 32 + 0)), some (x_i a), none, none, none, none, none] [x_i v1, x_r (16 * 32 + 0)] (al, ro, fl (ml M [32] [S])) 0 0 (.inl (some (x_i t.1))) (al, ro, fl (ml M [32] [t.2])) := by
    refine f_puti (pc := 19) (k := 0) (u := 32) (q := 0) dX12_pairs_19 xf12_58 xw10_0 (sa_32_0 hs) hn rfl rfl rfl (by decide) ?_
    show Ev g _ _ _ _ _ _ 22 [some (x_r (16 * 32 + 0)), some (x_i a), none, none, none, none, none] [] (al, ro, fl (ml M [32] [(x_up S 0 0 v1)])) _ _ _ _
    refine e_aloadn (pc := 22) (i := 0) dX12_pairs_22 rfl rfl ?_
    refine f_geti (pc := 23) (k := 0) (u := 32) (q := 0) dX12_pairs_23 xf12_58 (sa_32_0 hs) rfl hn rfl rfl (by decide) ?_
    show Ev g _ _ _ _ _ _ 26 [some (x_r (16 * 32 + 0)), some (x_i a), none, none, none, none, none] [x_i ((x_up S 0 0 v1) 0 0)] (al, ro, fl (ml M [32] [(x_up S 0 0 v1)])) _ _ _ _
    refine e_if_le (pc := 26) (tgt := 31) dX12_pairs_26 (by decide) (fun hb => ?_) (fun hb => ?_)
    · rw [if_pos hb] at hG
      refine e_aloadn (pc := 31) (i := 0) dX12_pairs_31 rfl rfl ?_
      obtain ⟨S5, hq5, hG⟩ := x_bd1 hG
      refine e_invV (pc := 32) (K1 := 0) (S1 := 0) (K := 0) (S := 0) (dd2 := 2) (av := []) (st := []) (id := 16 * 32 + 0) dX12_pairs_32 xmX12_391 rfl (Or.inl ⟨10, 27, TX12, (sa_32_0 hs), rfl, by decide⟩) (f_cal (M := M) (us2 := [32]) [0] hn rfl (And.intro rfl trivial) rfl rfl rfl (c_X12_allBest hst hs   hq5)) (by decide) (Nat.le_of_ble_eq_true rfl) (Or.inl rfl) ?_
      show Ev g _ _ _ _ _ _ 35 [some (x_r (16 * 32 + 0)), some (x_i a), none, none, none, none, none] [] (al, ro, fl (ml M [32] [S5])) _ _ _ _
      refine e_iloadn (pc := 35) (i := 1) dX12_pairs_35 rfl rfl ?_
      refine e_iconst (pc := 36) dX12_pairs_36 (x_R rfl) ?_
      refine e_icmp_ne (pc := 37) (tgt := 50) dX12_pairs_37 (by decide) (fun hb => ?_) (fun hb => ?_)
      · rw [if_neg hb] at hG
        refine e_aloadn (pc := 50) (i := 0) dX12_pairs_50 rfl rfl ?_
        obtain ⟨v7, hq7, hG⟩ := x_bd1 hG
        refine e_invV (pc := 51) (K1 := 0) (S1 := 0) (K := 0) (S := 0) (dd2 := 0) (av := []) (st := []) (id := 16 * 32 + 0) dX12_pairs_51 xmX12_346 rfl (Or.inl ⟨10, 27, TX12, (sa_32_0 hs), rfl, by decide⟩) (f_cal (M := M) (us2 := [32]) [0] hn rfl (And.intro rfl trivial) rfl rfl rfl (c_X12_all hst hs   hq7)) (by decide) (Nat.le_of_ble_eq_true rfl) (Or.inl rfl) ?_
        show Ev g _ _ _ _ _ _ 54 [some (x_r (16 * 32 + 0)), some (x_i a), none, none, none, none, none] [x_i v7] (al, ro, fl (ml M [32] [S5])) _ _ _ _
        refine e_istoren (pc := 54) (i := 2) dX12_pairs_54 rfl (by decide) rfl ?_
        show Ev g _ _ _ _ _ _ 55 [some (x_r (16 * 32 + 0)), some (x_i a), some (x_i v7), none, none, none, none] [] (al, ro, fl (ml M [32] [S5])) _ _ _ _
        obtain ⟨r10, hl10, hG⟩ := x_lrd hG
        have hk10 : ∀ q : Unit, r10 = .inl q → Ev g yX12_pairs cX12_pairs 7 (some .int) [] 3 199 [some (x_r (16 * 32 + 0)), some (x_i a), none, none, none, none, none] [] (al, ro, fl (ml M [32] [S5])) 0 0 (.inl (some (x_i t.1))) (al, ro, fl (ml M [32] [t.2])) := by
          intro q hq
          subst hq
          replace hG := x_lr_l hG
          replace hG := x_ed1 hG
          refine e_iconst (pc := 199) dX12_pairs_199 (x_R rfl) ?_
          cases hG
          exact (e_ireturn rfl dX12_pairs_200 rfl)
        have hv10 : ∀ q : (Int × xU), r10 = .inr q → some q = some t := by
          intro q hq
          subst hq
          exact x_lr_r hG
        clear hG
        refine e_whl (G12_pairs_L55 a S5) (fun z : Int => Ev g yX12_pairs cX12_pairs 7 (some .int) [] 3 55 [some (x_r (16 * 32 + 0)), some (x_i a), some (x_i z), none, none, none, none] [] (al, ro, fl (ml M [32] [S5])) 0 0 (.inl (some (x_i t.1))) (al, ro, fl (ml M [32] [t.2]))) (fun q => q = r10) ?_ xFU v7 _ hl10 rfl
        intro z t10 hf10 hi10 hx10
        obtain ⟨v9, hzz⟩ : ∃ y, y = z := ⟨z, rfl⟩
        subst hzz
        rw [G12_pairs_L55] at hf10
        show Ev g _ _ _ _ _ _ 55 [some (x_r (16 * 32 + 0)), some (x_i a), some (x_i v9), none, none, none, none] [] (al, ro, fl (ml M [32] [S5])) _ _ _ _
        refine e_iloadn (pc := 55) (i := 2) dX12_pairs_55 rfl rfl ?_
        refine e_if_eq (pc := 56) (tgt := 199) dX12_pairs_56 (by decide) (fun hb => ?_) (fun hb => ?_)
        · rw [if_pos hb] at hf10
          cases hf10
          refine e_drop (i := 2) ?_
          have hh := hk10 _ (hx10 _ rfl).symm
          try dsimp only at hh
          exact hh
        · rw [if_neg hb] at hf10
          refine e_iloadn (pc := 59) (i := 2) dX12_pairs_59 rfl rfl ?_
          obtain ⟨v12, hq12, hf10⟩ := x_bd1 hf10
          refine e_invS (pc := 60) (K1 := 0) (S1 := 0) (K := 0) (S := 0) (dd2 := 1) (av := [x_i v9]) (st := []) dX12_pairs_60 xmX12_385 rfl (f_cal (M := M) (us2 := []) [] hn rfl trivial rfl rfl rfl (c_X12_lowest hst hs   hq12)) (by decide) (Nat.le_of_ble_eq_true rfl) (Or.inl rfl) ?_
          show Ev g _ _ _ _ _ _ 63 [some (x_r (16 * 32 + 0)), some (x_i a), some (x_i v9), none, none, none, none] [x_i v12] (al, ro, fl (ml M [32] [S5])) _ _ _ _
          refine e_istoren (pc := 63) (i := 3) dX12_pairs_63 rfl (by decide) rfl ?_
          show Ev g _ _ _ _ _ _ 64 [some (x_r (16 * 32 + 0)), some (x_i a), some (x_i v9), some (x_i v12), none, none, none] [] (al, ro, fl (ml M [32] [S5])) _ _ _ _
          refine e_iloadn (pc := 64) (i := 2) dX12_pairs_64 rfl rfl ?_
          refine e_iconst (pc := 65) dX12_pairs_65 (x_R rfl) ?_
          refine e_iloadn (pc := 66) (i := 3) dX12_pairs_66 rfl rfl ?_
          refine e_ishl (pc := 67) dX12_pairs_67 ?_
          refine e_iconst (pc := 68) dX12_pairs_68 (x_R rfl) ?_
          refine e_ixor (pc := 69) dX12_pairs_69 ?_
          refine e_iand (pc := 70) dX12_pairs_70 ?_
          refine e_istore (pc := 71) (i := 4) dX12_pairs_71 (by decide) rfl ?_
          show Ev g _ _ _ _ _ _ 73 [some (x_r (16 * 32 + 0)), some (x_i a), some (x_i v9), some (x_i v12), some (x_i (x_and v9 (x_xor (x_shl 1 v12) (-1)))), none, none] [] (al, ro, fl (ml M [32] [S5])) _ _ _ _
          refine e_iconst (pc := 73) dX12_pairs_73 (x_R rfl) ?_
          refine e_istore (pc := 74) (i := 5) dX12_pairs_74 (by decide) rfl ?_
          show Ev g _ _ _ _ _ _ 76 [some (x_r (16 * 32 + 0)), some (x_i a), some (x_i v9), some (x_i v12), some (x_i (x_and v9 (x_xor (x_shl 1 v12) (-1)))), some (x_i (-1)), none] [] (al, ro, fl (ml M [32] [S5])) _ _ _ _
          refine e_aloadn (pc := 76) (i := 0) dX12_pairs_76 rfl rfl ?_
          refine f_getr (pc := 77) (u := 32) (q := 0) dX12_pairs_77 xf12_7 (sa_32_0 hs) rfl (sr_32_0_1 hs) ?_
          refine e_iconst (pc := 80) dX12_pairs_80 (x_R rfl) ?_
          refine f_iald (pc := 81) (k := 0) (u := 32) (q := 1) (len := 772) dX12_pairs_81 (sa_32_1 hs) (by decide) hn rfl rfl (by decide) ?_
          show Ev g _ _ _ _ _ _ 82 [some (x_r (16 * 32 + 0)), some (x_i a), some (x_i v9), some (x_i v12), some (x_i (x_and v9 (x_xor (x_shl 1 v12) (-1)))), some (x_i (-1)), none] [x_i (S5 1 3)] (al, ro, fl (ml M [32] [S5])) _ _ _ _
          refine e_iconst (pc := 82) dX12_pairs_82 (x_R rfl) ?_
          refine e_isub (pc := 83) dX12_pairs_83 ?_
          refine e_istore (pc := 84) (i := 6) dX12_pairs_84 (by decide) rfl ?_
          show Ev g _ _ _ _ _ _ 86 [some (x_r (16 * 32 + 0)), some (x_i a), some (x_i v9), some (x_i v12), some (x_i (x_and v9 (x_xor (x_shl 1 v12) (-1)))), some (x_i (-1)), some (x_i (x_sub (S5 1 3) 1))] [] (al, ro, fl (ml M [32] [S5])) _ _ _ _
          obtain ⟨v16, hl17, hf10⟩ := x_bd1 hf10
          have hk17 : ∀ q : Int, q = v16 → Ev g yX12_pairs cX12_pairs 7 (some .int) [] 3 159 [some (x_r (16 * 32 + 0)), some (x_i a), some (x_i v9), some (x_i v12), some (x_i (x_and v9 (x_xor (x_shl 1 v12) (-1)))), some (x_i q), none] [] (al, ro, fl (ml M [32] [S5])) 0 0 (.inl (some (x_i t.1))) (al, ro, fl (ml M [32] [t.2])) := by
            intro q hq
            replace hq := hq.symm
            subst hq
            refine e_iloadn (pc := 159) (i := 3) dX12_pairs_159 rfl rfl ?_
            refine e_iloadn (pc := 160) (i := 1) dX12_pairs_160 rfl rfl ?_
            refine e_icmp_ne (pc := 161) (tgt := 167) dX12_pairs_161 (by decide) (fun hb => ?_) (fun hb => ?_)
            · rw [if_neg hb] at hf10
              refine e_iload (pc := 167) dX12_pairs_167 rfl ?_
              refine e_iloadn (pc := 169) (i := 1) dX12_pairs_169 rfl rfl ?_
              refine e_icmp_ne (pc := 170) (tgt := 175) dX12_pairs_170 (by decide) (fun hb => ?_) (fun hb => ?_)
              · rw [if_neg hb] at hf10
                refine e_iload (pc := 175) dX12_pairs_175 rfl ?_
                refine e_iconst (pc := 177) dX12_pairs_177 (x_R rfl) ?_
                obtain ⟨v25, hr25, hf10⟩ := x_bd1 hf10
                have hjhr25 : Ev g yX12_pairs cX12_pairs 7 (some .int) [] 3 195 [some (x_r (16 * 32 + 0)), some (x_i a), some (x_i v9), some (x_i v12), some (x_i (x_and v9 (x_xor (x_shl 1 v12) (-1)))), some (x_i v16), none] [x_i v25] (al, ro, fl (ml M [32] [S5])) 0 0 (.inl (some (x_i t.1))) (al, ro, fl (ml M [32] [t.2])) := by
                  refine e_istoren (pc := 195) (i := 2) dX12_pairs_195 rfl (by decide) rfl ?_
                  show Ev g _ _ _ _ _ _ 196 [some (x_r (16 * 32 + 0)), some (x_i a), some (x_i v25), some (x_i v12), some (x_i (x_and v9 (x_xor (x_shl 1 v12) (-1)))), some (x_i v16), none] [] (al, ro, fl (ml M [32] [S5])) _ _ _ _
                  refine e_goto (pc := 196) (tgt := 55) dX12_pairs_196 (by decide) ?_
                  cases hf10
                  refine e_drop (i := 3) ?_
                  refine e_drop (i := 4) ?_
                  refine e_drop (i := 5) ?_
                  have hh := hi10 _ rfl
                  try dsimp only at hh
                  exact hh
                clear hf10
                refine e_icmp_ne (pc := 178) (tgt := 186) dX12_pairs_178 (by decide) (fun hb => ?_) (fun hb => ?_)
                · rw [if_neg hb] at hr25
                  refine e_iload (pc := 186) dX12_pairs_186 rfl ?_
                  refine e_iconst (pc := 188) dX12_pairs_188 (x_R rfl) ?_
                  refine e_iload (pc := 189) dX12_pairs_189 rfl ?_
                  refine e_ishl (pc := 191) dX12_pairs_191 ?_
                  refine e_iconst (pc := 192) dX12_pairs_192 (x_R rfl) ?_
                  refine e_ixor (pc := 193) dX12_pairs_193 ?_
                  refine e_iand (pc := 194) dX12_pairs_194 ?_
                  cases hr25
                  exact hjhr25
                · rw [if_pos hb] at hr25
                  refine e_iload (pc := 181) dX12_pairs_181 rfl ?_
                  refine e_goto (pc := 183) (tgt := 195) dX12_pairs_183 (by decide) ?_
                  cases hr25
                  exact hjhr25
              · rw [if_pos hb] at hf10
                refine e_iloadn (pc := 173) (i := 3) dX12_pairs_173 rfl rfl ?_
                cases hf10
                have hz := hv10 _ (hx10 _ rfl).symm
                cases hz
                exact (e_ireturn rfl dX12_pairs_174 rfl)
            · rw [if_pos hb] at hf10
              refine e_iload (pc := 164) dX12_pairs_164 rfl ?_
              cases hf10
              have hz := hv10 _ (hx10 _ rfl).symm
              cases hz
              exact (e_ireturn rfl dX12_pairs_166 rfl)
          clear hf10
          refine e_whl (G12_pairs_L86 S5 v9 v12) (fun z : (Int × Int) => Ev g yX12_pairs cX12_pairs 7 (some .int) [] 3 86 [some (x_r (16 * 32 + 0)), some (x_i a), some (x_i v9), some (x_i v12), some (x_i (x_and v9 (x_xor (x_shl 1 v12) (-1)))), some (x_i z.1), some (x_i z.2)] [] (al, ro, fl (ml M [32] [S5])) 0 0 (.inl (some (x_i t.1))) (al, ro, fl (ml M [32] [t.2]))) (fun q => q = v16) ?_ xFU ((-1), (x_sub (S5 1 3) 1)) _ hl17 rfl
          intro z t17 hf17 hi17 hx17
          obtain ⟨v14, v15⟩ := z
          rw [G12_pairs_L86] at hf17
          show Ev g _ _ _ _ _ _ 86 [some (x_r (16 * 32 + 0)), some (x_i a), some (x_i v9), some (x_i v12), some (x_i (x_and v9 (x_xor (x_shl 1 v12) (-1)))), some (x_i v14), some (x_i v15)] [] (al, ro, fl (ml M [32] [S5])) _ _ _ _
          refine e_iload (pc := 86) dX12_pairs_86 rfl ?_
          refine e_iloadn (pc := 88) (i := 3) dX12_pairs_88 rfl rfl ?_
          refine e_icmp_le (pc := 89) (tgt := 159) dX12_pairs_89 (by decide) (fun hb => ?_) (fun hb => ?_)
          · rw [if_pos hb] at hf17
            cases hf17
            refine e_drop (i := 6) ?_
            have hh := hk17 _ (hx17 _ rfl)
            try dsimp only at hh
            exact hh
          · rw [if_neg hb] at hf17
            refine e_aloadn (pc := 92) (i := 0) dX12_pairs_92 rfl rfl ?_
            refine f_getr (pc := 93) (u := 32) (q := 0) dX12_pairs_93 xf12_39 (sa_32_0 hs) rfl (sr_32_0_21 hs) ?_
            refine e_iload (pc := 96) dX12_pairs_96 rfl ?_
            obtain ⟨hc0, hf17⟩ := x_gd_some hf17
            refine f_iald (pc := 98) (k := 0) (u := 32) (q := 9) (len := 128) dX12_pairs_98 (sa_32_9 hs) hc0 hn rfl rfl (by decide) ?_
            show Ev g _ _ _ _ _ _ 99 [some (x_r (16 * 32 + 0)), some (x_i a), some (x_i v9), some (x_i v12), some (x_i (x_and v9 (x_xor (x_shl 1 v12) (-1)))), some (x_i v14), some (x_i v15)] [x_i (S5 9 ((x_and v9 (x_xor (x_shl 1 v12) (-1)))).toNat)] (al, ro, fl (ml M [32] [S5])) _ _ _ _
            refine e_aloadn (pc := 99) (i := 0) dX12_pairs_99 rfl rfl ?_
            refine f_getr (pc := 100) (u := 32) (q := 0) dX12_pairs_100 xf12_39 (sa_32_0 hs) rfl (sr_32_0_21 hs) ?_
            refine e_iloadn (pc := 103) (i := 2) dX12_pairs_103 rfl rfl ?_
            obtain ⟨hc0, hf17⟩ := x_gd_some hf17
            refine f_iald (pc := 104) (k := 0) (u := 32) (q := 9) (len := 128) dX12_pairs_104 (sa_32_9 hs) hc0 hn rfl rfl (by decide) ?_
            show Ev g _ _ _ _ _ _ 105 [some (x_r (16 * 32 + 0)), some (x_i a), some (x_i v9), some (x_i v12), some (x_i (x_and v9 (x_xor (x_shl 1 v12) (-1)))), some (x_i v14), some (x_i v15)] [x_i (S5 9 (v9).toNat), x_i (S5 9 ((x_and v9 (x_xor (x_shl 1 v12) (-1)))).toNat)] (al, ro, fl (ml M [32] [S5])) _ _ _ _
            refine e_icmp_eq (pc := 105) (tgt := 159) dX12_pairs_105 (by decide) (fun hb => ?_) (fun hb => ?_)
            · rw [if_pos hb] at hf17
              cases hf17
              refine e_drop (i := 6) ?_
              have hh := hk17 _ (hx17 _ rfl)
              try dsimp only at hh
              exact hh
            · rw [if_neg hb] at hf17
              refine e_iload (pc := 108) dX12_pairs_108 rfl ?_
              refine e_iload (pc := 110) dX12_pairs_110 rfl ?_
              obtain ⟨v19, hq19, hf17⟩ := x_bd1 hf17
              refine e_invS (pc := 112) (K1 := 0) (S1 := 0) (K := 0) (S := 0) (dd2 := 0) (av := [x_i (x_and v9 (x_xor (x_shl 1 v12) (-1))), x_i v15]) (st := []) dX12_pairs_112 xmX12_119 rfl (f_cal (M := M) (us2 := []) [] hn rfl trivial rfl rfl rfl (c_X12_isOf hst hs   hq19)) (by decide) (Nat.le_of_ble_eq_true rfl) (Or.inl rfl) ?_
              show Ev g _ _ _ _ _ _ 115 [some (x_r (16 * 32 + 0)), some (x_i a), some (x_i v9), some (x_i v12), some (x_i (x_and v9 (x_xor (x_shl 1 v12) (-1)))), some (x_i v14), some (x_i v15)] [x_i v19] (al, ro, fl (ml M [32] [S5])) _ _ _ _
              obtain ⟨v21, hr21, hf17⟩ := x_bd1 hf17
              have hjhr21 : Ev g yX12_pairs cX12_pairs 7 (some .int) [] 3 153 [some (x_r (16 * 32 + 0)), some (x_i a), some (x_i v9), some (x_i v12), some (x_i (x_and v9 (x_xor (x_shl 1 v12) (-1)))), some (x_i v21), some (x_i v15)] [] (al, ro, fl (ml M [32] [S5])) 0 0 (.inl (some (x_i t.1))) (al, ro, fl (ml M [32] [t.2])) := by
                refine e_iinc (pc := 153) dX12_pairs_153 rfl (by decide) rfl ?_
                show Ev g _ _ _ _ _ _ 156 [some (x_r (16 * 32 + 0)), some (x_i a), some (x_i v9), some (x_i v12), some (x_i (x_and v9 (x_xor (x_shl 1 v12) (-1)))), some (x_i v21), some (x_i (x_add v15 (-1)))] [] (al, ro, fl (ml M [32] [S5])) _ _ _ _
                refine e_goto (pc := 156) (tgt := 86) dX12_pairs_156 (by decide) ?_
                cases hf17
                have hh := hi17 _ rfl
                try dsimp only at hh
                exact hh
              clear hf17
              refine e_if_eq (pc := 115) (tgt := 153) dX12_pairs_115 (by decide) (fun hb => ?_) (fun hb => ?_)
              · rw [if_pos hb] at hr21
                cases hr21
                exact hjhr21
              · rw [if_neg hb] at hr21
                refine e_aloadn (pc := 118) (i := 0) dX12_pairs_118 rfl rfl ?_
                refine e_iloadn (pc := 119) (i := 3) dX12_pairs_119 rfl rfl ?_
                refine e_iload (pc := 120) dX12_pairs_120 rfl ?_
                obtain ⟨v23, hq23, hr21⟩ := x_bd1 hr21
                refine e_invV (pc := 122) (K1 := 0) (S1 := 0) (K := 0) (S := 0) (dd2 := 1) (av := [x_i v12, x_i v15]) (st := []) (id := 16 * 32 + 0) dX12_pairs_122 xmX12_388 rfl (Or.inl ⟨10, 27, TX12, (sa_32_0 hs), rfl, by decide⟩) (f_cal (M := M) (us2 := [32]) [0] hn rfl (And.intro rfl trivial) rfl rfl rfl (c_X12_both hst hs   hq23)) (by decide) (Nat.le_of_ble_eq_true rfl) (Or.inl rfl) ?_
                show Ev g _ _ _ _ _ _ 125 [some (x_r (16 * 32 + 0)), some (x_i a), some (x_i v9), some (x_i v12), some (x_i (x_and v9 (x_xor (x_shl 1 v12) (-1)))), some (x_i v14), some (x_i v15)] [x_i v23] (al, ro, fl (ml M [32] [S5])) _ _ _ _
                refine e_aloadn (pc := 125) (i := 0) dX12_pairs_125 rfl rfl ?_
                refine f_getr (pc := 126) (u := 32) (q := 0) dX12_pairs_126 xf12_39 (sa_32_0 hs) rfl (sr_32_0_21 hs) ?_
                refine e_iload (pc := 129) dX12_pairs_129 rfl ?_
                refine e_iconst (pc := 131) dX12_pairs_131 (x_R rfl) ?_
                refine e_iload (pc := 132) dX12_pairs_132 rfl ?_
                refine e_ishl (pc := 134) dX12_pairs_134 ?_
                refine e_iconst (pc := 135) dX12_pairs_135 (x_R rfl) ?_
                refine e_ixor (pc := 136) dX12_pairs_136 ?_
                refine e_iand (pc := 137) dX12_pairs_137 ?_
                obtain ⟨hc0, hr21⟩ := x_gd_some hr21
                refine f_iald (pc := 138) (k := 0) (u := 32) (q := 9) (len := 128) dX12_pairs_138 (sa_32_9 hs) hc0 hn rfl rfl (by decide) ?_
                show Ev g _ _ _ _ _ _ 139 [some (x_r (16 * 32 + 0)), some (x_i a), some (x_i v9), some (x_i v12), some (x_i (x_and v9 (x_xor (x_shl 1 v12) (-1)))), some (x_i v14), some (x_i v15)] [x_i (S5 9 ((x_and (x_and v9 (x_xor (x_shl 1 v12) (-1))) (x_xor (x_shl 1 v15) (-1)))).toNat), x_i v23] (al, ro, fl (ml M [32] [S5])) _ _ _ _
                refine e_iadd (pc := 139) dX12_pairs_139 ?_
                refine e_aloadn (pc := 140) (i := 0) dX12_pairs_140 rfl rfl ?_
                refine f_getr (pc := 141) (u := 32) (q := 0) dX12_pairs_141 xf12_39 (sa_32_0 hs) rfl (sr_32_0_21 hs) ?_
                refine e_iloadn (pc := 144) (i := 2) dX12_pairs_144 rfl rfl ?_
                obtain ⟨hc0, hr21⟩ := x_gd_some hr21
                refine f_iald (pc := 145) (k := 0) (u := 32) (q := 9) (len := 128) dX12_pairs_145 (sa_32_9 hs) hc0 hn rfl rfl (by decide) ?_
                show Ev g _ _ _ _ _ _ 146 [some (x_r (16 * 32 + 0)), some (x_i a), some (x_i v9), some (x_i v12), some (x_i (x_and v9 (x_xor (x_shl 1 v12) (-1)))), some (x_i v14), some (x_i v15)] [x_i (S5 9 (v9).toNat), x_i (x_add v23 (S5 9 ((x_and (x_and v9 (x_xor (x_shl 1 v12) (-1))) (x_xor (x_shl 1 v15) (-1)))).toNat))] (al, ro, fl (ml M [32] [S5])) _ _ _ _
                refine e_icmp_ne (pc := 146) (tgt := 153) dX12_pairs_146 (by decide) (fun hb => ?_) (fun hb => ?_)
                · rw [if_neg hb] at hr21
                  cases hr21
                  exact hjhr21
                · rw [if_pos hb] at hr21
                  refine e_iload (pc := 149) dX12_pairs_149 rfl ?_
                  refine e_istore (pc := 151) (i := 5) dX12_pairs_151 (by decide) rfl ?_
                  show Ev g _ _ _ _ _ _ 153 [some (x_r (16 * 32 + 0)), some (x_i a), some (x_i v9), some (x_i v12), some (x_i (x_and v9 (x_xor (x_shl 1 v12) (-1)))), some (x_i v15), some (x_i v15)] [] (al, ro, fl (ml M [32] [S5])) _ _ _ _
                  cases hr21
                  exact hjhr21
      · rw [if_pos hb] at hG
        refine e_aloadn (pc := 40) (i := 0) dX12_pairs_40 rfl rfl ?_
        refine f_getr (pc := 41) (u := 32) (q := 0) dX12_pairs_41 xf12_39 (sa_32_0 hs) rfl (sr_32_0_21 hs) ?_
        refine e_aloadn (pc := 44) (i := 0) dX12_pairs_44 rfl rfl ?_
        obtain ⟨v27, hq27, hG⟩ := x_bd1 hG
        refine e_invV (pc := 45) (K1 := 0) (S1 := 0) (K := 0) (S := 0) (dd2 := 0) (av := []) (st := [x_r (16 * 32 + 9)]) (id := 16 * 32 + 0) dX12_pairs_45 xmX12_346 rfl (Or.inl ⟨10, 27, TX12, (sa_32_0 hs), rfl, by decide⟩) (f_cal (M := M) (us2 := [32]) [0] hn rfl (And.intro rfl trivial) rfl rfl rfl (c_X12_all hst hs   hq27)) (by decide) (Nat.le_of_ble_eq_true rfl) (Or.inl rfl) ?_
        show Ev g _ _ _ _ _ _ 48 [some (x_r (16 * 32 + 0)), some (x_i a), none, none, none, none, none] [x_i v27, x_r (16 * 32 + 9)] (al, ro, fl (ml M [32] [S5])) _ _ _ _
        obtain ⟨hc0, hG⟩ := x_gd_some hG
        refine f_iald (pc := 48) (k := 0) (u := 32) (q := 9) (len := 128) dX12_pairs_48 (sa_32_9 hs) hc0 hn rfl rfl (by decide) ?_
        show Ev g _ _ _ _ _ _ 49 [some (x_r (16 * 32 + 0)), some (x_i a), none, none, none, none, none] [x_i (S5 9 (v27).toNat)] (al, ro, fl (ml M [32] [S5])) _ _ _ _
        cases hG
        exact (e_ireturn rfl dX12_pairs_49 rfl)
    · rw [if_neg hb] at hG
      refine e_iconst (pc := 29) dX12_pairs_29 (x_R rfl) ?_
      cases hG
      exact (e_ireturn rfl dX12_pairs_30 rfl)
  clear hG
  refine e_icmp_eq (pc := 3) (tgt := 18) dX12_pairs_3 (by decide) (fun hb => ?_) (fun hb => ?_)
  · rw [if_pos hb] at hr1
    refine e_iconst (pc := 18) dX12_pairs_18 (x_R rfl) ?_
    cases hr1
    exact hjhr1
  · rw [if_neg hb] at hr1
    refine e_aloadn (pc := 6) (i := 0) dX12_pairs_6 rfl rfl ?_
    refine e_iloadn (pc := 7) (i := 1) dX12_pairs_7 rfl rfl ?_
    obtain ⟨v3, hq3, hr1⟩ := x_bd1 hr1
    refine e_invV (pc := 8) (K1 := 0) (S1 := 0) (K := 0) (S := 0) (dd2 := 1) (av := [x_i a]) (st := [x_r (16 * 32 + 0)]) (id := 16 * 32 + 0) dX12_pairs_8 xmX12_295 rfl (Or.inl ⟨10, 27, TX12, (sa_32_0 hs), rfl, by decide⟩) (f_cal (M := M) (us2 := [32]) [0] hn rfl (And.intro rfl trivial) rfl rfl rfl (c_X12_isMonk hst hs   hq3)) (by decide) (Nat.le_of_ble_eq_true rfl) (Or.inl rfl) ?_
    show Ev g _ _ _ _ _ _ 11 [some (x_r (16 * 32 + 0)), some (x_i a), none, none, none, none, none] [x_i v3, x_r (16 * 32 + 0)] (al, ro, fl (ml M [32] [S])) _ _ _ _
    refine e_if_ne (pc := 11) (tgt := 18) dX12_pairs_11 (by decide) (fun hb => ?_) (fun hb => ?_)
    · rw [if_neg hb] at hr1
      refine e_iconst (pc := 18) dX12_pairs_18 (x_R rfl) ?_
      cases hr1
      exact hjhr1
    · rw [if_pos hb] at hr1
      refine e_iconst (pc := 14) dX12_pairs_14 (x_R rfl) ?_
      refine e_goto (pc := 15) (tgt := 19) dX12_pairs_15 (by decide) ?_
      cases hr1
      exact hjhr1
set_option maxRecDepth 100000 in
set_option maxHeartbeats 4000000 in
theorem c_X12_watches {g : xG} {al : List (Nat × Nat × Nat)} {ro : Nat → Nat → Option Nat} (hst : g.1.stackTraces = false) (hs : SH al ro) {M : Nat → xU} {a : Int} {S : xU}  {t : Int} (hG : G12_watches a S = some t) :
    Cal g yX12_watches cX12_watches 6 (some .boolean) 2 [x_r (16 * 32 + 0), x_i a] (al, ro, fl (ml M [32] [S])) 0 0 (.inl (some (x_i t))) (al, ro, fl (ml M [32] [S])) := by
  have hn : ([32] : List Nat).Nodup := by decide
  refine cal_of_ev (plainFor_of_name (by decide)) (x_c1 rfl) (Nat.le_of_ble_eq_true rfl) hst ?_
  show Ev g _ _ _ _ _ _ 0 [some (x_r (16 * 32 + 0)), some (x_i a), none, none, none, none] [] (al, ro, fl (ml M [32] [S])) _ _ _ _
  rw [G12_watches] at hG
  refine e_iconst (pc := 0) dX12_watches_0 (x_R rfl) ?_
  refine e_istoren (pc := 1) (i := 2) dX12_watches_1 rfl (by decide) rfl ?_
  show Ev g _ _ _ _ _ _ 2 [some (x_r (16 * 32 + 0)), some (x_i a), some (x_i 1), none, none, none] [] (al, ro, fl (ml M [32] [S])) _ _ _ _
  refine e_iconst (pc := 2) dX12_watches_2 (x_R rfl) ?_
  refine e_istoren (pc := 3) (i := 3) dX12_watches_3 rfl (by decide) rfl ?_
  show Ev g _ _ _ _ _ _ 4 [some (x_r (16 * 32 + 0)), some (x_i a), some (x_i 1), some (x_i 0), none, none] [] (al, ro, fl (ml M [32] [S])) _ _ _ _
  obtain ⟨v3, hl4, hG⟩ := x_bd1 hG
  have hk4 : ∀ q : Int, q = v3 → Ev g yX12_watches cX12_watches 6 (some .boolean) [] 2 100 [some (x_r (16 * 32 + 0)), some (x_i a), some (x_i q), none, none, none] [] (al, ro, fl (ml M [32] [S])) 0 0 (.inl (some (x_i t))) (al, ro, fl (ml M [32] [S])) := by
    intro q hq
    replace hq := hq.symm
    subst hq
    refine e_iloadn (pc := 100) (i := 2) dX12_watches_100 rfl rfl ?_
    obtain ⟨hc0, hG⟩ := x_gd_some hG
    cases hG
    exact (e_ireturn rfl dX12_watches_101 (x_bool hc0).1)
  clear hG
  refine e_whl (G12_watches_L4 a S) (fun z : (Int × Int) => Ev g yX12_watches cX12_watches 6 (some .boolean) [] 2 4 [some (x_r (16 * 32 + 0)), some (x_i a), some (x_i z.1), some (x_i z.2), none, none] [] (al, ro, fl (ml M [32] [S])) 0 0 (.inl (some (x_i t))) (al, ro, fl (ml M [32] [S]))) (fun q => q = v3) ?_ xFU (1, 0) _ hl4 rfl
  intro z t4 hf4 hi4 hx4
  obtain ⟨v1, v2⟩ := z
  rw [G12_watches_L4] at hf4
  show Ev g _ _ _ _ _ _ 4 [some (x_r (16 * 32 + 0)), some (x_i a), some (x_i v1), some (x_i v2), none, none] [] (al, ro, fl (ml M [32] [S])) _ _ _ _
  refine e_iloadn (pc := 4) (i := 3) dX12_watches_4 rfl rfl ?_
  refine e_aloadn (pc := 5) (i := 0) dX12_watches_5 rfl rfl ?_
  refine f_getr (pc := 6) (u := 32) (q := 0) dX12_watches_6 xf12_7 (sa_32_0 hs) rfl (sr_32_0_1 hs) ?_
  refine e_iconst (pc := 9) dX12_watches_9 (x_R rfl) ?_
  refine f_iald (pc := 10) (k := 0) (u := 32) (q := 1) (len := 772) dX12_watches_10 (sa_32_1 hs) (by decide) hn rfl rfl (by decide) ?_
  show Ev g _ _ _ _ _ _ 11 [some (x_r (16 * 32 + 0)), some (x_i a), some (x_i v1), some (x_i v2), none, none] [x_i (S 1 3), x_i v2] (al, ro, fl (ml M [32] [S])) _ _ _ _
  refine e_icmp_ge (pc := 11) (tgt := 100) dX12_watches_11 (by decide) (fun hb => ?_) (fun hb => ?_)
  · rw [if_pos hb] at hf4
    cases hf4
    refine e_drop (i := 3) ?_
    have hh := hk4 _ (hx4 _ rfl)
    try dsimp only at hh
    exact hh
  · rw [if_neg hb] at hf4
    refine e_iloadn (pc := 14) (i := 2) dX12_watches_14 rfl rfl ?_
    refine e_if_eq (pc := 15) (tgt := 100) dX12_watches_15 (by decide) (fun hb => ?_) (fun hb => ?_)
    · rw [if_pos hb] at hf4
      cases hf4
      refine e_drop (i := 3) ?_
      have hh := hk4 _ (hx4 _ rfl)
      try dsimp only at hh
      exact hh
    · rw [if_neg hb] at hf4
      refine e_iconst (pc := 18) dX12_watches_18 (x_R rfl) ?_
      refine e_istore (pc := 19) (i := 4) dX12_watches_19 (by decide) rfl ?_
      show Ev g _ _ _ _ _ _ 21 [some (x_r (16 * 32 + 0)), some (x_i a), some (x_i v1), some (x_i v2), some (x_i 0), none] [] (al, ro, fl (ml M [32] [S])) _ _ _ _
      refine e_iconst (pc := 21) dX12_watches_21 (x_R rfl) ?_
      refine e_istore (pc := 22) (i := 5) dX12_watches_22 (by decide) rfl ?_
      show Ev g _ _ _ _ _ _ 24 [some (x_r (16 * 32 + 0)), some (x_i a), some (x_i v1), some (x_i v2), some (x_i 0), some (x_i 0)] [] (al, ro, fl (ml M [32] [S])) _ _ _ _
      obtain ⟨v8, hl9, hf4⟩ := x_bd1 hf4
      have hk9 : ∀ q : Int, q = v8 → Ev g yX12_watches cX12_watches 6 (some .boolean) [] 2 91 [some (x_r (16 * 32 + 0)), some (x_i a), some (x_i v1), some (x_i v2), some (x_i q), none] [] (al, ro, fl (ml M [32] [S])) 0 0 (.inl (some (x_i t))) (al, ro, fl (ml M [32] [S])) := by
        intro q hq
        replace hq := hq.symm
        subst hq
        refine e_iload (pc := 91) dX12_watches_91 rfl ?_
        refine e_istoren (pc := 93) (i := 2) dX12_watches_93 rfl (by decide) rfl ?_
        show Ev g _ _ _ _ _ _ 94 [some (x_r (16 * 32 + 0)), some (x_i a), some (x_i v8), some (x_i v2), some (x_i v8), none] [] (al, ro, fl (ml M [32] [S])) _ _ _ _
        refine e_iinc (pc := 94) dX12_watches_94 rfl (by decide) rfl ?_
        show Ev g _ _ _ _ _ _ 97 [some (x_r (16 * 32 + 0)), some (x_i a), some (x_i v8), some (x_i (x_add v2 1)), some (x_i v8), none] [] (al, ro, fl (ml M [32] [S])) _ _ _ _
        refine e_goto (pc := 97) (tgt := 4) dX12_watches_97 (by decide) ?_
        cases hf4
        refine e_drop (i := 4) ?_
        have hh := hi4 _ rfl
        try dsimp only at hh
        exact hh
      clear hf4
      refine e_whl (G12_watches_L24 a S v2) (fun z : (Int × Int) => Ev g yX12_watches cX12_watches 6 (some .boolean) [] 2 24 [some (x_r (16 * 32 + 0)), some (x_i a), some (x_i v1), some (x_i v2), some (x_i z.1), some (x_i z.2)] [] (al, ro, fl (ml M [32] [S])) 0 0 (.inl (some (x_i t))) (al, ro, fl (ml M [32] [S]))) (fun q => q = v8) ?_ xFU (0, 0) _ hl9 rfl
      intro z t9 hf9 hi9 hx9
      obtain ⟨v6, v7⟩ := z
      rw [G12_watches_L24] at hf9
      show Ev g _ _ _ _ _ _ 24 [some (x_r (16 * 32 + 0)), some (x_i a), some (x_i v1), some (x_i v2), some (x_i v6), some (x_i v7)] [] (al, ro, fl (ml M [32] [S])) _ _ _ _
      refine e_iload (pc := 24) dX12_watches_24 rfl ?_
      refine e_aloadn (pc := 26) (i := 0) dX12_watches_26 rfl rfl ?_
      refine f_getr (pc := 27) (u := 32) (q := 0) dX12_watches_27 xf12_7 (sa_32_0 hs) rfl (sr_32_0_1 hs) ?_
      refine e_iconst (pc := 30) dX12_watches_30 (x_R rfl) ?_
      refine f_iald (pc := 31) (k := 0) (u := 32) (q := 1) (len := 772) dX12_watches_31 (sa_32_1 hs) (by decide) hn rfl rfl (by decide) ?_
      show Ev g _ _ _ _ _ _ 32 [some (x_r (16 * 32 + 0)), some (x_i a), some (x_i v1), some (x_i v2), some (x_i v6), some (x_i v7)] [x_i (S 1 3), x_i v7] (al, ro, fl (ml M [32] [S])) _ _ _ _
      refine e_icmp_ge (pc := 32) (tgt := 91) dX12_watches_32 (by decide) (fun hb => ?_) (fun hb => ?_)
      · rw [if_pos hb] at hf9
        cases hf9
        refine e_drop (i := 5) ?_
        have hh := hk9 _ (hx9 _ rfl)
        try dsimp only at hh
        exact hh
      · rw [if_neg hb] at hf9
        refine e_iload (pc := 35) dX12_watches_35 rfl ?_
        obtain ⟨v11, hr11, hf9⟩ := x_bd1 hf9
        have hjhr11 : Ev g yX12_watches cX12_watches 6 (some .boolean) [] 2 83 [some (x_r (16 * 32 + 0)), some (x_i a), some (x_i v1), some (x_i v2), some (x_i v6), some (x_i v7)] [x_i v11] (al, ro, fl (ml M [32] [S])) 0 0 (.inl (some (x_i t))) (al, ro, fl (ml M [32] [S])) := by
          refine e_istore (pc := 83) (i := 4) dX12_watches_83 (by decide) rfl ?_
          show Ev g _ _ _ _ _ _ 85 [some (x_r (16 * 32 + 0)), some (x_i a), some (x_i v1), some (x_i v2), some (x_i v11), some (x_i v7)] [] (al, ro, fl (ml M [32] [S])) _ _ _ _
          refine e_iinc (pc := 85) dX12_watches_85 rfl (by decide) rfl ?_
          show Ev g _ _ _ _ _ _ 88 [some (x_r (16 * 32 + 0)), some (x_i a), some (x_i v1), some (x_i v2), some (x_i v11), some (x_i (x_add v7 1))] [] (al, ro, fl (ml M [32] [S])) _ _ _ _
          refine e_goto (pc := 88) (tgt := 24) dX12_watches_88 (by decide) ?_
          cases hf9
          have hh := hi9 _ rfl
          try dsimp only at hh
          exact hh
        clear hf9
        refine e_if_ne (pc := 37) (tgt := 78) dX12_watches_37 (by decide) (fun hb => ?_) (fun hb => ?_)
        · rw [if_neg hb] at hr11
          refine e_iconst (pc := 78) dX12_watches_78 (x_R rfl) ?_
          refine e_goto (pc := 79) (tgt := 83) dX12_watches_79 (by decide) ?_
          cases hr11
          exact hjhr11
        · rw [if_pos hb] at hr11
          refine e_iloadn (pc := 40) (i := 1) dX12_watches_40 rfl rfl ?_
          refine e_iload (pc := 41) dX12_watches_41 rfl ?_
          obtain ⟨v13, hq13, hr11⟩ := x_bd1 hr11
          refine e_invS (pc := 43) (K1 := 0) (S1 := 0) (K := 0) (S := 0) (dd2 := 0) (av := [x_i a, x_i v7]) (st := []) dX12_watches_43 xmX12_119 rfl (f_cal (M := M) (us2 := []) [] hn rfl trivial rfl rfl rfl (c_X12_isOf hst hs   hq13)) (by decide) (Nat.le_of_ble_eq_true rfl) (Or.inl rfl) ?_
          show Ev g _ _ _ _ _ _ 46 [some (x_r (16 * 32 + 0)), some (x_i a), some (x_i v1), some (x_i v2), some (x_i v6), some (x_i v7)] [x_i v13] (al, ro, fl (ml M [32] [S])) _ _ _ _
          refine e_if_eq (pc := 46) (tgt := 82) dX12_watches_46 (by decide) (fun hb => ?_) (fun hb => ?_)
          · rw [if_pos hb] at hr11
            refine e_iconst (pc := 82) dX12_watches_82 (x_R rfl) ?_
            cases hr11
            exact hjhr11
          · rw [if_neg hb] at hr11
            refine e_aloadn (pc := 49) (i := 0) dX12_watches_49 rfl rfl ?_
            refine e_iload (pc := 50) dX12_watches_50 rfl ?_
            obtain ⟨v15, hq15, hr11⟩ := x_bd1 hr11
            refine e_invV (pc := 52) (K1 := 0) (S1 := 0) (K := 0) (S := 0) (dd2 := 1) (av := [x_i v7]) (st := []) (id := 16 * 32 + 0) dX12_watches_52 xmX12_69 rfl (Or.inl ⟨10, 27, TX12, (sa_32_0 hs), rfl, by decide⟩) (f_cal (M := M) (us2 := [32]) [0] hn rfl (And.intro rfl trivial) rfl rfl rfl (c_X12_isLost hst hs   hq15)) (by decide) (Nat.le_of_ble_eq_true rfl) (Or.inl rfl) ?_
            show Ev g _ _ _ _ _ _ 55 [some (x_r (16 * 32 + 0)), some (x_i a), some (x_i v1), some (x_i v2), some (x_i v6), some (x_i v7)] [x_i v15] (al, ro, fl (ml M [32] [S])) _ _ _ _
            refine e_if_ne (pc := 55) (tgt := 82) dX12_watches_55 (by decide) (fun hb => ?_) (fun hb => ?_)
            · rw [if_neg hb] at hr11
              refine e_iconst (pc := 82) dX12_watches_82 (x_R rfl) ?_
              cases hr11
              exact hjhr11
            · rw [if_pos hb] at hr11
              refine e_aloadn (pc := 58) (i := 0) dX12_watches_58 rfl rfl ?_
              refine e_iloadn (pc := 59) (i := 3) dX12_watches_59 rfl rfl ?_
              refine e_iconst (pc := 60) dX12_watches_60 (x_R rfl) ?_
              obtain ⟨v17, hq17, hr11⟩ := x_bd1 hr11
              refine e_invV (pc := 61) (K1 := 0) (S1 := 0) (K := 0) (S := 0) (dd2 := 0) (av := [x_i v2, x_i 0]) (st := []) (id := 16 * 32 + 0) dX12_watches_61 xmX12_65 rfl (Or.inl ⟨10, 27, TX12, (sa_32_0 hs), rfl, by decide⟩) (f_cal (M := M) (us2 := [32]) [0] hn rfl (And.intro rfl trivial) rfl rfl rfl (c_X12_of hst hs   hq17)) (by decide) (Nat.le_of_ble_eq_true rfl) (Or.inl rfl) ?_
              show Ev g _ _ _ _ _ _ 64 [some (x_r (16 * 32 + 0)), some (x_i a), some (x_i v1), some (x_i v2), some (x_i v6), some (x_i v7)] [x_i v17] (al, ro, fl (ml M [32] [S])) _ _ _ _
              refine e_aloadn (pc := 64) (i := 0) dX12_watches_64 rfl rfl ?_
              refine e_iload (pc := 65) dX12_watches_65 rfl ?_
              refine e_iconst (pc := 67) dX12_watches_67 (x_R rfl) ?_
              obtain ⟨v19, hq19, hr11⟩ := x_bd1 hr11
              refine e_invV (pc := 68) (K1 := 0) (S1 := 0) (K := 0) (S := 0) (dd2 := 0) (av := [x_i v7, x_i 0]) (st := [x_i v17]) (id := 16 * 32 + 0) dX12_watches_68 xmX12_65 rfl (Or.inl ⟨10, 27, TX12, (sa_32_0 hs), rfl, by decide⟩) (f_cal (M := M) (us2 := [32]) [0] hn rfl (And.intro rfl trivial) rfl rfl rfl (c_X12_of hst hs   hq19)) (by decide) (Nat.le_of_ble_eq_true rfl) (Or.inl rfl) ?_
              show Ev g _ _ _ _ _ _ 71 [some (x_r (16 * 32 + 0)), some (x_i a), some (x_i v1), some (x_i v2), some (x_i v6), some (x_i v7)] [x_i v19, x_i v17] (al, ro, fl (ml M [32] [S])) _ _ _ _
              obtain ⟨v21, hq21, hr11⟩ := x_bd1 hr11
              refine e_invS (pc := 71) (K1 := 0) (S1 := 0) (K := 0) (S := 0) (dd2 := 1) (av := [x_i v17, x_i v19]) (st := []) dX12_watches_71 xmX12_331 rfl (f_cal (M := M) (us2 := []) [] hn rfl trivial rfl rfl rfl (c_X12_steps hst hs   hq21)) (by decide) (Nat.le_of_ble_eq_true rfl) (Or.inl rfl) ?_
              show Ev g _ _ _ _ _ _ 74 [some (x_r (16 * 32 + 0)), some (x_i a), some (x_i v1), some (x_i v2), some (x_i v6), some (x_i v7)] [x_i v21] (al, ro, fl (ml M [32] [S])) _ _ _ _
              refine e_iconst (pc := 74) dX12_watches_74 (x_R rfl) ?_
              refine e_icmp_gt (pc := 75) (tgt := 82) dX12_watches_75 (by decide) (fun hb => ?_) (fun hb => ?_)
              · rw [if_pos hb] at hr11
                refine e_iconst (pc := 82) dX12_watches_82 (x_R rfl) ?_
                cases hr11
                exact hjhr11
              · rw [if_neg hb] at hr11
                refine e_iconst (pc := 78) dX12_watches_78 (x_R rfl) ?_
                refine e_goto (pc := 79) (tgt := 83) dX12_watches_79 (by decide) ?_
                cases hr11
                exact hjhr11
set_option maxRecDepth 100000 in
set_option maxHeartbeats 4000000 in
theorem c_X12_goneOnes {g : xG} {al : List (Nat × Nat × Nat)} {ro : Nat → Nat → Option Nat} (hst : g.1.stackTraces = false) (hs : SH al ro) {M : Nat → xU} {S : xU}  {t : Int} (hG : G12_goneOnes S = some t) :
    Cal g yX12_goneOnes cX12_goneOnes 3 (some .int) 2 [x_r (16 * 32 + 0)] (al, ro, fl (ml M [32] [S])) 0 0 (.inl (some (x_i t))) (al, ro, fl (ml M [32] [S])) := by
  have hn : ([32] : List Nat).Nodup := by decide
  refine cal_of_ev (plainFor_of_name (by decide)) (x_c1 rfl) (Nat.le_of_ble_eq_true rfl) hst ?_
  show Ev g _ _ _ _ _ _ 0 [some (x_r (16 * 32 + 0)), none, none] [] (al, ro, fl (ml M [32] [S])) _ _ _ _
  rw [G12_goneOnes] at hG
  refine e_iconst (pc := 0) dX12_goneOnes_0 (x_R rfl) ?_
  refine e_istoren (pc := 1) (i := 1) dX12_goneOnes_1 rfl (by decide) rfl ?_
  show Ev g _ _ _ _ _ _ 2 [some (x_r (16 * 32 + 0)), some (x_i 0), none] [] (al, ro, fl (ml M [32] [S])) _ _ _ _
  refine e_iconst (pc := 2) dX12_goneOnes_2 (x_R rfl) ?_
  refine e_istoren (pc := 3) (i := 2) dX12_goneOnes_3 rfl (by decide) rfl ?_
  show Ev g _ _ _ _ _ _ 4 [some (x_r (16 * 32 + 0)), some (x_i 0), some (x_i 0)] [] (al, ro, fl (ml M [32] [S])) _ _ _ _
  obtain ⟨v3, hl4, hG⟩ := x_bd1 hG
  have hk4 : ∀ q : Int, q = v3 → Ev g yX12_goneOnes cX12_goneOnes 3 (some .int) [] 2 38 [some (x_r (16 * 32 + 0)), some (x_i q), none] [] (al, ro, fl (ml M [32] [S])) 0 0 (.inl (some (x_i t))) (al, ro, fl (ml M [32] [S])) := by
    intro q hq
    replace hq := hq.symm
    subst hq
    refine e_iloadn (pc := 38) (i := 1) dX12_goneOnes_38 rfl rfl ?_
    cases hG
    exact (e_ireturn rfl dX12_goneOnes_39 rfl)
  clear hG
  refine e_whl (G12_goneOnes_L4 S) (fun z : (Int × Int) => Ev g yX12_goneOnes cX12_goneOnes 3 (some .int) [] 2 4 [some (x_r (16 * 32 + 0)), some (x_i z.1), some (x_i z.2)] [] (al, ro, fl (ml M [32] [S])) 0 0 (.inl (some (x_i t))) (al, ro, fl (ml M [32] [S]))) (fun q => q = v3) ?_ xFU (0, 0) _ hl4 rfl
  intro z t4 hf4 hi4 hx4
  obtain ⟨v1, v2⟩ := z
  rw [G12_goneOnes_L4] at hf4
  show Ev g _ _ _ _ _ _ 4 [some (x_r (16 * 32 + 0)), some (x_i v1), some (x_i v2)] [] (al, ro, fl (ml M [32] [S])) _ _ _ _
  refine e_iloadn (pc := 4) (i := 2) dX12_goneOnes_4 rfl rfl ?_
  refine e_aloadn (pc := 5) (i := 0) dX12_goneOnes_5 rfl rfl ?_
  refine f_getr (pc := 6) (u := 32) (q := 0) dX12_goneOnes_6 xf12_7 (sa_32_0 hs) rfl (sr_32_0_1 hs) ?_
  refine e_iconst (pc := 9) dX12_goneOnes_9 (x_R rfl) ?_
  refine f_iald (pc := 10) (k := 0) (u := 32) (q := 1) (len := 772) dX12_goneOnes_10 (sa_32_1 hs) (by decide) hn rfl rfl (by decide) ?_
  show Ev g _ _ _ _ _ _ 11 [some (x_r (16 * 32 + 0)), some (x_i v1), some (x_i v2)] [x_i (S 1 3), x_i v2] (al, ro, fl (ml M [32] [S])) _ _ _ _
  refine e_icmp_ge (pc := 11) (tgt := 38) dX12_goneOnes_11 (by decide) (fun hb => ?_) (fun hb => ?_)
  · rw [if_pos hb] at hf4
    cases hf4
    refine e_drop (i := 2) ?_
    have hh := hk4 _ (hx4 _ rfl)
    try dsimp only at hh
    exact hh
  · rw [if_neg hb] at hf4
    refine e_iloadn (pc := 14) (i := 1) dX12_goneOnes_14 rfl rfl ?_
    refine e_aloadn (pc := 15) (i := 0) dX12_goneOnes_15 rfl rfl ?_
    refine e_iloadn (pc := 16) (i := 2) dX12_goneOnes_16 rfl rfl ?_
    obtain ⟨v6, hq6, hf4⟩ := x_bd1 hf4
    refine e_invV (pc := 17) (K1 := 0) (S1 := 0) (K := 0) (S := 0) (dd2 := 1) (av := [x_i v2]) (st := [x_i v1]) (id := 16 * 32 + 0) dX12_goneOnes_17 xmX12_69 rfl (Or.inl ⟨10, 27, TX12, (sa_32_0 hs), rfl, by decide⟩) (f_cal (M := M) (us2 := [32]) [0] hn rfl (And.intro rfl trivial) rfl rfl rfl (c_X12_isLost hst hs   hq6)) (by decide) (Nat.le_of_ble_eq_true rfl) (Or.inl rfl) ?_
    show Ev g _ _ _ _ _ _ 20 [some (x_r (16 * 32 + 0)), some (x_i v1), some (x_i v2)] [x_i v6, x_i v1] (al, ro, fl (ml M [32] [S])) _ _ _ _
    obtain ⟨v8, hr8, hf4⟩ := x_bd1 hf4
    have hjhr8 : Ev g yX12_goneOnes cX12_goneOnes 3 (some .int) [] 2 30 [some (x_r (16 * 32 + 0)), some (x_i v1), some (x_i v2)] [x_i v8, x_i v1] (al, ro, fl (ml M [32] [S])) 0 0 (.inl (some (x_i t))) (al, ro, fl (ml M [32] [S])) := by
      refine e_ior (pc := 30) dX12_goneOnes_30 ?_
      refine e_istoren (pc := 31) (i := 1) dX12_goneOnes_31 rfl (by decide) rfl ?_
      show Ev g _ _ _ _ _ _ 32 [some (x_r (16 * 32 + 0)), some (x_i (x_or v1 v8)), some (x_i v2)] [] (al, ro, fl (ml M [32] [S])) _ _ _ _
      refine e_iinc (pc := 32) dX12_goneOnes_32 rfl (by decide) rfl ?_
      show Ev g _ _ _ _ _ _ 35 [some (x_r (16 * 32 + 0)), some (x_i (x_or v1 v8)), some (x_i (x_add v2 1))] [] (al, ro, fl (ml M [32] [S])) _ _ _ _
      refine e_goto (pc := 35) (tgt := 4) dX12_goneOnes_35 (by decide) ?_
      cases hf4
      have hh := hi4 _ rfl
      try dsimp only at hh
      exact hh
    clear hf4
    refine e_if_eq (pc := 20) (tgt := 29) dX12_goneOnes_20 (by decide) (fun hb => ?_) (fun hb => ?_)
    · rw [if_pos hb] at hr8
      refine e_iconst (pc := 29) dX12_goneOnes_29 (x_R rfl) ?_
      cases hr8
      exact hjhr8
    · rw [if_neg hb] at hr8
      refine e_iconst (pc := 23) dX12_goneOnes_23 (x_R rfl) ?_
      refine e_iloadn (pc := 24) (i := 2) dX12_goneOnes_24 rfl rfl ?_
      refine e_ishl (pc := 25) dX12_goneOnes_25 ?_
      refine e_goto (pc := 26) (tgt := 30) dX12_goneOnes_26 (by decide) ?_
      cases hr8
      exact hjhr8
set_option maxRecDepth 100000 in
set_option maxHeartbeats 4000000 in
theorem c_X12_watch {g : xG} {al : List (Nat × Nat × Nat)} {ro : Nat → Nat → Option Nat} (hst : g.1.stackTraces = false) (hs : SH al ro) {M : Nat → xU} {S : xU}  {t : (Int × xU)} (hG : G12_watch S = some t) :
    Cal g yX12_watch cX12_watch 4 (some .int) 3 [x_r (16 * 32 + 0)] (al, ro, fl (ml M [32] [S])) 0 0 (.inl (some (x_i t.1))) (al, ro, fl (ml M [32] [t.2])) := by
  have hn : ([32] : List Nat).Nodup := by decide
  refine cal_of_ev (plainFor_of_name (by decide)) (x_c1 rfl) (Nat.le_of_ble_eq_true rfl) hst ?_
  show Ev g _ _ _ _ _ _ 0 [some (x_r (16 * 32 + 0)), none, none, none] [] (al, ro, fl (ml M [32] [S])) _ _ _ _
  rw [G12_watch] at hG
  refine e_aloadn (pc := 0) (i := 0) dX12_watch_0 rfl rfl ?_
  refine e_iconst (pc := 1) dX12_watch_1 (x_R rfl) ?_
  refine f_puti (pc := 2) (k := 0) (u := 32) (q := 0) dX12_watch_2 xf12_58 xw10_0 (sa_32_0 hs) hn rfl rfl rfl (by decide) ?_
  show Ev g _ _ _ _ _ _ 5 [some (x_r (16 * 32 + 0)), none, none, none] [] (al, ro, fl (ml M [32] [(x_up S 0 0 0)])) _ _ _ _
  refine e_aloadn (pc := 5) (i := 0) dX12_watch_5 rfl rfl ?_
  obtain ⟨v1, hq1, hG⟩ := x_bd1 hG
  refine e_invV (pc := 6) (K1 := 0) (S1 := 0) (K := 0) (S := 0) (dd2 := 2) (av := []) (st := []) (id := 16 * 32 + 0) dX12_watch_6 xmX12_394 rfl (Or.inl ⟨10, 27, TX12, (sa_32_0 hs), rfl, by decide⟩) (f_cal (M := M) (us2 := [32]) [0] hn rfl (And.intro rfl trivial) rfl rfl rfl (c_X12_goneOnes hst hs   hq1)) (by decide) (Nat.le_of_ble_eq_true rfl) (Or.inl rfl) ?_
  show Ev g _ _ _ _ _ _ 9 [some (x_r (16 * 32 + 0)), none, none, none] [x_i v1] (al, ro, fl (ml M [32] [(x_up S 0 0 0)])) _ _ _ _
  refine e_istoren (pc := 9) (i := 1) dX12_watch_9 rfl (by decide) rfl ?_
  show Ev g _ _ _ _ _ _ 10 [some (x_r (16 * 32 + 0)), some (x_i v1), none, none] [] (al, ro, fl (ml M [32] [(x_up S 0 0 0)])) _ _ _ _
  refine e_iconst (pc := 10) dX12_watch_10 (x_R rfl) ?_
  refine e_istoren (pc := 11) (i := 2) dX12_watch_11 rfl (by decide) rfl ?_
  show Ev g _ _ _ _ _ _ 12 [some (x_r (16 * 32 + 0)), some (x_i v1), some (x_i (-1)), none] [] (al, ro, fl (ml M [32] [(x_up S 0 0 0)])) _ _ _ _
  refine e_iconst (pc := 12) dX12_watch_12 (x_R rfl) ?_
  refine e_istoren (pc := 13) (i := 3) dX12_watch_13 rfl (by decide) rfl ?_
  show Ev g _ _ _ _ _ _ 14 [some (x_r (16 * 32 + 0)), some (x_i v1), some (x_i (-1)), some (x_i 0)] [] (al, ro, fl (ml M [32] [(x_up S 0 0 0)])) _ _ _ _
  obtain ⟨v5, hl6, hG⟩ := x_bd1 hG
  have hk6 : ∀ q : Int, q = v5 → Ev g yX12_watch cX12_watch 4 (some .int) [] 3 60 [some (x_r (16 * 32 + 0)), some (x_i v1), some (x_i q), none] [] (al, ro, fl (ml M [32] [(x_up S 0 0 0)])) 0 0 (.inl (some (x_i t.1))) (al, ro, fl (ml M [32] [t.2])) := by
    intro q hq
    replace hq := hq.symm
    subst hq
    refine e_iloadn (pc := 60) (i := 2) dX12_watch_60 rfl rfl ?_
    cases hG
    exact (e_ireturn rfl dX12_watch_61 rfl)
  clear hG
  refine e_whl (G12_watch_L14 S v1) (fun z : (Int × Int) => Ev g yX12_watch cX12_watch 4 (some .int) [] 3 14 [some (x_r (16 * 32 + 0)), some (x_i v1), some (x_i z.1), some (x_i z.2)] [] (al, ro, fl (ml M [32] [(x_up S 0 0 0)])) 0 0 (.inl (some (x_i t.1))) (al, ro, fl (ml M [32] [t.2]))) (fun q => q = v5) ?_ xFU ((-1), 0) _ hl6 rfl
  intro z t6 hf6 hi6 hx6
  obtain ⟨v3, v4⟩ := z
  rw [G12_watch_L14] at hf6
  show Ev g _ _ _ _ _ _ 14 [some (x_r (16 * 32 + 0)), some (x_i v1), some (x_i v3), some (x_i v4)] [] (al, ro, fl (ml M [32] [(x_up S 0 0 0)])) _ _ _ _
  refine e_iloadn (pc := 14) (i := 3) dX12_watch_14 rfl rfl ?_
  refine e_aloadn (pc := 15) (i := 0) dX12_watch_15 rfl rfl ?_
  obtain ⟨v8, hq8, hf6⟩ := x_bd1 hf6
  refine e_invV (pc := 16) (K1 := 0) (S1 := 0) (K := 0) (S := 0) (dd2 := 0) (av := []) (st := [x_i v4]) (id := 16 * 32 + 0) dX12_watch_16 xmX12_346 rfl (Or.inl ⟨10, 27, TX12, (sa_32_0 hs), rfl, by decide⟩) (f_cal (M := M) (us2 := [32]) [0] hn rfl (And.intro rfl trivial) rfl rfl rfl (c_X12_all hst hs   hq8)) (by decide) (Nat.le_of_ble_eq_true rfl) (Or.inl rfl) ?_
  show Ev g _ _ _ _ _ _ 19 [some (x_r (16 * 32 + 0)), some (x_i v1), some (x_i v3), some (x_i v4)] [x_i v8, x_i v4] (al, ro, fl (ml M [32] [(x_up S 0 0 0)])) _ _ _ _
  refine e_icmp_gt (pc := 19) (tgt := 60) dX12_watch_19 (by decide) (fun hb => ?_) (fun hb => ?_)
  · rw [if_pos hb] at hf6
    cases hf6
    refine e_drop (i := 3) ?_
    have hh := hk6 _ (hx6 _ rfl)
    try dsimp only at hh
    exact hh
  · rw [if_neg hb] at hf6
    refine e_iloadn (pc := 22) (i := 3) dX12_watch_22 rfl rfl ?_
    refine e_iloadn (pc := 23) (i := 1) dX12_watch_23 rfl rfl ?_
    refine e_iand (pc := 24) dX12_watch_24 ?_
    obtain ⟨v10, hr10, hf6⟩ := x_bd1 hf6
    have hjhr10 : Ev g yX12_watch cX12_watch 4 (some .int) [] 3 54 [some (x_r (16 * 32 + 0)), some (x_i v1), some (x_i v10), some (x_i v4)] [] (al, ro, fl (ml M [32] [(x_up S 0 0 0)])) 0 0 (.inl (some (x_i t.1))) (al, ro, fl (ml M [32] [t.2])) := by
      refine e_iinc (pc := 54) dX12_watch_54 rfl (by decide) rfl ?_
      show Ev g _ _ _ _ _ _ 57 [some (x_r (16 * 32 + 0)), some (x_i v1), some (x_i v10), some (x_i (x_add v4 1))] [] (al, ro, fl (ml M [32] [(x_up S 0 0 0)])) _ _ _ _
      refine e_goto (pc := 57) (tgt := 14) dX12_watch_57 (by decide) ?_
      cases hf6
      have hh := hi6 _ rfl
      try dsimp only at hh
      exact hh
    clear hf6
    refine e_if_ne (pc := 25) (tgt := 54) dX12_watch_25 (by decide) (fun hb => ?_) (fun hb => ?_)
    · rw [if_neg hb] at hr10
      cases hr10
      exact hjhr10
    · rw [if_pos hb] at hr10
      refine e_iloadn (pc := 28) (i := 2) dX12_watch_28 rfl rfl ?_
      refine e_iconst (pc := 29) dX12_watch_29 (x_R rfl) ?_
      refine e_icmp_eq (pc := 30) (tgt := 44) dX12_watch_30 (by decide) (fun hb => ?_) (fun hb => ?_)
      · rw [if_pos hb] at hr10
        refine e_aloadn (pc := 44) (i := 0) dX12_watch_44 rfl rfl ?_
        refine e_iloadn (pc := 45) (i := 3) dX12_watch_45 rfl rfl ?_
        obtain ⟨v12, hq12, hr10⟩ := x_bd1 hr10
        refine e_invV (pc := 46) (K1 := 0) (S1 := 0) (K := 0) (S := 0) (dd2 := 2) (av := [x_i v4]) (st := []) (id := 16 * 32 + 0) dX12_watch_46 xmX12_397 rfl (Or.inl ⟨10, 27, TX12, (sa_32_0 hs), rfl, by decide⟩) (f_cal (M := M) (us2 := [32]) [0] hn rfl (And.intro rfl trivial) rfl rfl rfl (c_X12_watches hst hs   hq12)) (by decide) (Nat.le_of_ble_eq_true rfl) (Or.inl rfl) ?_
        show Ev g _ _ _ _ _ _ 49 [some (x_r (16 * 32 + 0)), some (x_i v1), some (x_i v3), some (x_i v4)] [x_i v12] (al, ro, fl (ml M [32] [(x_up S 0 0 0)])) _ _ _ _
        refine e_if_eq (pc := 49) (tgt := 54) dX12_watch_49 (by decide) (fun hb => ?_) (fun hb => ?_)
        · rw [if_pos hb] at hr10
          cases hr10
          exact hjhr10
        · rw [if_neg hb] at hr10
          refine e_iloadn (pc := 52) (i := 3) dX12_watch_52 rfl rfl ?_
          refine e_istoren (pc := 53) (i := 2) dX12_watch_53 rfl (by decide) rfl ?_
          show Ev g _ _ _ _ _ _ 54 [some (x_r (16 * 32 + 0)), some (x_i v1), some (x_i v4), some (x_i v4)] [] (al, ro, fl (ml M [32] [(x_up S 0 0 0)])) _ _ _ _
          cases hr10
          exact hjhr10
      · rw [if_neg hb] at hr10
        refine e_iloadn (pc := 33) (i := 3) dX12_watch_33 rfl rfl ?_
        obtain ⟨v14, hq14, hr10⟩ := x_bd1 hr10
        refine e_invS (pc := 34) (K1 := 0) (S1 := 0) (K := 0) (S := 0) (dd2 := 0) (av := [x_i v4]) (st := []) dX12_watch_34 xmX12_352 rfl (f_cal (M := M) (us2 := []) [] hn rfl trivial rfl rfl rfl (c_X12_bits hst hs   hq14)) (by decide) (Nat.le_of_ble_eq_true rfl) (Or.inl rfl) ?_
        show Ev g _ _ _ _ _ _ 37 [some (x_r (16 * 32 + 0)), some (x_i v1), some (x_i v3), some (x_i v4)] [x_i v14] (al, ro, fl (ml M [32] [(x_up S 0 0 0)])) _ _ _ _
        refine e_iloadn (pc := 37) (i := 2) dX12_watch_37 rfl rfl ?_
        obtain ⟨v16, hq16, hr10⟩ := x_bd1 hr10
        refine e_invS (pc := 38) (K1 := 0) (S1 := 0) (K := 0) (S := 0) (dd2 := 0) (av := [x_i v3]) (st := [x_i v14]) dX12_watch_38 xmX12_352 rfl (f_cal (M := M) (us2 := []) [] hn rfl trivial rfl rfl rfl (c_X12_bits hst hs   hq16)) (by decide) (Nat.le_of_ble_eq_true rfl) (Or.inl rfl) ?_
        show Ev g _ _ _ _ _ _ 41 [some (x_r (16 * 32 + 0)), some (x_i v1), some (x_i v3), some (x_i v4)] [x_i v16, x_i v14] (al, ro, fl (ml M [32] [(x_up S 0 0 0)])) _ _ _ _
        refine e_icmp_ge (pc := 41) (tgt := 54) dX12_watch_41 (by decide) (fun hb => ?_) (fun hb => ?_)
        · rw [if_pos hb] at hr10
          cases hr10
          exact hjhr10
        · rw [if_neg hb] at hr10
          refine e_aloadn (pc := 44) (i := 0) dX12_watch_44 rfl rfl ?_
          refine e_iloadn (pc := 45) (i := 3) dX12_watch_45 rfl rfl ?_
          obtain ⟨v18, hq18, hr10⟩ := x_bd1 hr10
          refine e_invV (pc := 46) (K1 := 0) (S1 := 0) (K := 0) (S := 0) (dd2 := 2) (av := [x_i v4]) (st := []) (id := 16 * 32 + 0) dX12_watch_46 xmX12_397 rfl (Or.inl ⟨10, 27, TX12, (sa_32_0 hs), rfl, by decide⟩) (f_cal (M := M) (us2 := [32]) [0] hn rfl (And.intro rfl trivial) rfl rfl rfl (c_X12_watches hst hs   hq18)) (by decide) (Nat.le_of_ble_eq_true rfl) (Or.inl rfl) ?_
          show Ev g _ _ _ _ _ _ 49 [some (x_r (16 * 32 + 0)), some (x_i v1), some (x_i v3), some (x_i v4)] [x_i v18] (al, ro, fl (ml M [32] [(x_up S 0 0 0)])) _ _ _ _
          refine e_if_eq (pc := 49) (tgt := 54) dX12_watch_49 (by decide) (fun hb => ?_) (fun hb => ?_)
          · rw [if_pos hb] at hr10
            cases hr10
            exact hjhr10
          · rw [if_neg hb] at hr10
            refine e_iloadn (pc := 52) (i := 3) dX12_watch_52 rfl rfl ?_
            refine e_istoren (pc := 53) (i := 2) dX12_watch_53 rfl (by decide) rfl ?_
            show Ev g _ _ _ _ _ _ 54 [some (x_r (16 * 32 + 0)), some (x_i v1), some (x_i v4), some (x_i v4)] [] (al, ro, fl (ml M [32] [(x_up S 0 0 0)])) _ _ _ _
            cases hr10
            exact hjhr10
