set_option maxRecDepth 100000 in
set_option maxHeartbeats 4000000 in
theorem c_X8_readFlags {g : xG} {al : List (Nat × Nat × Nat)} {ro : Nat → Nat → Option Nat} (hst : g.1.stackTraces = false) (hs : SH al ro) {M : Nat → xU} {T : xU} {Ro : xU}  {t : (Int × xU)} (hG : G8_readFlags T Ro = some t) :
    Cal g yX8_readFlags cX8_readFlags 5 (some .boolean) 1 [x_r (16 * 26 + 0), x_r (16 * 2 + 0)] (al, ro, fl (ml M [2, 26] [T, Ro])) 0 0 (.inl (some (x_i t.1))) (al, ro, fl (ml M [2, 26] [T, t.2])) := by
  have hn : ([2, 26] : List Nat).Nodup := by decide
  refine cal_of_ev (plainFor_of_name (by decide)) (x_c1 rfl) (Nat.le_of_ble_eq_true rfl) hst ?_
  show Ev g _ _ _ _ _ _ 0 [some (x_r (16 * 26 + 0)), some (x_r (16 * 2 + 0)), none, none, none] [] (al, ro, fl (ml M [2, 26] [T, Ro])) _ _ _ _
  rw [G8_readFlags] at hG
  refine e_aloadn (pc := 0) (i := 0) dX8_readFlags_0 rfl rfl ?_
  refine e_iconst (pc := 1) dX8_readFlags_1 (x_R rfl) ?_
  refine f_puti (pc := 2) (k := 1) (u := 26) (q := 0) dX8_readFlags_2 xf8_18 xw6_2 (sa_26_0 hs) hn rfl rfl rfl (by decide) ?_
  show Ev g _ _ _ _ _ _ 5 [some (x_r (16 * 26 + 0)), some (x_r (16 * 2 + 0)), none, none, none] [] (al, ro, fl (ml M [2, 26] [T, (x_up Ro 0 2 0)])) _ _ _ _
  refine e_aloadn (pc := 5) (i := 1) dX8_readFlags_5 rfl rfl ?_
  refine f_geti (pc := 6) (k := 0) (u := 2) (q := 0) dX8_readFlags_6 xf8_22 (sa_2_0 hs) rfl hn rfl rfl (by decide) ?_
  show Ev g _ _ _ _ _ _ 9 [some (x_r (16 * 26 + 0)), some (x_r (16 * 2 + 0)), none, none, none] [x_i (T 0 2)] (al, ro, fl (ml M [2, 26] [T, (x_up Ro 0 2 0)])) _ _ _ _
  refine e_bipush (pc := 9) dX8_readFlags_9 (by decide +kernel) (x_R rfl) ?_
  refine e_icmp_le (pc := 11) (tgt := 16) dX8_readFlags_11 (by decide) (fun hb => ?_) (fun hb => ?_)
  · rw [if_pos hb] at hG
    refine e_iconst (pc := 16) dX8_readFlags_16 (x_R rfl) ?_
    refine e_istoren (pc := 17) (i := 2) dX8_readFlags_17 rfl (by decide) rfl ?_
    show Ev g _ _ _ _ _ _ 18 [some (x_r (16 * 26 + 0)), some (x_r (16 * 2 + 0)), some (x_i 0), none, none] [] (al, ro, fl (ml M [2, 26] [T, (x_up Ro 0 2 0)])) _ _ _ _
    refine e_iconst (pc := 18) dX8_readFlags_18 (x_R rfl) ?_
    refine e_istoren (pc := 19) (i := 3) dX8_readFlags_19 rfl (by decide) rfl ?_
    show Ev g _ _ _ _ _ _ 20 [some (x_r (16 * 26 + 0)), some (x_r (16 * 2 + 0)), some (x_i 0), some (x_i 0), none] [] (al, ro, fl (ml M [2, 26] [T, (x_up Ro 0 2 0)])) _ _ _ _
    obtain ⟨r5, hl5, hG⟩ := x_lrd hG
    have hk5 : ∀ q : xU, r5 = .inl q → Ev g yX8_readFlags cX8_readFlags 5 (some .boolean) [] 1 95 [some (x_r (16 * 26 + 0)), some (x_r (16 * 2 + 0)), none, none, none] [] (al, ro, fl (ml M [2, 26] [T, q])) 0 0 (.inl (some (x_i t.1))) (al, ro, fl (ml M [2, 26] [T, t.2])) := by
      intro q hq
      subst hq
      replace hG := x_lr_l hG
      obtain ⟨Ro4, hqq⟩ : ∃ z, z = q := ⟨q, rfl⟩
      subst hqq
      replace hG := x_ed1 hG
      refine e_iconst (pc := 95) dX8_readFlags_95 (x_R rfl) ?_
      cases hG
      exact (e_ireturn rfl dX8_readFlags_96 (x_bool (by decide)).1)
    have hv5 : ∀ q : (Int × xU), r5 = .inr q → some q = some t := by
      intro q hq
      subst hq
      exact x_lr_r hG
    clear hG
    refine e_whl (G8_readFlags_L20 T) (fun z : (Int × Int × xU) => Ev g yX8_readFlags cX8_readFlags 5 (some .boolean) [] 1 20 [some (x_r (16 * 26 + 0)), some (x_r (16 * 2 + 0)), some (x_i z.1), some (x_i z.2.1), none] [] (al, ro, fl (ml M [2, 26] [T, z.2.2])) 0 0 (.inl (some (x_i t.1))) (al, ro, fl (ml M [2, 26] [T, t.2]))) (fun q => q = r5) ?_ xFU (0, 0, (x_up Ro 0 2 0)) _ hl5 rfl
    intro z t5 hf5 hi5 hx5
    obtain ⟨v1, v2, Ro3⟩ := z
    rw [G8_readFlags_L20] at hf5
    show Ev g _ _ _ _ _ _ 20 [some (x_r (16 * 26 + 0)), some (x_r (16 * 2 + 0)), some (x_i v1), some (x_i v2), none] [] (al, ro, fl (ml M [2, 26] [T, Ro3])) _ _ _ _
    refine e_iloadn (pc := 20) (i := 3) dX8_readFlags_20 rfl rfl ?_
    refine e_aloadn (pc := 21) (i := 1) dX8_readFlags_21 rfl rfl ?_
    refine f_geti (pc := 22) (k := 0) (u := 2) (q := 0) dX8_readFlags_22 xf8_22 (sa_2_0 hs) rfl hn rfl rfl (by decide) ?_
    show Ev g _ _ _ _ _ _ 25 [some (x_r (16 * 26 + 0)), some (x_r (16 * 2 + 0)), some (x_i v1), some (x_i v2), none] [x_i (T 0 2), x_i v2] (al, ro, fl (ml M [2, 26] [T, Ro3])) _ _ _ _
    refine e_icmp_ge (pc := 25) (tgt := 95) dX8_readFlags_25 (by decide) (fun hb => ?_) (fun hb => ?_)
    · rw [if_pos hb] at hf5
      cases hf5
      refine e_drop (i := 2) ?_
      refine e_drop (i := 3) ?_
      have hh := hk5 _ (hx5 _ rfl).symm
      try dsimp only at hh
      exact hh
    · rw [if_neg hb] at hf5
      refine e_iloadn (pc := 28) (i := 3) dX8_readFlags_28 rfl rfl ?_
      refine e_bipush (pc := 29) dX8_readFlags_29 (by decide +kernel) (x_R rfl) ?_
      refine e_icmp_ge (pc := 31) (tgt := 95) dX8_readFlags_31 (by decide) (fun hb => ?_) (fun hb => ?_)
      · rw [if_pos hb] at hf5
        cases hf5
        refine e_drop (i := 2) ?_
        refine e_drop (i := 3) ?_
        have hh := hk5 _ (hx5 _ rfl).symm
        try dsimp only at hh
        exact hh
      · rw [if_neg hb] at hf5
        refine e_aloadn (pc := 34) (i := 1) dX8_readFlags_34 rfl rfl ?_
        refine e_iloadn (pc := 35) (i := 3) dX8_readFlags_35 rfl rfl ?_
        obtain ⟨v7, hq7, hf5⟩ := x_bd1 hf5
        refine e_invV (pc := 36) (K1 := 0) (S1 := 0) (K := 0) (S := 0) (dd2 := 0) (av := [x_i v2]) (st := []) (id := 16 * 2 + 0) dX8_readFlags_36 xmX8_25 rfl (Or.inl ⟨8, 8, TX10, (sa_2_0 hs), rfl, by decide⟩) (f_cal (M := M) (us2 := [2]) [0] hn rfl (And.intro rfl trivial) rfl rfl rfl (c_X10_byteAt hst hs   hq7)) (by decide) (Nat.le_of_ble_eq_true rfl) (Or.inl rfl) ?_
        show Ev g _ _ _ _ _ _ 39 [some (x_r (16 * 26 + 0)), some (x_r (16 * 2 + 0)), some (x_i v1), some (x_i v2), none] [x_i v7] (al, ro, fl (ml M [2, 26] [T, Ro3])) _ _ _ _
        refine e_istore (pc := 39) (i := 4) dX8_readFlags_39 (by decide) rfl ?_
        show Ev g _ _ _ _ _ _ 41 [some (x_r (16 * 26 + 0)), some (x_r (16 * 2 + 0)), some (x_i v1), some (x_i v2), some (x_i v7)] [] (al, ro, fl (ml M [2, 26] [T, Ro3])) _ _ _ _
        refine e_iload (pc := 41) dX8_readFlags_41 rfl ?_
        refine e_if_lt (pc := 43) (tgt := 62) dX8_readFlags_43 (by decide) (fun hb => ?_) (fun hb => ?_)
        · rw [if_pos hb] at hf5
          refine e_iconst (pc := 62) dX8_readFlags_62 (x_R rfl) ?_
          cases hf5
          have hz := hv5 _ (hx5 _ rfl).symm
          cases hz
          exact (e_ireturn rfl dX8_readFlags_63 (x_bool (by decide)).1)
        · rw [if_neg hb] at hf5
          refine e_iload (pc := 46) dX8_readFlags_46 rfl ?_
          refine e_bipush (pc := 48) dX8_readFlags_48 (by decide +kernel) (x_R rfl) ?_
          refine e_icmp_ge (pc := 50) (tgt := 62) dX8_readFlags_50 (by decide) (fun hb => ?_) (fun hb => ?_)
          · rw [if_pos hb] at hf5
            refine e_iconst (pc := 62) dX8_readFlags_62 (x_R rfl) ?_
            cases hf5
            have hz := hv5 _ (hx5 _ rfl).symm
            cases hz
            exact (e_ireturn rfl dX8_readFlags_63 (x_bool (by decide)).1)
          · rw [if_neg hb] at hf5
            refine e_iloadn (pc := 53) (i := 2) dX8_readFlags_53 rfl rfl ?_
            refine e_iload (pc := 54) dX8_readFlags_54 rfl ?_
            obtain ⟨v9, hq9, hf5⟩ := x_bd1 hf5
            refine e_invS (pc := 56) (K1 := 0) (S1 := 0) (K := 0) (S := 0) (dd2 := 0) (av := [x_i v1, x_i v7]) (st := []) dX8_readFlags_56 xmX8_29 rfl (f_cal (M := M) (us2 := []) [] hn rfl trivial rfl rfl rfl (c_X11_holdsBit hst hs   hq9)) (by decide) (Nat.le_of_ble_eq_true rfl) (Or.inl rfl) ?_
            show Ev g _ _ _ _ _ _ 59 [some (x_r (16 * 26 + 0)), some (x_r (16 * 2 + 0)), some (x_i v1), some (x_i v2), some (x_i v7)] [x_i v9] (al, ro, fl (ml M [2, 26] [T, Ro3])) _ _ _ _
            refine e_if_eq (pc := 59) (tgt := 64) dX8_readFlags_59 (by decide) (fun hb => ?_) (fun hb => ?_)
            · rw [if_pos hb] at hf5
              refine e_iloadn (pc := 64) (i := 2) dX8_readFlags_64 rfl rfl ?_
              refine e_iconst (pc := 65) dX8_readFlags_65 (x_R rfl) ?_
              refine e_iload (pc := 66) dX8_readFlags_66 rfl ?_
              refine e_ishl (pc := 68) dX8_readFlags_68 ?_
              refine e_ior (pc := 69) dX8_readFlags_69 ?_
              refine e_istoren (pc := 70) (i := 2) dX8_readFlags_70 rfl (by decide) rfl ?_
              show Ev g _ _ _ _ _ _ 71 [some (x_r (16 * 26 + 0)), some (x_r (16 * 2 + 0)), some (x_i (x_or v1 (x_shl 1 v7))), some (x_i v2), some (x_i v7)] [] (al, ro, fl (ml M [2, 26] [T, Ro3])) _ _ _ _
              refine e_aloadn (pc := 71) (i := 0) dX8_readFlags_71 rfl rfl ?_
              refine f_getr (pc := 72) (u := 26) (q := 0) dX8_readFlags_72 xf8_11 (sa_26_0 hs) rfl (sr_26_0_0 hs) ?_
              refine e_iloadn (pc := 75) (i := 3) dX8_readFlags_75 rfl rfl ?_
              refine e_iload (pc := 76) dX8_readFlags_76 rfl ?_
              obtain ⟨hc0, hf5⟩ := x_gd_some hf5
              refine f_iast (pc := 78) (k := 1) (u := 26) (q := 1) (len := 7) dX8_readFlags_78 (sa_26_1 hs) hc0 hn rfl rfl rfl (by decide) ?_
              show Ev g _ _ _ _ _ _ 79 [some (x_r (16 * 26 + 0)), some (x_r (16 * 2 + 0)), some (x_i (x_or v1 (x_shl 1 v7))), some (x_i v2), some (x_i v7)] [] (al, ro, fl (ml M [2, 26] [T, (x_up Ro3 1 (v2).toNat v7)])) _ _ _ _
              refine e_aloadn (pc := 79) (i := 0) dX8_readFlags_79 rfl rfl ?_
              refine e_dup (pc := 80) dX8_readFlags_80 rfl ?_
              refine f_geti (pc := 81) (k := 1) (u := 26) (q := 0) dX8_readFlags_81 xf8_18 (sa_26_0 hs) rfl hn rfl rfl (by decide) ?_
              show Ev g _ _ _ _ _ _ 84 [some (x_r (16 * 26 + 0)), some (x_r (16 * 2 + 0)), some (x_i (x_or v1 (x_shl 1 v7))), some (x_i v2), some (x_i v7)] [x_i ((x_up Ro3 1 (v2).toNat v7) 0 2), x_r (16 * 26 + 0)] (al, ro, fl (ml M [2, 26] [T, (x_up Ro3 1 (v2).toNat v7)])) _ _ _ _
              refine e_iconst (pc := 84) dX8_readFlags_84 (x_R rfl) ?_
              refine e_iadd (pc := 85) dX8_readFlags_85 ?_
              refine f_puti (pc := 86) (k := 1) (u := 26) (q := 0) dX8_readFlags_86 xf8_18 xw6_2 (sa_26_0 hs) hn rfl rfl rfl (by decide) ?_
              show Ev g _ _ _ _ _ _ 89 [some (x_r (16 * 26 + 0)), some (x_r (16 * 2 + 0)), some (x_i (x_or v1 (x_shl 1 v7))), some (x_i v2), some (x_i v7)] [] (al, ro, fl (ml M [2, 26] [T, (x_up (x_up Ro3 1 (v2).toNat v7) 0 2 (x_add ((x_up Ro3 1 (v2).toNat v7) 0 2) 1))])) _ _ _ _
              refine e_iinc (pc := 89) dX8_readFlags_89 rfl (by decide) rfl ?_
              show Ev g _ _ _ _ _ _ 92 [some (x_r (16 * 26 + 0)), some (x_r (16 * 2 + 0)), some (x_i (x_or v1 (x_shl 1 v7))), some (x_i (x_add v2 1)), some (x_i v7)] [] (al, ro, fl (ml M [2, 26] [T, (x_up (x_up Ro3 1 (v2).toNat v7) 0 2 (x_add ((x_up Ro3 1 (v2).toNat v7) 0 2) 1))])) _ _ _ _
              refine e_goto (pc := 92) (tgt := 20) dX8_readFlags_92 (by decide) ?_
              cases hf5
              refine e_drop (i := 4) ?_
              have hh := hi5 _ rfl
              try dsimp only at hh
              exact hh
            · rw [if_neg hb] at hf5
              refine e_iconst (pc := 62) dX8_readFlags_62 (x_R rfl) ?_
              cases hf5
              have hz := hv5 _ (hx5 _ rfl).symm
              cases hz
              exact (e_ireturn rfl dX8_readFlags_63 (x_bool (by decide)).1)
  · rw [if_neg hb] at hG
    refine e_iconst (pc := 14) dX8_readFlags_14 (x_R rfl) ?_
    cases hG
    exact (e_ireturn rfl dX8_readFlags_15 (x_bool (by decide)).1)
set_option maxRecDepth 100000 in
set_option maxHeartbeats 4000000 in
theorem c_X8_wayBy {g : xG} {al : List (Nat × Nat × Nat)} {ro : Nat → Nat → Option Nat} (hst : g.1.stackTraces = false) (hs : SH al ro) {M : Nat → xU} {a : Int} {b : Int} {c : Int} {N : xU} {Ro : xU}  {t : Int} (hG : G8_wayBy a b c N Ro = some t) :
    Cal g yX8_wayBy cX8_wayBy 6 (some .int) 3 [x_r (16 * 26 + 0), x_r (16 * 3 + 0), x_i a, x_i b, x_i c] (al, ro, fl (ml M [3, 26] [N, Ro])) 0 0 (.inl (some (x_i t))) (al, ro, fl (ml M [3, 26] [N, Ro])) := by
  have hn : ([3, 26] : List Nat).Nodup := by decide
  refine cal_of_ev (plainFor_of_name (by decide)) (x_c1 rfl) (Nat.le_of_ble_eq_true rfl) hst ?_
  show Ev g _ _ _ _ _ _ 0 [some (x_r (16 * 26 + 0)), some (x_r (16 * 3 + 0)), some (x_i a), some (x_i b), some (x_i c), none] [] (al, ro, fl (ml M [3, 26] [N, Ro])) _ _ _ _
  rw [G8_wayBy] at hG
  refine e_iload (pc := 0) dX8_wayBy_0 rfl ?_
  refine e_iconst (pc := 2) dX8_wayBy_2 (x_R rfl) ?_
  refine e_iloadn (pc := 3) (i := 3) dX8_wayBy_3 rfl rfl ?_
  refine e_ishl (pc := 4) dX8_wayBy_4 ?_
  refine e_iconst (pc := 5) dX8_wayBy_5 (x_R rfl) ?_
  refine e_ixor (pc := 6) dX8_wayBy_6 ?_
  refine e_iand (pc := 7) dX8_wayBy_7 ?_
  refine e_bipush (pc := 8) dX8_wayBy_8 (by decide +kernel) (x_R rfl) ?_
  refine e_imul (pc := 10) dX8_wayBy_10 ?_
  refine e_iloadn (pc := 11) (i := 3) dX8_wayBy_11 rfl rfl ?_
  refine e_iadd (pc := 12) dX8_wayBy_12 ?_
  refine e_istore (pc := 13) (i := 5) dX8_wayBy_13 (by decide) rfl ?_
  show Ev g _ _ _ _ _ _ 15 [some (x_r (16 * 26 + 0)), some (x_r (16 * 3 + 0)), some (x_i a), some (x_i b), some (x_i c), some (x_i (x_add (x_mul (x_and c (x_xor (x_shl 1 b) (-1))) 7) b))] [] (al, ro, fl (ml M [3, 26] [N, Ro])) _ _ _ _
  refine e_iloadn (pc := 15) (i := 3) dX8_wayBy_15 rfl rfl ?_
  refine e_if_lt (pc := 16) (tgt := 40) dX8_wayBy_16 (by decide) (fun hb => ?_) (fun hb => ?_)
  · rw [if_pos hb] at hG
    refine e_iconst (pc := 40) dX8_wayBy_40 (x_R rfl) ?_
    cases hG
    exact (e_ireturn rfl dX8_wayBy_41 rfl)
  · rw [if_neg hb] at hG
    refine e_iloadn (pc := 19) (i := 3) dX8_wayBy_19 rfl rfl ?_
    refine e_bipush (pc := 20) dX8_wayBy_20 (by decide +kernel) (x_R rfl) ?_
    refine e_icmp_ge (pc := 22) (tgt := 40) dX8_wayBy_22 (by decide) (fun hb => ?_) (fun hb => ?_)
    · rw [if_pos hb] at hG
      refine e_iconst (pc := 40) dX8_wayBy_40 (x_R rfl) ?_
      cases hG
      exact (e_ireturn rfl dX8_wayBy_41 rfl)
    · rw [if_neg hb] at hG
      refine e_iload (pc := 25) dX8_wayBy_25 rfl ?_
      refine e_if_lt (pc := 27) (tgt := 40) dX8_wayBy_27 (by decide) (fun hb => ?_) (fun hb => ?_)
      · rw [if_pos hb] at hG
        refine e_iconst (pc := 40) dX8_wayBy_40 (x_R rfl) ?_
        cases hG
        exact (e_ireturn rfl dX8_wayBy_41 rfl)
      · rw [if_neg hb] at hG
        refine e_iload (pc := 30) dX8_wayBy_30 rfl ?_
        refine e_aloadn (pc := 32) (i := 0) dX8_wayBy_32 rfl rfl ?_
        refine f_getr (pc := 33) (u := 26) (q := 0) dX8_wayBy_33 xf8_15 (sa_26_0 hs) rfl (sr_26_0_1 hs) ?_
        refine e_alen_i (pc := 36) (id := 16 * 26 + 2) (len := 896) dX8_wayBy_36 (sa_26_2 hs) (by decide) ?_
        show Ev g _ _ _ _ _ _ 37 [some (x_r (16 * 26 + 0)), some (x_r (16 * 3 + 0)), some (x_i a), some (x_i b), some (x_i c), some (x_i (x_add (x_mul (x_and c (x_xor (x_shl 1 b) (-1))) 7) b))] [x_i 896, x_i (x_add (x_mul (x_and c (x_xor (x_shl 1 b) (-1))) 7) b)] (al, ro, fl (ml M [3, 26] [N, Ro])) _ _ _ _
        refine e_icmp_lt (pc := 37) (tgt := 42) dX8_wayBy_37 (by decide) (fun hb => ?_) (fun hb => ?_)
        · rw [if_pos hb] at hG
          refine e_aloadn (pc := 42) (i := 1) dX8_wayBy_42 rfl rfl ?_
          refine e_iloadn (pc := 43) (i := 2) dX8_wayBy_43 rfl rfl ?_
          refine e_aloadn (pc := 44) (i := 0) dX8_wayBy_44 rfl rfl ?_
          refine f_getr (pc := 45) (u := 26) (q := 0) dX8_wayBy_45 xf8_11 (sa_26_0 hs) rfl (sr_26_0_0 hs) ?_
          refine e_iloadn (pc := 48) (i := 3) dX8_wayBy_48 rfl rfl ?_
          obtain ⟨hc0, hG⟩ := x_gd_some hG
          refine f_iald (pc := 49) (k := 1) (u := 26) (q := 1) (len := 7) dX8_wayBy_49 (sa_26_1 hs) hc0 hn rfl rfl (by decide) ?_
          show Ev g _ _ _ _ _ _ 50 [some (x_r (16 * 26 + 0)), some (x_r (16 * 3 + 0)), some (x_i a), some (x_i b), some (x_i c), some (x_i (x_add (x_mul (x_and c (x_xor (x_shl 1 b) (-1))) 7) b))] [x_i (Ro 1 (b).toNat), x_i a, x_r (16 * 3 + 0)] (al, ro, fl (ml M [3, 26] [N, Ro])) _ _ _ _
          obtain ⟨v1, hq1, hG⟩ := x_bd1 hG
          refine e_invV (pc := 50) (K1 := 0) (S1 := 0) (K := 0) (S := 0) (dd2 := 2) (av := [x_i a, x_i (Ro 1 (b).toNat)]) (st := []) (id := 16 * 3 + 0) dX8_wayBy_50 xmX8_52 rfl (Or.inl ⟨1, 12, TX1, (sa_3_0 hs), rfl, by decide⟩) (f_cal (M := M) (us2 := [3]) [0] hn rfl (And.intro rfl trivial) rfl rfl rfl (c_X1_farOf hst hs (by decide)  hq1)) (by decide) (Nat.le_of_ble_eq_true rfl) (Or.inl rfl) ?_
          show Ev g _ _ _ _ _ _ 53 [some (x_r (16 * 26 + 0)), some (x_r (16 * 3 + 0)), some (x_i a), some (x_i b), some (x_i c), some (x_i (x_add (x_mul (x_and c (x_xor (x_shl 1 b) (-1))) 7) b))] [x_i v1] (al, ro, fl (ml M [3, 26] [N, Ro])) _ _ _ _
          refine e_aloadn (pc := 53) (i := 0) dX8_wayBy_53 rfl rfl ?_
          refine f_getr (pc := 54) (u := 26) (q := 0) dX8_wayBy_54 xf8_15 (sa_26_0 hs) rfl (sr_26_0_1 hs) ?_
          refine e_iload (pc := 57) dX8_wayBy_57 rfl ?_
          obtain ⟨hc0, hG⟩ := x_gd_some hG
          refine f_iald (pc := 59) (k := 1) (u := 26) (q := 2) (len := 896) dX8_wayBy_59 (sa_26_2 hs) hc0 hn rfl rfl (by decide) ?_
          show Ev g _ _ _ _ _ _ 60 [some (x_r (16 * 26 + 0)), some (x_r (16 * 3 + 0)), some (x_i a), some (x_i b), some (x_i c), some (x_i (x_add (x_mul (x_and c (x_xor (x_shl 1 b) (-1))) 7) b))] [x_i (Ro 2 ((x_add (x_mul (x_and c (x_xor (x_shl 1 b) (-1))) 7) b)).toNat), x_i v1] (al, ro, fl (ml M [3, 26] [N, Ro])) _ _ _ _
          refine e_iadd (pc := 60) dX8_wayBy_60 ?_
          cases hG
          exact (e_ireturn rfl dX8_wayBy_61 rfl)
        · rw [if_neg hb] at hG
          refine e_iconst (pc := 40) dX8_wayBy_40 (x_R rfl) ?_
          cases hG
          exact (e_ireturn rfl dX8_wayBy_41 rfl)
set_option maxRecDepth 100000 in
set_option maxHeartbeats 4000000 in
theorem c_X8_leastFrom {g : xG} {al : List (Nat × Nat × Nat)} {ro : Nat → Nat → Option Nat} (hst : g.1.stackTraces = false) (hs : SH al ro) {M : Nat → xU} {a : Int} {b : Int} {N : xU} {Ro : xU}  {t : Int} (hG : G8_leastFrom a b N Ro = some t) :
    Cal g yX8_leastFrom cX8_leastFrom 6 (some .int) 4 [x_r (16 * 26 + 0), x_r (16 * 3 + 0), x_i a, x_i b] (al, ro, fl (ml M [3, 26] [N, Ro])) 0 0 (.inl (some (x_i t))) (al, ro, fl (ml M [3, 26] [N, Ro])) := by
  have hn : ([3, 26] : List Nat).Nodup := by decide
  refine cal_of_ev (plainFor_of_name (by decide)) (x_c1 rfl) (Nat.le_of_ble_eq_true rfl) hst ?_
  show Ev g _ _ _ _ _ _ 0 [some (x_r (16 * 26 + 0)), some (x_r (16 * 3 + 0)), some (x_i a), some (x_i b), none, none] [] (al, ro, fl (ml M [3, 26] [N, Ro])) _ _ _ _
  rw [G8_leastFrom] at hG
  refine e_iloadn (pc := 0) (i := 3) dX8_leastFrom_0 rfl rfl ?_
  obtain ⟨v1, hr1, hG⟩ := x_bd1 hG
  have hjhr1 : Ev g yX8_leastFrom cX8_leastFrom 6 (some .int) [] 4 10 [some (x_r (16 * 26 + 0)), some (x_r (16 * 3 + 0)), some (x_i a), some (x_i b), none, none] [x_i v1] (al, ro, fl (ml M [3, 26] [N, Ro])) 0 0 (.inl (some (x_i t))) (al, ro, fl (ml M [3, 26] [N, Ro])) := by
    refine e_istore (pc := 10) (i := 4) dX8_leastFrom_10 (by decide) rfl ?_
    show Ev g _ _ _ _ _ _ 12 [some (x_r (16 * 26 + 0)), some (x_r (16 * 3 + 0)), some (x_i a), some (x_i b), some (x_i v1), none] [] (al, ro, fl (ml M [3, 26] [N, Ro])) _ _ _ _
    refine e_iconst (pc := 12) dX8_leastFrom_12 (x_R rfl) ?_
    refine e_istore (pc := 13) (i := 5) dX8_leastFrom_13 (by decide) rfl ?_
    show Ev g _ _ _ _ _ _ 15 [some (x_r (16 * 26 + 0)), some (x_r (16 * 3 + 0)), some (x_i a), some (x_i b), some (x_i v1), some (x_i 0)] [] (al, ro, fl (ml M [3, 26] [N, Ro])) _ _ _ _
    obtain ⟨v5, hl6, hG⟩ := x_bd1 hG
    have hk6 : ∀ q : Int, q = v5 → Ev g yX8_leastFrom cX8_leastFrom 6 (some .int) [] 4 55 [some (x_r (16 * 26 + 0)), some (x_r (16 * 3 + 0)), some (x_i a), some (x_i b), some (x_i q), none] [] (al, ro, fl (ml M [3, 26] [N, Ro])) 0 0 (.inl (some (x_i t))) (al, ro, fl (ml M [3, 26] [N, Ro])) := by
      intro q hq
      replace hq := hq.symm
      subst hq
      refine e_iload (pc := 55) dX8_leastFrom_55 rfl ?_
      cases hG
      exact (e_ireturn rfl dX8_leastFrom_57 rfl)
    clear hG
    refine e_whl (G8_leastFrom_L15 a b N Ro) (fun z : (Int × Int) => Ev g yX8_leastFrom cX8_leastFrom 6 (some .int) [] 4 15 [some (x_r (16 * 26 + 0)), some (x_r (16 * 3 + 0)), some (x_i a), some (x_i b), some (x_i z.1), some (x_i z.2)] [] (al, ro, fl (ml M [3, 26] [N, Ro])) 0 0 (.inl (some (x_i t))) (al, ro, fl (ml M [3, 26] [N, Ro]))) (fun q => q = v5) ?_ xFU (v1, 0) _ hl6 rfl
    intro z t6 hf6 hi6 hx6
    obtain ⟨v3, v4⟩ := z
    rw [G8_leastFrom_L15] at hf6
    show Ev g _ _ _ _ _ _ 15 [some (x_r (16 * 26 + 0)), some (x_r (16 * 3 + 0)), some (x_i a), some (x_i b), some (x_i v3), some (x_i v4)] [] (al, ro, fl (ml M [3, 26] [N, Ro])) _ _ _ _
    refine e_iload (pc := 15) dX8_leastFrom_15 rfl ?_
    refine e_aloadn (pc := 17) (i := 0) dX8_leastFrom_17 rfl rfl ?_
    refine f_geti (pc := 18) (k := 1) (u := 26) (q := 0) dX8_leastFrom_18 xf8_18 (sa_26_0 hs) rfl hn rfl rfl (by decide) ?_
    show Ev g _ _ _ _ _ _ 21 [some (x_r (16 * 26 + 0)), some (x_r (16 * 3 + 0)), some (x_i a), some (x_i b), some (x_i v3), some (x_i v4)] [x_i (Ro 0 2), x_i v4] (al, ro, fl (ml M [3, 26] [N, Ro])) _ _ _ _
    refine e_icmp_ge (pc := 21) (tgt := 55) dX8_leastFrom_21 (by decide) (fun hb => ?_) (fun hb => ?_)
    · rw [if_pos hb] at hf6
      cases hf6
      refine e_drop (i := 5) ?_
      have hh := hk6 _ (hx6 _ rfl)
      try dsimp only at hh
      exact hh
    · rw [if_neg hb] at hf6
      refine e_iloadn (pc := 24) (i := 3) dX8_leastFrom_24 rfl rfl ?_
      refine e_iload (pc := 25) dX8_leastFrom_25 rfl ?_
      obtain ⟨v8, hq8, hf6⟩ := x_bd1 hf6
      refine e_invS (pc := 27) (K1 := 0) (S1 := 0) (K := 0) (S := 0) (dd2 := 0) (av := [x_i b, x_i v4]) (st := []) dX8_leastFrom_27 xmX8_29 rfl (f_cal (M := M) (us2 := []) [] hn rfl trivial rfl rfl rfl (c_X11_holdsBit hst hs   hq8)) (by decide) (Nat.le_of_ble_eq_true rfl) (Or.inl rfl) ?_
      show Ev g _ _ _ _ _ _ 30 [some (x_r (16 * 26 + 0)), some (x_r (16 * 3 + 0)), some (x_i a), some (x_i b), some (x_i v3), some (x_i v4)] [x_i v8] (al, ro, fl (ml M [3, 26] [N, Ro])) _ _ _ _
      obtain ⟨v10, hr10, hf6⟩ := x_bd1 hf6
      have hjhr10 : Ev g yX8_leastFrom cX8_leastFrom 6 (some .int) [] 4 49 [some (x_r (16 * 26 + 0)), some (x_r (16 * 3 + 0)), some (x_i a), some (x_i b), some (x_i v10), some (x_i v4)] [] (al, ro, fl (ml M [3, 26] [N, Ro])) 0 0 (.inl (some (x_i t))) (al, ro, fl (ml M [3, 26] [N, Ro])) := by
        refine e_iinc (pc := 49) dX8_leastFrom_49 rfl (by decide) rfl ?_
        show Ev g _ _ _ _ _ _ 52 [some (x_r (16 * 26 + 0)), some (x_r (16 * 3 + 0)), some (x_i a), some (x_i b), some (x_i v10), some (x_i (x_add v4 1))] [] (al, ro, fl (ml M [3, 26] [N, Ro])) _ _ _ _
        refine e_goto (pc := 52) (tgt := 15) dX8_leastFrom_52 (by decide) ?_
        cases hf6
        have hh := hi6 _ rfl
        try dsimp only at hh
        exact hh
      clear hf6
      refine e_if_eq (pc := 30) (tgt := 49) dX8_leastFrom_30 (by decide) (fun hb => ?_) (fun hb => ?_)
      · rw [if_pos hb] at hr10
        cases hr10
        exact hjhr10
      · rw [if_neg hb] at hr10
        refine e_iload (pc := 33) dX8_leastFrom_33 rfl ?_
        refine e_aloadn (pc := 35) (i := 0) dX8_leastFrom_35 rfl rfl ?_
        refine e_aloadn (pc := 36) (i := 1) dX8_leastFrom_36 rfl rfl ?_
        refine e_iloadn (pc := 37) (i := 2) dX8_leastFrom_37 rfl rfl ?_
        refine e_iload (pc := 38) dX8_leastFrom_38 rfl ?_
        refine e_iloadn (pc := 40) (i := 3) dX8_leastFrom_40 rfl rfl ?_
        obtain ⟨v12, hq12, hr10⟩ := x_bd1 hr10
        refine e_invV (pc := 41) (K1 := 0) (S1 := 0) (K := 0) (S := 0) (dd2 := 3) (av := [x_r (16 * 3 + 0), x_i a, x_i v4, x_i b]) (st := [x_i v3]) (id := 16 * 26 + 0) dX8_leastFrom_41 xmX8_41 rfl (Or.inl ⟨6, 3, TX8, (sa_26_0 hs), rfl, by decide⟩) (f_cal (M := M) (us2 := [3, 26]) [0, 1] hn rfl (And.intro rfl (And.intro rfl trivial)) rfl rfl rfl (c_X8_wayBy hst hs   hq12)) (by decide) (Nat.le_of_ble_eq_true rfl) (Or.inl rfl) ?_
        show Ev g _ _ _ _ _ _ 44 [some (x_r (16 * 26 + 0)), some (x_r (16 * 3 + 0)), some (x_i a), some (x_i b), some (x_i v3), some (x_i v4)] [x_i v12, x_i v3] (al, ro, fl (ml M [3, 26] [N, Ro])) _ _ _ _
        refine e_invS (pc := 44) (K1 := 0) (S1 := 0) (K := 0) (S := 0) (dd2 := 0) (av := [x_i v3, x_i v12]) (st := []) dX8_leastFrom_44 xmX8_46 rfl (p_min hst hs) (by decide) (Nat.le_of_ble_eq_true rfl) (Or.inl rfl) ?_
        show Ev g _ _ _ _ _ _ 47 [some (x_r (16 * 26 + 0)), some (x_r (16 * 3 + 0)), some (x_i a), some (x_i b), some (x_i v3), some (x_i v4)] [x_i (min v3 v12)] (al, ro, fl (ml M [3, 26] [N, Ro])) _ _ _ _
        refine e_istore (pc := 47) (i := 4) dX8_leastFrom_47 (by decide) rfl ?_
        show Ev g _ _ _ _ _ _ 49 [some (x_r (16 * 26 + 0)), some (x_r (16 * 3 + 0)), some (x_i a), some (x_i b), some (x_i (min v3 v12)), some (x_i v4)] [] (al, ro, fl (ml M [3, 26] [N, Ro])) _ _ _ _
        cases hr10
        exact hjhr10
  clear hG
  refine e_if_ne (pc := 1) (tgt := 8) dX8_leastFrom_1 (by decide) (fun hb => ?_) (fun hb => ?_)
  · rw [if_neg hb] at hr1
    refine e_ldc (pc := 8) dX8_leastFrom_8 xkX8_45 (x_R rfl) ?_
    cases hr1
    exact hjhr1
  · rw [if_pos hb] at hr1
    refine e_iconst (pc := 4) dX8_leastFrom_4 (x_R rfl) ?_
    refine e_goto (pc := 5) (tgt := 10) dX8_leastFrom_5 (by decide) ?_
    cases hr1
    exact hjhr1
set_option maxRecDepth 100000 in
set_option maxHeartbeats 4000000 in
theorem c_X8_leastWay {g : xG} {al : List (Nat × Nat × Nat)} {ro : Nat → Nat → Option Nat} (hst : g.1.stackTraces = false) (hs : SH al ro) {M : Nat → xU} {a : Int} {N : xU} {Ro : xU}  {t : (Int × xU)} (hG : G8_leastWay a N Ro = some t) :
    Cal g yX8_leastWay cX8_leastWay 6 (some .int) 5 [x_r (16 * 26 + 0), x_r (16 * 3 + 0), x_i a] (al, ro, fl (ml M [3, 26] [N, Ro])) 0 0 (.inl (some (x_i t.1))) (al, ro, fl (ml M [3, 26] [N, t.2])) := by
  have hn : ([3, 26] : List Nat).Nodup := by decide
  refine cal_of_ev (plainFor_of_name (by decide)) (x_c1 rfl) (Nat.le_of_ble_eq_true rfl) hst ?_
  show Ev g _ _ _ _ _ _ 0 [some (x_r (16 * 26 + 0)), some (x_r (16 * 3 + 0)), some (x_i a), none, none, none] [] (al, ro, fl (ml M [3, 26] [N, Ro])) _ _ _ _
  rw [G8_leastWay] at hG
  refine e_iconst (pc := 0) dX8_leastWay_0 (x_R rfl) ?_
  refine e_aloadn (pc := 1) (i := 0) dX8_leastWay_1 rfl rfl ?_
  refine f_geti (pc := 2) (k := 1) (u := 26) (q := 0) dX8_leastWay_2 xf8_18 (sa_26_0 hs) rfl hn rfl rfl (by decide) ?_
  show Ev g _ _ _ _ _ _ 5 [some (x_r (16 * 26 + 0)), some (x_r (16 * 3 + 0)), some (x_i a), none, none, none] [x_i (Ro 0 2), x_i 1] (al, ro, fl (ml M [3, 26] [N, Ro])) _ _ _ _
  refine e_ishl (pc := 5) dX8_leastWay_5 ?_
  refine e_iconst (pc := 6) dX8_leastWay_6 (x_R rfl) ?_
  refine e_isub (pc := 7) dX8_leastWay_7 ?_
  refine e_istoren (pc := 8) (i := 3) dX8_leastWay_8 rfl (by decide) rfl ?_
  show Ev g _ _ _ _ _ _ 9 [some (x_r (16 * 26 + 0)), some (x_r (16 * 3 + 0)), some (x_i a), some (x_i (x_sub (x_shl 1 (Ro 0 2)) 1)), none, none] [] (al, ro, fl (ml M [3, 26] [N, Ro])) _ _ _ _
  refine e_iconst (pc := 9) dX8_leastWay_9 (x_R rfl) ?_
  refine e_istore (pc := 10) (i := 4) dX8_leastWay_10 (by decide) rfl ?_
  show Ev g _ _ _ _ _ _ 12 [some (x_r (16 * 26 + 0)), some (x_r (16 * 3 + 0)), some (x_i a), some (x_i (x_sub (x_shl 1 (Ro 0 2)) 1)), some (x_i 0), none] [] (al, ro, fl (ml M [3, 26] [N, Ro])) _ _ _ _
  obtain ⟨Ro3, hl4, hG⟩ := x_bd1 hG
  have hk4 : ∀ q : xU, q = Ro3 → Ev g yX8_leastWay cX8_leastWay 6 (some .int) [] 5 84 [some (x_r (16 * 26 + 0)), some (x_r (16 * 3 + 0)), some (x_i a), some (x_i (x_sub (x_shl 1 (Ro 0 2)) 1)), none, none] [] (al, ro, fl (ml M [3, 26] [N, q])) 0 0 (.inl (some (x_i t.1))) (al, ro, fl (ml M [3, 26] [N, t.2])) := by
    intro q hq
    replace hq := hq.symm
    subst hq
    refine e_aloadn (pc := 84) (i := 0) dX8_leastWay_84 rfl rfl ?_
    refine e_aloadn (pc := 85) (i := 1) dX8_leastWay_85 rfl rfl ?_
    refine e_iloadn (pc := 86) (i := 2) dX8_leastWay_86 rfl rfl ?_
    refine e_iloadn (pc := 87) (i := 3) dX8_leastWay_87 rfl rfl ?_
    obtain ⟨v13, hq13, hG⟩ := x_bd1 hG
    refine e_invV (pc := 88) (K1 := 0) (S1 := 0) (K := 0) (S := 0) (dd2 := 4) (av := [x_r (16 * 3 + 0), x_i a, x_i (x_sub (x_shl 1 (Ro 0 2)) 1)]) (st := []) (id := 16 * 26 + 0) dX8_leastWay_88 xmX8_33 rfl (Or.inl ⟨6, 3, TX8, (sa_26_0 hs), rfl, by decide⟩) (f_cal (M := M) (us2 := [3, 26]) [0, 1] hn rfl (And.intro rfl (And.intro rfl trivial)) rfl rfl rfl (c_X8_leastFrom hst hs   hq13)) (by decide) (Nat.le_of_ble_eq_true rfl) (Or.inl rfl) ?_
    show Ev g _ _ _ _ _ _ 91 [some (x_r (16 * 26 + 0)), some (x_r (16 * 3 + 0)), some (x_i a), some (x_i (x_sub (x_shl 1 (Ro 0 2)) 1)), none, none] [x_i v13] (al, ro, fl (ml M [3, 26] [N, Ro3])) _ _ _ _
    cases hG
    exact (e_ireturn rfl dX8_leastWay_91 rfl)
  clear hG
  refine e_whl (G8_leastWay_L12 N Ro) (fun z : (Int × xU) => Ev g yX8_leastWay cX8_leastWay 6 (some .int) [] 5 12 [some (x_r (16 * 26 + 0)), some (x_r (16 * 3 + 0)), some (x_i a), some (x_i (x_sub (x_shl 1 (Ro 0 2)) 1)), some (x_i z.1), none] [] (al, ro, fl (ml M [3, 26] [N, z.2])) 0 0 (.inl (some (x_i t.1))) (al, ro, fl (ml M [3, 26] [N, t.2]))) (fun q => q = Ro3) ?_ xFU (0, Ro) _ hl4 rfl
  intro z t4 hf4 hi4 hx4
  obtain ⟨v1, Ro2⟩ := z
  rw [G8_leastWay_L12] at hf4
  show Ev g _ _ _ _ _ _ 12 [some (x_r (16 * 26 + 0)), some (x_r (16 * 3 + 0)), some (x_i a), some (x_i (x_sub (x_shl 1 (Ro 0 2)) 1)), some (x_i v1), none] [] (al, ro, fl (ml M [3, 26] [N, Ro2])) _ _ _ _
  refine e_iload (pc := 12) dX8_leastWay_12 rfl ?_
  refine e_iloadn (pc := 14) (i := 3) dX8_leastWay_14 rfl rfl ?_
  refine e_icmp_gt (pc := 15) (tgt := 84) dX8_leastWay_15 (by decide) (fun hb => ?_) (fun hb => ?_)
  · rw [if_pos hb] at hf4
    cases hf4
    refine e_drop (i := 4) ?_
    have hh := hk4 _ (hx4 _ rfl)
    try dsimp only at hh
    exact hh
  · rw [if_neg hb] at hf4
    refine e_iload (pc := 18) dX8_leastWay_18 rfl ?_
    refine e_sipush (pc := 20) dX8_leastWay_20 (by decide +kernel) (x_R rfl) ?_
    refine e_icmp_ge (pc := 23) (tgt := 84) dX8_leastWay_23 (by decide) (fun hb => ?_) (fun hb => ?_)
    · rw [if_pos hb] at hf4
      cases hf4
      refine e_drop (i := 4) ?_
      have hh := hk4 _ (hx4 _ rfl)
      try dsimp only at hh
      exact hh
    · rw [if_neg hb] at hf4
      refine e_iconst (pc := 26) dX8_leastWay_26 (x_R rfl) ?_
      refine e_istore (pc := 27) (i := 5) dX8_leastWay_27 (by decide) rfl ?_
      show Ev g _ _ _ _ _ _ 29 [some (x_r (16 * 26 + 0)), some (x_r (16 * 3 + 0)), some (x_i a), some (x_i (x_sub (x_shl 1 (Ro 0 2)) 1)), some (x_i v1), some (x_i 0)] [] (al, ro, fl (ml M [3, 26] [N, Ro2])) _ _ _ _
      obtain ⟨Ro8, hl9, hf4⟩ := x_bd1 hf4
      have hk9 : ∀ q : xU, q = Ro8 → Ev g yX8_leastWay cX8_leastWay 6 (some .int) [] 5 78 [some (x_r (16 * 26 + 0)), some (x_r (16 * 3 + 0)), some (x_i a), some (x_i (x_sub (x_shl 1 (Ro 0 2)) 1)), some (x_i v1), none] [] (al, ro, fl (ml M [3, 26] [N, q])) 0 0 (.inl (some (x_i t.1))) (al, ro, fl (ml M [3, 26] [N, t.2])) := by
        intro q hq
        replace hq := hq.symm
        subst hq
        refine e_iinc (pc := 78) dX8_leastWay_78 rfl (by decide) rfl ?_
        show Ev g _ _ _ _ _ _ 81 [some (x_r (16 * 26 + 0)), some (x_r (16 * 3 + 0)), some (x_i a), some (x_i (x_sub (x_shl 1 (Ro 0 2)) 1)), some (x_i (x_add v1 1)), none] [] (al, ro, fl (ml M [3, 26] [N, Ro8])) _ _ _ _
        refine e_goto (pc := 81) (tgt := 12) dX8_leastWay_81 (by decide) ?_
        cases hf4
        have hh := hi4 _ rfl
        try dsimp only at hh
        exact hh
      clear hf4
      refine e_whl (G8_leastWay_L29 N v1) (fun z : (Int × xU) => Ev g yX8_leastWay cX8_leastWay 6 (some .int) [] 5 29 [some (x_r (16 * 26 + 0)), some (x_r (16 * 3 + 0)), some (x_i a), some (x_i (x_sub (x_shl 1 (Ro 0 2)) 1)), some (x_i v1), some (x_i z.1)] [] (al, ro, fl (ml M [3, 26] [N, z.2])) 0 0 (.inl (some (x_i t.1))) (al, ro, fl (ml M [3, 26] [N, t.2]))) (fun q => q = Ro8) ?_ xFU (0, Ro2) _ hl9 rfl
      intro z t9 hf9 hi9 hx9
      obtain ⟨v6, Ro7⟩ := z
      rw [G8_leastWay_L29] at hf9
      show Ev g _ _ _ _ _ _ 29 [some (x_r (16 * 26 + 0)), some (x_r (16 * 3 + 0)), some (x_i a), some (x_i (x_sub (x_shl 1 (Ro 0 2)) 1)), some (x_i v1), some (x_i v6)] [] (al, ro, fl (ml M [3, 26] [N, Ro7])) _ _ _ _
      refine e_iload (pc := 29) dX8_leastWay_29 rfl ?_
      refine e_aloadn (pc := 31) (i := 0) dX8_leastWay_31 rfl rfl ?_
      refine f_geti (pc := 32) (k := 1) (u := 26) (q := 0) dX8_leastWay_32 xf8_18 (sa_26_0 hs) rfl hn rfl rfl (by decide) ?_
      show Ev g _ _ _ _ _ _ 35 [some (x_r (16 * 26 + 0)), some (x_r (16 * 3 + 0)), some (x_i a), some (x_i (x_sub (x_shl 1 (Ro 0 2)) 1)), some (x_i v1), some (x_i v6)] [x_i (Ro7 0 2), x_i v6] (al, ro, fl (ml M [3, 26] [N, Ro7])) _ _ _ _
      refine e_icmp_ge (pc := 35) (tgt := 78) dX8_leastWay_35 (by decide) (fun hb => ?_) (fun hb => ?_)
      · rw [if_pos hb] at hf9
        cases hf9
        refine e_drop (i := 5) ?_
        have hh := hk9 _ (hx9 _ rfl)
        try dsimp only at hh
        exact hh
      · rw [if_neg hb] at hf9
        refine e_iload (pc := 38) dX8_leastWay_38 rfl ?_
        refine e_bipush (pc := 40) dX8_leastWay_40 (by decide +kernel) (x_R rfl) ?_
        refine e_icmp_ge (pc := 42) (tgt := 78) dX8_leastWay_42 (by decide) (fun hb => ?_) (fun hb => ?_)
        · rw [if_pos hb] at hf9
          cases hf9
          refine e_drop (i := 5) ?_
          have hh := hk9 _ (hx9 _ rfl)
          try dsimp only at hh
          exact hh
        · rw [if_neg hb] at hf9
          refine e_aloadn (pc := 45) (i := 0) dX8_leastWay_45 rfl rfl ?_
          refine f_getr (pc := 46) (u := 26) (q := 0) dX8_leastWay_46 xf8_15 (sa_26_0 hs) rfl (sr_26_0_1 hs) ?_
          refine e_iload (pc := 49) dX8_leastWay_49 rfl ?_
          refine e_bipush (pc := 51) dX8_leastWay_51 (by decide +kernel) (x_R rfl) ?_
          refine e_imul (pc := 53) dX8_leastWay_53 ?_
          refine e_iload (pc := 54) dX8_leastWay_54 rfl ?_
          refine e_iadd (pc := 56) dX8_leastWay_56 ?_
          refine e_aloadn (pc := 57) (i := 0) dX8_leastWay_57 rfl rfl ?_
          refine e_aloadn (pc := 58) (i := 1) dX8_leastWay_58 rfl rfl ?_
          refine e_aloadn (pc := 59) (i := 0) dX8_leastWay_59 rfl rfl ?_
          refine f_getr (pc := 60) (u := 26) (q := 0) dX8_leastWay_60 xf8_11 (sa_26_0 hs) rfl (sr_26_0_0 hs) ?_
          refine e_iload (pc := 63) dX8_leastWay_63 rfl ?_
          obtain ⟨hc0, hf9⟩ := x_gd_some hf9
          refine f_iald (pc := 65) (k := 1) (u := 26) (q := 1) (len := 7) dX8_leastWay_65 (sa_26_1 hs) hc0 hn rfl rfl (by decide) ?_
          show Ev g _ _ _ _ _ _ 66 [some (x_r (16 * 26 + 0)), some (x_r (16 * 3 + 0)), some (x_i a), some (x_i (x_sub (x_shl 1 (Ro 0 2)) 1)), some (x_i v1), some (x_i v6)] [x_i (Ro7 1 (v6).toNat), x_r (16 * 3 + 0), x_r (16 * 26 + 0), x_i (x_add (x_mul v1 7) v6), x_r (16 * 26 + 2)] (al, ro, fl (ml M [3, 26] [N, Ro7])) _ _ _ _
          refine e_iload (pc := 66) dX8_leastWay_66 rfl ?_
          obtain ⟨v11, hq11, hf9⟩ := x_bd1 hf9
          refine e_invV (pc := 68) (K1 := 0) (S1 := 0) (K := 0) (S := 0) (dd2 := 4) (av := [x_r (16 * 3 + 0), x_i (Ro7 1 (v6).toNat), x_i v1]) (st := [x_i (x_add (x_mul v1 7) v6), x_r (16 * 26 + 2)]) (id := 16 * 26 + 0) dX8_leastWay_68 xmX8_33 rfl (Or.inl ⟨6, 3, TX8, (sa_26_0 hs), rfl, by decide⟩) (f_cal (M := M) (us2 := [3, 26]) [0, 1] hn rfl (And.intro rfl (And.intro rfl trivial)) rfl rfl rfl (c_X8_leastFrom hst hs   hq11)) (by decide) (Nat.le_of_ble_eq_true rfl) (Or.inl rfl) ?_
          show Ev g _ _ _ _ _ _ 71 [some (x_r (16 * 26 + 0)), some (x_r (16 * 3 + 0)), some (x_i a), some (x_i (x_sub (x_shl 1 (Ro 0 2)) 1)), some (x_i v1), some (x_i v6)] [x_i v11, x_i (x_add (x_mul v1 7) v6), x_r (16 * 26 + 2)] (al, ro, fl (ml M [3, 26] [N, Ro7])) _ _ _ _
          obtain ⟨hc0, hf9⟩ := x_gd_some hf9
          refine f_iast (pc := 71) (k := 1) (u := 26) (q := 2) (len := 896) dX8_leastWay_71 (sa_26_2 hs) hc0 hn rfl rfl rfl (by decide) ?_
          show Ev g _ _ _ _ _ _ 72 [some (x_r (16 * 26 + 0)), some (x_r (16 * 3 + 0)), some (x_i a), some (x_i (x_sub (x_shl 1 (Ro 0 2)) 1)), some (x_i v1), some (x_i v6)] [] (al, ro, fl (ml M [3, 26] [N, (x_up Ro7 2 ((x_add (x_mul v1 7) v6)).toNat v11)])) _ _ _ _
          refine e_iinc (pc := 72) dX8_leastWay_72 rfl (by decide) rfl ?_
          show Ev g _ _ _ _ _ _ 75 [some (x_r (16 * 26 + 0)), some (x_r (16 * 3 + 0)), some (x_i a), some (x_i (x_sub (x_shl 1 (Ro 0 2)) 1)), some (x_i v1), some (x_i (x_add v6 1))] [] (al, ro, fl (ml M [3, 26] [N, (x_up Ro7 2 ((x_add (x_mul v1 7) v6)).toNat v11)])) _ _ _ _
          refine e_goto (pc := 75) (tgt := 29) dX8_leastWay_75 (by decide) ?_
          cases hf9
          have hh := hi9 _ rfl
          try dsimp only at hh
          exact hh
set_option maxRecDepth 100000 in
set_option maxHeartbeats 4000000 in
theorem c_X8_firstFlag {g : xG} {al : List (Nat × Nat × Nat)} {ro : Nat → Nat → Option Nat} (hst : g.1.stackTraces = false) (hs : SH al ro) {M : Nat → xU} {a : Int} {N : xU} {Ro : xU}  {t : (Int × xU)} (hG : G8_firstFlag a N Ro = some t) :
    Cal g yX8_firstFlag cX8_firstFlag 7 (some .int) 6 [x_r (16 * 26 + 0), x_r (16 * 3 + 0), x_i a] (al, ro, fl (ml M [3, 26] [N, Ro])) 0 0 (.inl (some (x_i t.1))) (al, ro, fl (ml M [3, 26] [N, t.2])) := by
  have hn : ([3, 26] : List Nat).Nodup := by decide
  refine cal_of_ev (plainFor_of_name (by decide)) (x_c1 rfl) (Nat.le_of_ble_eq_true rfl) hst ?_
  show Ev g _ _ _ _ _ _ 0 [some (x_r (16 * 26 + 0)), some (x_r (16 * 3 + 0)), some (x_i a), none, none, none, none] [] (al, ro, fl (ml M [3, 26] [N, Ro])) _ _ _ _
  rw [G8_firstFlag] at hG
  refine e_aloadn (pc := 0) (i := 0) dX8_firstFlag_0 rfl rfl ?_
  refine e_aloadn (pc := 1) (i := 1) dX8_firstFlag_1 rfl rfl ?_
  refine e_iloadn (pc := 2) (i := 2) dX8_firstFlag_2 rfl rfl ?_
  obtain ⟨v1, Ro2, hq2, hG⟩ := x_bd2 hG
  refine e_invV (pc := 3) (K1 := 0) (S1 := 0) (K := 0) (S := 0) (dd2 := 5) (av := [x_r (16 * 3 + 0), x_i a]) (st := []) (id := 16 * 26 + 0) dX8_firstFlag_3 xmX8_37 rfl (Or.inl ⟨6, 3, TX8, (sa_26_0 hs), rfl, by decide⟩) (f_cal (M := M) (us2 := [3, 26]) [0, 1] hn rfl (And.intro rfl (And.intro rfl trivial)) rfl rfl rfl (c_X8_leastWay hst hs   hq2)) (by decide) (Nat.le_of_ble_eq_true rfl) (Or.inl rfl) ?_
  show Ev g _ _ _ _ _ _ 6 [some (x_r (16 * 26 + 0)), some (x_r (16 * 3 + 0)), some (x_i a), none, none, none, none] [x_i v1] (al, ro, fl (ml M [3, 26] [N, Ro2])) _ _ _ _
  refine e_istoren (pc := 6) (i := 3) dX8_firstFlag_6 rfl (by decide) rfl ?_
  show Ev g _ _ _ _ _ _ 7 [some (x_r (16 * 26 + 0)), some (x_r (16 * 3 + 0)), some (x_i a), some (x_i v1), none, none, none] [] (al, ro, fl (ml M [3, 26] [N, Ro2])) _ _ _ _
  refine e_iconst (pc := 7) dX8_firstFlag_7 (x_R rfl) ?_
  refine e_aloadn (pc := 8) (i := 0) dX8_firstFlag_8 rfl rfl ?_
  refine f_geti (pc := 9) (k := 1) (u := 26) (q := 0) dX8_firstFlag_9 xf8_18 (sa_26_0 hs) rfl hn rfl rfl (by decide) ?_
  show Ev g _ _ _ _ _ _ 12 [some (x_r (16 * 26 + 0)), some (x_r (16 * 3 + 0)), some (x_i a), some (x_i v1), none, none, none] [x_i (Ro2 0 2), x_i 1] (al, ro, fl (ml M [3, 26] [N, Ro2])) _ _ _ _
  refine e_ishl (pc := 12) dX8_firstFlag_12 ?_
  refine e_iconst (pc := 13) dX8_firstFlag_13 (x_R rfl) ?_
  refine e_isub (pc := 14) dX8_firstFlag_14 ?_
  refine e_istore (pc := 15) (i := 4) dX8_firstFlag_15 (by decide) rfl ?_
  show Ev g _ _ _ _ _ _ 17 [some (x_r (16 * 26 + 0)), some (x_r (16 * 3 + 0)), some (x_i a), some (x_i v1), some (x_i (x_sub (x_shl 1 (Ro2 0 2)) 1)), none, none] [] (al, ro, fl (ml M [3, 26] [N, Ro2])) _ _ _ _
  refine e_iconst (pc := 17) dX8_firstFlag_17 (x_R rfl) ?_
  refine e_istore (pc := 18) (i := 5) dX8_firstFlag_18 (by decide) rfl ?_
  show Ev g _ _ _ _ _ _ 20 [some (x_r (16 * 26 + 0)), some (x_r (16 * 3 + 0)), some (x_i a), some (x_i v1), some (x_i (x_sub (x_shl 1 (Ro2 0 2)) 1)), some (x_i (-1)), none] [] (al, ro, fl (ml M [3, 26] [N, Ro2])) _ _ _ _
  refine e_iconst (pc := 20) dX8_firstFlag_20 (x_R rfl) ?_
  refine e_istore (pc := 21) (i := 6) dX8_firstFlag_21 (by decide) rfl ?_
  show Ev g _ _ _ _ _ _ 23 [some (x_r (16 * 26 + 0)), some (x_r (16 * 3 + 0)), some (x_i a), some (x_i v1), some (x_i (x_sub (x_shl 1 (Ro2 0 2)) 1)), some (x_i (-1)), some (x_i 0)] [] (al, ro, fl (ml M [3, 26] [N, Ro2])) _ _ _ _
  obtain ⟨v6, hl7, hG⟩ := x_bd1 hG
  have hk7 : ∀ q : Int, q = v6 → Ev g yX8_firstFlag cX8_firstFlag 7 (some .int) [] 6 86 [some (x_r (16 * 26 + 0)), some (x_r (16 * 3 + 0)), some (x_i a), some (x_i v1), some (x_i (x_sub (x_shl 1 (Ro2 0 2)) 1)), some (x_i q), none] [] (al, ro, fl (ml M [3, 26] [N, Ro2])) 0 0 (.inl (some (x_i t.1))) (al, ro, fl (ml M [3, 26] [N, t.2])) := by
    intro q hq
    replace hq := hq.symm
    subst hq
    refine e_iload (pc := 86) dX8_firstFlag_86 rfl ?_
    cases hG
    exact (e_ireturn rfl dX8_firstFlag_88 rfl)
  clear hG
  refine e_whl (G8_firstFlag_L23 a N v1 Ro2) (fun z : (Int × Int) => Ev g yX8_firstFlag cX8_firstFlag 7 (some .int) [] 6 23 [some (x_r (16 * 26 + 0)), some (x_r (16 * 3 + 0)), some (x_i a), some (x_i v1), some (x_i (x_sub (x_shl 1 (Ro2 0 2)) 1)), some (x_i z.1), some (x_i z.2)] [] (al, ro, fl (ml M [3, 26] [N, Ro2])) 0 0 (.inl (some (x_i t.1))) (al, ro, fl (ml M [3, 26] [N, t.2]))) (fun q => q = v6) ?_ xFU ((-1), 0) _ hl7 rfl
  intro z t7 hf7 hi7 hx7
  obtain ⟨v4, v5⟩ := z
  rw [G8_firstFlag_L23] at hf7
  show Ev g _ _ _ _ _ _ 23 [some (x_r (16 * 26 + 0)), some (x_r (16 * 3 + 0)), some (x_i a), some (x_i v1), some (x_i (x_sub (x_shl 1 (Ro2 0 2)) 1)), some (x_i v4), some (x_i v5)] [] (al, ro, fl (ml M [3, 26] [N, Ro2])) _ _ _ _
  refine e_iload (pc := 23) dX8_firstFlag_23 rfl ?_
  refine e_aloadn (pc := 25) (i := 0) dX8_firstFlag_25 rfl rfl ?_
  refine f_geti (pc := 26) (k := 1) (u := 26) (q := 0) dX8_firstFlag_26 xf8_18 (sa_26_0 hs) rfl hn rfl rfl (by decide) ?_
  show Ev g _ _ _ _ _ _ 29 [some (x_r (16 * 26 + 0)), some (x_r (16 * 3 + 0)), some (x_i a), some (x_i v1), some (x_i (x_sub (x_shl 1 (Ro2 0 2)) 1)), some (x_i v4), some (x_i v5)] [x_i (Ro2 0 2), x_i v5] (al, ro, fl (ml M [3, 26] [N, Ro2])) _ _ _ _
  refine e_icmp_ge (pc := 29) (tgt := 86) dX8_firstFlag_29 (by decide) (fun hb => ?_) (fun hb => ?_)
  · rw [if_pos hb] at hf7
    cases hf7
    refine e_drop (i := 6) ?_
    have hh := hk7 _ (hx7 _ rfl)
    try dsimp only at hh
    exact hh
  · rw [if_neg hb] at hf7
    refine e_iload (pc := 32) dX8_firstFlag_32 rfl ?_
    refine e_bipush (pc := 34) dX8_firstFlag_34 (by decide +kernel) (x_R rfl) ?_
    refine e_icmp_ge (pc := 36) (tgt := 86) dX8_firstFlag_36 (by decide) (fun hb => ?_) (fun hb => ?_)
    · rw [if_pos hb] at hf7
      cases hf7
      refine e_drop (i := 6) ?_
      have hh := hk7 _ (hx7 _ rfl)
      try dsimp only at hh
      exact hh
    · rw [if_neg hb] at hf7
      refine e_aloadn (pc := 39) (i := 0) dX8_firstFlag_39 rfl rfl ?_
      refine e_aloadn (pc := 40) (i := 1) dX8_firstFlag_40 rfl rfl ?_
      refine e_iloadn (pc := 41) (i := 2) dX8_firstFlag_41 rfl rfl ?_
      refine e_iload (pc := 42) dX8_firstFlag_42 rfl ?_
      refine e_iload (pc := 44) dX8_firstFlag_44 rfl ?_
      obtain ⟨v9, hq9, hf7⟩ := x_bd1 hf7
      refine e_invV (pc := 46) (K1 := 0) (S1 := 0) (K := 0) (S := 0) (dd2 := 3) (av := [x_r (16 * 3 + 0), x_i a, x_i v5, x_i (x_sub (x_shl 1 (Ro2 0 2)) 1)]) (st := []) (id := 16 * 26 + 0) dX8_firstFlag_46 xmX8_41 rfl (Or.inl ⟨6, 3, TX8, (sa_26_0 hs), rfl, by decide⟩) (f_cal (M := M) (us2 := [3, 26]) [0, 1] hn rfl (And.intro rfl (And.intro rfl trivial)) rfl rfl rfl (c_X8_wayBy hst hs   hq9)) (by decide) (Nat.le_of_ble_eq_true rfl) (Or.inl rfl) ?_
      show Ev g _ _ _ _ _ _ 49 [some (x_r (16 * 26 + 0)), some (x_r (16 * 3 + 0)), some (x_i a), some (x_i v1), some (x_i (x_sub (x_shl 1 (Ro2 0 2)) 1)), some (x_i v4), some (x_i v5)] [x_i v9] (al, ro, fl (ml M [3, 26] [N, Ro2])) _ _ _ _
      refine e_iloadn (pc := 49) (i := 3) dX8_firstFlag_49 rfl rfl ?_
      obtain ⟨v11, hr11, hf7⟩ := x_bd1 hf7
      have hjhr11 : Ev g yX8_firstFlag cX8_firstFlag 7 (some .int) [] 6 80 [some (x_r (16 * 26 + 0)), some (x_r (16 * 3 + 0)), some (x_i a), some (x_i v1), some (x_i (x_sub (x_shl 1 (Ro2 0 2)) 1)), some (x_i v11), some (x_i v5)] [] (al, ro, fl (ml M [3, 26] [N, Ro2])) 0 0 (.inl (some (x_i t.1))) (al, ro, fl (ml M [3, 26] [N, t.2])) := by
        refine e_iinc (pc := 80) dX8_firstFlag_80 rfl (by decide) rfl ?_
        show Ev g _ _ _ _ _ _ 83 [some (x_r (16 * 26 + 0)), some (x_r (16 * 3 + 0)), some (x_i a), some (x_i v1), some (x_i (x_sub (x_shl 1 (Ro2 0 2)) 1)), some (x_i v11), some (x_i (x_add v5 1))] [] (al, ro, fl (ml M [3, 26] [N, Ro2])) _ _ _ _
        refine e_goto (pc := 83) (tgt := 23) dX8_firstFlag_83 (by decide) ?_
        cases hf7
        have hh := hi7 _ rfl
        try dsimp only at hh
        exact hh
      clear hf7
      refine e_icmp_ne (pc := 50) (tgt := 80) dX8_firstFlag_50 (by decide) (fun hb => ?_) (fun hb => ?_)
      · rw [if_neg hb] at hr11
        cases hr11
        exact hjhr11
      · rw [if_pos hb] at hr11
        refine e_iload (pc := 53) dX8_firstFlag_53 rfl ?_
        refine e_iconst (pc := 55) dX8_firstFlag_55 (x_R rfl) ?_
        refine e_icmp_eq (pc := 56) (tgt := 71) dX8_firstFlag_56 (by decide) (fun hb => ?_) (fun hb => ?_)
        · rw [if_pos hb] at hr11
          refine e_aloadn (pc := 71) (i := 0) dX8_firstFlag_71 rfl rfl ?_
          refine f_getr (pc := 72) (u := 26) (q := 0) dX8_firstFlag_72 xf8_11 (sa_26_0 hs) rfl (sr_26_0_0 hs) ?_
          refine e_iload (pc := 75) dX8_firstFlag_75 rfl ?_
          obtain ⟨hc0, hr11⟩ := x_gd_some hr11
          refine f_iald (pc := 77) (k := 1) (u := 26) (q := 1) (len := 7) dX8_firstFlag_77 (sa_26_1 hs) hc0 hn rfl rfl (by decide) ?_
          show Ev g _ _ _ _ _ _ 78 [some (x_r (16 * 26 + 0)), some (x_r (16 * 3 + 0)), some (x_i a), some (x_i v1), some (x_i (x_sub (x_shl 1 (Ro2 0 2)) 1)), some (x_i v4), some (x_i v5)] [x_i (Ro2 1 (v5).toNat)] (al, ro, fl (ml M [3, 26] [N, Ro2])) _ _ _ _
          refine e_istore (pc := 78) (i := 5) dX8_firstFlag_78 (by decide) rfl ?_
          show Ev g _ _ _ _ _ _ 80 [some (x_r (16 * 26 + 0)), some (x_r (16 * 3 + 0)), some (x_i a), some (x_i v1), some (x_i (x_sub (x_shl 1 (Ro2 0 2)) 1)), some (x_i (Ro2 1 (v5).toNat)), some (x_i v5)] [] (al, ro, fl (ml M [3, 26] [N, Ro2])) _ _ _ _
          cases hr11
          exact hjhr11
        · rw [if_neg hb] at hr11
          refine e_aloadn (pc := 59) (i := 0) dX8_firstFlag_59 rfl rfl ?_
          refine f_getr (pc := 60) (u := 26) (q := 0) dX8_firstFlag_60 xf8_11 (sa_26_0 hs) rfl (sr_26_0_0 hs) ?_
          refine e_iload (pc := 63) dX8_firstFlag_63 rfl ?_
          obtain ⟨hc0, hr11⟩ := x_gd_some hr11
          refine f_iald (pc := 65) (k := 1) (u := 26) (q := 1) (len := 7) dX8_firstFlag_65 (sa_26_1 hs) hc0 hn rfl rfl (by decide) ?_
          show Ev g _ _ _ _ _ _ 66 [some (x_r (16 * 26 + 0)), some (x_r (16 * 3 + 0)), some (x_i a), some (x_i v1), some (x_i (x_sub (x_shl 1 (Ro2 0 2)) 1)), some (x_i v4), some (x_i v5)] [x_i (Ro2 1 (v5).toNat)] (al, ro, fl (ml M [3, 26] [N, Ro2])) _ _ _ _
          refine e_iload (pc := 66) dX8_firstFlag_66 rfl ?_
          refine e_icmp_ge (pc := 68) (tgt := 80) dX8_firstFlag_68 (by decide) (fun hb => ?_) (fun hb => ?_)
          · rw [if_pos hb] at hr11
            cases hr11
            exact hjhr11
          · rw [if_neg hb] at hr11
            refine e_aloadn (pc := 71) (i := 0) dX8_firstFlag_71 rfl rfl ?_
            refine f_getr (pc := 72) (u := 26) (q := 0) dX8_firstFlag_72 xf8_11 (sa_26_0 hs) rfl (sr_26_0_0 hs) ?_
            refine e_iload (pc := 75) dX8_firstFlag_75 rfl ?_
            obtain ⟨hc0, hr11⟩ := x_gd_some hr11
            refine f_iald (pc := 77) (k := 1) (u := 26) (q := 1) (len := 7) dX8_firstFlag_77 (sa_26_1 hs) hc0 hn rfl rfl (by decide) ?_
            show Ev g _ _ _ _ _ _ 78 [some (x_r (16 * 26 + 0)), some (x_r (16 * 3 + 0)), some (x_i a), some (x_i v1), some (x_i (x_sub (x_shl 1 (Ro2 0 2)) 1)), some (x_i v4), some (x_i v5)] [x_i (Ro2 1 (v5).toNat)] (al, ro, fl (ml M [3, 26] [N, Ro2])) _ _ _ _
            refine e_istore (pc := 78) (i := 5) dX8_firstFlag_78 (by decide) rfl ?_
            show Ev g _ _ _ _ _ _ 80 [some (x_r (16 * 26 + 0)), some (x_r (16 * 3 + 0)), some (x_i a), some (x_i v1), some (x_i (x_sub (x_shl 1 (Ro2 0 2)) 1)), some (x_i (Ro2 1 (v5).toNat)), some (x_i v5)] [] (al, ro, fl (ml M [3, 26] [N, Ro2])) _ _ _ _
            cases hr11
            exact hjhr11
set_option maxRecDepth 100000 in
set_option maxHeartbeats 4000000 in
theorem c_X9_gatherLikes {g : xG} {al : List (Nat × Nat × Nat)} {ro : Nat → Nat → Option Nat} (hst : g.1.stackTraces = false) (hs : SH al ro) {M : Nat → xU} {N : xU} {St : xU}  {t : xU} (hG : G9_gatherLikes N St = some t) :
    Cal g yX9_gatherLikes cX9_gatherLikes 4 none 1 [x_r (16 * 23 + 0), x_r (16 * 3 + 0)] (al, ro, fl (ml M [3, 23] [N, St])) 0 0 (.inl none) (al, ro, fl (ml M [3, 23] [N, t])) := by
  have hn : ([3, 23] : List Nat).Nodup := by decide
  refine cal_of_ev (plainFor_of_name (by decide)) (x_c1 rfl) (Nat.le_of_ble_eq_true rfl) hst ?_
  show Ev g _ _ _ _ _ _ 0 [some (x_r (16 * 23 + 0)), some (x_r (16 * 3 + 0)), none, none] [] (al, ro, fl (ml M [3, 23] [N, St])) _ _ _ _
  rw [G9_gatherLikes] at hG
  refine e_iconst (pc := 0) dX9_gatherLikes_0 (x_R rfl) ?_
  refine e_istoren (pc := 1) (i := 2) dX9_gatherLikes_1 rfl (by decide) rfl ?_
  show Ev g _ _ _ _ _ _ 2 [some (x_r (16 * 23 + 0)), some (x_r (16 * 3 + 0)), some (x_i 0), none] [] (al, ro, fl (ml M [3, 23] [N, St])) _ _ _ _
  obtain ⟨St3, hl4, hG⟩ := x_bd1 hG
  have hk4 : ∀ q : xU, q = St3 → Ev g yX9_gatherLikes cX9_gatherLikes 4 none [] 1 61 [some (x_r (16 * 23 + 0)), some (x_r (16 * 3 + 0)), none, none] [] (al, ro, fl (ml M [3, 23] [N, q])) 0 0 (.inl none) (al, ro, fl (ml M [3, 23] [N, t])) := by
    intro q hq
    replace hq := hq.symm
    subst hq
    cases hG
    exact (e_return rfl dX9_gatherLikes_61)
  clear hG
  refine e_whl (G9_gatherLikes_L2 N) (fun z : (Int × xU) => Ev g yX9_gatherLikes cX9_gatherLikes 4 none [] 1 2 [some (x_r (16 * 23 + 0)), some (x_r (16 * 3 + 0)), some (x_i z.1), none] [] (al, ro, fl (ml M [3, 23] [N, z.2])) 0 0 (.inl none) (al, ro, fl (ml M [3, 23] [N, t]))) (fun q => q = St3) ?_ xFU (0, St) _ hl4 rfl
  intro z t4 hf4 hi4 hx4
  obtain ⟨v1, St2⟩ := z
  rw [G9_gatherLikes_L2] at hf4
  show Ev g _ _ _ _ _ _ 2 [some (x_r (16 * 23 + 0)), some (x_r (16 * 3 + 0)), some (x_i v1), none] [] (al, ro, fl (ml M [3, 23] [N, St2])) _ _ _ _
  refine e_iloadn (pc := 2) (i := 2) dX9_gatherLikes_2 rfl rfl ?_
  refine e_sipush (pc := 3) dX9_gatherLikes_3 (by decide +kernel) (x_R rfl) ?_
  refine e_icmp_ge (pc := 6) (tgt := 61) dX9_gatherLikes_6 (by decide) (fun hb => ?_) (fun hb => ?_)
  · rw [if_pos hb] at hf4
    cases hf4
    refine e_drop (i := 2) ?_
    have hh := hk4 _ (hx4 _ rfl)
    try dsimp only at hh
    exact hh
  · rw [if_neg hb] at hf4
    refine e_aloadn (pc := 9) (i := 0) dX9_gatherLikes_9 rfl rfl ?_
    refine f_getr (pc := 10) (u := 23) (q := 0) dX9_gatherLikes_10 xf9_9 (sa_23_0 hs) rfl (sr_23_0_0 hs) ?_
    refine e_iloadn (pc := 13) (i := 2) dX9_gatherLikes_13 rfl rfl ?_
    refine e_iconst (pc := 14) dX9_gatherLikes_14 (x_R rfl) ?_
    obtain ⟨hc0, hf4⟩ := x_gd_some hf4
    refine f_iast (pc := 15) (k := 1) (u := 23) (q := 1) (len := 128) dX9_gatherLikes_15 (sa_23_1 hs) hc0 hn rfl rfl rfl (by decide) ?_
    show Ev g _ _ _ _ _ _ 16 [some (x_r (16 * 23 + 0)), some (x_r (16 * 3 + 0)), some (x_i v1), none] [] (al, ro, fl (ml M [3, 23] [N, (x_up St2 1 (v1).toNat 0)])) _ _ _ _
    refine e_iconst (pc := 16) dX9_gatherLikes_16 (x_R rfl) ?_
    refine e_istoren (pc := 17) (i := 3) dX9_gatherLikes_17 rfl (by decide) rfl ?_
    show Ev g _ _ _ _ _ _ 18 [some (x_r (16 * 23 + 0)), some (x_r (16 * 3 + 0)), some (x_i v1), some (x_i 0)] [] (al, ro, fl (ml M [3, 23] [N, (x_up St2 1 (v1).toNat 0)])) _ _ _ _
    obtain ⟨St8, hl9, hf4⟩ := x_bd1 hf4
    have hk9 : ∀ q : xU, q = St8 → Ev g yX9_gatherLikes cX9_gatherLikes 4 none [] 1 55 [some (x_r (16 * 23 + 0)), some (x_r (16 * 3 + 0)), some (x_i v1), none] [] (al, ro, fl (ml M [3, 23] [N, q])) 0 0 (.inl none) (al, ro, fl (ml M [3, 23] [N, t])) := by
      intro q hq
      replace hq := hq.symm
      subst hq
      refine e_iinc (pc := 55) dX9_gatherLikes_55 rfl (by decide) rfl ?_
      show Ev g _ _ _ _ _ _ 58 [some (x_r (16 * 23 + 0)), some (x_r (16 * 3 + 0)), some (x_i (x_add v1 1)), none] [] (al, ro, fl (ml M [3, 23] [N, St8])) _ _ _ _
      refine e_goto (pc := 58) (tgt := 2) dX9_gatherLikes_58 (by decide) ?_
      cases hf4
      have hh := hi4 _ rfl
      try dsimp only at hh
      exact hh
    clear hf4
    refine e_whl (G9_gatherLikes_L18 N v1) (fun z : (Int × xU) => Ev g yX9_gatherLikes cX9_gatherLikes 4 none [] 1 18 [some (x_r (16 * 23 + 0)), some (x_r (16 * 3 + 0)), some (x_i v1), some (x_i z.1)] [] (al, ro, fl (ml M [3, 23] [N, z.2])) 0 0 (.inl none) (al, ro, fl (ml M [3, 23] [N, t]))) (fun q => q = St8) ?_ xFU (0, (x_up St2 1 (v1).toNat 0)) _ hl9 rfl
    intro z t9 hf9 hi9 hx9
    obtain ⟨v6, St7⟩ := z
    rw [G9_gatherLikes_L18] at hf9
    show Ev g _ _ _ _ _ _ 18 [some (x_r (16 * 23 + 0)), some (x_r (16 * 3 + 0)), some (x_i v1), some (x_i v6)] [] (al, ro, fl (ml M [3, 23] [N, St7])) _ _ _ _
    refine e_iloadn (pc := 18) (i := 3) dX9_gatherLikes_18 rfl rfl ?_
    refine e_aloadn (pc := 19) (i := 1) dX9_gatherLikes_19 rfl rfl ?_
    refine f_geti (pc := 20) (k := 0) (u := 3) (q := 0) dX9_gatherLikes_20 xf9_24 (sa_3_0 hs) rfl hn rfl rfl (by decide) ?_
    show Ev g _ _ _ _ _ _ 23 [some (x_r (16 * 23 + 0)), some (x_r (16 * 3 + 0)), some (x_i v1), some (x_i v6)] [x_i (N 0 3), x_i v6] (al, ro, fl (ml M [3, 23] [N, St7])) _ _ _ _
    refine e_icmp_ge (pc := 23) (tgt := 55) dX9_gatherLikes_23 (by decide) (fun hb => ?_) (fun hb => ?_)
    · rw [if_pos hb] at hf9
      cases hf9
      refine e_drop (i := 3) ?_
      have hh := hk9 _ (hx9 _ rfl)
      try dsimp only at hh
      exact hh
    · rw [if_neg hb] at hf9
      refine e_iloadn (pc := 26) (i := 2) dX9_gatherLikes_26 rfl rfl ?_
      refine e_iloadn (pc := 27) (i := 3) dX9_gatherLikes_27 rfl rfl ?_
      obtain ⟨v11, hq11, hf9⟩ := x_bd1 hf9
      refine e_invS (pc := 28) (K1 := 0) (S1 := 0) (K := 0) (S := 0) (dd2 := 0) (av := [x_i v1, x_i v6]) (st := []) dX9_gatherLikes_28 xmX9_30 rfl (f_cal (M := M) (us2 := []) [] hn rfl trivial rfl rfl rfl (c_X11_holdsBit hst hs   hq11)) (by decide) (Nat.le_of_ble_eq_true rfl) (Or.inl rfl) ?_
      show Ev g _ _ _ _ _ _ 31 [some (x_r (16 * 23 + 0)), some (x_r (16 * 3 + 0)), some (x_i v1), some (x_i v6)] [x_i v11] (al, ro, fl (ml M [3, 23] [N, St7])) _ _ _ _
      obtain ⟨St13, hr13, hf9⟩ := x_bd1 hf9
      have hjhr13 : Ev g yX9_gatherLikes cX9_gatherLikes 4 none [] 1 49 [some (x_r (16 * 23 + 0)), some (x_r (16 * 3 + 0)), some (x_i v1), some (x_i v6)] [] (al, ro, fl (ml M [3, 23] [N, St13])) 0 0 (.inl none) (al, ro, fl (ml M [3, 23] [N, t])) := by
        refine e_iinc (pc := 49) dX9_gatherLikes_49 rfl (by decide) rfl ?_
        show Ev g _ _ _ _ _ _ 52 [some (x_r (16 * 23 + 0)), some (x_r (16 * 3 + 0)), some (x_i v1), some (x_i (x_add v6 1))] [] (al, ro, fl (ml M [3, 23] [N, St13])) _ _ _ _
        refine e_goto (pc := 52) (tgt := 18) dX9_gatherLikes_52 (by decide) ?_
        cases hf9
        have hh := hi9 _ rfl
        try dsimp only at hh
        exact hh
      clear hf9
      refine e_if_eq (pc := 31) (tgt := 49) dX9_gatherLikes_31 (by decide) (fun hb => ?_) (fun hb => ?_)
      · rw [if_pos hb] at hr13
        cases hr13
        exact hjhr13
      · rw [if_neg hb] at hr13
        refine e_aloadn (pc := 34) (i := 0) dX9_gatherLikes_34 rfl rfl ?_
        refine f_getr (pc := 35) (u := 23) (q := 0) dX9_gatherLikes_35 xf9_9 (sa_23_0 hs) rfl (sr_23_0_0 hs) ?_
        refine e_iloadn (pc := 38) (i := 2) dX9_gatherLikes_38 rfl rfl ?_
        refine e_dup2 (pc := 39) dX9_gatherLikes_39 rfl rfl ?_
        obtain ⟨hc0, hr13⟩ := x_gd_some hr13
        refine f_iald (pc := 40) (k := 1) (u := 23) (q := 1) (len := 128) dX9_gatherLikes_40 (sa_23_1 hs) hc0 hn rfl rfl (by decide) ?_
        show Ev g _ _ _ _ _ _ 41 [some (x_r (16 * 23 + 0)), some (x_r (16 * 3 + 0)), some (x_i v1), some (x_i v6)] [x_i (St7 1 (v1).toNat), x_i v1, x_r (16 * 23 + 1)] (al, ro, fl (ml M [3, 23] [N, St7])) _ _ _ _
        refine e_aloadn (pc := 41) (i := 1) dX9_gatherLikes_41 rfl rfl ?_
        refine e_iconst (pc := 42) dX9_gatherLikes_42 (x_R rfl) ?_
        refine e_iloadn (pc := 43) (i := 3) dX9_gatherLikes_43 rfl rfl ?_
        obtain ⟨v15, hq15, hr13⟩ := x_bd1 hr13
        refine e_invV (pc := 44) (K1 := 0) (S1 := 0) (K := 0) (S := 0) (dd2 := 0) (av := [x_i 3, x_i v6]) (st := [x_i (St7 1 (v1).toNat), x_i v1, x_r (16 * 23 + 1)]) (id := 16 * 3 + 0) dX9_gatherLikes_44 xmX9_34 rfl (Or.inl ⟨1, 12, TX1, (sa_3_0 hs), rfl, by decide⟩) (f_cal (M := M) (us2 := [3]) [0] hn rfl (And.intro rfl trivial) rfl rfl rfl (c_X1_of hst hs (by decide)  hq15)) (by decide) (Nat.le_of_ble_eq_true rfl) (Or.inl rfl) ?_
        show Ev g _ _ _ _ _ _ 47 [some (x_r (16 * 23 + 0)), some (x_r (16 * 3 + 0)), some (x_i v1), some (x_i v6)] [x_i v15, x_i (St7 1 (v1).toNat), x_i v1, x_r (16 * 23 + 1)] (al, ro, fl (ml M [3, 23] [N, St7])) _ _ _ _
        refine e_ior (pc := 47) dX9_gatherLikes_47 ?_
        obtain ⟨hc0, hr13⟩ := x_gd_some hr13
        refine f_iast (pc := 48) (k := 1) (u := 23) (q := 1) (len := 128) dX9_gatherLikes_48 (sa_23_1 hs) hc0 hn rfl rfl rfl (by decide) ?_
        show Ev g _ _ _ _ _ _ 49 [some (x_r (16 * 23 + 0)), some (x_r (16 * 3 + 0)), some (x_i v1), some (x_i v6)] [] (al, ro, fl (ml M [3, 23] [N, (x_up St7 1 (v1).toNat (x_or (St7 1 (v1).toNat) v15))])) _ _ _ _
        cases hr13
        exact hjhr13
set_option maxRecDepth 100000 in
set_option maxHeartbeats 4000000 in
theorem c_X9_seatable {g : xG} {al : List (Nat × Nat × Nat)} {ro : Nat → Nat → Option Nat} (hst : g.1.stackTraces = false) (hs : SH al ro) {M : Nat → xU} {a : Int} {b : Int} {St : xU}  {t : Int} (hG : G9_seatable a b St = some t) :
    Cal g yX9_seatable cX9_seatable 6 (some .int) 1 [x_r (16 * 23 + 0), x_i a, x_i b] (al, ro, fl (ml M [23] [St])) 0 0 (.inl (some (x_i t))) (al, ro, fl (ml M [23] [St])) := by
  have hn : ([23] : List Nat).Nodup := by decide
  refine cal_of_ev (plainFor_of_name (by decide)) (x_c1 rfl) (Nat.le_of_ble_eq_true rfl) hst ?_
  show Ev g _ _ _ _ _ _ 0 [some (x_r (16 * 23 + 0)), some (x_i a), some (x_i b), none, none, none] [] (al, ro, fl (ml M [23] [St])) _ _ _ _
  rw [G9_seatable] at hG
  refine e_iloadn (pc := 0) (i := 1) dX9_seatable_0 rfl rfl ?_
  refine e_invS (pc := 1) (K1 := 0) (S1 := 0) (K := 0) (S := 0) (dd2 := 0) (av := [x_i a]) (st := []) dX9_seatable_1 xmX9_38 rfl (p_bitCount hst hs) (by decide) (Nat.le_of_ble_eq_true rfl) (Or.inl rfl) ?_
  show Ev g _ _ _ _ _ _ 4 [some (x_r (16 * 23 + 0)), some (x_i a), some (x_i b), none, none, none] [x_i (x_bc a)] (al, ro, fl (ml M [23] [St])) _ _ _ _
  refine e_istoren (pc := 4) (i := 3) dX9_seatable_4 rfl (by decide) rfl ?_
  show Ev g _ _ _ _ _ _ 5 [some (x_r (16 * 23 + 0)), some (x_i a), some (x_i b), some (x_i (x_bc a)), none, none] [] (al, ro, fl (ml M [23] [St])) _ _ _ _
  refine e_iconst (pc := 5) dX9_seatable_5 (x_R rfl) ?_
  refine e_istore (pc := 6) (i := 4) dX9_seatable_6 (by decide) rfl ?_
  show Ev g _ _ _ _ _ _ 8 [some (x_r (16 * 23 + 0)), some (x_i a), some (x_i b), some (x_i (x_bc a)), some (x_i 0), none] [] (al, ro, fl (ml M [23] [St])) _ _ _ _
  obtain ⟨v3, hl4, hG⟩ := x_bd1 hG
  have hk4 : ∀ q : Int, q = v3 → Ev g yX9_seatable cX9_seatable 6 (some .int) [] 1 68 [some (x_r (16 * 23 + 0)), some (x_i a), some (x_i b), some (x_i q), none, none] [] (al, ro, fl (ml M [23] [St])) 0 0 (.inl (some (x_i t))) (al, ro, fl (ml M [23] [St])) := by
    intro q hq
    replace hq := hq.symm
    subst hq
    refine e_iloadn (pc := 68) (i := 3) dX9_seatable_68 rfl rfl ?_
    cases hG
    exact (e_ireturn rfl dX9_seatable_69 rfl)
  clear hG
  refine e_whl (G9_seatable_L8 a b St) (fun z : (Int × Int) => Ev g yX9_seatable cX9_seatable 6 (some .int) [] 1 8 [some (x_r (16 * 23 + 0)), some (x_i a), some (x_i b), some (x_i z.1), some (x_i z.2), none] [] (al, ro, fl (ml M [23] [St])) 0 0 (.inl (some (x_i t))) (al, ro, fl (ml M [23] [St]))) (fun q => q = v3) ?_ xFU ((x_bc a), 0) _ hl4 rfl
  intro z t4 hf4 hi4 hx4
  obtain ⟨v1, v2⟩ := z
  rw [G9_seatable_L8] at hf4
  show Ev g _ _ _ _ _ _ 8 [some (x_r (16 * 23 + 0)), some (x_i a), some (x_i b), some (x_i v1), some (x_i v2), none] [] (al, ro, fl (ml M [23] [St])) _ _ _ _
  refine e_iload (pc := 8) dX9_seatable_8 rfl ?_
  refine e_iloadn (pc := 10) (i := 1) dX9_seatable_10 rfl rfl ?_
  refine e_icmp_gt (pc := 11) (tgt := 68) dX9_seatable_11 (by decide) (fun hb => ?_) (fun hb => ?_)
  · rw [if_pos hb] at hf4
    cases hf4
    refine e_drop (i := 4) ?_
    have hh := hk4 _ (hx4 _ rfl)
    try dsimp only at hh
    exact hh
  · rw [if_neg hb] at hf4
    refine e_iload (pc := 14) dX9_seatable_14 rfl ?_
    refine e_sipush (pc := 16) dX9_seatable_16 (by decide +kernel) (x_R rfl) ?_
    refine e_icmp_ge (pc := 19) (tgt := 68) dX9_seatable_19 (by decide) (fun hb => ?_) (fun hb => ?_)
    · rw [if_pos hb] at hf4
      cases hf4
      refine e_drop (i := 4) ?_
      have hh := hk4 _ (hx4 _ rfl)
      try dsimp only at hh
      exact hh
    · rw [if_neg hb] at hf4
      refine e_iload (pc := 22) dX9_seatable_22 rfl ?_
      refine e_iloadn (pc := 24) (i := 1) dX9_seatable_24 rfl rfl ?_
      refine e_iconst (pc := 25) dX9_seatable_25 (x_R rfl) ?_
      refine e_ixor (pc := 26) dX9_seatable_26 ?_
      refine e_iand (pc := 27) dX9_seatable_27 ?_
      obtain ⟨v6, hr6, hf4⟩ := x_bd1 hf4
      have hjhr6 : Ev g yX9_seatable cX9_seatable 6 (some .int) [] 1 62 [some (x_r (16 * 23 + 0)), some (x_i a), some (x_i b), some (x_i v6), some (x_i v2), none] [] (al, ro, fl (ml M [23] [St])) 0 0 (.inl (some (x_i t))) (al, ro, fl (ml M [23] [St])) := by
        refine e_iinc (pc := 62) dX9_seatable_62 rfl (by decide) rfl ?_
        show Ev g _ _ _ _ _ _ 65 [some (x_r (16 * 23 + 0)), some (x_i a), some (x_i b), some (x_i v6), some (x_i (x_add v2 1)), none] [] (al, ro, fl (ml M [23] [St])) _ _ _ _
        refine e_goto (pc := 65) (tgt := 8) dX9_seatable_65 (by decide) ?_
        cases hf4
        have hh := hi4 _ rfl
        try dsimp only at hh
        exact hh
      clear hf4
      refine e_if_ne (pc := 28) (tgt := 62) dX9_seatable_28 (by decide) (fun hb => ?_) (fun hb => ?_)
      · rw [if_neg hb] at hr6
        cases hr6
        exact hjhr6
      · rw [if_pos hb] at hr6
        refine e_iloadn (pc := 31) (i := 1) dX9_seatable_31 rfl rfl ?_
        refine e_iload (pc := 32) dX9_seatable_32 rfl ?_
        refine e_iconst (pc := 34) dX9_seatable_34 (x_R rfl) ?_
        refine e_ixor (pc := 35) dX9_seatable_35 ?_
        refine e_iand (pc := 36) dX9_seatable_36 ?_
        refine e_invS (pc := 37) (K1 := 0) (S1 := 0) (K := 0) (S := 0) (dd2 := 0) (av := [x_i (x_and a (x_xor v2 (-1)))]) (st := []) dX9_seatable_37 xmX9_38 rfl (p_bitCount hst hs) (by decide) (Nat.le_of_ble_eq_true rfl) (Or.inl rfl) ?_
        show Ev g _ _ _ _ _ _ 40 [some (x_r (16 * 23 + 0)), some (x_i a), some (x_i b), some (x_i v1), some (x_i v2), none] [x_i (x_bc (x_and a (x_xor v2 (-1))))] (al, ro, fl (ml M [23] [St])) _ _ _ _
        refine e_aloadn (pc := 40) (i := 0) dX9_seatable_40 rfl rfl ?_
        refine f_getr (pc := 41) (u := 23) (q := 0) dX9_seatable_41 xf9_9 (sa_23_0 hs) rfl (sr_23_0_0 hs) ?_
        refine e_iload (pc := 44) dX9_seatable_44 rfl ?_
        obtain ⟨hc0, hr6⟩ := x_gd_some hr6
        refine f_iald (pc := 46) (k := 0) (u := 23) (q := 1) (len := 128) dX9_seatable_46 (sa_23_1 hs) hc0 hn rfl rfl (by decide) ?_
        show Ev g _ _ _ _ _ _ 47 [some (x_r (16 * 23 + 0)), some (x_i a), some (x_i b), some (x_i v1), some (x_i v2), none] [x_i (St 1 (v2).toNat), x_i (x_bc (x_and a (x_xor v2 (-1))))] (al, ro, fl (ml M [23] [St])) _ _ _ _
        refine e_iloadn (pc := 47) (i := 2) dX9_seatable_47 rfl rfl ?_
        refine e_iand (pc := 48) dX9_seatable_48 ?_
        refine e_invS (pc := 49) (K1 := 0) (S1 := 0) (K := 0) (S := 0) (dd2 := 0) (av := [x_i (x_and (St 1 (v2).toNat) b)]) (st := [x_i (x_bc (x_and a (x_xor v2 (-1))))]) dX9_seatable_49 xmX9_38 rfl (p_bitCount hst hs) (by decide) (Nat.le_of_ble_eq_true rfl) (Or.inl rfl) ?_
        show Ev g _ _ _ _ _ _ 52 [some (x_r (16 * 23 + 0)), some (x_i a), some (x_i b), some (x_i v1), some (x_i v2), none] [x_i (x_bc (x_and (St 1 (v2).toNat) b)), x_i (x_bc (x_and a (x_xor v2 (-1))))] (al, ro, fl (ml M [23] [St])) _ _ _ _
        refine e_iadd (pc := 52) dX9_seatable_52 ?_
        refine e_istore (pc := 53) (i := 5) dX9_seatable_53 (by decide) rfl ?_
        show Ev g _ _ _ _ _ _ 55 [some (x_r (16 * 23 + 0)), some (x_i a), some (x_i b), some (x_i v1), some (x_i v2), some (x_i (x_add (x_bc (x_and a (x_xor v2 (-1)))) (x_bc (x_and (St 1 (v2).toNat) b))))] [] (al, ro, fl (ml M [23] [St])) _ _ _ _
        refine e_iloadn (pc := 55) (i := 3) dX9_seatable_55 rfl rfl ?_
        refine e_iload (pc := 56) dX9_seatable_56 rfl ?_
        refine e_invS (pc := 58) (K1 := 0) (S1 := 0) (K := 0) (S := 0) (dd2 := 0) (av := [x_i v1, x_i (x_add (x_bc (x_and a (x_xor v2 (-1)))) (x_bc (x_and (St 1 (v2).toNat) b)))]) (st := []) dX9_seatable_58 xmX9_44 rfl (p_min hst hs) (by decide) (Nat.le_of_ble_eq_true rfl) (Or.inl rfl) ?_
        show Ev g _ _ _ _ _ _ 61 [some (x_r (16 * 23 + 0)), some (x_i a), some (x_i b), some (x_i v1), some (x_i v2), some (x_i (x_add (x_bc (x_and a (x_xor v2 (-1)))) (x_bc (x_and (St 1 (v2).toNat) b))))] [x_i (min v1 (x_add (x_bc (x_and a (x_xor v2 (-1)))) (x_bc (x_and (St 1 (v2).toNat) b))))] (al, ro, fl (ml M [23] [St])) _ _ _ _
        refine e_istoren (pc := 61) (i := 3) dX9_seatable_61 rfl (by decide) rfl ?_
        show Ev g _ _ _ _ _ _ 62 [some (x_r (16 * 23 + 0)), some (x_i a), some (x_i b), some (x_i (min v1 (x_add (x_bc (x_and a (x_xor v2 (-1)))) (x_bc (x_and (St 1 (v2).toNat) b))))), some (x_i v2), some (x_i (x_add (x_bc (x_and a (x_xor v2 (-1)))) (x_bc (x_and (St 1 (v2).toNat) b))))] [] (al, ro, fl (ml M [23] [St])) _ _ _ _
        cases hr6
        refine e_drop (i := 5) ?_
        exact hjhr6
set_option maxRecDepth 100000 in
set_option maxHeartbeats 4000000 in
theorem c_X9_mostSeated {g : xG} {al : List (Nat × Nat × Nat)} {ro : Nat → Nat → Option Nat} (hst : g.1.stackTraces = false) (hs : SH al ro) {M : Nat → xU} {N : xU} {St : xU}  {t : (Int × xU)} (hG : G9_mostSeated N St = some t) :
    Cal g yX9_mostSeated cX9_mostSeated 2 (some .int) 2 [x_r (16 * 23 + 0), x_r (16 * 3 + 0)] (al, ro, fl (ml M [3, 23] [N, St])) 0 0 (.inl (some (x_i t.1))) (al, ro, fl (ml M [3, 23] [N, t.2])) := by
  have hn : ([3, 23] : List Nat).Nodup := by decide
  refine cal_of_ev (plainFor_of_name (by decide)) (x_c1 rfl) (Nat.le_of_ble_eq_true rfl) hst ?_
  show Ev g _ _ _ _ _ _ 0 [some (x_r (16 * 23 + 0)), some (x_r (16 * 3 + 0))] [] (al, ro, fl (ml M [3, 23] [N, St])) _ _ _ _
  rw [G9_mostSeated] at hG
  refine e_aloadn (pc := 0) (i := 0) dX9_mostSeated_0 rfl rfl ?_
  refine e_aloadn (pc := 1) (i := 1) dX9_mostSeated_1 rfl rfl ?_
  obtain ⟨St1, hq1, hG⟩ := x_bd1 hG
  refine e_invV (pc := 2) (K1 := 0) (S1 := 0) (K := 0) (S := 0) (dd2 := 1) (av := [x_r (16 * 3 + 0)]) (st := []) (id := 16 * 23 + 0) dX9_mostSeated_2 xmX9_49 rfl (Or.inl ⟨7, 4, TX9, (sa_23_0 hs), rfl, by decide⟩) (f_cal (M := M) (us2 := [3, 23]) [0, 1] hn rfl (And.intro rfl (And.intro rfl trivial)) rfl rfl rfl (c_X9_gatherLikes hst hs   hq1)) (by decide) (Nat.le_of_ble_eq_true rfl) (Or.inl rfl) ?_
  show Ev g _ _ _ _ _ _ 5 [some (x_r (16 * 23 + 0)), some (x_r (16 * 3 + 0))] [] (al, ro, fl (ml M [3, 23] [N, St1])) _ _ _ _
  refine e_aloadn (pc := 5) (i := 0) dX9_mostSeated_5 rfl rfl ?_
  refine e_iconst (pc := 6) dX9_mostSeated_6 (x_R rfl) ?_
  refine e_aloadn (pc := 7) (i := 1) dX9_mostSeated_7 rfl rfl ?_
  refine f_geti (pc := 8) (k := 0) (u := 3) (q := 0) dX9_mostSeated_8 xf9_24 (sa_3_0 hs) rfl hn rfl rfl (by decide) ?_
  show Ev g _ _ _ _ _ _ 11 [some (x_r (16 * 23 + 0)), some (x_r (16 * 3 + 0))] [x_i (N 0 3), x_i 1, x_r (16 * 23 + 0)] (al, ro, fl (ml M [3, 23] [N, St1])) _ _ _ _
  refine e_ishl (pc := 11) dX9_mostSeated_11 ?_
  refine e_iconst (pc := 12) dX9_mostSeated_12 (x_R rfl) ?_
  refine e_isub (pc := 13) dX9_mostSeated_13 ?_
  refine e_sipush (pc := 14) dX9_mostSeated_14 (by decide +kernel) (x_R rfl) ?_
  obtain ⟨v3, hq3, hG⟩ := x_bd1 hG
  refine e_invV (pc := 17) (K1 := 0) (S1 := 0) (K := 0) (S := 0) (dd2 := 1) (av := [x_i (x_sub (x_shl 1 (N 0 3)) 1), x_i 4095]) (st := []) (id := 16 * 23 + 0) dX9_mostSeated_17 xmX9_53 rfl (Or.inl ⟨7, 4, TX9, (sa_23_0 hs), rfl, by decide⟩) (f_cal (M := M) (us2 := [23]) [1] hn rfl (And.intro rfl trivial) rfl rfl rfl (c_X9_seatable hst hs   hq3)) (by decide) (Nat.le_of_ble_eq_true rfl) (Or.inl rfl) ?_
  show Ev g _ _ _ _ _ _ 20 [some (x_r (16 * 23 + 0)), some (x_r (16 * 3 + 0))] [x_i v3] (al, ro, fl (ml M [3, 23] [N, St1])) _ _ _ _
  cases hG
  exact (e_ireturn rfl dX9_mostSeated_20 rfl)
