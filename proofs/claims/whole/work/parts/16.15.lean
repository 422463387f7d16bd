set_option maxRecDepth 100000 in
set_option maxHeartbeats 4000000 in
theorem c_X8_firstFlag {g : xG} {al : List (Nat × Nat × Nat)} {ro : Nat → Nat → Option Nat} (hst : g.1.stackTraces = false) (hs : SH al ro) {M : Nat → xU} {a : Int} {N : xU} {Ro : xU}  {t : (Int × xU)} (hG : G8_firstFlag a N Ro = some t) :
    Cal g yX8_firstFlag cX8_firstFlag 7 (some .int) 6 [x_r (16 * 26 + 0), x_r (16 * 3 + 0), x_i a] (al, ro, fl (ml M [3, 26] [N, Ro])) 0 0 (.inl (some (x_i t.1))) (al, ro, fl (ml M [3, 26] [N, t.2])) := by
  have hn : ([3, 26] : List Nat).Nodup := by decide
  refine cal_of_ev (plainFor_of_name (by decide)) (x_c1 rfl) (Nat.le_of_ble_eq_true rfl) hst ?_
  show Ev g _ _ _ _ _ _ 0 [some (x_r (16 * 26 + 0)), some (x_r (16 * 3 + 0)), some (x_i a), none, none, none, none] [] (al, ro, fl (ml M [3, 26] [N, Ro])) _ _ _ _
  rw [G8_firstFlag] at hG
  refine e_aloadn (pc := 0) (i := 0) dX8_firstFlag_0 rfl rfl ?_
  refine e_aloadn (pc := 1) (i := 1) dX8_firstFlag_1 rfl rfl ?_
  refine e_iloadn (pc := 2) (i := 2) dX8_firstFlag_2 rfl rfl ?_
  obtain ⟨v1, Ro2, hq2, hG⟩ := x_bd2 hG
  refine e_invV (pc := 3) (K1 := 0) (S1 := 0) (K := 0) (S := 0) (dd2 := 5) (av := [x_r (16 * 3 + 0), x_i a]) (st := []) (id := 16 * 26 + 0) dX8_firstFlag_3 xmX8_37 rfl (Or.inl ⟨6, 3, TX8, (sa_26_0 hs), rfl, by decide⟩) (f_cal (M := M) (us2 := [3, 26]) [0, 1] hn rfl (And.intro rfl (And.intro rfl trivial)) rfl rfl rfl (c_X8_leastWay hst hs   hq2)) (by decide) (Nat.le_of_ble_eq_true rfl) (Or.inl rfl) ?_
  show Ev g _ _ _ _ _ _ 6 [some (x_r (16 * 26 + 0)), some (x_r (16 * 3 + 0)), some (x_i a), none, none, none, none] [x_i v1] (al, ro, fl (ml M [3, 26] [N, Ro2])) _ _ _ _
  refine e_istoren (pc := 6) (i := 3) dX8_firstFlag_6 rfl (by decide) rfl ?_
  show Ev g _ _ _ _ _ _ 7 [some (x_r (16 * 26 + 0)), some (x_r (16 * 3 + 0)), some (x_i a), some (x_i v1), none, none, none] [] (al, ro, fl (ml M [3, 26] [N, Ro2])) _ _ _ _
  refine e_iconst (pc := 7) dX8_firstFlag_7 (x_R rfl) ?_
  refine e_aloadn (pc := 8) (i := 0) dX8_firstFlag_8 rfl rfl ?_
  refine f_geti (pc := 9) (k := 1) (u := 26) (q := 0) dX8_firstFlag_9 xf8_18 (sa_26_0 hs) rfl hn rfl rfl (by decide) ?_
  show Ev g _ _ _ _ _ _ 12 [some (x_r (16 * 26 + 0)), some (x_r (16 * 3 + 0)), some (x_i a), some (x_i v1), none, none, none] [x_i (Ro2 0 2), x_i 1] (al, ro, fl (ml M [3, 26] [N, Ro2])) _ _ _ _
  refine e_ishl (pc := 12) dX8_firstFlag_12 ?_
  refine e_iconst (pc := 13) dX8_firstFlag_13 (x_R rfl) ?_
  refine e_isub (pc := 14) dX8_firstFlag_14 ?_
  refine e_istore (pc := 15) (i := 4) dX8_firstFlag_15 (by decide) rfl ?_
  show Ev g _ _ _ _ _ _ 17 [some (x_r (16 * 26 + 0)), some (x_r (16 * 3 + 0)), some (x_i a), some (x_i v1), some (x_i (x_sub (x_shl 1 (Ro2 0 2)) 1)), none, none] [] (al, ro, fl (ml M [3, 26] [N, Ro2])) _ _ _ _
  refine e_iconst (pc := 17) dX8_firstFlag_17 (x_R rfl) ?_
  refine e_istore (pc := 18) (i := 5) dX8_firstFlag_18 (by decide) rfl ?_
  show Ev g _ _ _ _ _ _ 20 [some (x_r (16 * 26 + 0)), some (x_r (16 * 3 + 0)), some (x_i a), some (x_i v1), some (x_i (x_sub (x_shl 1 (Ro2 0 2)) 1)), some (x_i (-1)), none] [] (al, ro, fl (ml M [3, 26] [N, Ro2])) _ _ _ _
  refine e_iconst (pc := 20) dX8_firstFlag_20 (x_R rfl) ?_
  refine e_istore (pc := 21) (i := 6) dX8_firstFlag_21 (by decide) rfl ?_
  show Ev g _ _ _ _ _ _ 23 [some (x_r (16 * 26 + 0)), some (x_r (16 * 3 + 0)), some (x_i a), some (x_i v1), some (x_i (x_sub (x_shl 1 (Ro2 0 2)) 1)), some (x_i (-1)), some (x_i 0)] [] (al, ro, fl (ml M [3, 26] [N, Ro2])) _ _ _ _
  obtain ⟨v6, hl7, hG⟩ := x_bd1 hG
  have hk7 : ∀ q : Int, q = v6 → Ev g yX8_firstFlag cX8_firstFlag 7 (some .int) [] 6 86 [some (x_r (16 * 26 + 0)), some (x_r (16 * 3 + 0)), some (x_i a), some (x_i v1), some (x_i (x_sub (x_shl 1 (Ro2 0 2)) 1)), some (x_i q), none] [] (al, ro, fl (ml M [3, 26] [N, Ro2])) 0 0 (.inl (some (x_i t.1))) (al, ro, fl (ml M [3, 26] [N, t.2])) := by
    intro q hq
    replace hq := hq.symm
    subst hq
    refine e_iload (pc := 86) dX8_firstFlag_86 rfl ?_
    cases hG
    exact (e_ireturn rfl dX8_firstFlag_88 rfl)
  clear hG
  refine e_whl (G8_firstFlag_L23 a N v1 Ro2) (fun z : (Int × Int) => Ev g yX8_firstFlag cX8_firstFlag 7 (some .int) [] 6 23 [some (x_r (16 * 26 + 0)), some (x_r (16 * 3 + 0)), some (x_i a), some (x_i v1), some (x_i (x_sub (x_shl 1 (Ro2 0 2)) 1)), some (x_i z.1), some (x_i z.2)] [] (al, ro, fl (ml M [3, 26] [N, Ro2])) 0 0 (.inl (some (x_i t.1))) (al, ro, fl (ml M [3, 26] [N, t.2]))) (fun q => q = v6) ?_ xFU ((-1), 0) _ hl7 rfl
  intro z t7 hf7 hi7 hx7
  obtain ⟨v4, v5⟩ := z
  rw [G8_firstFlag_L23] at hf7
  show Ev g _ _ _ _ _ _ 23 [some (x_r (16 * 26 + 0)), some (x_r (16 * 3 + 0)), some (x_i a), some (x_i v1), some (x_i (x_sub (x_shl 1 (Ro2 0 2)) 1)), some (x_i v4), some (x_i v5)] [] (al, ro, fl (ml M [3, 26] [N, Ro2])) _ _ _ _
  refine e_iload (pc := 23) dX8_firstFlag_23 rfl ?_
  refine e_aloadn (pc := 25) (i := 0) dX8_firstFlag_25 rfl rfl ?_
  refine f_geti (pc := 26) (k := 1) (u := 26) (q := 0) dX8_firstFlag_26 xf8_18 (sa_26_0 hs) rfl hn rfl rfl (by decide) ?_
  show Ev g _ _ _ _ _ _ 29 [some (x_r (16 * 26 + 0)), some (x_r (16 * 3 + 0)), some (x_i a), some (x_i v1), some (x_i (x_sub (x_shl 1 (Ro2 0 2)) 1)), some (x_i v4), some (x_i v5)] [x_i (Ro2 0 2), x_i v5] (al, ro, fl (ml M [3, 26] [N, Ro2])) _ _ _ _
  refine e_icmp_ge (pc := 29) (tgt := 86) dX8_firstFlag_29 (by decide) (fun hb => ?_) (fun hb => ?_)
  · rw [if_pos hb] at hf7
    cases hf7
    refine e_drop (i := 6) ?_
    exact hk7 _ (hx7 _ rfl)
  · rw [if_neg hb] at hf7
    refine e_iload (pc := 32) dX8_firstFlag_32 rfl ?_
    refine e_bipush (pc := 34) dX8_firstFlag_34 (by decide +kernel) (x_R rfl) ?_
    refine e_icmp_ge (pc := 36) (tgt := 86) dX8_firstFlag_36 (by decide) (fun hb => ?_) (fun hb => ?_)
    · rw [if_pos hb] at hf7
      cases hf7
      refine e_drop (i := 6) ?_
      exact hk7 _ (hx7 _ rfl)
    · rw [if_neg hb] at hf7
      refine e_aloadn (pc := 39) (i := 0) dX8_firstFlag_39 rfl rfl ?_
      refine e_aloadn (pc := 40) (i := 1) dX8_firstFlag_40 rfl rfl ?_
      refine e_iloadn (pc := 41) (i := 2) dX8_firstFlag_41 rfl rfl ?_
      refine e_iload (pc := 42) dX8_firstFlag_42 rfl ?_
      refine e_iload (pc := 44) dX8_firstFlag_44 rfl ?_
      obtain ⟨v9, hq9, hf7⟩ := x_bd1 hf7
      refine e_invV (pc := 46) (K1 := 0) (S1 := 0) (K := 0) (S := 0) (dd2 := 3) (av := [x_r (16 * 3 + 0), x_i a, x_i v5, x_i (x_sub (x_shl 1 (Ro2 0 2)) 1)]) (st := []) (id := 16 * 26 + 0) dX8_firstFlag_46 xmX8_41 rfl (Or.inl ⟨6, 3, TX8, (sa_26_0 hs), rfl, by decide⟩) (f_cal (M := M) (us2 := [3, 26]) [0, 1] hn rfl (And.intro rfl (And.intro rfl trivial)) rfl rfl rfl (c_X8_wayBy hst hs   hq9)) (by decide) (Nat.le_of_ble_eq_true rfl) (Or.inl rfl) ?_
      show Ev g _ _ _ _ _ _ 49 [some (x_r (16 * 26 + 0)), some (x_r (16 * 3 + 0)), some (x_i a), some (x_i v1), some (x_i (x_sub (x_shl 1 (Ro2 0 2)) 1)), some (x_i v4), some (x_i v5)] [x_i v9] (al, ro, fl (ml M [3, 26] [N, Ro2])) _ _ _ _
      refine e_iloadn (pc := 49) (i := 3) dX8_firstFlag_49 rfl rfl ?_
      obtain ⟨v11, hr11, hf7⟩ := x_bd1 hf7
      have hjhr11 : Ev g yX8_firstFlag cX8_firstFlag 7 (some .int) [] 6 80 [some (x_r (16 * 26 + 0)), some (x_r (16 * 3 + 0)), some (x_i a), some (x_i v1), some (x_i (x_sub (x_shl 1 (Ro2 0 2)) 1)), some (x_i v11), some (x_i v5)] [] (al, ro, fl (ml M [3, 26] [N, Ro2])) 0 0 (.inl (some (x_i t.1))) (al, ro, fl (ml M [3, 26] [N, t.2])) := by
        refine e_iinc (pc := 80) dX8_firstFlag_80 rfl (by decide) rfl ?_
        show Ev g _ _ _ _ _ _ 83 [some (x_r (16 * 26 + 0)), some (x_r (16 * 3 + 0)), some (x_i a), some (x_i v1), some (x_i (x_sub (x_shl 1 (Ro2 0 2)) 1)), some (x_i v11), some (x_i (x_add v5 1))] [] (al, ro, fl (ml M [3, 26] [N, Ro2])) _ _ _ _
        refine e_goto (pc := 83) (tgt := 23) dX8_firstFlag_83 (by decide) ?_
        cases hf7
        exact hi7 _ rfl
      clear hf7
      refine e_icmp_ne (pc := 50) (tgt := 80) dX8_firstFlag_50 (by decide) (fun hb => ?_) (fun hb => ?_)
      · rw [if_neg hb] at hr11
        cases hr11
        exact hjhr11
      · rw [if_pos hb] at hr11
        refine e_iload (pc := 53) dX8_firstFlag_53 rfl ?_
        refine e_iconst (pc := 55) dX8_firstFlag_55 (x_R rfl) ?_
        refine e_icmp_eq (pc := 56) (tgt := 71) dX8_firstFlag_56 (by decide) (fun hb => ?_) (fun hb => ?_)
        · rw [if_pos hb] at hr11
          refine e_aloadn (pc := 71) (i := 0) dX8_firstFlag_71 rfl rfl ?_
          refine f_getr (pc := 72) (u := 26) (q := 0) dX8_firstFlag_72 xf8_11 (sa_26_0 hs) rfl (sr_26_0_0 hs) ?_
          refine e_iload (pc := 75) dX8_firstFlag_75 rfl ?_
          obtain ⟨hc0, hr11⟩ := x_gd_some hr11
          refine f_iald (pc := 77) (k := 1) (u := 26) (q := 1) (len := 7) dX8_firstFlag_77 (sa_26_1 hs) hc0 hn rfl rfl (by decide) ?_
          show Ev g _ _ _ _ _ _ 78 [some (x_r (16 * 26 + 0)), some (x_r (16 * 3 + 0)), some (x_i a), some (x_i v1), some (x_i (x_sub (x_shl 1 (Ro2 0 2)) 1)), some (x_i v4), some (x_i v5)] [x_i (Ro2 1 (v5).toNat)] (al, ro, fl (ml M [3, 26] [N, Ro2])) _ _ _ _
          refine e_istore (pc := 78) (i := 5) dX8_firstFlag_78 (by decide) rfl ?_
          show Ev g _ _ _ _ _ _ 80 [some (x_r (16 * 26 + 0)), some (x_r (16 * 3 + 0)), some (x_i a), some (x_i v1), some (x_i (x_sub (x_shl 1 (Ro2 0 2)) 1)), some (x_i (Ro2 1 (v5).toNat)), some (x_i v5)] [] (al, ro, fl (ml M [3, 26] [N, Ro2])) _ _ _ _
          cases hr11
          exact hjhr11
        · rw [if_neg hb] at hr11
          refine e_aloadn (pc := 59) (i := 0) dX8_firstFlag_59 rfl rfl ?_
          refine f_getr (pc := 60) (u := 26) (q := 0) dX8_firstFlag_60 xf8_11 (sa_26_0 hs) rfl (sr_26_0_0 hs) ?_
          refine e_iload (pc := 63) dX8_firstFlag_63 rfl ?_
          obtain ⟨hc0, hr11⟩ := x_gd_some hr11
          refine f_iald (pc := 65) (k := 1) (u := 26) (q := 1) (len := 7) dX8_firstFlag_65 (sa_26_1 hs) hc0 hn rfl rfl (by decide) ?_
          show Ev g _ _ _ _ _ _ 66 [some (x_r (16 * 26 + 0)), some (x_r (16 * 3 + 0)), some (x_i a), some (x_i v1), some (x_i (x_sub (x_shl 1 (Ro2 0 2)) 1)), some (x_i v4), some (x_i v5)] [x_i (Ro2 1 (v5).toNat)] (al, ro, fl (ml M [3, 26] [N, Ro2])) _ _ _ _
          refine e_iload (pc := 66) dX8_firstFlag_66 rfl ?_
          refine e_icmp_ge (pc := 68) (tgt := 80) dX8_firstFlag_68 (by decide) (fun hb => ?_) (fun hb => ?_)
          · rw [if_pos hb] at hr11
            cases hr11
            exact hjhr11
          · rw [if_neg hb] at hr11
            refine e_aloadn (pc := 71) (i := 0) dX8_firstFlag_71 rfl rfl ?_
            refine f_getr (pc := 72) (u := 26) (q := 0) dX8_firstFlag_72 xf8_11 (sa_26_0 hs) rfl (sr_26_0_0 hs) ?_
            refine e_iload (pc := 75) dX8_firstFlag_75 rfl ?_
            obtain ⟨hc0, hr11⟩ := x_gd_some hr11
            refine f_iald (pc := 77) (k := 1) (u := 26) (q := 1) (len := 7) dX8_firstFlag_77 (sa_26_1 hs) hc0 hn rfl rfl (by decide) ?_
            show Ev g _ _ _ _ _ _ 78 [some (x_r (16 * 26 + 0)), some (x_r (16 * 3 + 0)), some (x_i a), some (x_i v1), some (x_i (x_sub (x_shl 1 (Ro2 0 2)) 1)), some (x_i v4), some (x_i v5)] [x_i (Ro2 1 (v5).toNat)] (al, ro, fl (ml M [3, 26] [N, Ro2])) _ _ _ _
            refine e_istore (pc := 78) (i := 5) dX8_firstFlag_78 (by decide) rfl ?_
            show Ev g _ _ _ _ _ _ 80 [some (x_r (16 * 26 + 0)), some (x_r (16 * 3 + 0)), some (x_i a), some (x_i v1), some (x_i (x_sub (x_shl 1 (Ro2 0 2)) 1)), some (x_i (Ro2 1 (v5).toNat)), some (x_i v5)] [] (al, ro, fl (ml M [3, 26] [N, Ro2])) _ _ _ _
            cases hr11
            exact hjhr11
set_option maxRecDepth 100000 in
set_option maxHeartbeats 4000000 in
theorem c_X9_gatherLikes {g : xG} {al : List (Nat × Nat × Nat)} {ro : Nat → Nat → Option Nat} (hst : g.1.stackTraces = false) (hs : SH al ro) {M : Nat → xU} {N : xU} {St : xU}  {t : xU} (hG : G9_gatherLikes N St = some t) :
    Cal g yX9_gatherLikes cX9_gatherLikes 4 none 1 [x_r (16 * 23 + 0), x_r (16 * 3 + 0)] (al, ro, fl (ml M [3, 23] [N, St])) 0 0 (.inl none) (al, ro, fl (ml M [3, 23] [N, t])) := by
  have hn : ([3, 23] : List Nat).Nodup := by decide
  refine cal_of_ev (plainFor_of_name (by decide)) (x_c1 rfl) (Nat.le_of_ble_eq_true rfl) hst ?_
  show Ev g _ _ _ _ _ _ 0 [some (x_r (16 * 23 + 0)), some (x_r (16 * 3 + 0)), none, none] [] (al, ro, fl (ml M [3, 23] [N, St])) _ _ _ _
  rw [G9_gatherLikes] at hG
  refine e_iconst (pc := 0) dX9_gatherLikes_0 (x_R rfl) ?_
  refine e_istoren (pc := 1) (i := 2) dX9_gatherLikes_1 rfl (by decide) rfl ?_
  show Ev g _ _ _ _ _ _ 2 [some (x_r (16 * 23 + 0)), some (x_r (16 * 3 + 0)), some (x_i 0), none] [] (al, ro, fl (ml M [3, 23] [N, St])) _ _ _ _
  obtain ⟨St3, hl4, hG⟩ := x_bd1 hG
  have hk4 : ∀ q : xU, q = St3 → Ev g yX9_gatherLikes cX9_gatherLikes 4 none [] 1 61 [some (x_r (16 * 23 + 0)), some (x_r (16 * 3 + 0)), none, none] [] (al, ro, fl (ml M [3, 23] [N, q])) 0 0 (.inl none) (al, ro, fl (ml M [3, 23] [N, t])) := by
    intro q hq
    replace hq := hq.symm
    subst hq
    cases hG
    exact (e_return rfl dX9_gatherLikes_61)
  clear hG
  refine e_whl (G9_gatherLikes_L2 N) (fun z : (Int × xU) => Ev g yX9_gatherLikes cX9_gatherLikes 4 none [] 1 2 [some (x_r (16 * 23 + 0)), some (x_r (16 * 3 + 0)), some (x_i z.1), none] [] (al, ro, fl (ml M [3, 23] [N, z.2])) 0 0 (.inl none) (al, ro, fl (ml M [3, 23] [N, t]))) (fun q => q = St3) ?_ xFU (0, St) _ hl4 rfl
  intro z t4 hf4 hi4 hx4
  obtain ⟨v1, St2⟩ := z
  rw [G9_gatherLikes_L2] at hf4
  show Ev g _ _ _ _ _ _ 2 [some (x_r (16 * 23 + 0)), some (x_r (16 * 3 + 0)), some (x_i v1), none] [] (al, ro, fl (ml M [3, 23] [N, St2])) _ _ _ _
  refine e_iloadn (pc := 2) (i := 2) dX9_gatherLikes_2 rfl rfl ?_
  refine e_sipush (pc := 3) dX9_gatherLikes_3 (by decide +kernel) (x_R rfl) ?_
  refine e_icmp_ge (pc := 6) (tgt := 61) dX9_gatherLikes_6 (by decide) (fun hb => ?_) (fun hb => ?_)
  · rw [if_pos hb] at hf4
    cases hf4
    refine e_drop (i := 2) ?_
    exact hk4 _ (hx4 _ rfl)
  · rw [if_neg hb] at hf4
    refine e_aloadn (pc := 9) (i := 0) dX9_gatherLikes_9 rfl rfl ?_
    refine f_getr (pc := 10) (u := 23) (q := 0) dX9_gatherLikes_10 xf9_9 (sa_23_0 hs) rfl (sr_23_0_0 hs) ?_
    refine e_iloadn (pc := 13) (i := 2) dX9_gatherLikes_13 rfl rfl ?_
    refine e_iconst (pc := 14) dX9_gatherLikes_14 (x_R rfl) ?_
    obtain ⟨hc0, hf4⟩ := x_gd_some hf4
    refine f_iast (pc := 15) (k := 1) (u := 23) (q := 1) (len := 128) dX9_gatherLikes_15 (sa_23_1 hs) hc0 hn rfl rfl rfl (by decide) ?_
    show Ev g _ _ _ _ _ _ 16 [some (x_r (16 * 23 + 0)), some (x_r (16 * 3 + 0)), some (x_i v1), none] [] (al, ro, fl (ml M [3, 23] [N, (x_up St2 1 (v1).toNat 0)])) _ _ _ _
    refine e_iconst (pc := 16) dX9_gatherLikes_16 (x_R rfl) ?_
    refine e_istoren (pc := 17) (i := 3) dX9_gatherLikes_17 rfl (by decide) rfl ?_
    show Ev g _ _ _ _ _ _ 18 [some (x_r (16 * 23 + 0)), some (x_r (16 * 3 + 0)), some (x_i v1), some (x_i 0)] [] (al, ro, fl (ml M [3, 23] [N, (x_up St2 1 (v1).toNat 0)])) _ _ _ _
    obtain ⟨St8, hl9, hf4⟩ := x_bd1 hf4
    have hk9 : ∀ q : xU, q = St8 → Ev g yX9_gatherLikes cX9_gatherLikes 4 none [] 1 55 [some (x_r (16 * 23 + 0)), some (x_r (16 * 3 + 0)), some (x_i v1), none] [] (al, ro, fl (ml M [3, 23] [N, q])) 0 0 (.inl none) (al, ro, fl (ml M [3, 23] [N, t])) := by
      intro q hq
      replace hq := hq.symm
      subst hq
      refine e_iinc (pc := 55) dX9_gatherLikes_55 rfl (by decide) rfl ?_
      show Ev g _ _ _ _ _ _ 58 [some (x_r (16 * 23 + 0)), some (x_r (16 * 3 + 0)), some (x_i (x_add v1 1)), none] [] (al, ro, fl (ml M [3, 23] [N, St8])) _ _ _ _
      refine e_goto (pc := 58) (tgt := 2) dX9_gatherLikes_58 (by decide) ?_
      cases hf4
      exact hi4 _ rfl
    clear hf4
    refine e_whl (G9_gatherLikes_L18 N v1) (fun z : (Int × xU) => Ev g yX9_gatherLikes cX9_gatherLikes 4 none [] 1 18 [some (x_r (16 * 23 + 0)), some (x_r (16 * 3 + 0)), some (x_i v1), some (x_i z.1)] [] (al, ro, fl (ml M [3, 23] [N, z.2])) 0 0 (.inl none) (al, ro, fl (ml M [3, 23] [N, t]))) (fun q => q = St8) ?_ xFU (0, (x_up St2 1 (v1).toNat 0)) _ hl9 rfl
    intro z t9 hf9 hi9 hx9
    obtain ⟨v6, St7⟩ := z
    rw [G9_gatherLikes_L18] at hf9
    show Ev g _ _ _ _ _ _ 18 [some (x_r (16 * 23 + 0)), some (x_r (16 * 3 + 0)), some (x_i v1), some (x_i v6)] [] (al, ro, fl (ml M [3, 23] [N, St7])) _ _ _ _
    refine e_iloadn (pc := 18) (i := 3) dX9_gatherLikes_18 rfl rfl ?_
    refine e_aloadn (pc := 19) (i := 1) dX9_gatherLikes_19 rfl rfl ?_
    refine f_geti (pc := 20) (k := 0) (u := 3) (q := 0) dX9_gatherLikes_20 xf9_24 (sa_3_0 hs) rfl hn rfl rfl (by decide) ?_
    show Ev g _ _ _ _ _ _ 23 [some (x_r (16 * 23 + 0)), some (x_r (16 * 3 + 0)), some (x_i v1), some (x_i v6)] [x_i (N 0 3), x_i v6] (al, ro, fl (ml M [3, 23] [N, St7])) _ _ _ _
    refine e_icmp_ge (pc := 23) (tgt := 55) dX9_gatherLikes_23 (by decide) (fun hb => ?_) (fun hb => ?_)
    · rw [if_pos hb] at hf9
      cases hf9
      refine e_drop (i := 3) ?_
      exact hk9 _ (hx9 _ rfl)
    · rw [if_neg hb] at hf9
      refine e_iloadn (pc := 26) (i := 2) dX9_gatherLikes_26 rfl rfl ?_
      refine e_iloadn (pc := 27) (i := 3) dX9_gatherLikes_27 rfl rfl ?_
      obtain ⟨v11, hq11, hf9⟩ := x_bd1 hf9
      refine e_invS (pc := 28) (K1 := 0) (S1 := 0) (K := 0) (S := 0) (dd2 := 0) (av := [x_i v1, x_i v6]) (st := []) dX9_gatherLikes_28 xmX9_30 rfl (f_cal (M := M) (us2 := []) [] hn rfl trivial rfl rfl rfl (c_X11_holdsBit hst hs   hq11)) (by decide) (Nat.le_of_ble_eq_true rfl) (Or.inl rfl) ?_
      show Ev g _ _ _ _ _ _ 31 [some (x_r (16 * 23 + 0)), some (x_r (16 * 3 + 0)), some (x_i v1), some (x_i v6)] [x_i v11] (al, ro, fl (ml M [3, 23] [N, St7])) _ _ _ _
      obtain ⟨St13, hr13, hf9⟩ := x_bd1 hf9
      have hjhr13 : Ev g yX9_gatherLikes cX9_gatherLikes 4 none [] 1 49 [some (x_r (16 * 23 + 0)), some (x_r (16 * 3 + 0)), some (x_i v1), some (x_i v6)] [] (al, ro, fl (ml M [3, 23] [N, St13])) 0 0 (.inl none) (al, ro, fl (ml M [3, 23] [N, t])) := by
        refine e_iinc (pc := 49) dX9_gatherLikes_49 rfl (by decide) rfl ?_
        show Ev g _ _ _ _ _ _ 52 [some (x_r (16 * 23 + 0)), some (x_r (16 * 3 + 0)), some (x_i v1), some (x_i (x_add v6 1))] [] (al, ro, fl (ml M [3, 23] [N, St13])) _ _ _ _
        refine e_goto (pc := 52) (tgt := 18) dX9_gatherLikes_52 (by decide) ?_
        cases hf9
        exact hi9 _ rfl
      clear hf9
      refine e_if_eq (pc := 31) (tgt := 49) dX9_gatherLikes_31 (by decide) (fun hb => ?_) (fun hb => ?_)
      · rw [if_pos hb] at hr13
        cases hr13
        exact hjhr13
      · rw [if_neg hb] at hr13
        refine e_aloadn (pc := 34) (i := 0) dX9_gatherLikes_34 rfl rfl ?_
        refine f_getr (pc := 35) (u := 23) (q := 0) dX9_gatherLikes_35 xf9_9 (sa_23_0 hs) rfl (sr_23_0_0 hs) ?_
        refine e_iloadn (pc := 38) (i := 2) dX9_gatherLikes_38 rfl rfl ?_
        refine e_dup2 (pc := 39) dX9_gatherLikes_39 rfl rfl ?_
        obtain ⟨hc0, hr13⟩ := x_gd_some hr13
        refine f_iald (pc := 40) (k := 1) (u := 23) (q := 1) (len := 128) dX9_gatherLikes_40 (sa_23_1 hs) hc0 hn rfl rfl (by decide) ?_
        show Ev g _ _ _ _ _ _ 41 [some (x_r (16 * 23 + 0)), some (x_r (16 * 3 + 0)), some (x_i v1), some (x_i v6)] [x_i (St7 1 (v1).toNat), x_i v1, x_r (16 * 23 + 1)] (al, ro, fl (ml M [3, 23] [N, St7])) _ _ _ _
        refine e_aloadn (pc := 41) (i := 1) dX9_gatherLikes_41 rfl rfl ?_
        refine e_iconst (pc := 42) dX9_gatherLikes_42 (x_R rfl) ?_
        refine e_iloadn (pc := 43) (i := 3) dX9_gatherLikes_43 rfl rfl ?_
        obtain ⟨v15, hq15, hr13⟩ := x_bd1 hr13
        refine e_invV (pc := 44) (K1 := 0) (S1 := 0) (K := 0) (S := 0) (dd2 := 0) (av := [x_i 3, x_i v6]) (st := [x_i (St7 1 (v1).toNat), x_i v1, x_r (16 * 23 + 1)]) (id := 16 * 3 + 0) dX9_gatherLikes_44 xmX9_34 rfl (Or.inl ⟨1, 12, TX1, (sa_3_0 hs), rfl, by decide⟩) (f_cal (M := M) (us2 := [3]) [0] hn rfl (And.intro rfl trivial) rfl rfl rfl (c_X1_of hst hs (by decide)  hq15)) (by decide) (Nat.le_of_ble_eq_true rfl) (Or.inl rfl) ?_
        show Ev g _ _ _ _ _ _ 47 [some (x_r (16 * 23 + 0)), some (x_r (16 * 3 + 0)), some (x_i v1), some (x_i v6)] [x_i v15, x_i (St7 1 (v1).toNat), x_i v1, x_r (16 * 23 + 1)] (al, ro, fl (ml M [3, 23] [N, St7])) _ _ _ _
        refine e_ior (pc := 47) dX9_gatherLikes_47 ?_
        obtain ⟨hc0, hr13⟩ := x_gd_some hr13
        refine f_iast (pc := 48) (k := 1) (u := 23) (q := 1) (len := 128) dX9_gatherLikes_48 (sa_23_1 hs) hc0 hn rfl rfl rfl (by decide) ?_
        show Ev g _ _ _ _ _ _ 49 [some (x_r (16 * 23 + 0)), some (x_r (16 * 3 + 0)), some (x_i v1), some (x_i v6)] [] (al, ro, fl (ml M [3, 23] [N, (x_up St7 1 (v1).toNat (x_or (St7 1 (v1).toNat) v15))])) _ _ _ _
        cases hr13
        exact hjhr13
set_option maxRecDepth 100000 in
set_option maxHeartbeats 4000000 in
theorem c_X9_seatable {g : xG} {al : List (Nat × Nat × Nat)} {ro : Nat → Nat → Option Nat} (hst : g.1.stackTraces = false) (hs : SH al ro) {M : Nat → xU} {a : Int} {b : Int} {St : xU}  {t : Int} (hG : G9_seatable a b St = some t) :
    Cal g yX9_seatable cX9_seatable 6 (some .int) 1 [x_r (16 * 23 + 0), x_i a, x_i b] (al, ro, fl (ml M [23] [St])) 0 0 (.inl (some (x_i t))) (al, ro, fl (ml M [23] [St])) := by
  have hn : ([23] : List Nat).Nodup := by decide
  refine cal_of_ev (plainFor_of_name (by decide)) (x_c1 rfl) (Nat.le_of_ble_eq_true rfl) hst ?_
  show Ev g _ _ _ _ _ _ 0 [some (x_r (16 * 23 + 0)), some (x_i a), some (x_i b), none, none, none] [] (al, ro, fl (ml M [23] [St])) _ _ _ _
  rw [G9_seatable] at hG
  refine e_iloadn (pc := 0) (i := 1) dX9_seatable_0 rfl rfl ?_
  refine e_invS (pc := 1) (K1 := 0) (S1 := 0) (K := 0) (S := 0) (dd2 := 0) (av := [x_i a]) (st := []) dX9_seatable_1 xmX9_38 rfl (p_bitCount hst hs) (by decide) (Nat.le_of_ble_eq_true rfl) (Or.inl rfl) ?_
  show Ev g _ _ _ _ _ _ 4 [some (x_r (16 * 23 + 0)), some (x_i a), some (x_i b), none, none, none] [x_i (x_bc a)] (al, ro, fl (ml M [23] [St])) _ _ _ _
  refine e_istoren (pc := 4) (i := 3) dX9_seatable_4 rfl (by decide) rfl ?_
  show Ev g _ _ _ _ _ _ 5 [some (x_r (16 * 23 + 0)), some (x_i a), some (x_i b), some (x_i (x_bc a)), none, none] [] (al, ro, fl (ml M [23] [St])) _ _ _ _
  refine e_iconst (pc := 5) dX9_seatable_5 (x_R rfl) ?_
  refine e_istore (pc := 6) (i := 4) dX9_seatable_6 (by decide) rfl ?_
  show Ev g _ _ _ _ _ _ 8 [some (x_r (16 * 23 + 0)), some (x_i a), some (x_i b), some (x_i (x_bc a)), some (x_i 0), none] [] (al, ro, fl (ml M [23] [St])) _ _ _ _
  obtain ⟨v3, hl4, hG⟩ := x_bd1 hG
  have hk4 : ∀ q : Int, q = v3 → Ev g yX9_seatable cX9_seatable 6 (some .int) [] 1 68 [some (x_r (16 * 23 + 0)), some (x_i a), some (x_i b), some (x_i q), none, none] [] (al, ro, fl (ml M [23] [St])) 0 0 (.inl (some (x_i t))) (al, ro, fl (ml M [23] [St])) := by
    intro q hq
    replace hq := hq.symm
    subst hq
    refine e_iloadn (pc := 68) (i := 3) dX9_seatable_68 rfl rfl ?_
    cases hG
    exact (e_ireturn rfl dX9_seatable_69 rfl)
  clear hG
  refine e_whl (G9_seatable_L8 a b St) (fun z : (Int × Int) => Ev g yX9_seatable cX9_seatable 6 (some .int) [] 1 8 [some (x_r (16 * 23 + 0)), some (x_i a), some (x_i b), some (x_i z.1), some (x_i z.2), none] [] (al, ro, fl (ml M [23] [St])) 0 0 (.inl (some (x_i t))) (al, ro, fl (ml M [23] [St]))) (fun q => q = v3) ?_ xFU ((x_bc a), 0) _ hl4 rfl
  intro z t4 hf4 hi4 hx4
  obtain ⟨v1, v2⟩ := z
  rw [G9_seatable_L8] at hf4
  show Ev g _ _ _ _ _ _ 8 [some (x_r (16 * 23 + 0)), some (x_i a), some (x_i b), some (x_i v1), some (x_i v2), none] [] (al, ro, fl (ml M [23] [St])) _ _ _ _
  refine e_iload (pc := 8) dX9_seatable_8 rfl ?_
  refine e_iloadn (pc := 10) (i := 1) dX9_seatable_10 rfl rfl ?_
  refine e_icmp_gt (pc := 11) (tgt := 68) dX9_seatable_11 (by decide) (fun hb => ?_) (fun hb => ?_)
  · rw [if_pos hb] at hf4
    cases hf4
    refine e_drop (i := 4) ?_
    exact hk4 _ (hx4 _ rfl)
  · rw [if_neg hb] at hf4
    refine e_iload (pc := 14) dX9_seatable_14 rfl ?_
    refine e_sipush (pc := 16) dX9_seatable_16 (by decide +kernel) (x_R rfl) ?_
    refine e_icmp_ge (pc := 19) (tgt := 68) dX9_seatable_19 (by decide) (fun hb => ?_) (fun hb => ?_)
    · rw [if_pos hb] at hf4
      cases hf4
      refine e_drop (i := 4) ?_
      exact hk4 _ (hx4 _ rfl)
    · rw [if_neg hb] at hf4
      refine e_iload (pc := 22) dX9_seatable_22 rfl ?_
      refine e_iloadn (pc := 24) (i := 1) dX9_seatable_24 rfl rfl ?_
      refine e_iconst (pc := 25) dX9_seatable_25 (x_R rfl) ?_
      refine e_ixor (pc := 26) dX9_seatable_26 ?_
      refine e_iand (pc := 27) dX9_seatable_27 ?_
      obtain ⟨v6, hr6, hf4⟩ := x_bd1 hf4
      have hjhr6 : Ev g yX9_seatable cX9_seatable 6 (some .int) [] 1 62 [some (x_r (16 * 23 + 0)), some (x_i a), some (x_i b), some (x_i v6), some (x_i v2), none] [] (al, ro, fl (ml M [23] [St])) 0 0 (.inl (some (x_i t))) (al, ro, fl (ml M [23] [St])) := by
        refine e_iinc (pc := 62) dX9_seatable_62 rfl (by decide) rfl ?_
        show Ev g _ _ _ _ _ _ 65 [some (x_r (16 * 23 + 0)), some (x_i a), some (x_i b), some (x_i v6), some (x_i (x_add v2 1)), none] [] (al, ro, fl (ml M [23] [St])) _ _ _ _
        refine e_goto (pc := 65) (tgt := 8) dX9_seatable_65 (by decide) ?_
        cases hf4
        exact hi4 _ rfl
      clear hf4
      refine e_if_ne (pc := 28) (tgt := 62) dX9_seatable_28 (by decide) (fun hb => ?_) (fun hb => ?_)
      · rw [if_neg hb] at hr6
        cases hr6
        exact hjhr6
      · rw [if_pos hb] at hr6
        refine e_iloadn (pc := 31) (i := 1) dX9_seatable_31 rfl rfl ?_
        refine e_iload (pc := 32) dX9_seatable_32 rfl ?_
        refine e_iconst (pc := 34) dX9_seatable_34 (x_R rfl) ?_
        refine e_ixor (pc := 35) dX9_seatable_35 ?_
        refine e_iand (pc := 36) dX9_seatable_36 ?_
        refine e_invS (pc := 37) (K1 := 0) (S1 := 0) (K := 0) (S := 0) (dd2 := 0) (av := [x_i (x_and a (x_xor v2 (-1)))]) (st := []) dX9_seatable_37 xmX9_38 rfl (p_bitCount hst hs) (by decide) (Nat.le_of_ble_eq_true rfl) (Or.inl rfl) ?_
        show Ev g _ _ _ _ _ _ 40 [some (x_r (16 * 23 + 0)), some (x_i a), some (x_i b), some (x_i v1), some (x_i v2), none] [x_i (x_bc (x_and a (x_xor v2 (-1))))] (al, ro, fl (ml M [23] [St])) _ _ _ _
        refine e_aloadn (pc := 40) (i := 0) dX9_seatable_40 rfl rfl ?_
        refine f_getr (pc := 41) (u := 23) (q := 0) dX9_seatable_41 xf9_9 (sa_23_0 hs) rfl (sr_23_0_0 hs) ?_
        refine e_iload (pc := 44) dX9_seatable_44 rfl ?_
        obtain ⟨hc0, hr6⟩ := x_gd_some hr6
        refine f_iald (pc := 46) (k := 0) (u := 23) (q := 1) (len := 128) dX9_seatable_46 (sa_23_1 hs) hc0 hn rfl rfl (by decide) ?_
        show Ev g _ _ _ _ _ _ 47 [some (x_r (16 * 23 + 0)), some (x_i a), some (x_i b), some (x_i v1), some (x_i v2), none] [x_i (St 1 (v2).toNat), x_i (x_bc (x_and a (x_xor v2 (-1))))] (al, ro, fl (ml M [23] [St])) _ _ _ _
        refine e_iloadn (pc := 47) (i := 2) dX9_seatable_47 rfl rfl ?_
        refine e_iand (pc := 48) dX9_seatable_48 ?_
        refine e_invS (pc := 49) (K1 := 0) (S1 := 0) (K := 0) (S := 0) (dd2 := 0) (av := [x_i (x_and (St 1 (v2).toNat) b)]) (st := [x_i (x_bc (x_and a (x_xor v2 (-1))))]) dX9_seatable_49 xmX9_38 rfl (p_bitCount hst hs) (by decide) (Nat.le_of_ble_eq_true rfl) (Or.inl rfl) ?_
        show Ev g _ _ _ _ _ _ 52 [some (x_r (16 * 23 + 0)), some (x_i a), some (x_i b), some (x_i v1), some (x_i v2), none] [x_i (x_bc (x_and (St 1 (v2).toNat) b)), x_i (x_bc (x_and a (x_xor v2 (-1))))] (al, ro, fl (ml M [23] [St])) _ _ _ _
        refine e_iadd (pc := 52) dX9_seatable_52 ?_
        refine e_istore (pc := 53) (i := 5) dX9_seatable_53 (by decide) rfl ?_
        show Ev g _ _ _ _ _ _ 55 [some (x_r (16 * 23 + 0)), some (x_i a), some (x_i b), some (x_i v1), some (x_i v2), some (x_i (x_add (x_bc (x_and a (x_xor v2 (-1)))) (x_bc (x_and (St 1 (v2).toNat) b))))] [] (al, ro, fl (ml M [23] [St])) _ _ _ _
        refine e_iloadn (pc := 55) (i := 3) dX9_seatable_55 rfl rfl ?_
        refine e_iload (pc := 56) dX9_seatable_56 rfl ?_
        refine e_invS (pc := 58) (K1 := 0) (S1 := 0) (K := 0) (S := 0) (dd2 := 0) (av := [x_i v1, x_i (x_add (x_bc (x_and a (x_xor v2 (-1)))) (x_bc (x_and (St 1 (v2).toNat) b)))]) (st := []) dX9_seatable_58 xmX9_44 rfl (p_min hst hs) (by decide) (Nat.le_of_ble_eq_true rfl) (Or.inl rfl) ?_
        show Ev g _ _ _ _ _ _ 61 [some (x_r (16 * 23 + 0)), some (x_i a), some (x_i b), some (x_i v1), some (x_i v2), some (x_i (x_add (x_bc (x_and a (x_xor v2 (-1)))) (x_bc (x_and (St 1 (v2).toNat) b))))] [x_i (min v1 (x_add (x_bc (x_and a (x_xor v2 (-1)))) (x_bc (x_and (St 1 (v2).toNat) b))))] (al, ro, fl (ml M [23] [St])) _ _ _ _
        refine e_istoren (pc := 61) (i := 3) dX9_seatable_61 rfl (by decide) rfl ?_
        show Ev g _ _ _ _ _ _ 62 [some (x_r (16 * 23 + 0)), some (x_i a), some (x_i b), some (x_i (min v1 (x_add (x_bc (x_and a (x_xor v2 (-1)))) (x_bc (x_and (St 1 (v2).toNat) b))))), some (x_i v2), some (x_i (x_add (x_bc (x_and a (x_xor v2 (-1)))) (x_bc (x_and (St 1 (v2).toNat) b))))] [] (al, ro, fl (ml M [23] [St])) _ _ _ _
        cases hr6
        refine e_drop (i := 5) ?_
        exact hjhr6
set_option maxRecDepth 100000 in
set_option maxHeartbeats 4000000 in
theorem c_X9_mostSeated {g : xG} {al : List (Nat × Nat × Nat)} {ro : Nat → Nat → Option Nat} (hst : g.1.stackTraces = false) (hs : SH al ro) {M : Nat → xU} {N : xU} {St : xU}  {t : (Int × xU)} (hG : G9_mostSeated N St = some t) :
    Cal g yX9_mostSeated cX9_mostSeated 2 (some .int) 2 [x_r (16 * 23 + 0), x_r (16 * 3 + 0)] (al, ro, fl (ml M [3, 23] [N, St])) 0 0 (.inl (some (x_i t.1))) (al, ro, fl (ml M [3, 23] [N, t.2])) := by
  have hn : ([3, 23] : List Nat).Nodup := by decide
  refine cal_of_ev (plainFor_of_name (by decide)) (x_c1 rfl) (Nat.le_of_ble_eq_true rfl) hst ?_
  show Ev g _ _ _ _ _ _ 0 [some (x_r (16 * 23 + 0)), some (x_r (16 * 3 + 0))] [] (al, ro, fl (ml M [3, 23] [N, St])) _ _ _ _
  rw [G9_mostSeated] at hG
  refine e_aloadn (pc := 0) (i := 0) dX9_mostSeated_0 rfl rfl ?_
  refine e_aloadn (pc := 1) (i := 1) dX9_mostSeated_1 rfl rfl ?_
  obtain ⟨St1, hq1, hG⟩ := x_bd1 hG
  refine e_invV (pc := 2) (K1 := 0) (S1 := 0) (K := 0) (S := 0) (dd2 := 1) (av := [x_r (16 * 3 + 0)]) (st := []) (id := 16 * 23 + 0) dX9_mostSeated_2 xmX9_49 rfl (Or.inl ⟨7, 4, TX9, (sa_23_0 hs), rfl, by decide⟩) (f_cal (M := M) (us2 := [3, 23]) [0, 1] hn rfl (And.intro rfl (And.intro rfl trivial)) rfl rfl rfl (c_X9_gatherLikes hst hs   hq1)) (by decide) (Nat.le_of_ble_eq_true rfl) (Or.inl rfl) ?_
  show Ev g _ _ _ _ _ _ 5 [some (x_r (16 * 23 + 0)), some (x_r (16 * 3 + 0))] [] (al, ro, fl (ml M [3, 23] [N, St1])) _ _ _ _
  refine e_aloadn (pc := 5) (i := 0) dX9_mostSeated_5 rfl rfl ?_
  refine e_iconst (pc := 6) dX9_mostSeated_6 (x_R rfl) ?_
  refine e_aloadn (pc := 7) (i := 1) dX9_mostSeated_7 rfl rfl ?_
  refine f_geti (pc := 8) (k := 0) (u := 3) (q := 0) dX9_mostSeated_8 xf9_24 (sa_3_0 hs) rfl hn rfl rfl (by decide) ?_
  show Ev g _ _ _ _ _ _ 11 [some (x_r (16 * 23 + 0)), some (x_r (16 * 3 + 0))] [x_i (N 0 3), x_i 1, x_r (16 * 23 + 0)] (al, ro, fl (ml M [3, 23] [N, St1])) _ _ _ _
  refine e_ishl (pc := 11) dX9_mostSeated_11 ?_
  refine e_iconst (pc := 12) dX9_mostSeated_12 (x_R rfl) ?_
  refine e_isub (pc := 13) dX9_mostSeated_13 ?_
  refine e_sipush (pc := 14) dX9_mostSeated_14 (by decide +kernel) (x_R rfl) ?_
  obtain ⟨v3, hq3, hG⟩ := x_bd1 hG
  refine e_invV (pc := 17) (K1 := 0) (S1 := 0) (K := 0) (S := 0) (dd2 := 1) (av := [x_i (x_sub (x_shl 1 (N 0 3)) 1), x_i 4095]) (st := []) (id := 16 * 23 + 0) dX9_mostSeated_17 xmX9_53 rfl (Or.inl ⟨7, 4, TX9, (sa_23_0 hs), rfl, by decide⟩) (f_cal (M := M) (us2 := [23]) [1] hn rfl (And.intro rfl trivial) rfl rfl rfl (c_X9_seatable hst hs   hq3)) (by decide) (Nat.le_of_ble_eq_true rfl) (Or.inl rfl) ?_
  show Ev g _ _ _ _ _ _ 20 [some (x_r (16 * 23 + 0)), some (x_r (16 * 3 + 0))] [x_i v3] (al, ro, fl (ml M [3, 23] [N, St1])) _ _ _ _
  cases hG
  exact (e_ireturn rfl dX9_mostSeated_20 rfl)
set_option maxRecDepth 100000 in
set_option maxHeartbeats 4000000 in
theorem c_X9_firstSeat {g : xG} {al : List (Nat × Nat × Nat)} {ro : Nat → Nat → Option Nat} (hst : g.1.stackTraces = false) (hs : SH al ro) {M : Nat → xU} {a : Int} {b : Int} {c : Int} {d : Int} {St : xU}  {t : Int} (hG : G9_firstSeat a b c d St = some t) :
    Cal g yX9_firstSeat cX9_firstSeat 6 (some .int) 2 [x_r (16 * 23 + 0), x_i a, x_i b, x_i c, x_i d] (al, ro, fl (ml M [23] [St])) 0 0 (.inl (some (x_i t))) (al, ro, fl (ml M [23] [St])) := by
  have hn : ([23] : List Nat).Nodup := by decide
  refine cal_of_ev (plainFor_of_name (by decide)) (x_c1 rfl) (Nat.le_of_ble_eq_true rfl) hst ?_
  show Ev g _ _ _ _ _ _ 0 [some (x_r (16 * 23 + 0)), some (x_i a), some (x_i b), some (x_i c), some (x_i d), none] [] (al, ro, fl (ml M [23] [St])) _ _ _ _
  rw [G9_firstSeat] at hG
  refine e_iconst (pc := 0) dX9_firstSeat_0 (x_R rfl) ?_
  refine e_istore (pc := 1) (i := 5) dX9_firstSeat_1 (by decide) rfl ?_
  show Ev g _ _ _ _ _ _ 3 [some (x_r (16 * 23 + 0)), some (x_i a), some (x_i b), some (x_i c), some (x_i d), some (x_i 0)] [] (al, ro, fl (ml M [23] [St])) _ _ _ _
  obtain ⟨r2, hl2, hG⟩ := x_lrd hG
  have hk2 : ∀ q : Unit, r2 = .inl q → Ev g yX9_firstSeat cX9_firstSeat 6 (some .int) [] 2 48 [some (x_r (16 * 23 + 0)), some (x_i a), some (x_i b), some (x_i c), some (x_i d), none] [] (al, ro, fl (ml M [23] [St])) 0 0 (.inl (some (x_i t))) (al, ro, fl (ml M [23] [St])) := by
    intro q hq
    subst hq
    replace hG := x_lr_l hG
    replace hG := x_ed1 hG
    refine e_iconst (pc := 48) dX9_firstSeat_48 (x_R rfl) ?_
    cases hG
    exact (e_ireturn rfl dX9_firstSeat_49 rfl)
  have hv2 : ∀ q : Int, r2 = .inr q → some q = some t := by
    intro q hq
    subst hq
    exact x_lr_r hG
  clear hG
  refine e_whl (G9_firstSeat_L3 a b c d St) (fun z : Int => Ev g yX9_firstSeat cX9_firstSeat 6 (some .int) [] 2 3 [some (x_r (16 * 23 + 0)), some (x_i a), some (x_i b), some (x_i c), some (x_i d), some (x_i z)] [] (al, ro, fl (ml M [23] [St])) 0 0 (.inl (some (x_i t))) (al, ro, fl (ml M [23] [St]))) (fun q => q = r2) ?_ xFU 0 _ hl2 rfl
  intro z t2 hf2 hi2 hx2
  obtain ⟨v1, hzz⟩ : ∃ y, y = z := ⟨z, rfl⟩
  subst hzz
  rw [G9_firstSeat_L3] at hf2
  show Ev g _ _ _ _ _ _ 3 [some (x_r (16 * 23 + 0)), some (x_i a), some (x_i b), some (x_i c), some (x_i d), some (x_i v1)] [] (al, ro, fl (ml M [23] [St])) _ _ _ _
  refine e_iload (pc := 3) dX9_firstSeat_3 rfl ?_
  refine e_bipush (pc := 5) dX9_firstSeat_5 (by decide +kernel) (x_R rfl) ?_
  refine e_icmp_ge (pc := 7) (tgt := 48) dX9_firstSeat_7 (by decide) (fun hb => ?_) (fun hb => ?_)
  · rw [if_pos hb] at hf2
    cases hf2
    refine e_drop (i := 5) ?_
    exact hk2 _ (hx2 _ rfl).symm
  · rw [if_neg hb] at hf2
    refine e_iloadn (pc := 10) (i := 1) dX9_firstSeat_10 rfl rfl ?_
    refine e_iload (pc := 11) dX9_firstSeat_11 rfl ?_
    obtain ⟨v4, hq4, hf2⟩ := x_bd1 hf2
    refine e_invS (pc := 13) (K1 := 0) (S1 := 0) (K := 0) (S := 0) (dd2 := 0) (av := [x_i a, x_i v1]) (st := []) dX9_firstSeat_13 xmX9_30 rfl (f_cal (M := M) (us2 := []) [] hn rfl trivial rfl rfl rfl (c_X11_holdsBit hst hs   hq4)) (by decide) (Nat.le_of_ble_eq_true rfl) (Or.inl rfl) ?_
    show Ev g _ _ _ _ _ _ 16 [some (x_r (16 * 23 + 0)), some (x_i a), some (x_i b), some (x_i c), some (x_i d), some (x_i v1)] [x_i v4] (al, ro, fl (ml M [23] [St])) _ _ _ _
    refine e_if_eq (pc := 16) (tgt := 42) dX9_firstSeat_16 (by decide) (fun hb => ?_) (fun hb => ?_)
    · rw [if_pos hb] at hf2
      refine e_iinc (pc := 42) dX9_firstSeat_42 rfl (by decide) rfl ?_
      show Ev g _ _ _ _ _ _ 45 [some (x_r (16 * 23 + 0)), some (x_i a), some (x_i b), some (x_i c), some (x_i d), some (x_i (x_add v1 1))] [] (al, ro, fl (ml M [23] [St])) _ _ _ _
      refine e_goto (pc := 45) (tgt := 3) dX9_firstSeat_45 (by decide) ?_
      cases hf2
      exact hi2 _ rfl
    · rw [if_neg hb] at hf2
      refine e_iconst (pc := 19) dX9_firstSeat_19 (x_R rfl) ?_
      refine e_aloadn (pc := 20) (i := 0) dX9_firstSeat_20 rfl rfl ?_
      refine e_iloadn (pc := 21) (i := 2) dX9_firstSeat_21 rfl rfl ?_
      refine e_iloadn (pc := 22) (i := 3) dX9_firstSeat_22 rfl rfl ?_
      refine e_iconst (pc := 23) dX9_firstSeat_23 (x_R rfl) ?_
      refine e_iload (pc := 24) dX9_firstSeat_24 rfl ?_
      refine e_ishl (pc := 26) dX9_firstSeat_26 ?_
      refine e_iconst (pc := 27) dX9_firstSeat_27 (x_R rfl) ?_
      refine e_ixor (pc := 28) dX9_firstSeat_28 ?_
      refine e_iand (pc := 29) dX9_firstSeat_29 ?_
      obtain ⟨v6, hq6, hf2⟩ := x_bd1 hf2
      refine e_invV (pc := 30) (K1 := 0) (S1 := 0) (K := 0) (S := 0) (dd2 := 1) (av := [x_i b, x_i (x_and c (x_xor (x_shl 1 v1) (-1)))]) (st := [x_i 1]) (id := 16 * 23 + 0) dX9_firstSeat_30 xmX9_53 rfl (Or.inl ⟨7, 4, TX9, (sa_23_0 hs), rfl, by decide⟩) (f_cal (M := M) (us2 := [23]) [0] hn rfl (And.intro rfl trivial) rfl rfl rfl (c_X9_seatable hst hs   hq6)) (by decide) (Nat.le_of_ble_eq_true rfl) (Or.inl rfl) ?_
      show Ev g _ _ _ _ _ _ 33 [some (x_r (16 * 23 + 0)), some (x_i a), some (x_i b), some (x_i c), some (x_i d), some (x_i v1)] [x_i v6, x_i 1] (al, ro, fl (ml M [23] [St])) _ _ _ _
      refine e_iadd (pc := 33) dX9_firstSeat_33 ?_
      refine e_iload (pc := 34) dX9_firstSeat_34 rfl ?_
      refine e_icmp_ne (pc := 36) (tgt := 42) dX9_firstSeat_36 (by decide) (fun hb => ?_) (fun hb => ?_)
      · rw [if_neg hb] at hf2
        refine e_iinc (pc := 42) dX9_firstSeat_42 rfl (by decide) rfl ?_
        show Ev g _ _ _ _ _ _ 45 [some (x_r (16 * 23 + 0)), some (x_i a), some (x_i b), some (x_i c), some (x_i d), some (x_i (x_add v1 1))] [] (al, ro, fl (ml M [23] [St])) _ _ _ _
        refine e_goto (pc := 45) (tgt := 3) dX9_firstSeat_45 (by decide) ?_
        cases hf2
        exact hi2 _ rfl
      · rw [if_pos hb] at hf2
        refine e_iload (pc := 39) dX9_firstSeat_39 rfl ?_
        cases hf2
        have hz := hv2 _ (hx2 _ rfl).symm
        cases hz
        exact (e_ireturn rfl dX9_firstSeat_41 rfl)
set_option maxRecDepth 100000 in
set_option maxHeartbeats 4000000 in
theorem c_X9_seatOf {g : xG} {al : List (Nat × Nat × Nat)} {ro : Nat → Nat → Option Nat} (hst : g.1.stackTraces = false) (hs : SH al ro) {M : Nat → xU} {a : Int} {N : xU} {St : xU}  {t : (Int × xU)} (hG : G9_seatOf a N St = some t) :
    Cal g yX9_seatOf cX9_seatOf 8 (some .int) 3 [x_r (16 * 23 + 0), x_r (16 * 3 + 0), x_i a] (al, ro, fl (ml M [3, 23] [N, St])) 0 0 (.inl (some (x_i t.1))) (al, ro, fl (ml M [3, 23] [N, t.2])) := by
  have hn : ([3, 23] : List Nat).Nodup := by decide
  refine cal_of_ev (plainFor_of_name (by decide)) (x_c1 rfl) (Nat.le_of_ble_eq_true rfl) hst ?_
  show Ev g _ _ _ _ _ _ 0 [some (x_r (16 * 23 + 0)), some (x_r (16 * 3 + 0)), some (x_i a), none, none, none, none, none] [] (al, ro, fl (ml M [3, 23] [N, St])) _ _ _ _
  rw [G9_seatOf] at hG
  refine e_sipush (pc := 0) dX9_seatOf_0 (by decide +kernel) (x_R rfl) ?_
  refine e_istoren (pc := 3) (i := 3) dX9_seatOf_3 rfl (by decide) rfl ?_
  show Ev g _ _ _ _ _ _ 4 [some (x_r (16 * 23 + 0)), some (x_r (16 * 3 + 0)), some (x_i a), some (x_i 4095), none, none, none, none] [] (al, ro, fl (ml M [3, 23] [N, St])) _ _ _ _
  refine e_aloadn (pc := 4) (i := 0) dX9_seatOf_4 rfl rfl ?_
  refine e_aloadn (pc := 5) (i := 1) dX9_seatOf_5 rfl rfl ?_
  obtain ⟨v1, St2, hq2, hG⟩ := x_bd2 hG
  refine e_invV (pc := 6) (K1 := 0) (S1 := 0) (K := 0) (S := 0) (dd2 := 2) (av := [x_r (16 * 3 + 0)]) (st := []) (id := 16 * 23 + 0) dX9_seatOf_6 xmX9_56 rfl (Or.inl ⟨7, 4, TX9, (sa_23_0 hs), rfl, by decide⟩) (f_cal (M := M) (us2 := [3, 23]) [0, 1] hn rfl (And.intro rfl (And.intro rfl trivial)) rfl rfl rfl (c_X9_mostSeated hst hs   hq2)) (by decide) (Nat.le_of_ble_eq_true rfl) (Or.inl rfl) ?_
  show Ev g _ _ _ _ _ _ 9 [some (x_r (16 * 23 + 0)), some (x_r (16 * 3 + 0)), some (x_i a), some (x_i 4095), none, none, none, none] [x_i v1] (al, ro, fl (ml M [3, 23] [N, St2])) _ _ _ _
  refine e_istore (pc := 9) (i := 4) dX9_seatOf_9 (by decide) rfl ?_
  show Ev g _ _ _ _ _ _ 11 [some (x_r (16 * 23 + 0)), some (x_r (16 * 3 + 0)), some (x_i a), some (x_i 4095), some (x_i v1), none, none, none] [] (al, ro, fl (ml M [3, 23] [N, St2])) _ _ _ _
  refine e_iconst (pc := 11) dX9_seatOf_11 (x_R rfl) ?_
  refine e_aloadn (pc := 12) (i := 1) dX9_seatOf_12 rfl rfl ?_
  refine f_geti (pc := 13) (k := 0) (u := 3) (q := 0) dX9_seatOf_13 xf9_24 (sa_3_0 hs) rfl hn rfl rfl (by decide) ?_
  show Ev g _ _ _ _ _ _ 16 [some (x_r (16 * 23 + 0)), some (x_r (16 * 3 + 0)), some (x_i a), some (x_i 4095), some (x_i v1), none, none, none] [x_i (N 0 3), x_i 1] (al, ro, fl (ml M [3, 23] [N, St2])) _ _ _ _
  refine e_ishl (pc := 16) dX9_seatOf_16 ?_
  refine e_iconst (pc := 17) dX9_seatOf_17 (x_R rfl) ?_
  refine e_isub (pc := 18) dX9_seatOf_18 ?_
  refine e_istore (pc := 19) (i := 5) dX9_seatOf_19 (by decide) rfl ?_
  show Ev g _ _ _ _ _ _ 21 [some (x_r (16 * 23 + 0)), some (x_r (16 * 3 + 0)), some (x_i a), some (x_i 4095), some (x_i v1), some (x_i (x_sub (x_shl 1 (N 0 3)) 1)), none, none] [] (al, ro, fl (ml M [3, 23] [N, St2])) _ _ _ _
  refine e_iconst (pc := 21) dX9_seatOf_21 (x_R rfl) ?_
  refine e_istore (pc := 22) (i := 6) dX9_seatOf_22 (by decide) rfl ?_
  show Ev g _ _ _ _ _ _ 24 [some (x_r (16 * 23 + 0)), some (x_r (16 * 3 + 0)), some (x_i a), some (x_i 4095), some (x_i v1), some (x_i (x_sub (x_shl 1 (N 0 3)) 1)), some (x_i (-1)), none] [] (al, ro, fl (ml M [3, 23] [N, St2])) _ _ _ _
  refine e_iconst (pc := 24) dX9_seatOf_24 (x_R rfl) ?_
  refine e_istore (pc := 25) (i := 7) dX9_seatOf_25 (by decide) rfl ?_
  show Ev g _ _ _ _ _ _ 27 [some (x_r (16 * 23 + 0)), some (x_r (16 * 3 + 0)), some (x_i a), some (x_i 4095), some (x_i v1), some (x_i (x_sub (x_shl 1 (N 0 3)) 1)), some (x_i (-1)), some (x_i 0)] [] (al, ro, fl (ml M [3, 23] [N, St2])) _ _ _ _
  obtain ⟨v9, hl10, hG⟩ := x_bd1 hG
  have hk10 : ∀ q : Int, q = v9 → Ev g yX9_seatOf cX9_seatOf 8 (some .int) [] 3 88 [some (x_r (16 * 23 + 0)), some (x_r (16 * 3 + 0)), some (x_i a), none, none, none, some (x_i q), none] [] (al, ro, fl (ml M [3, 23] [N, St2])) 0 0 (.inl (some (x_i t.1))) (al, ro, fl (ml M [3, 23] [N, t.2])) := by
    intro q hq
    replace hq := hq.symm
    subst hq
    refine e_iload (pc := 88) dX9_seatOf_88 rfl ?_
    cases hG
    exact (e_ireturn rfl dX9_seatOf_90 rfl)
  clear hG
  refine e_whl (G9_seatOf_L27 a N St2) (fun z : (Int × Int × Int × Int × Int) => Ev g yX9_seatOf cX9_seatOf 8 (some .int) [] 3 27 [some (x_r (16 * 23 + 0)), some (x_r (16 * 3 + 0)), some (x_i a), some (x_i z.1), some (x_i z.2.1), some (x_i z.2.2.1), some (x_i z.2.2.2.1), some (x_i z.2.2.2.2)] [] (al, ro, fl (ml M [3, 23] [N, St2])) 0 0 (.inl (some (x_i t.1))) (al, ro, fl (ml M [3, 23] [N, t.2]))) (fun q => q = v9) ?_ xFU (4095, v1, (x_sub (x_shl 1 (N 0 3)) 1), (-1), 0) _ hl10 rfl
  intro z t10 hf10 hi10 hx10
  obtain ⟨v4, v5, v6, v7, v8⟩ := z
  rw [G9_seatOf_L27] at hf10
  show Ev g _ _ _ _ _ _ 27 [some (x_r (16 * 23 + 0)), some (x_r (16 * 3 + 0)), some (x_i a), some (x_i v4), some (x_i v5), some (x_i v6), some (x_i v7), some (x_i v8)] [] (al, ro, fl (ml M [3, 23] [N, St2])) _ _ _ _
  refine e_iload (pc := 27) dX9_seatOf_27 rfl ?_
  refine e_iloadn (pc := 29) (i := 2) dX9_seatOf_29 rfl rfl ?_
  refine e_icmp_gt (pc := 30) (tgt := 88) dX9_seatOf_30 (by decide) (fun hb => ?_) (fun hb => ?_)
  · rw [if_pos hb] at hf10
    cases hf10
    refine e_drop (i := 3) ?_
    refine e_drop (i := 4) ?_
    refine e_drop (i := 5) ?_
    refine e_drop (i := 7) ?_
    exact hk10 _ (hx10 _ rfl)
  · rw [if_neg hb] at hf10
    refine e_iload (pc := 33) dX9_seatOf_33 rfl ?_
    refine e_iconst (pc := 35) dX9_seatOf_35 (x_R rfl) ?_
    refine e_iload (pc := 36) dX9_seatOf_36 rfl ?_
    refine e_ishl (pc := 38) dX9_seatOf_38 ?_
    refine e_iconst (pc := 39) dX9_seatOf_39 (x_R rfl) ?_
    refine e_ixor (pc := 40) dX9_seatOf_40 ?_
    refine e_iand (pc := 41) dX9_seatOf_41 ?_
    refine e_istore (pc := 42) (i := 5) dX9_seatOf_42 (by decide) rfl ?_
    show Ev g _ _ _ _ _ _ 44 [some (x_r (16 * 23 + 0)), some (x_r (16 * 3 + 0)), some (x_i a), some (x_i v4), some (x_i v5), some (x_i (x_and v6 (x_xor (x_shl 1 v8) (-1)))), some (x_i v7), some (x_i v8)] [] (al, ro, fl (ml M [3, 23] [N, St2])) _ _ _ _
    refine e_aloadn (pc := 44) (i := 0) dX9_seatOf_44 rfl rfl ?_
    refine e_aloadn (pc := 45) (i := 1) dX9_seatOf_45 rfl rfl ?_
    refine e_iconst (pc := 46) dX9_seatOf_46 (x_R rfl) ?_
    refine e_iload (pc := 47) dX9_seatOf_47 rfl ?_
    obtain ⟨v12, hq12, hf10⟩ := x_bd1 hf10
    refine e_invV (pc := 49) (K1 := 0) (S1 := 0) (K := 0) (S := 0) (dd2 := 0) (av := [x_i 3, x_i v8]) (st := [x_r (16 * 23 + 0)]) (id := 16 * 3 + 0) dX9_seatOf_49 xmX9_34 rfl (Or.inl ⟨1, 12, TX1, (sa_3_0 hs), rfl, by decide⟩) (f_cal (M := M) (us2 := [3]) [0] hn rfl (And.intro rfl trivial) rfl rfl rfl (c_X1_of hst hs (by decide)  hq12)) (by decide) (Nat.le_of_ble_eq_true rfl) (Or.inl rfl) ?_
    show Ev g _ _ _ _ _ _ 52 [some (x_r (16 * 23 + 0)), some (x_r (16 * 3 + 0)), some (x_i a), some (x_i v4), some (x_i v5), some (x_i (x_and v6 (x_xor (x_shl 1 v8) (-1)))), some (x_i v7), some (x_i v8)] [x_i v12, x_r (16 * 23 + 0)] (al, ro, fl (ml M [3, 23] [N, St2])) _ _ _ _
    refine e_iloadn (pc := 52) (i := 3) dX9_seatOf_52 rfl rfl ?_
    refine e_iand (pc := 53) dX9_seatOf_53 ?_
    refine e_iload (pc := 54) dX9_seatOf_54 rfl ?_
    refine e_iloadn (pc := 56) (i := 3) dX9_seatOf_56 rfl rfl ?_
    refine e_iload (pc := 57) dX9_seatOf_57 rfl ?_
    obtain ⟨v14, hq14, hf10⟩ := x_bd1 hf10
    refine e_invV (pc := 59) (K1 := 0) (S1 := 0) (K := 0) (S := 0) (dd2 := 2) (av := [x_i (x_and v12 v4), x_i (x_and v6 (x_xor (x_shl 1 v8) (-1))), x_i v4, x_i v5]) (st := []) (id := 16 * 23 + 0) dX9_seatOf_59 xmX9_60 rfl (Or.inl ⟨7, 4, TX9, (sa_23_0 hs), rfl, by decide⟩) (f_cal (M := M) (us2 := [23]) [1] hn rfl (And.intro rfl trivial) rfl rfl rfl (c_X9_firstSeat hst hs   hq14)) (by decide) (Nat.le_of_ble_eq_true rfl) (Or.inl rfl) ?_
    show Ev g _ _ _ _ _ _ 62 [some (x_r (16 * 23 + 0)), some (x_r (16 * 3 + 0)), some (x_i a), some (x_i v4), some (x_i v5), some (x_i (x_and v6 (x_xor (x_shl 1 v8) (-1)))), some (x_i v7), some (x_i v8)] [x_i v14] (al, ro, fl (ml M [3, 23] [N, St2])) _ _ _ _
    refine e_istore (pc := 62) (i := 6) dX9_seatOf_62 (by decide) rfl ?_
    show Ev g _ _ _ _ _ _ 64 [some (x_r (16 * 23 + 0)), some (x_r (16 * 3 + 0)), some (x_i a), some (x_i v4), some (x_i v5), some (x_i (x_and v6 (x_xor (x_shl 1 v8) (-1)))), some (x_i v14), some (x_i v8)] [] (al, ro, fl (ml M [3, 23] [N, St2])) _ _ _ _
    refine e_iload (pc := 64) dX9_seatOf_64 rfl ?_
    refine e_iconst (pc := 66) dX9_seatOf_66 (x_R rfl) ?_
    obtain ⟨v16, v17, hr17, hf10⟩ := x_bd2 hf10
    have hjhr17 : Ev g yX9_seatOf cX9_seatOf 8 (some .int) [] 3 82 [some (x_r (16 * 23 + 0)), some (x_r (16 * 3 + 0)), some (x_i a), some (x_i v16), some (x_i v17), some (x_i (x_and v6 (x_xor (x_shl 1 v8) (-1)))), some (x_i v14), some (x_i v8)] [] (al, ro, fl (ml M [3, 23] [N, St2])) 0 0 (.inl (some (x_i t.1))) (al, ro, fl (ml M [3, 23] [N, t.2])) := by
      refine e_iinc (pc := 82) dX9_seatOf_82 rfl (by decide) rfl ?_
      show Ev g _ _ _ _ _ _ 85 [some (x_r (16 * 23 + 0)), some (x_r (16 * 3 + 0)), some (x_i a), some (x_i v16), some (x_i v17), some (x_i (x_and v6 (x_xor (x_shl 1 v8) (-1)))), some (x_i v14), some (x_i (x_add v8 1))] [] (al, ro, fl (ml M [3, 23] [N, St2])) _ _ _ _
      refine e_goto (pc := 85) (tgt := 27) dX9_seatOf_85 (by decide) ?_
      cases hf10
      exact hi10 _ rfl
    clear hf10
    refine e_icmp_eq (pc := 67) (tgt := 82) dX9_seatOf_67 (by decide) (fun hb => ?_) (fun hb => ?_)
    · rw [if_pos hb] at hr17
      cases hr17
      exact hjhr17
    · rw [if_neg hb] at hr17
      refine e_iloadn (pc := 70) (i := 3) dX9_seatOf_70 rfl rfl ?_
      refine e_iconst (pc := 71) dX9_seatOf_71 (x_R rfl) ?_
      refine e_iload (pc := 72) dX9_seatOf_72 rfl ?_
      refine e_ishl (pc := 74) dX9_seatOf_74 ?_
      refine e_iconst (pc := 75) dX9_seatOf_75 (x_R rfl) ?_
      refine e_ixor (pc := 76) dX9_seatOf_76 ?_
      refine e_iand (pc := 77) dX9_seatOf_77 ?_
      refine e_istoren (pc := 78) (i := 3) dX9_seatOf_78 rfl (by decide) rfl ?_
      show Ev g _ _ _ _ _ _ 79 [some (x_r (16 * 23 + 0)), some (x_r (16 * 3 + 0)), some (x_i a), some (x_i (x_and v4 (x_xor (x_shl 1 v14) (-1)))), some (x_i v5), some (x_i (x_and v6 (x_xor (x_shl 1 v8) (-1)))), some (x_i v14), some (x_i v8)] [] (al, ro, fl (ml M [3, 23] [N, St2])) _ _ _ _
      refine e_iinc (pc := 79) dX9_seatOf_79 rfl (by decide) rfl ?_
      show Ev g _ _ _ _ _ _ 82 [some (x_r (16 * 23 + 0)), some (x_r (16 * 3 + 0)), some (x_i a), some (x_i (x_and v4 (x_xor (x_shl 1 v14) (-1)))), some (x_i (x_add v5 (-1))), some (x_i (x_and v6 (x_xor (x_shl 1 v8) (-1)))), some (x_i v14), some (x_i v8)] [] (al, ro, fl (ml M [3, 23] [N, St2])) _ _ _ _
      cases hr17
      exact hjhr17
set_option maxRecDepth 100000 in
set_option maxHeartbeats 4000000 in
theorem c_X9_fewestWithTooFew {g : xG} {al : List (Nat × Nat × Nat)} {ro : Nat → Nat → Option Nat} (hst : g.1.stackTraces = false) (hs : SH al ro) {M : Nat → xU} {N : xU} {St : xU}  {t : (Int × xU)} (hG : G9_fewestWithTooFew N St = some t) :
    Cal g yX9_fewestWithTooFew cX9_fewestWithTooFew 6 (some .int) 2 [x_r (16 * 23 + 0), x_r (16 * 3 + 0)] (al, ro, fl (ml M [3, 23] [N, St])) 0 0 (.inl (some (x_i t.1))) (al, ro, fl (ml M [3, 23] [N, t.2])) := by
  have hn : ([3, 23] : List Nat).Nodup := by decide
  refine cal_of_ev (plainFor_of_name (by decide)) (x_c1 rfl) (Nat.le_of_ble_eq_true rfl) hst ?_
  show Ev g _ _ _ _ _ _ 0 [some (x_r (16 * 23 + 0)), some (x_r (16 * 3 + 0)), none, none, none, none] [] (al, ro, fl (ml M [3, 23] [N, St])) _ _ _ _
  rw [G9_fewestWithTooFew] at hG
  refine e_aloadn (pc := 0) (i := 0) dX9_fewestWithTooFew_0 rfl rfl ?_
  refine e_aloadn (pc := 1) (i := 1) dX9_fewestWithTooFew_1 rfl rfl ?_
  obtain ⟨St1, hq1, hG⟩ := x_bd1 hG
  refine e_invV (pc := 2) (K1 := 0) (S1 := 0) (K := 0) (S := 0) (dd2 := 1) (av := [x_r (16 * 3 + 0)]) (st := []) (id := 16 * 23 + 0) dX9_fewestWithTooFew_2 xmX9_49 rfl (Or.inl ⟨7, 4, TX9, (sa_23_0 hs), rfl, by decide⟩) (f_cal (M := M) (us2 := [3, 23]) [0, 1] hn rfl (And.intro rfl (And.intro rfl trivial)) rfl rfl rfl (c_X9_gatherLikes hst hs   hq1)) (by decide) (Nat.le_of_ble_eq_true rfl) (Or.inl rfl) ?_
  show Ev g _ _ _ _ _ _ 5 [some (x_r (16 * 23 + 0)), some (x_r (16 * 3 + 0)), none, none, none, none] [] (al, ro, fl (ml M [3, 23] [N, St1])) _ _ _ _
  refine e_iconst (pc := 5) dX9_fewestWithTooFew_5 (x_R rfl) ?_
  refine e_istoren (pc := 6) (i := 2) dX9_fewestWithTooFew_6 rfl (by decide) rfl ?_
  show Ev g _ _ _ _ _ _ 7 [some (x_r (16 * 23 + 0)), some (x_r (16 * 3 + 0)), some (x_i 0), none, none, none] [] (al, ro, fl (ml M [3, 23] [N, St1])) _ _ _ _
  refine e_bipush (pc := 7) dX9_fewestWithTooFew_7 (by decide +kernel) (x_R rfl) ?_
  refine e_istoren (pc := 9) (i := 3) dX9_fewestWithTooFew_9 rfl (by decide) rfl ?_
  show Ev g _ _ _ _ _ _ 10 [some (x_r (16 * 23 + 0)), some (x_r (16 * 3 + 0)), some (x_i 0), some (x_i 8), none, none] [] (al, ro, fl (ml M [3, 23] [N, St1])) _ _ _ _
  refine e_iconst (pc := 10) dX9_fewestWithTooFew_10 (x_R rfl) ?_
  refine e_istore (pc := 11) (i := 4) dX9_fewestWithTooFew_11 (by decide) rfl ?_
  show Ev g _ _ _ _ _ _ 13 [some (x_r (16 * 23 + 0)), some (x_r (16 * 3 + 0)), some (x_i 0), some (x_i 8), some (x_i 1), none] [] (al, ro, fl (ml M [3, 23] [N, St1])) _ _ _ _
  obtain ⟨v6, hl7, hG⟩ := x_bd1 hG
  have hk7 : ∀ q : Int, q = v6 → Ev g yX9_fewestWithTooFew cX9_fewestWithTooFew 6 (some .int) [] 2 72 [some (x_r (16 * 23 + 0)), some (x_r (16 * 3 + 0)), some (x_i q), none, none, none] [] (al, ro, fl (ml M [3, 23] [N, St1])) 0 0 (.inl (some (x_i t.1))) (al, ro, fl (ml M [3, 23] [N, t.2])) := by
    intro q hq
    replace hq := hq.symm
    subst hq
    refine e_iloadn (pc := 72) (i := 2) dX9_fewestWithTooFew_72 rfl rfl ?_
    cases hG
    exact (e_ireturn rfl dX9_fewestWithTooFew_73 rfl)
  clear hG
  refine e_whl (G9_fewestWithTooFew_L13 N St1) (fun z : (Int × Int × Int) => Ev g yX9_fewestWithTooFew cX9_fewestWithTooFew 6 (some .int) [] 2 13 [some (x_r (16 * 23 + 0)), some (x_r (16 * 3 + 0)), some (x_i z.1), some (x_i z.2.1), some (x_i z.2.2), none] [] (al, ro, fl (ml M [3, 23] [N, St1])) 0 0 (.inl (some (x_i t.1))) (al, ro, fl (ml M [3, 23] [N, t.2]))) (fun q => q = v6) ?_ xFU (0, 8, 1) _ hl7 rfl
  intro z t7 hf7 hi7 hx7
  obtain ⟨v3, v4, v5⟩ := z
  rw [G9_fewestWithTooFew_L13] at hf7
  show Ev g _ _ _ _ _ _ 13 [some (x_r (16 * 23 + 0)), some (x_r (16 * 3 + 0)), some (x_i v3), some (x_i v4), some (x_i v5), none] [] (al, ro, fl (ml M [3, 23] [N, St1])) _ _ _ _
  refine e_iload (pc := 13) dX9_fewestWithTooFew_13 rfl ?_
  refine e_iconst (pc := 15) dX9_fewestWithTooFew_15 (x_R rfl) ?_
  refine e_aloadn (pc := 16) (i := 1) dX9_fewestWithTooFew_16 rfl rfl ?_
  refine f_geti (pc := 17) (k := 0) (u := 3) (q := 0) dX9_fewestWithTooFew_17 xf9_24 (sa_3_0 hs) rfl hn rfl rfl (by decide) ?_
  show Ev g _ _ _ _ _ _ 20 [some (x_r (16 * 23 + 0)), some (x_r (16 * 3 + 0)), some (x_i v3), some (x_i v4), some (x_i v5), none] [x_i (N 0 3), x_i 1, x_i v5] (al, ro, fl (ml M [3, 23] [N, St1])) _ _ _ _
  refine e_ishl (pc := 20) dX9_fewestWithTooFew_20 ?_
  refine e_icmp_ge (pc := 21) (tgt := 72) dX9_fewestWithTooFew_21 (by decide) (fun hb => ?_) (fun hb => ?_)
  · rw [if_pos hb] at hf7
    cases hf7
    refine e_drop (i := 3) ?_
    refine e_drop (i := 4) ?_
    exact hk7 _ (hx7 _ rfl)
  · rw [if_neg hb] at hf7
    refine e_iload (pc := 24) dX9_fewestWithTooFew_24 rfl ?_
    refine e_sipush (pc := 26) dX9_fewestWithTooFew_26 (by decide +kernel) (x_R rfl) ?_
    refine e_icmp_ge (pc := 29) (tgt := 72) dX9_fewestWithTooFew_29 (by decide) (fun hb => ?_) (fun hb => ?_)
    · rw [if_pos hb] at hf7
      cases hf7
      refine e_drop (i := 3) ?_
      refine e_drop (i := 4) ?_
      exact hk7 _ (hx7 _ rfl)
    · rw [if_neg hb] at hf7
      refine e_iload (pc := 32) dX9_fewestWithTooFew_32 rfl ?_
      refine e_invS (pc := 34) (K1 := 0) (S1 := 0) (K := 0) (S := 0) (dd2 := 0) (av := [x_i v5]) (st := []) dX9_fewestWithTooFew_34 xmX9_38 rfl (p_bitCount hst hs) (by decide) (Nat.le_of_ble_eq_true rfl) (Or.inl rfl) ?_
      show Ev g _ _ _ _ _ _ 37 [some (x_r (16 * 23 + 0)), some (x_r (16 * 3 + 0)), some (x_i v3), some (x_i v4), some (x_i v5), none] [x_i (x_bc v5)] (al, ro, fl (ml M [3, 23] [N, St1])) _ _ _ _
      refine e_istore (pc := 37) (i := 5) dX9_fewestWithTooFew_37 (by decide) rfl ?_
      show Ev g _ _ _ _ _ _ 39 [some (x_r (16 * 23 + 0)), some (x_r (16 * 3 + 0)), some (x_i v3), some (x_i v4), some (x_i v5), some (x_i (x_bc v5))] [] (al, ro, fl (ml M [3, 23] [N, St1])) _ _ _ _
      refine e_iload (pc := 39) dX9_fewestWithTooFew_39 rfl ?_
      refine e_iloadn (pc := 41) (i := 3) dX9_fewestWithTooFew_41 rfl rfl ?_
      obtain ⟨v9, v10, hr10, hf7⟩ := x_bd2 hf7
      have hjhr10 : Ev g yX9_fewestWithTooFew cX9_fewestWithTooFew 6 (some .int) [] 2 66 [some (x_r (16 * 23 + 0)), some (x_r (16 * 3 + 0)), some (x_i v9), some (x_i v10), some (x_i v5), some (x_i (x_bc v5))] [] (al, ro, fl (ml M [3, 23] [N, St1])) 0 0 (.inl (some (x_i t.1))) (al, ro, fl (ml M [3, 23] [N, t.2])) := by
        refine e_iinc (pc := 66) dX9_fewestWithTooFew_66 rfl (by decide) rfl ?_
        show Ev g _ _ _ _ _ _ 69 [some (x_r (16 * 23 + 0)), some (x_r (16 * 3 + 0)), some (x_i v9), some (x_i v10), some (x_i (x_add v5 1)), some (x_i (x_bc v5))] [] (al, ro, fl (ml M [3, 23] [N, St1])) _ _ _ _
        refine e_goto (pc := 69) (tgt := 13) dX9_fewestWithTooFew_69 (by decide) ?_
        cases hf7
        refine e_drop (i := 5) ?_
        exact hi7 _ rfl
      clear hf7
      refine e_icmp_ge (pc := 42) (tgt := 66) dX9_fewestWithTooFew_42 (by decide) (fun hb => ?_) (fun hb => ?_)
      · rw [if_pos hb] at hr10
        cases hr10
        exact hjhr10
      · rw [if_neg hb] at hr10
        refine e_aloadn (pc := 45) (i := 0) dX9_fewestWithTooFew_45 rfl rfl ?_
        refine f_getr (pc := 46) (u := 23) (q := 0) dX9_fewestWithTooFew_46 xf9_9 (sa_23_0 hs) rfl (sr_23_0_0 hs) ?_
        refine e_iload (pc := 49) dX9_fewestWithTooFew_49 rfl ?_
        obtain ⟨hc0, hr10⟩ := x_gd_some hr10
        refine f_iald (pc := 51) (k := 1) (u := 23) (q := 1) (len := 128) dX9_fewestWithTooFew_51 (sa_23_1 hs) hc0 hn rfl rfl (by decide) ?_
        show Ev g _ _ _ _ _ _ 52 [some (x_r (16 * 23 + 0)), some (x_r (16 * 3 + 0)), some (x_i v3), some (x_i v4), some (x_i v5), some (x_i (x_bc v5))] [x_i (St1 1 (v5).toNat)] (al, ro, fl (ml M [3, 23] [N, St1])) _ _ _ _
        refine e_invS (pc := 52) (K1 := 0) (S1 := 0) (K := 0) (S := 0) (dd2 := 0) (av := [x_i (St1 1 (v5).toNat)]) (st := []) dX9_fewestWithTooFew_52 xmX9_38 rfl (p_bitCount hst hs) (by decide) (Nat.le_of_ble_eq_true rfl) (Or.inl rfl) ?_
        show Ev g _ _ _ _ _ _ 55 [some (x_r (16 * 23 + 0)), some (x_r (16 * 3 + 0)), some (x_i v3), some (x_i v4), some (x_i v5), some (x_i (x_bc v5))] [x_i (x_bc (St1 1 (v5).toNat))] (al, ro, fl (ml M [3, 23] [N, St1])) _ _ _ _
        refine e_iload (pc := 55) dX9_fewestWithTooFew_55 rfl ?_
        refine e_icmp_ge (pc := 57) (tgt := 66) dX9_fewestWithTooFew_57 (by decide) (fun hb => ?_) (fun hb => ?_)
        · rw [if_pos hb] at hr10
          cases hr10
          exact hjhr10
        · rw [if_neg hb] at hr10
          refine e_iload (pc := 60) dX9_fewestWithTooFew_60 rfl ?_
          refine e_istoren (pc := 62) (i := 3) dX9_fewestWithTooFew_62 rfl (by decide) rfl ?_
          show Ev g _ _ _ _ _ _ 63 [some (x_r (16 * 23 + 0)), some (x_r (16 * 3 + 0)), some (x_i v3), some (x_i (x_bc v5)), some (x_i v5), some (x_i (x_bc v5))] [] (al, ro, fl (ml M [3, 23] [N, St1])) _ _ _ _
          refine e_iload (pc := 63) dX9_fewestWithTooFew_63 rfl ?_
          refine e_istoren (pc := 65) (i := 2) dX9_fewestWithTooFew_65 rfl (by decide) rfl ?_
          show Ev g _ _ _ _ _ _ 66 [some (x_r (16 * 23 + 0)), some (x_r (16 * 3 + 0)), some (x_i v5), some (x_i (x_bc v5)), some (x_i v5), some (x_i (x_bc v5))] [] (al, ro, fl (ml M [3, 23] [N, St1])) _ _ _ _
          cases hr10
          exact hjhr10
set_option maxRecDepth 100000 in
set_option maxHeartbeats 4000000 in
theorem c_X9_rankOf {g : xG} {al : List (Nat × Nat × Nat)} {ro : Nat → Nat → Option Nat} (hst : g.1.stackTraces = false) (hs : SH al ro) {M : Nat → xU} {a : Int} {b : Int} {N : xU}  {t : Int} (hG : G9_rankOf a b N = some t) :
    Cal g yX9_rankOf cX9_rankOf 5 (some .int) 2 [x_r (16 * 3 + 0), x_i a, x_i b] (al, ro, fl (ml M [3] [N])) 0 0 (.inl (some (x_i t))) (al, ro, fl (ml M [3] [N])) := by
  have hn : ([3] : List Nat).Nodup := by decide
  refine cal_of_ev (plainFor_of_name (by decide)) (x_c1 rfl) (Nat.le_of_ble_eq_true rfl) hst ?_
  show Ev g _ _ _ _ _ _ 0 [some (x_r (16 * 3 + 0)), some (x_i a), some (x_i b), none, none] [] (al, ro, fl (ml M [3] [N])) _ _ _ _
  rw [G9_rankOf] at hG
  refine e_aloadn (pc := 0) (i := 0) dX9_rankOf_0 rfl rfl ?_
  refine e_iconst (pc := 1) dX9_rankOf_1 (x_R rfl) ?_
  refine e_iloadn (pc := 2) (i := 2) dX9_rankOf_2 rfl rfl ?_
  obtain ⟨v1, hq1, hG⟩ := x_bd1 hG
  refine e_invV (pc := 3) (K1 := 0) (S1 := 0) (K := 0) (S := 0) (dd2 := 0) (av := [x_i 2, x_i b]) (st := []) (id := 16 * 3 + 0) dX9_rankOf_3 xmX9_34 rfl (Or.inl ⟨1, 12, TX1, (sa_3_0 hs), rfl, by decide⟩) (f_cal (M := M) (us2 := [3]) [0] hn rfl (And.intro rfl trivial) rfl rfl rfl (c_X1_of hst hs (by decide)  hq1)) (by decide) (Nat.le_of_ble_eq_true rfl) (Or.inl rfl) ?_
  show Ev g _ _ _ _ _ _ 6 [some (x_r (16 * 3 + 0)), some (x_i a), some (x_i b), none, none] [x_i v1] (al, ro, fl (ml M [3] [N])) _ _ _ _
  refine e_istoren (pc := 6) (i := 3) dX9_rankOf_6 rfl (by decide) rfl ?_
  show Ev g _ _ _ _ _ _ 7 [some (x_r (16 * 3 + 0)), some (x_i a), some (x_i b), some (x_i v1), none] [] (al, ro, fl (ml M [3] [N])) _ _ _ _
  refine e_iloadn (pc := 7) (i := 3) dX9_rankOf_7 rfl rfl ?_
  refine e_aloadn (pc := 8) (i := 0) dX9_rankOf_8 rfl rfl ?_
  refine e_iconst (pc := 9) dX9_rankOf_9 (x_R rfl) ?_
  refine e_iloadn (pc := 10) (i := 1) dX9_rankOf_10 rfl rfl ?_
  obtain ⟨v3, hq3, hG⟩ := x_bd1 hG
  refine e_invV (pc := 11) (K1 := 0) (S1 := 0) (K := 0) (S := 0) (dd2 := 0) (av := [x_i 2, x_i a]) (st := [x_i v1]) (id := 16 * 3 + 0) dX9_rankOf_11 xmX9_34 rfl (Or.inl ⟨1, 12, TX1, (sa_3_0 hs), rfl, by decide⟩) (f_cal (M := M) (us2 := [3]) [0] hn rfl (And.intro rfl trivial) rfl rfl rfl (c_X1_of hst hs (by decide)  hq3)) (by decide) (Nat.le_of_ble_eq_true rfl) (Or.inl rfl) ?_
  show Ev g _ _ _ _ _ _ 14 [some (x_r (16 * 3 + 0)), some (x_i a), some (x_i b), some (x_i v1), none] [x_i v3, x_i v1] (al, ro, fl (ml M [3] [N])) _ _ _ _
  refine e_isub (pc := 14) dX9_rankOf_14 ?_
  refine e_bipush (pc := 15) dX9_rankOf_15 (by decide +kernel) (x_R rfl) ?_
  refine e_invS (pc := 17) (K1 := 0) (S1 := 0) (K := 0) (S := 0) (dd2 := 0) (av := [x_i (x_sub v1 v3), x_i 12]) (st := []) dX9_rankOf_17 xmX9_75 rfl (p_floorMod hst hs (by decide)) (by decide) (Nat.le_of_ble_eq_true rfl) (Or.inl rfl) ?_
  show Ev g _ _ _ _ _ _ 20 [some (x_r (16 * 3 + 0)), some (x_i a), some (x_i b), some (x_i v1), none] [x_i (x_mod (x_sub v1 v3) 12)] (al, ro, fl (ml M [3] [N])) _ _ _ _
  refine e_istore (pc := 20) (i := 4) dX9_rankOf_20 (by decide) rfl ?_
  show Ev g _ _ _ _ _ _ 22 [some (x_r (16 * 3 + 0)), some (x_i a), some (x_i b), some (x_i v1), some (x_i (x_mod (x_sub v1 v3) 12))] [] (al, ro, fl (ml M [3] [N])) _ _ _ _
  refine e_aloadn (pc := 22) (i := 0) dX9_rankOf_22 rfl rfl ?_
  refine e_iloadn (pc := 23) (i := 1) dX9_rankOf_23 rfl rfl ?_
  refine e_iloadn (pc := 24) (i := 3) dX9_rankOf_24 rfl rfl ?_
  obtain ⟨v5, hq5, hG⟩ := x_bd1 hG
  refine e_invV (pc := 25) (K1 := 0) (S1 := 0) (K := 0) (S := 0) (dd2 := 1) (av := [x_i a, x_i v1]) (st := []) (id := 16 * 3 + 0) dX9_rankOf_25 xmX9_78 rfl (Or.inl ⟨1, 12, TX1, (sa_3_0 hs), rfl, by decide⟩) (f_cal (M := M) (us2 := [3]) [0] hn rfl (And.intro rfl trivial) rfl rfl rfl (c_X1_doesLike hst hs (by decide)  hq5)) (by decide) (Nat.le_of_ble_eq_true rfl) (Or.inl rfl) ?_
  show Ev g _ _ _ _ _ _ 28 [some (x_r (16 * 3 + 0)), some (x_i a), some (x_i b), some (x_i v1), some (x_i (x_mod (x_sub v1 v3) 12))] [x_i v5] (al, ro, fl (ml M [3] [N])) _ _ _ _
  obtain ⟨v7, hr7, hG⟩ := x_bd1 hG
  have hjhr7 : Ev g yX9_rankOf cX9_rankOf 5 (some .int) [] 2 37 [some (x_r (16 * 3 + 0)), some (x_i a), some (x_i b), some (x_i v1), some (x_i (x_mod (x_sub v1 v3) 12))] [x_i v7] (al, ro, fl (ml M [3] [N])) 0 0 (.inl (some (x_i t))) (al, ro, fl (ml M [3] [N])) := by
    refine e_iload (pc := 37) dX9_rankOf_37 rfl ?_
    refine e_bipush (pc := 39) dX9_rankOf_39 (by decide +kernel) (x_R rfl) ?_
    refine e_iload (pc := 41) dX9_rankOf_41 rfl ?_
    refine e_isub (pc := 43) dX9_rankOf_43 ?_
    refine e_invS (pc := 44) (K1 := 0) (S1 := 0) (K := 0) (S := 0) (dd2 := 0) (av := [x_i (x_mod (x_sub v1 v3) 12), x_i (x_sub 12 (x_mod (x_sub v1 v3) 12))]) (st := [x_i v7]) dX9_rankOf_44 xmX9_44 rfl (p_min hst hs) (by decide) (Nat.le_of_ble_eq_true rfl) (Or.inl rfl) ?_
    show Ev g _ _ _ _ _ _ 47 [some (x_r (16 * 3 + 0)), some (x_i a), some (x_i b), some (x_i v1), some (x_i (x_mod (x_sub v1 v3) 12))] [x_i (min (x_mod (x_sub v1 v3) 12) (x_sub 12 (x_mod (x_sub v1 v3) 12))), x_i v7] (al, ro, fl (ml M [3] [N])) _ _ _ _
    refine e_iadd (pc := 47) dX9_rankOf_47 ?_
    cases hG
    exact (e_ireturn rfl dX9_rankOf_48 rfl)
  clear hG
  refine e_if_eq (pc := 28) (tgt := 35) dX9_rankOf_28 (by decide) (fun hb => ?_) (fun hb => ?_)
  · rw [if_pos hb] at hr7
    refine e_bipush (pc := 35) dX9_rankOf_35 (by decide +kernel) (x_R rfl) ?_
    cases hr7
    exact hjhr7
  · rw [if_neg hb] at hr7
    refine e_iconst (pc := 31) dX9_rankOf_31 (x_R rfl) ?_
    refine e_goto (pc := 32) (tgt := 37) dX9_rankOf_32 (by decide) ?_
    cases hr7
    exact hjhr7
