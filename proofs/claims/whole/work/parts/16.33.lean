set_option maxRecDepth 100000 in
set_option maxHeartbeats 4000000 in
theorem c_X12_rule {g : xG} {al : List (Nat × Nat × Nat)} {ro : Nat → Nat → Option Nat} (hst : g.1.stackTraces = false) (hs : SH al ro) {M : Nat → xU} {a : Int} {S : xU}  {t : (Int × xU)} (hG : G12_rule a S = some t) :
    Cal g yX12_rule cX12_rule 4 (some .int) 2 [x_r (16 * 32 + 0), x_i a] (al, ro, fl (ml M [32] [S])) 0 0 (.inl (some (x_i t.1))) (al, ro, fl (ml M [32] [t.2])) := by
  have hn : ([32] : List Nat).Nodup := by decide
  refine cal_of_ev (plainFor_of_name (by decide)) (x_c1 rfl) (Nat.le_of_ble_eq_true rfl) hst ?_
  show Ev g _ _ _ _ _ _ 0 [some (x_r (16 * 32 + 0)), some (x_i a), none, none] [] (al, ro, fl (ml M [32] [S])) _ _ _ _
  rw [G12_rule] at hG
  refine e_aloadn (pc := 0) (i := 0) dX12_rule_0 rfl rfl ?_
  obtain ⟨v1, S2, hq2, hG⟩ := x_bd2 hG
  refine e_invV (pc := 1) (K1 := 0) (S1 := 0) (K := 0) (S := 0) (dd2 := 1) (av := []) (st := []) (id := 16 * 32 + 0) dX12_rule_1 xmX12_379 rfl (Or.inl ⟨10, 27, TX12, (sa_32_0 hs), rfl, by decide⟩) (f_cal (M := M) (us2 := [32]) [0] hn rfl (And.intro rfl trivial) rfl rfl rfl (c_X12_ruled hst hs   hq2)) (by decide) (Nat.le_of_ble_eq_true rfl) (Or.inl rfl) ?_
  show Ev g _ _ _ _ _ _ 4 [some (x_r (16 * 32 + 0)), some (x_i a), none, none] [x_i v1] (al, ro, fl (ml M [32] [S2])) _ _ _ _
  refine e_istoren (pc := 4) (i := 2) dX12_rule_4 rfl (by decide) rfl ?_
  show Ev g _ _ _ _ _ _ 5 [some (x_r (16 * 32 + 0)), some (x_i a), some (x_i v1), none] [] (al, ro, fl (ml M [32] [S2])) _ _ _ _
  refine e_aloadn (pc := 5) (i := 0) dX12_rule_5 rfl rfl ?_
  refine e_iloadn (pc := 6) (i := 2) dX12_rule_6 rfl rfl ?_
  refine e_iconst (pc := 7) dX12_rule_7 (x_R rfl) ?_
  obtain ⟨v4, hr4, hG⟩ := x_bd1 hG
  have hjhr4 : Ev g yX12_rule cX12_rule 4 (some .int) [] 2 16 [some (x_r (16 * 32 + 0)), some (x_i a), some (x_i v1), none] [x_i v4, x_r (16 * 32 + 0)] (al, ro, fl (ml M [32] [S2])) 0 0 (.inl (some (x_i t.1))) (al, ro, fl (ml M [32] [t.2])) := by
    refine f_puti (pc := 16) (k := 0) (u := 32) (q := 0) dX12_rule_16 xf12_58 xw10_0 (sa_32_0 hs) hn rfl rfl rfl (by decide) ?_
    show Ev g _ _ _ _ _ _ 19 [some (x_r (16 * 32 + 0)), some (x_i a), some (x_i v1), none] [] (al, ro, fl (ml M [32] [(x_up S2 0 0 v4)])) _ _ _ _
    refine e_aloadn (pc := 19) (i := 0) dX12_rule_19 rfl rfl ?_
    refine f_geti (pc := 20) (k := 0) (u := 32) (q := 0) dX12_rule_20 xf12_58 (sa_32_0 hs) rfl hn rfl rfl (by decide) ?_
    show Ev g _ _ _ _ _ _ 23 [some (x_r (16 * 32 + 0)), some (x_i a), some (x_i v1), none] [x_i ((x_up S2 0 0 v4) 0 0)] (al, ro, fl (ml M [32] [(x_up S2 0 0 v4)])) _ _ _ _
    refine e_if_gt (pc := 23) (tgt := 30) dX12_rule_23 (by decide) (fun hb => ?_) (fun hb => ?_)
    · rw [if_pos hb] at hG
      refine e_aloadn (pc := 30) (i := 0) dX12_rule_30 rfl rfl ?_
      refine f_geti (pc := 31) (k := 0) (u := 32) (q := 0) dX12_rule_31 xf12_58 (sa_32_0 hs) rfl hn rfl rfl (by decide) ?_
      show Ev g _ _ _ _ _ _ 34 [some (x_r (16 * 32 + 0)), some (x_i a), some (x_i v1), none] [x_i ((x_up S2 0 0 v4) 0 0)] (al, ro, fl (ml M [32] [(x_up S2 0 0 v4)])) _ _ _ _
      obtain ⟨v6, hr6, hG⟩ := x_bd1 hG
      have hjhr6 : Ev g yX12_rule cX12_rule 4 (some .int) [] 2 42 [some (x_r (16 * 32 + 0)), some (x_i a), some (x_i v1), none] [x_i v6] (al, ro, fl (ml M [32] [(x_up S2 0 0 v4)])) 0 0 (.inl (some (x_i t.1))) (al, ro, fl (ml M [32] [t.2])) := by
        cases hG
        exact (e_ireturn rfl dX12_rule_42 rfl)
      clear hG
      refine e_if_le (pc := 34) (tgt := 41) dX12_rule_34 (by decide) (fun hb => ?_) (fun hb => ?_)
      · rw [if_pos hb] at hr6
        refine e_iloadn (pc := 41) (i := 2) dX12_rule_41 rfl rfl ?_
        cases hr6
        exact hjhr6
      · rw [if_neg hb] at hr6
        refine e_iconst (pc := 37) dX12_rule_37 (x_R rfl) ?_
        refine e_goto (pc := 38) (tgt := 42) dX12_rule_38 (by decide) ?_
        cases hr6
        exact hjhr6
    · rw [if_neg hb] at hG
      refine e_iloadn (pc := 26) (i := 1) dX12_rule_26 rfl rfl ?_
      refine e_if_ne (pc := 27) (tgt := 43) dX12_rule_27 (by decide) (fun hb => ?_) (fun hb => ?_)
      · rw [if_neg hb] at hG
        refine e_iconst (pc := 43) dX12_rule_43 (x_R rfl) ?_
        refine e_istoren (pc := 44) (i := 3) dX12_rule_44 rfl (by decide) rfl ?_
        show Ev g _ _ _ _ _ _ 45 [some (x_r (16 * 32 + 0)), some (x_i a), some (x_i v1), some (x_i 0)] [] (al, ro, fl (ml M [32] [(x_up S2 0 0 v4)])) _ _ _ _
        obtain ⟨r9, hl9, hG⟩ := x_lrd hG
        have hk9 : ∀ q : Unit, r9 = .inl q → Ev g yX12_rule cX12_rule 4 (some .int) [] 2 68 [some (x_r (16 * 32 + 0)), some (x_i a), some (x_i v1), none] [] (al, ro, fl (ml M [32] [(x_up S2 0 0 v4)])) 0 0 (.inl (some (x_i t.1))) (al, ro, fl (ml M [32] [t.2])) := by
          intro q hq
          subst hq
          replace hG := x_lr_l hG
          replace hG := x_ed1 hG
          refine e_iconst (pc := 68) dX12_rule_68 (x_R rfl) ?_
          cases hG
          exact (e_ireturn rfl dX12_rule_69 rfl)
        have hv9 : ∀ q : (Int × xU), r9 = .inr q → some q = some t := by
          intro q hq
          subst hq
          exact x_lr_r hG
        clear hG
        refine e_whl (G12_rule_L45 S2 v4) (fun z : Int => Ev g yX12_rule cX12_rule 4 (some .int) [] 2 45 [some (x_r (16 * 32 + 0)), some (x_i a), some (x_i v1), some (x_i z)] [] (al, ro, fl (ml M [32] [(x_up S2 0 0 v4)])) 0 0 (.inl (some (x_i t.1))) (al, ro, fl (ml M [32] [t.2]))) (fun q => q = r9) ?_ xFU 0 _ hl9 rfl
        intro z t9 hf9 hi9 hx9
        obtain ⟨v8, hzz⟩ : ∃ y, y = z := ⟨z, rfl⟩
        subst hzz
        rw [G12_rule_L45] at hf9
        show Ev g _ _ _ _ _ _ 45 [some (x_r (16 * 32 + 0)), some (x_i a), some (x_i v1), some (x_i v8)] [] (al, ro, fl (ml M [32] [(x_up S2 0 0 v4)])) _ _ _ _
        refine e_iloadn (pc := 45) (i := 3) dX12_rule_45 rfl rfl ?_
        refine e_bipush (pc := 46) dX12_rule_46 (by decide +kernel) (x_R rfl) ?_
        refine e_icmp_ge (pc := 48) (tgt := 68) dX12_rule_48 (by decide) (fun hb => ?_) (fun hb => ?_)
        · rw [if_pos hb] at hf9
          cases hf9
          refine e_drop (i := 3) ?_
          have hh := hk9 _ (hx9 _ rfl).symm
          try dsimp only at hh
          exact hh
        · rw [if_neg hb] at hf9
          refine e_aloadn (pc := 51) (i := 0) dX12_rule_51 rfl rfl ?_
          refine f_getr (pc := 52) (u := 32) (q := 0) dX12_rule_52 xf12_45 (sa_32_0 hs) rfl (sr_32_0_23 hs) ?_
          refine e_iloadn (pc := 55) (i := 3) dX12_rule_55 rfl rfl ?_
          obtain ⟨hc0, hf9⟩ := x_gd_some hf9
          refine f_zald (pc := 56) (k := 0) (u := 32) (q := 11) (len := 144) dX12_rule_56 (sa_32_11 hs) hc0 hn rfl rfl (by decide) ?_
          show Ev g _ _ _ _ _ _ 57 [some (x_r (16 * 32 + 0)), some (x_i a), some (x_i v1), some (x_i v8)] [x_i ((x_up S2 0 0 v4) 11 (v8).toNat)] (al, ro, fl (ml M [32] [(x_up S2 0 0 v4)])) _ _ _ _
          refine e_if_eq (pc := 57) (tgt := 62) dX12_rule_57 (by decide) (fun hb => ?_) (fun hb => ?_)
          · rw [if_pos hb] at hf9
            refine e_iinc (pc := 62) dX12_rule_62 rfl (by decide) rfl ?_
            show Ev g _ _ _ _ _ _ 65 [some (x_r (16 * 32 + 0)), some (x_i a), some (x_i v1), some (x_i (x_add v8 1))] [] (al, ro, fl (ml M [32] [(x_up S2 0 0 v4)])) _ _ _ _
            refine e_goto (pc := 65) (tgt := 45) dX12_rule_65 (by decide) ?_
            cases hf9
            have hh := hi9 _ rfl
            try dsimp only at hh
            exact hh
          · rw [if_neg hb] at hf9
            refine e_iloadn (pc := 60) (i := 3) dX12_rule_60 rfl rfl ?_
            cases hf9
            have hz := hv9 _ (hx9 _ rfl).symm
            cases hz
            exact (e_ireturn rfl dX12_rule_61 rfl)
      · rw [if_pos hb] at hG
        refine e_aloadn (pc := 30) (i := 0) dX12_rule_30 rfl rfl ?_
        refine f_geti (pc := 31) (k := 0) (u := 32) (q := 0) dX12_rule_31 xf12_58 (sa_32_0 hs) rfl hn rfl rfl (by decide) ?_
        show Ev g _ _ _ _ _ _ 34 [some (x_r (16 * 32 + 0)), some (x_i a), some (x_i v1), none] [x_i ((x_up S2 0 0 v4) 0 0)] (al, ro, fl (ml M [32] [(x_up S2 0 0 v4)])) _ _ _ _
        obtain ⟨v11, hr11, hG⟩ := x_bd1 hG
        have hjhr11 : Ev g yX12_rule cX12_rule 4 (some .int) [] 2 42 [some (x_r (16 * 32 + 0)), some (x_i a), some (x_i v1), none] [x_i v11] (al, ro, fl (ml M [32] [(x_up S2 0 0 v4)])) 0 0 (.inl (some (x_i t.1))) (al, ro, fl (ml M [32] [t.2])) := by
          cases hG
          exact (e_ireturn rfl dX12_rule_42 rfl)
        clear hG
        refine e_if_le (pc := 34) (tgt := 41) dX12_rule_34 (by decide) (fun hb => ?_) (fun hb => ?_)
        · rw [if_pos hb] at hr11
          refine e_iloadn (pc := 41) (i := 2) dX12_rule_41 rfl rfl ?_
          cases hr11
          exact hjhr11
        · rw [if_neg hb] at hr11
          refine e_iconst (pc := 37) dX12_rule_37 (x_R rfl) ?_
          refine e_goto (pc := 38) (tgt := 42) dX12_rule_38 (by decide) ?_
          cases hr11
          exact hjhr11
  clear hG
  refine e_icmp_ne (pc := 8) (tgt := 15) dX12_rule_8 (by decide) (fun hb => ?_) (fun hb => ?_)
  · rw [if_neg hb] at hr4
    refine e_iconst (pc := 15) dX12_rule_15 (x_R rfl) ?_
    cases hr4
    exact hjhr4
  · rw [if_pos hb] at hr4
    refine e_iconst (pc := 11) dX12_rule_11 (x_R rfl) ?_
    refine e_goto (pc := 12) (tgt := 16) dX12_rule_12 (by decide) ?_
    cases hr4
    exact hjhr4
set_option maxRecDepth 100000 in
set_option maxHeartbeats 4000000 in
theorem c_X12_tells {g : xG} {al : List (Nat × Nat × Nat)} {ro : Nat → Nat → Option Nat} (hst : g.1.stackTraces = false) (hs : SH al ro) {M : Nat → xU} {S : xU}  {t : (Int × xU)} (hG : G12_tells S = some t) :
    Cal g yX12_tells cX12_tells 9 (some .int) 2 [x_r (16 * 32 + 0)] (al, ro, fl (ml M [32] [S])) 0 0 (.inl (some (x_i t.1))) (al, ro, fl (ml M [32] [t.2])) := by
  have hn : ([32] : List Nat).Nodup := by decide
  refine cal_of_ev (plainFor_of_name (by decide)) (x_c1 rfl) (Nat.le_of_ble_eq_true rfl) hst ?_
  show Ev g _ _ _ _ _ _ 0 [some (x_r (16 * 32 + 0)), none, none, none, none, none, none, none, none] [] (al, ro, fl (ml M [32] [S])) _ _ _ _
  rw [G12_tells] at hG
  refine e_aloadn (pc := 0) (i := 0) dX12_tells_0 rfl rfl ?_
  obtain ⟨v1, S2, hq2, hG⟩ := x_bd2 hG
  refine e_invV (pc := 1) (K1 := 0) (S1 := 0) (K := 0) (S := 0) (dd2 := 1) (av := []) (st := []) (id := 16 * 32 + 0) dX12_tells_1 xmX12_379 rfl (Or.inl ⟨10, 27, TX12, (sa_32_0 hs), rfl, by decide⟩) (f_cal (M := M) (us2 := [32]) [0] hn rfl (And.intro rfl trivial) rfl rfl rfl (c_X12_ruled hst hs   hq2)) (by decide) (Nat.le_of_ble_eq_true rfl) (Or.inl rfl) ?_
  show Ev g _ _ _ _ _ _ 4 [some (x_r (16 * 32 + 0)), none, none, none, none, none, none, none, none] [x_i v1] (al, ro, fl (ml M [32] [S2])) _ _ _ _
  refine e_istoren (pc := 4) (i := 1) dX12_tells_4 rfl (by decide) rfl ?_
  show Ev g _ _ _ _ _ _ 5 [some (x_r (16 * 32 + 0)), some (x_i v1), none, none, none, none, none, none, none] [] (al, ro, fl (ml M [32] [S2])) _ _ _ _
  refine e_aloadn (pc := 5) (i := 0) dX12_tells_5 rfl rfl ?_
  refine e_iloadn (pc := 6) (i := 1) dX12_tells_6 rfl rfl ?_
  refine e_iconst (pc := 7) dX12_tells_7 (x_R rfl) ?_
  obtain ⟨v4, hr4, hG⟩ := x_bd1 hG
  have hjhr4 : Ev g yX12_tells cX12_tells 9 (some .int) [] 2 16 [some (x_r (16 * 32 + 0)), some (x_i v1), none, none, none, none, none, none, none] [x_i v4, x_r (16 * 32 + 0)] (al, ro, fl (ml M [32] [S2])) 0 0 (.inl (some (x_i t.1))) (al, ro, fl (ml M [32] [t.2])) := by
    refine f_puti (pc := 16) (k := 0) (u := 32) (q := 0) dX12_tells_16 xf12_58 xw10_0 (sa_32_0 hs) hn rfl rfl rfl (by decide) ?_
    show Ev g _ _ _ _ _ _ 19 [some (x_r (16 * 32 + 0)), some (x_i v1), none, none, none, none, none, none, none] [] (al, ro, fl (ml M [32] [(x_up S2 0 0 v4)])) _ _ _ _
    refine e_aloadn (pc := 19) (i := 0) dX12_tells_19 rfl rfl ?_
    refine f_geti (pc := 20) (k := 0) (u := 32) (q := 0) dX12_tells_20 xf12_58 (sa_32_0 hs) rfl hn rfl rfl (by decide) ?_
    show Ev g _ _ _ _ _ _ 23 [some (x_r (16 * 32 + 0)), some (x_i v1), none, none, none, none, none, none, none] [x_i ((x_up S2 0 0 v4) 0 0)] (al, ro, fl (ml M [32] [(x_up S2 0 0 v4)])) _ _ _ _
    refine e_if_le (pc := 23) (tgt := 28) dX12_tells_23 (by decide) (fun hb => ?_) (fun hb => ?_)
    · rw [if_pos hb] at hG
      refine e_iconst (pc := 28) dX12_tells_28 (x_R rfl) ?_
      refine e_istoren (pc := 29) (i := 2) dX12_tells_29 rfl (by decide) rfl ?_
      show Ev g _ _ _ _ _ _ 30 [some (x_r (16 * 32 + 0)), some (x_i v1), some (x_i (-1)), none, none, none, none, none, none] [] (al, ro, fl (ml M [32] [(x_up S2 0 0 v4)])) _ _ _ _
      refine e_ldcw (pc := 30) dX12_tells_30 xkX12_327 (x_R rfl) ?_
      refine e_istoren (pc := 33) (i := 3) dX12_tells_33 rfl (by decide) rfl ?_
      show Ev g _ _ _ _ _ _ 34 [some (x_r (16 * 32 + 0)), some (x_i v1), some (x_i (-1)), some (x_i 2000000000), none, none, none, none, none] [] (al, ro, fl (ml M [32] [(x_up S2 0 0 v4)])) _ _ _ _
      refine e_iconst (pc := 34) dX12_tells_34 (x_R rfl) ?_
      refine e_istore (pc := 35) (i := 4) dX12_tells_35 (by decide) rfl ?_
      show Ev g _ _ _ _ _ _ 37 [some (x_r (16 * 32 + 0)), some (x_i v1), some (x_i (-1)), some (x_i 2000000000), some (x_i 0), none, none, none, none] [] (al, ro, fl (ml M [32] [(x_up S2 0 0 v4)])) _ _ _ _
      obtain ⟨v9, hl10, hG⟩ := x_bd1 hG
      have hk10 : ∀ q : Int, q = v9 → Ev g yX12_tells cX12_tells 9 (some .int) [] 2 148 [some (x_r (16 * 32 + 0)), some (x_i v1), some (x_i q), none, none, none, none, none, none] [] (al, ro, fl (ml M [32] [(x_up S2 0 0 v4)])) 0 0 (.inl (some (x_i t.1))) (al, ro, fl (ml M [32] [t.2])) := by
        intro q hq
        replace hq := hq.symm
        subst hq
        refine e_iloadn (pc := 148) (i := 2) dX12_tells_148 rfl rfl ?_
        cases hG
        exact (e_ireturn rfl dX12_tells_149 rfl)
      clear hG
      refine e_whl (G12_tells_L37 v1 S2 v4) (fun z : (Int × Int × Int) => Ev g yX12_tells cX12_tells 9 (some .int) [] 2 37 [some (x_r (16 * 32 + 0)), some (x_i v1), some (x_i z.1), some (x_i z.2.1), some (x_i z.2.2), none, none, none, none] [] (al, ro, fl (ml M [32] [(x_up S2 0 0 v4)])) 0 0 (.inl (some (x_i t.1))) (al, ro, fl (ml M [32] [t.2]))) (fun q => q = v9) ?_ xFU ((-1), 2000000000, 0) _ hl10 rfl
      intro z t10 hf10 hi10 hx10
      obtain ⟨v6, v7, v8⟩ := z
      rw [G12_tells_L37] at hf10
      show Ev g _ _ _ _ _ _ 37 [some (x_r (16 * 32 + 0)), some (x_i v1), some (x_i v6), some (x_i v7), some (x_i v8), none, none, none, none] [] (al, ro, fl (ml M [32] [(x_up S2 0 0 v4)])) _ _ _ _
      refine e_iload (pc := 37) dX12_tells_37 rfl ?_
      refine e_bipush (pc := 39) dX12_tells_39 (by decide +kernel) (x_R rfl) ?_
      refine e_icmp_ge (pc := 41) (tgt := 148) dX12_tells_41 (by decide) (fun hb => ?_) (fun hb => ?_)
      · rw [if_pos hb] at hf10
        cases hf10
        refine e_drop (i := 3) ?_
        refine e_drop (i := 4) ?_
        have hh := hk10 _ (hx10 _ rfl)
        try dsimp only at hh
        exact hh
      · rw [if_neg hb] at hf10
        refine e_iloadn (pc := 44) (i := 1) dX12_tells_44 rfl rfl ?_
        refine e_iconst (pc := 45) dX12_tells_45 (x_R rfl) ?_
        refine e_icmp_le (pc := 46) (tgt := 148) dX12_tells_46 (by decide) (fun hb => ?_) (fun hb => ?_)
        · rw [if_pos hb] at hf10
          cases hf10
          refine e_drop (i := 3) ?_
          refine e_drop (i := 4) ?_
          have hh := hk10 _ (hx10 _ rfl)
          try dsimp only at hh
          exact hh
        · rw [if_neg hb] at hf10
          refine e_iconst (pc := 49) dX12_tells_49 (x_R rfl) ?_
          refine e_istore (pc := 50) (i := 5) dX12_tells_50 (by decide) rfl ?_
          show Ev g _ _ _ _ _ _ 52 [some (x_r (16 * 32 + 0)), some (x_i v1), some (x_i v6), some (x_i v7), some (x_i v8), some (x_i 0), none, none, none] [] (al, ro, fl (ml M [32] [(x_up S2 0 0 v4)])) _ _ _ _
          refine e_iconst (pc := 52) dX12_tells_52 (x_R rfl) ?_
          refine e_istore (pc := 53) (i := 6) dX12_tells_53 (by decide) rfl ?_
          show Ev g _ _ _ _ _ _ 55 [some (x_r (16 * 32 + 0)), some (x_i v1), some (x_i v6), some (x_i v7), some (x_i v8), some (x_i 0), some (x_i 0), none, none] [] (al, ro, fl (ml M [32] [(x_up S2 0 0 v4)])) _ _ _ _
          obtain ⟨v14, hl15, hf10⟩ := x_bd1 hf10
          have hk15 : ∀ q : Int, q = v14 → Ev g yX12_tells cX12_tells 9 (some .int) [] 2 127 [some (x_r (16 * 32 + 0)), some (x_i v1), some (x_i v6), some (x_i v7), some (x_i v8), some (x_i q), none, none, none] [] (al, ro, fl (ml M [32] [(x_up S2 0 0 v4)])) 0 0 (.inl (some (x_i t.1))) (al, ro, fl (ml M [32] [t.2])) := by
            intro q hq
            replace hq := hq.symm
            subst hq
            refine e_iload (pc := 127) dX12_tells_127 rfl ?_
            refine e_iloadn (pc := 129) (i := 3) dX12_tells_129 rfl rfl ?_
            obtain ⟨v28, v29, hr29, hf10⟩ := x_bd2 hf10
            have hjhr29 : Ev g yX12_tells cX12_tells 9 (some .int) [] 2 142 [some (x_r (16 * 32 + 0)), some (x_i v1), some (x_i v28), some (x_i v29), some (x_i v8), some (x_i v14), none, none, none] [] (al, ro, fl (ml M [32] [(x_up S2 0 0 v4)])) 0 0 (.inl (some (x_i t.1))) (al, ro, fl (ml M [32] [t.2])) := by
              refine e_iinc (pc := 142) dX12_tells_142 rfl (by decide) rfl ?_
              show Ev g _ _ _ _ _ _ 145 [some (x_r (16 * 32 + 0)), some (x_i v1), some (x_i v28), some (x_i v29), some (x_i (x_add v8 1)), some (x_i v14), none, none, none] [] (al, ro, fl (ml M [32] [(x_up S2 0 0 v4)])) _ _ _ _
              refine e_goto (pc := 145) (tgt := 37) dX12_tells_145 (by decide) ?_
              cases hf10
              refine e_drop (i := 5) ?_
              have hh := hi10 _ rfl
              try dsimp only at hh
              exact hh
            clear hf10
            refine e_icmp_lt (pc := 130) (tgt := 136) dX12_tells_130 (by decide) (fun hb => ?_) (fun hb => ?_)
            · rw [if_pos hb] at hr29
              refine e_iload (pc := 136) dX12_tells_136 rfl ?_
              refine e_istoren (pc := 138) (i := 3) dX12_tells_138 rfl (by decide) rfl ?_
              show Ev g _ _ _ _ _ _ 139 [some (x_r (16 * 32 + 0)), some (x_i v1), some (x_i v6), some (x_i v14), some (x_i v8), some (x_i v14), none, none, none] [] (al, ro, fl (ml M [32] [(x_up S2 0 0 v4)])) _ _ _ _
              refine e_iload (pc := 139) dX12_tells_139 rfl ?_
              refine e_istoren (pc := 141) (i := 2) dX12_tells_141 rfl (by decide) rfl ?_
              show Ev g _ _ _ _ _ _ 142 [some (x_r (16 * 32 + 0)), some (x_i v1), some (x_i v8), some (x_i v14), some (x_i v8), some (x_i v14), none, none, none] [] (al, ro, fl (ml M [32] [(x_up S2 0 0 v4)])) _ _ _ _
              cases hr29
              exact hjhr29
            · rw [if_neg hb] at hr29
              refine e_goto (pc := 133) (tgt := 142) dX12_tells_133 (by decide) ?_
              cases hr29
              exact hjhr29
          clear hf10
          refine e_whl (G12_tells_L55 S2 v4 v8) (fun z : (Int × Int) => Ev g yX12_tells cX12_tells 9 (some .int) [] 2 55 [some (x_r (16 * 32 + 0)), some (x_i v1), some (x_i v6), some (x_i v7), some (x_i v8), some (x_i z.1), some (x_i z.2), none, none] [] (al, ro, fl (ml M [32] [(x_up S2 0 0 v4)])) 0 0 (.inl (some (x_i t.1))) (al, ro, fl (ml M [32] [t.2]))) (fun q => q = v14) ?_ xFU (0, 0) _ hl15 rfl
          intro z t15 hf15 hi15 hx15
          obtain ⟨v12, v13⟩ := z
          rw [G12_tells_L55] at hf15
          show Ev g _ _ _ _ _ _ 55 [some (x_r (16 * 32 + 0)), some (x_i v1), some (x_i v6), some (x_i v7), some (x_i v8), some (x_i v12), some (x_i v13), none, none] [] (al, ro, fl (ml M [32] [(x_up S2 0 0 v4)])) _ _ _ _
          refine e_iload (pc := 55) dX12_tells_55 rfl ?_
          refine e_iconst (pc := 57) dX12_tells_57 (x_R rfl) ?_
          refine e_icmp_ge (pc := 58) (tgt := 127) dX12_tells_58 (by decide) (fun hb => ?_) (fun hb => ?_)
          · rw [if_pos hb] at hf15
            cases hf15
            refine e_drop (i := 6) ?_
            have hh := hk15 _ (hx15 _ rfl)
            try dsimp only at hh
            exact hh
          · rw [if_neg hb] at hf15
            refine e_iconst (pc := 61) dX12_tells_61 (x_R rfl) ?_
            refine e_istore (pc := 62) (i := 7) dX12_tells_62 (by decide) rfl ?_
            show Ev g _ _ _ _ _ _ 64 [some (x_r (16 * 32 + 0)), some (x_i v1), some (x_i v6), some (x_i v7), some (x_i v8), some (x_i v12), some (x_i v13), some (x_i 0), none] [] (al, ro, fl (ml M [32] [(x_up S2 0 0 v4)])) _ _ _ _
            refine e_iconst (pc := 64) dX12_tells_64 (x_R rfl) ?_
            refine e_istore (pc := 65) (i := 8) dX12_tells_65 (by decide) rfl ?_
            show Ev g _ _ _ _ _ _ 67 [some (x_r (16 * 32 + 0)), some (x_i v1), some (x_i v6), some (x_i v7), some (x_i v8), some (x_i v12), some (x_i v13), some (x_i 0), some (x_i 0)] [] (al, ro, fl (ml M [32] [(x_up S2 0 0 v4)])) _ _ _ _
            obtain ⟨v19, hl20, hf15⟩ := x_bd1 hf15
            have hk20 : ∀ q : Int, q = v19 → Ev g yX12_tells cX12_tells 9 (some .int) [] 2 112 [some (x_r (16 * 32 + 0)), some (x_i v1), some (x_i v6), some (x_i v7), some (x_i v8), some (x_i v12), some (x_i v13), some (x_i q), none] [] (al, ro, fl (ml M [32] [(x_up S2 0 0 v4)])) 0 0 (.inl (some (x_i t.1))) (al, ro, fl (ml M [32] [t.2])) := by
              intro q hq
              replace hq := hq.symm
              subst hq
              refine e_iload (pc := 112) dX12_tells_112 rfl ?_
              refine e_iload (pc := 114) dX12_tells_114 rfl ?_
              obtain ⟨v26, hq26, hf15⟩ := x_bd1 hf15
              refine e_invS (pc := 116) (K1 := 0) (S1 := 0) (K := 0) (S := 0) (dd2 := 0) (av := [x_i v12, x_i v19]) (st := []) dX12_tells_116 xmX12_266 rfl (f_cal (M := M) (us2 := []) [] hn rfl trivial rfl rfl rfl (c_X12_greater hst hs   hq26)) (by decide) (Nat.le_of_ble_eq_true rfl) (Or.inl rfl) ?_
              show Ev g _ _ _ _ _ _ 119 [some (x_r (16 * 32 + 0)), some (x_i v1), some (x_i v6), some (x_i v7), some (x_i v8), some (x_i v12), some (x_i v13), some (x_i v19), none] [x_i v26] (al, ro, fl (ml M [32] [(x_up S2 0 0 v4)])) _ _ _ _
              refine e_istore (pc := 119) (i := 5) dX12_tells_119 (by decide) rfl ?_
              show Ev g _ _ _ _ _ _ 121 [some (x_r (16 * 32 + 0)), some (x_i v1), some (x_i v6), some (x_i v7), some (x_i v8), some (x_i v26), some (x_i v13), some (x_i v19), none] [] (al, ro, fl (ml M [32] [(x_up S2 0 0 v4)])) _ _ _ _
              refine e_iinc (pc := 121) dX12_tells_121 rfl (by decide) rfl ?_
              show Ev g _ _ _ _ _ _ 124 [some (x_r (16 * 32 + 0)), some (x_i v1), some (x_i v6), some (x_i v7), some (x_i v8), some (x_i v26), some (x_i (x_add v13 1)), some (x_i v19), none] [] (al, ro, fl (ml M [32] [(x_up S2 0 0 v4)])) _ _ _ _
              refine e_goto (pc := 124) (tgt := 55) dX12_tells_124 (by decide) ?_
              cases hf15
              refine e_drop (i := 7) ?_
              have hh := hi15 _ rfl
              try dsimp only at hh
              exact hh
            clear hf15
            refine e_whl (G12_tells_L67 S2 v4 v8 v13) (fun z : (Int × Int) => Ev g yX12_tells cX12_tells 9 (some .int) [] 2 67 [some (x_r (16 * 32 + 0)), some (x_i v1), some (x_i v6), some (x_i v7), some (x_i v8), some (x_i v12), some (x_i v13), some (x_i z.1), some (x_i z.2)] [] (al, ro, fl (ml M [32] [(x_up S2 0 0 v4)])) 0 0 (.inl (some (x_i t.1))) (al, ro, fl (ml M [32] [t.2]))) (fun q => q = v19) ?_ xFU (0, 0) _ hl20 rfl
            intro z t20 hf20 hi20 hx20
            obtain ⟨v17, v18⟩ := z
            rw [G12_tells_L67] at hf20
            show Ev g _ _ _ _ _ _ 67 [some (x_r (16 * 32 + 0)), some (x_i v1), some (x_i v6), some (x_i v7), some (x_i v8), some (x_i v12), some (x_i v13), some (x_i v17), some (x_i v18)] [] (al, ro, fl (ml M [32] [(x_up S2 0 0 v4)])) _ _ _ _
            refine e_iload (pc := 67) dX12_tells_67 rfl ?_
            refine e_bipush (pc := 69) dX12_tells_69 (by decide +kernel) (x_R rfl) ?_
            refine e_icmp_ge (pc := 71) (tgt := 112) dX12_tells_71 (by decide) (fun hb => ?_) (fun hb => ?_)
            · rw [if_pos hb] at hf20
              cases hf20
              refine e_drop (i := 8) ?_
              have hh := hk20 _ (hx20 _ rfl)
              try dsimp only at hh
              exact hh
            · rw [if_neg hb] at hf20
              refine e_iload (pc := 74) dX12_tells_74 rfl ?_
              refine e_aloadn (pc := 76) (i := 0) dX12_tells_76 rfl rfl ?_
              refine f_getr (pc := 77) (u := 32) (q := 0) dX12_tells_77 xf12_45 (sa_32_0 hs) rfl (sr_32_0_23 hs) ?_
              refine e_iload (pc := 80) dX12_tells_80 rfl ?_
              obtain ⟨hc0, hf20⟩ := x_gd_some hf20
              refine f_zald (pc := 82) (k := 0) (u := 32) (q := 11) (len := 144) dX12_tells_82 (sa_32_11 hs) hc0 hn rfl rfl (by decide) ?_
              show Ev g _ _ _ _ _ _ 83 [some (x_r (16 * 32 + 0)), some (x_i v1), some (x_i v6), some (x_i v7), some (x_i v8), some (x_i v12), some (x_i v13), some (x_i v17), some (x_i v18)] [x_i ((x_up S2 0 0 v4) 11 (v18).toNat), x_i v17] (al, ro, fl (ml M [32] [(x_up S2 0 0 v4)])) _ _ _ _
              obtain ⟨v22, hr22, hf20⟩ := x_bd1 hf20
              have hjhr22 : Ev g yX12_tells cX12_tells 9 (some .int) [] 2 103 [some (x_r (16 * 32 + 0)), some (x_i v1), some (x_i v6), some (x_i v7), some (x_i v8), some (x_i v12), some (x_i v13), some (x_i v17), some (x_i v18)] [x_i v22, x_i v17] (al, ro, fl (ml M [32] [(x_up S2 0 0 v4)])) 0 0 (.inl (some (x_i t.1))) (al, ro, fl (ml M [32] [t.2])) := by
                refine e_iadd (pc := 103) dX12_tells_103 ?_
                refine e_istore (pc := 104) (i := 7) dX12_tells_104 (by decide) rfl ?_
                show Ev g _ _ _ _ _ _ 106 [some (x_r (16 * 32 + 0)), some (x_i v1), some (x_i v6), some (x_i v7), some (x_i v8), some (x_i v12), some (x_i v13), some (x_i (x_add v17 v22)), some (x_i v18)] [] (al, ro, fl (ml M [32] [(x_up S2 0 0 v4)])) _ _ _ _
                refine e_iinc (pc := 106) dX12_tells_106 rfl (by decide) rfl ?_
                show Ev g _ _ _ _ _ _ 109 [some (x_r (16 * 32 + 0)), some (x_i v1), some (x_i v6), some (x_i v7), some (x_i v8), some (x_i v12), some (x_i v13), some (x_i (x_add v17 v22)), some (x_i (x_add v18 1))] [] (al, ro, fl (ml M [32] [(x_up S2 0 0 v4)])) _ _ _ _
                refine e_goto (pc := 109) (tgt := 67) dX12_tells_109 (by decide) ?_
                cases hf20
                have hh := hi20 _ rfl
                try dsimp only at hh
                exact hh
              clear hf20
              refine e_if_eq (pc := 83) (tgt := 102) dX12_tells_83 (by decide) (fun hb => ?_) (fun hb => ?_)
              · rw [if_pos hb] at hr22
                refine e_iconst (pc := 102) dX12_tells_102 (x_R rfl) ?_
                cases hr22
                exact hjhr22
              · rw [if_neg hb] at hr22
                refine e_iload (pc := 86) dX12_tells_86 rfl ?_
                refine e_iload (pc := 88) dX12_tells_88 rfl ?_
                obtain ⟨v24, hq24, hr22⟩ := x_bd1 hr22
                refine e_invS (pc := 90) (K1 := 0) (S1 := 0) (K := 0) (S := 0) (dd2 := 0) (av := [x_i v18, x_i v8]) (st := [x_i v17]) dX12_tells_90 xmX12_376 rfl (f_cal (M := M) (us2 := []) [] hn rfl trivial rfl rfl rfl (c_X12_moodBy hst hs   hq24)) (by decide) (Nat.le_of_ble_eq_true rfl) (Or.inl rfl) ?_
                show Ev g _ _ _ _ _ _ 93 [some (x_r (16 * 32 + 0)), some (x_i v1), some (x_i v6), some (x_i v7), some (x_i v8), some (x_i v12), some (x_i v13), some (x_i v17), some (x_i v18)] [x_i v24, x_i v17] (al, ro, fl (ml M [32] [(x_up S2 0 0 v4)])) _ _ _ _
                refine e_iload (pc := 93) dX12_tells_93 rfl ?_
                refine e_icmp_ne (pc := 95) (tgt := 102) dX12_tells_95 (by decide) (fun hb => ?_) (fun hb => ?_)
                · rw [if_neg hb] at hr22
                  refine e_iconst (pc := 102) dX12_tells_102 (x_R rfl) ?_
                  cases hr22
                  exact hjhr22
                · rw [if_pos hb] at hr22
                  refine e_iconst (pc := 98) dX12_tells_98 (x_R rfl) ?_
                  refine e_goto (pc := 99) (tgt := 103) dX12_tells_99 (by decide) ?_
                  cases hr22
                  exact hjhr22
    · rw [if_neg hb] at hG
      refine e_iconst (pc := 26) dX12_tells_26 (x_R rfl) ?_
      cases hG
      exact (e_ireturn rfl dX12_tells_27 rfl)
  clear hG
  refine e_icmp_ne (pc := 8) (tgt := 15) dX12_tells_8 (by decide) (fun hb => ?_) (fun hb => ?_)
  · rw [if_neg hb] at hr4
    refine e_iconst (pc := 15) dX12_tells_15 (x_R rfl) ?_
    cases hr4
    exact hjhr4
  · rw [if_pos hb] at hr4
    refine e_iconst (pc := 11) dX12_tells_11 (x_R rfl) ?_
    refine e_goto (pc := 12) (tgt := 16) dX12_tells_12 (by decide) ?_
    cases hr4
    exact hjhr4
set_option maxRecDepth 100000 in
set_option maxHeartbeats 4000000 in
theorem c_X12_share {g : xG} {al : List (Nat × Nat × Nat)} {ro : Nat → Nat → Option Nat} (hst : g.1.stackTraces = false) (hs : SH al ro) {M : Nat → xU} {a : Int} {b : Int} {S : xU}  {t : (Int × xU)} (hG : G12_share a b S = some t) :
    Cal g yX12_share cX12_share 6 (some .int) 2 [x_r (16 * 32 + 0), x_i a, x_i b] (al, ro, fl (ml M [32] [S])) 0 0 (.inl (some (x_i t.1))) (al, ro, fl (ml M [32] [t.2])) := by
  have hn : ([32] : List Nat).Nodup := by decide
  refine cal_of_ev (plainFor_of_name (by decide)) (x_c1 rfl) (Nat.le_of_ble_eq_true rfl) hst ?_
  show Ev g _ _ _ _ _ _ 0 [some (x_r (16 * 32 + 0)), some (x_i a), some (x_i b), none, none, none] [] (al, ro, fl (ml M [32] [S])) _ _ _ _
  rw [G12_share] at hG
  refine e_aloadn (pc := 0) (i := 0) dX12_share_0 rfl rfl ?_
  refine e_iloadn (pc := 1) (i := 1) dX12_share_1 rfl rfl ?_
  obtain ⟨v1, hq1, hG⟩ := x_bd1 hG
  refine e_invS (pc := 2) (K1 := 0) (S1 := 0) (K := 0) (S := 0) (dd2 := 1) (av := [x_i a]) (st := [x_r (16 * 32 + 0)]) dX12_share_2 xmX12_301 rfl (f_cal (M := M) (us2 := []) [] hn rfl trivial rfl rfl rfl (c_X12_isWalk hst hs   hq1)) (by decide) (Nat.le_of_ble_eq_true rfl) (Or.inl rfl) ?_
  show Ev g _ _ _ _ _ _ 5 [some (x_r (16 * 32 + 0)), some (x_i a), some (x_i b), none, none, none] [x_i v1, x_r (16 * 32 + 0)] (al, ro, fl (ml M [32] [S])) _ _ _ _
  obtain ⟨v3, hr3, hG⟩ := x_bd1 hG
  have hjhr3 : Ev g yX12_share cX12_share 6 (some .int) [] 2 28 [some (x_r (16 * 32 + 0)), some (x_i a), some (x_i b), none, none, none] [x_i v3, x_r (16 * 32 + 0)] (al, ro, fl (ml M [32] [S])) 0 0 (.inl (some (x_i t.1))) (al, ro, fl (ml M [32] [t.2])) := by
    refine f_puti (pc := 28) (k := 0) (u := 32) (q := 0) dX12_share_28 xf12_58 xw10_0 (sa_32_0 hs) hn rfl rfl rfl (by decide) ?_
    show Ev g _ _ _ _ _ _ 31 [some (x_r (16 * 32 + 0)), some (x_i a), some (x_i b), none, none, none] [] (al, ro, fl (ml M [32] [(x_up S 0 0 v3)])) _ _ _ _
    refine e_aloadn (pc := 31) (i := 0) dX12_share_31 rfl rfl ?_
    refine f_geti (pc := 32) (k := 0) (u := 32) (q := 0) dX12_share_32 xf12_58 (sa_32_0 hs) rfl hn rfl rfl (by decide) ?_
    show Ev g _ _ _ _ _ _ 35 [some (x_r (16 * 32 + 0)), some (x_i a), some (x_i b), none, none, none] [x_i ((x_up S 0 0 v3) 0 0)] (al, ro, fl (ml M [32] [(x_up S 0 0 v3)])) _ _ _ _
    refine e_if_le (pc := 35) (tgt := 40) dX12_share_35 (by decide) (fun hb => ?_) (fun hb => ?_)
    · rw [if_pos hb] at hG
      refine e_iconst (pc := 40) dX12_share_40 (x_R rfl) ?_
      refine e_istoren (pc := 41) (i := 3) dX12_share_41 rfl (by decide) rfl ?_
      show Ev g _ _ _ _ _ _ 42 [some (x_r (16 * 32 + 0)), some (x_i a), some (x_i b), some (x_i 0), none, none] [] (al, ro, fl (ml M [32] [(x_up S 0 0 v3)])) _ _ _ _
      obtain ⟨S9, hl10, hG⟩ := x_bd1 hG
      have hk10 : ∀ q : xU, q = S9 → Ev g yX12_share cX12_share 6 (some .int) [] 2 68 [some (x_r (16 * 32 + 0)), some (x_i a), some (x_i b), none, none, none] [] (al, ro, fl (ml M [32] [q])) 0 0 (.inl (some (x_i t.1))) (al, ro, fl (ml M [32] [t.2])) := by
        intro q hq
        replace hq := hq.symm
        subst hq
        refine e_iconst (pc := 68) dX12_share_68 (x_R rfl) ?_
        refine e_istoren (pc := 69) (i := 3) dX12_share_69 rfl (by decide) rfl ?_
        show Ev g _ _ _ _ _ _ 70 [some (x_r (16 * 32 + 0)), some (x_i a), some (x_i b), some (x_i 0), none, none] [] (al, ro, fl (ml M [32] [S9])) _ _ _ _
        obtain ⟨S14, hl15, hG⟩ := x_bd1 hG
        have hk15 : ∀ q : xU, q = S14 → Ev g yX12_share cX12_share 6 (some .int) [] 2 142 [some (x_r (16 * 32 + 0)), some (x_i a), some (x_i b), none, none, none] [] (al, ro, fl (ml M [32] [q])) 0 0 (.inl (some (x_i t.1))) (al, ro, fl (ml M [32] [t.2])) := by
          intro q hq
          replace hq := hq.symm
          subst hq
          refine e_aloadn (pc := 142) (i := 0) dX12_share_142 rfl rfl ?_
          refine f_getr (pc := 143) (u := 32) (q := 0) dX12_share_143 xf12_55 (sa_32_0 hs) rfl (sr_32_0_26 hs) ?_
          refine e_iloadn (pc := 146) (i := 1) dX12_share_146 rfl rfl ?_
          obtain ⟨hc0, hG⟩ := x_gd_some hG
          refine f_iald (pc := 147) (k := 0) (u := 32) (q := 14) (len := 4) dX12_share_147 (sa_32_14 hs) hc0 hn rfl rfl (by decide) ?_
          show Ev g _ _ _ _ _ _ 148 [some (x_r (16 * 32 + 0)), some (x_i a), some (x_i b), none, none, none] [x_i (S14 14 (a).toNat)] (al, ro, fl (ml M [32] [S14])) _ _ _ _
          cases hG
          exact (e_ireturn rfl dX12_share_148 rfl)
        clear hG
        refine e_whl (G12_share_L70 b) (fun z : (Int × xU) => Ev g yX12_share cX12_share 6 (some .int) [] 2 70 [some (x_r (16 * 32 + 0)), some (x_i a), some (x_i b), some (x_i z.1), none, none] [] (al, ro, fl (ml M [32] [z.2])) 0 0 (.inl (some (x_i t.1))) (al, ro, fl (ml M [32] [t.2]))) (fun q => q = S14) ?_ xFU (0, S9) _ hl15 rfl
        intro z t15 hf15 hi15 hx15
        obtain ⟨v12, S13⟩ := z
        rw [G12_share_L70] at hf15
        show Ev g _ _ _ _ _ _ 70 [some (x_r (16 * 32 + 0)), some (x_i a), some (x_i b), some (x_i v12), none, none] [] (al, ro, fl (ml M [32] [S13])) _ _ _ _
        refine e_iloadn (pc := 70) (i := 3) dX12_share_70 rfl rfl ?_
        refine e_iloadn (pc := 71) (i := 2) dX12_share_71 rfl rfl ?_
        refine e_icmp_ge (pc := 72) (tgt := 142) dX12_share_72 (by decide) (fun hb => ?_) (fun hb => ?_)
        · rw [if_pos hb] at hf15
          cases hf15
          refine e_drop (i := 3) ?_
          have hh := hk15 _ (hx15 _ rfl)
          try dsimp only at hh
          exact hh
        · rw [if_neg hb] at hf15
          refine e_iconst (pc := 75) dX12_share_75 (x_R rfl) ?_
          refine e_istore (pc := 76) (i := 4) dX12_share_76 (by decide) rfl ?_
          show Ev g _ _ _ _ _ _ 78 [some (x_r (16 * 32 + 0)), some (x_i a), some (x_i b), some (x_i v12), some (x_i 0), none] [] (al, ro, fl (ml M [32] [S13])) _ _ _ _
          refine e_iconst (pc := 78) dX12_share_78 (x_R rfl) ?_
          refine e_istore (pc := 79) (i := 5) dX12_share_79 (by decide) rfl ?_
          show Ev g _ _ _ _ _ _ 81 [some (x_r (16 * 32 + 0)), some (x_i a), some (x_i b), some (x_i v12), some (x_i 0), some (x_i 1)] [] (al, ro, fl (ml M [32] [S13])) _ _ _ _
          obtain ⟨v19, hl20, hf15⟩ := x_bd1 hf15
          have hk20 : ∀ q : Int, q = v19 → Ev g yX12_share cX12_share 6 (some .int) [] 2 114 [some (x_r (16 * 32 + 0)), some (x_i a), some (x_i b), some (x_i v12), some (x_i q), none] [] (al, ro, fl (ml M [32] [S13])) 0 0 (.inl (some (x_i t.1))) (al, ro, fl (ml M [32] [t.2])) := by
            intro q hq
            replace hq := hq.symm
            subst hq
            refine e_aloadn (pc := 114) (i := 0) dX12_share_114 rfl rfl ?_
            refine f_getr (pc := 115) (u := 32) (q := 0) dX12_share_115 xf12_55 (sa_32_0 hs) rfl (sr_32_0_26 hs) ?_
            refine e_iload (pc := 118) dX12_share_118 rfl ?_
            refine e_sipush (pc := 120) dX12_share_120 (by decide +kernel) (x_R rfl) ?_
            refine e_aloadn (pc := 123) (i := 0) dX12_share_123 rfl rfl ?_
            refine f_getr (pc := 124) (u := 32) (q := 0) dX12_share_124 xf12_55 (sa_32_0 hs) rfl (sr_32_0_26 hs) ?_
            refine e_iload (pc := 127) dX12_share_127 rfl ?_
            obtain ⟨hc0, hf15⟩ := x_gd_some hf15
            refine f_iald (pc := 129) (k := 0) (u := 32) (q := 14) (len := 4) dX12_share_129 (sa_32_14 hs) hc0 hn rfl rfl (by decide) ?_
            show Ev g _ _ _ _ _ _ 130 [some (x_r (16 * 32 + 0)), some (x_i a), some (x_i b), some (x_i v12), some (x_i v19), none] [x_i (S13 14 (v19).toNat), x_i 999, x_i v19, x_r (16 * 32 + 14)] (al, ro, fl (ml M [32] [S13])) _ _ _ _
            refine e_iconst (pc := 130) dX12_share_130 (x_R rfl) ?_
            refine e_iadd (pc := 131) dX12_share_131 ?_
            obtain ⟨v24, hq24, hf15⟩ := x_bd1 hf15
            refine e_invS (pc := 132) (K1 := 0) (S1 := 0) (K := 0) (S := 0) (dd2 := 0) (av := [x_i 999, x_i (x_add (S13 14 (v19).toNat) 1)]) (st := [x_i v19, x_r (16 * 32 + 14)]) dX12_share_132 xmX12_73 rfl (f_cal (M := M) (us2 := []) [] hn rfl trivial rfl rfl rfl (c_X12_lesser hst hs   hq24)) (by decide) (Nat.le_of_ble_eq_true rfl) (Or.inl rfl) ?_
            show Ev g _ _ _ _ _ _ 135 [some (x_r (16 * 32 + 0)), some (x_i a), some (x_i b), some (x_i v12), some (x_i v19), none] [x_i v24, x_i v19, x_r (16 * 32 + 14)] (al, ro, fl (ml M [32] [S13])) _ _ _ _
            obtain ⟨hc0, hf15⟩ := x_gd_some hf15
            refine f_iast (pc := 135) (k := 0) (u := 32) (q := 14) (len := 4) dX12_share_135 (sa_32_14 hs) hc0 hn rfl rfl rfl (by decide) ?_
            show Ev g _ _ _ _ _ _ 136 [some (x_r (16 * 32 + 0)), some (x_i a), some (x_i b), some (x_i v12), some (x_i v19), none] [] (al, ro, fl (ml M [32] [(x_up S13 14 (v19).toNat v24)])) _ _ _ _
            refine e_iinc (pc := 136) dX12_share_136 rfl (by decide) rfl ?_
            show Ev g _ _ _ _ _ _ 139 [some (x_r (16 * 32 + 0)), some (x_i a), some (x_i b), some (x_i (x_add v12 1)), some (x_i v19), none] [] (al, ro, fl (ml M [32] [(x_up S13 14 (v19).toNat v24)])) _ _ _ _
            refine e_goto (pc := 139) (tgt := 70) dX12_share_139 (by decide) ?_
            cases hf15
            refine e_drop (i := 4) ?_
            have hh := hi15 _ rfl
            try dsimp only at hh
            exact hh
          clear hf15
          refine e_whl (G12_share_L81 S13) (fun z : (Int × Int) => Ev g yX12_share cX12_share 6 (some .int) [] 2 81 [some (x_r (16 * 32 + 0)), some (x_i a), some (x_i b), some (x_i v12), some (x_i z.1), some (x_i z.2)] [] (al, ro, fl (ml M [32] [S13])) 0 0 (.inl (some (x_i t.1))) (al, ro, fl (ml M [32] [t.2]))) (fun q => q = v19) ?_ xFU (0, 1) _ hl20 rfl
          intro z t20 hf20 hi20 hx20
          obtain ⟨v17, v18⟩ := z
          rw [G12_share_L81] at hf20
          show Ev g _ _ _ _ _ _ 81 [some (x_r (16 * 32 + 0)), some (x_i a), some (x_i b), some (x_i v12), some (x_i v17), some (x_i v18)] [] (al, ro, fl (ml M [32] [S13])) _ _ _ _
          refine e_iload (pc := 81) dX12_share_81 rfl ?_
          refine e_iconst (pc := 83) dX12_share_83 (x_R rfl) ?_
          refine e_icmp_ge (pc := 84) (tgt := 114) dX12_share_84 (by decide) (fun hb => ?_) (fun hb => ?_)
          · rw [if_pos hb] at hf20
            cases hf20
            refine e_drop (i := 5) ?_
            have hh := hk20 _ (hx20 _ rfl)
            try dsimp only at hh
            exact hh
          · rw [if_neg hb] at hf20
            refine e_aloadn (pc := 87) (i := 0) dX12_share_87 rfl rfl ?_
            refine f_getr (pc := 88) (u := 32) (q := 0) dX12_share_88 xf12_55 (sa_32_0 hs) rfl (sr_32_0_26 hs) ?_
            refine e_iload (pc := 91) dX12_share_91 rfl ?_
            obtain ⟨hc0, hf20⟩ := x_gd_some hf20
            refine f_iald (pc := 93) (k := 0) (u := 32) (q := 14) (len := 4) dX12_share_93 (sa_32_14 hs) hc0 hn rfl rfl (by decide) ?_
            show Ev g _ _ _ _ _ _ 94 [some (x_r (16 * 32 + 0)), some (x_i a), some (x_i b), some (x_i v12), some (x_i v17), some (x_i v18)] [x_i (S13 14 (v18).toNat)] (al, ro, fl (ml M [32] [S13])) _ _ _ _
            refine e_aloadn (pc := 94) (i := 0) dX12_share_94 rfl rfl ?_
            refine f_getr (pc := 95) (u := 32) (q := 0) dX12_share_95 xf12_55 (sa_32_0 hs) rfl (sr_32_0_26 hs) ?_
            refine e_iload (pc := 98) dX12_share_98 rfl ?_
            obtain ⟨hc0, hf20⟩ := x_gd_some hf20
            refine f_iald (pc := 100) (k := 0) (u := 32) (q := 14) (len := 4) dX12_share_100 (sa_32_14 hs) hc0 hn rfl rfl (by decide) ?_
            show Ev g _ _ _ _ _ _ 101 [some (x_r (16 * 32 + 0)), some (x_i a), some (x_i b), some (x_i v12), some (x_i v17), some (x_i v18)] [x_i (S13 14 (v17).toNat), x_i (S13 14 (v18).toNat)] (al, ro, fl (ml M [32] [S13])) _ _ _ _
            obtain ⟨v22, hr22, hf20⟩ := x_bd1 hf20
            have hjhr22 : Ev g yX12_share cX12_share 6 (some .int) [] 2 108 [some (x_r (16 * 32 + 0)), some (x_i a), some (x_i b), some (x_i v12), some (x_i v22), some (x_i v18)] [] (al, ro, fl (ml M [32] [S13])) 0 0 (.inl (some (x_i t.1))) (al, ro, fl (ml M [32] [t.2])) := by
              refine e_iinc (pc := 108) dX12_share_108 rfl (by decide) rfl ?_
              show Ev g _ _ _ _ _ _ 111 [some (x_r (16 * 32 + 0)), some (x_i a), some (x_i b), some (x_i v12), some (x_i v22), some (x_i (x_add v18 1))] [] (al, ro, fl (ml M [32] [S13])) _ _ _ _
              refine e_goto (pc := 111) (tgt := 81) dX12_share_111 (by decide) ?_
              cases hf20
              have hh := hi20 _ rfl
              try dsimp only at hh
              exact hh
            clear hf20
            refine e_icmp_ge (pc := 101) (tgt := 108) dX12_share_101 (by decide) (fun hb => ?_) (fun hb => ?_)
            · rw [if_pos hb] at hr22
              cases hr22
              exact hjhr22
            · rw [if_neg hb] at hr22
              refine e_iload (pc := 104) dX12_share_104 rfl ?_
              refine e_istore (pc := 106) (i := 4) dX12_share_106 (by decide) rfl ?_
              show Ev g _ _ _ _ _ _ 108 [some (x_r (16 * 32 + 0)), some (x_i a), some (x_i b), some (x_i v12), some (x_i v18), some (x_i v18)] [] (al, ro, fl (ml M [32] [S13])) _ _ _ _
              cases hr22
              exact hjhr22
      clear hG
      refine e_whl G12_share_L42 (fun z : (Int × xU) => Ev g yX12_share cX12_share 6 (some .int) [] 2 42 [some (x_r (16 * 32 + 0)), some (x_i a), some (x_i b), some (x_i z.1), none, none] [] (al, ro, fl (ml M [32] [z.2])) 0 0 (.inl (some (x_i t.1))) (al, ro, fl (ml M [32] [t.2]))) (fun q => q = S9) ?_ xFU (0, (x_up S 0 0 v3)) _ hl10 rfl
      intro z t10 hf10 hi10 hx10
      obtain ⟨v7, S8⟩ := z
      rw [G12_share_L42] at hf10
      show Ev g _ _ _ _ _ _ 42 [some (x_r (16 * 32 + 0)), some (x_i a), some (x_i b), some (x_i v7), none, none] [] (al, ro, fl (ml M [32] [S8])) _ _ _ _
      refine e_iloadn (pc := 42) (i := 3) dX12_share_42 rfl rfl ?_
      refine e_iconst (pc := 43) dX12_share_43 (x_R rfl) ?_
      refine e_icmp_ge (pc := 44) (tgt := 68) dX12_share_44 (by decide) (fun hb => ?_) (fun hb => ?_)
      · rw [if_pos hb] at hf10
        cases hf10
        refine e_drop (i := 3) ?_
        have hh := hk10 _ (hx10 _ rfl)
        try dsimp only at hh
        exact hh
      · rw [if_neg hb] at hf10
        refine e_aloadn (pc := 47) (i := 0) dX12_share_47 rfl rfl ?_
        refine f_getr (pc := 48) (u := 32) (q := 0) dX12_share_48 xf12_55 (sa_32_0 hs) rfl (sr_32_0_26 hs) ?_
        refine e_iloadn (pc := 51) (i := 3) dX12_share_51 rfl rfl ?_
        refine e_aloadn (pc := 52) (i := 0) dX12_share_52 rfl rfl ?_
        refine f_getr (pc := 53) (u := 32) (q := 0) dX12_share_53 xf12_7 (sa_32_0 hs) rfl (sr_32_0_1 hs) ?_
        refine e_bipush (pc := 56) dX12_share_56 (by decide +kernel) (x_R rfl) ?_
        refine e_iloadn (pc := 58) (i := 3) dX12_share_58 rfl rfl ?_
        refine e_iadd (pc := 59) dX12_share_59 ?_
        obtain ⟨hc0, hf10⟩ := x_gd_some hf10
        refine f_iald (pc := 60) (k := 0) (u := 32) (q := 1) (len := 772) dX12_share_60 (sa_32_1 hs) hc0 hn rfl rfl (by decide) ?_
        show Ev g _ _ _ _ _ _ 61 [some (x_r (16 * 32 + 0)), some (x_i a), some (x_i b), some (x_i v7), none, none] [x_i (S8 1 ((x_add 12 v7)).toNat), x_i v7, x_r (16 * 32 + 14)] (al, ro, fl (ml M [32] [S8])) _ _ _ _
        obtain ⟨hc0, hf10⟩ := x_gd_some hf10
        refine f_iast (pc := 61) (k := 0) (u := 32) (q := 14) (len := 4) dX12_share_61 (sa_32_14 hs) hc0 hn rfl rfl rfl (by decide) ?_
        show Ev g _ _ _ _ _ _ 62 [some (x_r (16 * 32 + 0)), some (x_i a), some (x_i b), some (x_i v7), none, none] [] (al, ro, fl (ml M [32] [(x_up S8 14 (v7).toNat (S8 1 ((x_add 12 v7)).toNat))])) _ _ _ _
        refine e_iinc (pc := 62) dX12_share_62 rfl (by decide) rfl ?_
        show Ev g _ _ _ _ _ _ 65 [some (x_r (16 * 32 + 0)), some (x_i a), some (x_i b), some (x_i (x_add v7 1)), none, none] [] (al, ro, fl (ml M [32] [(x_up S8 14 (v7).toNat (S8 1 ((x_add 12 v7)).toNat))])) _ _ _ _
        refine e_goto (pc := 65) (tgt := 42) dX12_share_65 (by decide) ?_
        cases hf10
        have hh := hi10 _ rfl
        try dsimp only at hh
        exact hh
    · rw [if_neg hb] at hG
      refine e_iconst (pc := 38) dX12_share_38 (x_R rfl) ?_
      cases hG
      exact (e_ireturn rfl dX12_share_39 rfl)
  clear hG
  refine e_if_ne (pc := 5) (tgt := 12) dX12_share_5 (by decide) (fun hb => ?_) (fun hb => ?_)
  · rw [if_neg hb] at hr3
    refine e_iloadn (pc := 12) (i := 2) dX12_share_12 rfl rfl ?_
    refine e_iconst (pc := 13) dX12_share_13 (x_R rfl) ?_
    refine e_sipush (pc := 14) dX12_share_14 (by decide +kernel) (x_R rfl) ?_
    obtain ⟨v5, hq5, hr3⟩ := x_bd1 hr3
    refine e_invS (pc := 17) (K1 := 0) (S1 := 0) (K := 0) (S := 0) (dd2 := 0) (av := [x_i b, x_i 0, x_i 999]) (st := [x_r (16 * 32 + 0)]) dX12_share_17 xmX12_61 rfl (f_cal (M := M) (us2 := []) [] hn rfl trivial rfl rfl rfl (c_X12_isIn hst hs   hq5)) (by decide) (Nat.le_of_ble_eq_true rfl) (Or.inl rfl) ?_
    show Ev g _ _ _ _ _ _ 20 [some (x_r (16 * 32 + 0)), some (x_i a), some (x_i b), none, none, none] [x_i v5, x_r (16 * 32 + 0)] (al, ro, fl (ml M [32] [S])) _ _ _ _
    refine e_if_ne (pc := 20) (tgt := 27) dX12_share_20 (by decide) (fun hb => ?_) (fun hb => ?_)
    · rw [if_neg hb] at hr3
      refine e_iconst (pc := 27) dX12_share_27 (x_R rfl) ?_
      cases hr3
      exact hjhr3
    · rw [if_pos hb] at hr3
      refine e_iconst (pc := 23) dX12_share_23 (x_R rfl) ?_
      refine e_goto (pc := 24) (tgt := 28) dX12_share_24 (by decide) ?_
      cases hr3
      exact hjhr3
  · rw [if_pos hb] at hr3
    refine e_iconst (pc := 8) dX12_share_8 (x_R rfl) ?_
    refine e_goto (pc := 9) (tgt := 28) dX12_share_9 (by decide) ?_
    cases hr3
    exact hjhr3
set_option maxRecDepth 100000 in
set_option maxHeartbeats 4000000 in
theorem c_X12_inWalk {g : xG} {al : List (Nat × Nat × Nat)} {ro : Nat → Nat → Option Nat} (hst : g.1.stackTraces = false) (hs : SH al ro) {M : Nat → xU} {a : Int} {b : Int} {S : xU}  {t : Int} (hG : G12_inWalk a b S = some t) :
    Cal g yX12_inWalk cX12_inWalk 5 (some .int) 2 [x_r (16 * 32 + 0), x_i a, x_i b] (al, ro, fl (ml M [32] [S])) 0 0 (.inl (some (x_i t))) (al, ro, fl (ml M [32] [S])) := by
  have hn : ([32] : List Nat).Nodup := by decide
  refine cal_of_ev (plainFor_of_name (by decide)) (x_c1 rfl) (Nat.le_of_ble_eq_true rfl) hst ?_
  show Ev g _ _ _ _ _ _ 0 [some (x_r (16 * 32 + 0)), some (x_i a), some (x_i b), none, none] [] (al, ro, fl (ml M [32] [S])) _ _ _ _
  rw [G12_inWalk] at hG
  refine e_iconst (pc := 0) dX12_inWalk_0 (x_R rfl) ?_
  refine e_istoren (pc := 1) (i := 3) dX12_inWalk_1 rfl (by decide) rfl ?_
  show Ev g _ _ _ _ _ _ 2 [some (x_r (16 * 32 + 0)), some (x_i a), some (x_i b), some (x_i 0), none] [] (al, ro, fl (ml M [32] [S])) _ _ _ _
  refine e_iconst (pc := 2) dX12_inWalk_2 (x_R rfl) ?_
  refine e_istore (pc := 3) (i := 4) dX12_inWalk_3 (by decide) rfl ?_
  show Ev g _ _ _ _ _ _ 5 [some (x_r (16 * 32 + 0)), some (x_i a), some (x_i b), some (x_i 0), some (x_i 0)] [] (al, ro, fl (ml M [32] [S])) _ _ _ _
  obtain ⟨v3, hl4, hG⟩ := x_bd1 hG
  have hk4 : ∀ q : Int, q = v3 → Ev g yX12_inWalk cX12_inWalk 5 (some .int) [] 2 56 [some (x_r (16 * 32 + 0)), some (x_i a), some (x_i b), some (x_i q), none] [] (al, ro, fl (ml M [32] [S])) 0 0 (.inl (some (x_i t))) (al, ro, fl (ml M [32] [S])) := by
    intro q hq
    replace hq := hq.symm
    subst hq
    refine e_iloadn (pc := 56) (i := 3) dX12_inWalk_56 rfl rfl ?_
    cases hG
    exact (e_ireturn rfl dX12_inWalk_57 rfl)
  clear hG
  refine e_whl (G12_inWalk_L5 a b S) (fun z : (Int × Int) => Ev g yX12_inWalk cX12_inWalk 5 (some .int) [] 2 5 [some (x_r (16 * 32 + 0)), some (x_i a), some (x_i b), some (x_i z.1), some (x_i z.2)] [] (al, ro, fl (ml M [32] [S])) 0 0 (.inl (some (x_i t))) (al, ro, fl (ml M [32] [S]))) (fun q => q = v3) ?_ xFU (0, 0) _ hl4 rfl
  intro z t4 hf4 hi4 hx4
  obtain ⟨v1, v2⟩ := z
  rw [G12_inWalk_L5] at hf4
  show Ev g _ _ _ _ _ _ 5 [some (x_r (16 * 32 + 0)), some (x_i a), some (x_i b), some (x_i v1), some (x_i v2)] [] (al, ro, fl (ml M [32] [S])) _ _ _ _
  refine e_iload (pc := 5) dX12_inWalk_5 rfl ?_
  refine e_aloadn (pc := 7) (i := 0) dX12_inWalk_7 rfl rfl ?_
  refine f_getr (pc := 8) (u := 32) (q := 0) dX12_inWalk_8 xf12_7 (sa_32_0 hs) rfl (sr_32_0_1 hs) ?_
  refine e_iconst (pc := 11) dX12_inWalk_11 (x_R rfl) ?_
  refine f_iald (pc := 12) (k := 0) (u := 32) (q := 1) (len := 772) dX12_inWalk_12 (sa_32_1 hs) (by decide) hn rfl rfl (by decide) ?_
  show Ev g _ _ _ _ _ _ 13 [some (x_r (16 * 32 + 0)), some (x_i a), some (x_i b), some (x_i v1), some (x_i v2)] [x_i (S 1 3), x_i v2] (al, ro, fl (ml M [32] [S])) _ _ _ _
  refine e_icmp_ge (pc := 13) (tgt := 56) dX12_inWalk_13 (by decide) (fun hb => ?_) (fun hb => ?_)
  · rw [if_pos hb] at hf4
    cases hf4
    refine e_drop (i := 4) ?_
    have hh := hk4 _ (hx4 _ rfl)
    try dsimp only at hh
    exact hh
  · rw [if_neg hb] at hf4
    refine e_iloadn (pc := 16) (i := 3) dX12_inWalk_16 rfl rfl ?_
    refine e_aloadn (pc := 17) (i := 0) dX12_inWalk_17 rfl rfl ?_
    refine e_iload (pc := 18) dX12_inWalk_18 rfl ?_
    refine e_iconst (pc := 20) dX12_inWalk_20 (x_R rfl) ?_
    obtain ⟨v6, hq6, hf4⟩ := x_bd1 hf4
    refine e_invV (pc := 21) (K1 := 0) (S1 := 0) (K := 0) (S := 0) (dd2 := 0) (av := [x_i v2, x_i 0]) (st := [x_i v1]) (id := 16 * 32 + 0) dX12_inWalk_21 xmX12_65 rfl (Or.inl ⟨10, 27, TX12, (sa_32_0 hs), rfl, by decide⟩) (f_cal (M := M) (us2 := [32]) [0] hn rfl (And.intro rfl trivial) rfl rfl rfl (c_X12_of hst hs   hq6)) (by decide) (Nat.le_of_ble_eq_true rfl) (Or.inl rfl) ?_
    show Ev g _ _ _ _ _ _ 24 [some (x_r (16 * 32 + 0)), some (x_i a), some (x_i b), some (x_i v1), some (x_i v2)] [x_i v6, x_i v1] (al, ro, fl (ml M [32] [S])) _ _ _ _
    refine e_iconst (pc := 24) dX12_inWalk_24 (x_R rfl) ?_
    refine e_idiv (pc := 25) dX12_inWalk_25 (by decide) ?_
    refine e_iloadn (pc := 26) (i := 1) dX12_inWalk_26 rfl rfl ?_
    obtain ⟨v8, hr8, hf4⟩ := x_bd1 hf4
    have hjhr8 : Ev g yX12_inWalk cX12_inWalk 5 (some .int) [] 2 48 [some (x_r (16 * 32 + 0)), some (x_i a), some (x_i b), some (x_i v1), some (x_i v2)] [x_i v8, x_i v1] (al, ro, fl (ml M [32] [S])) 0 0 (.inl (some (x_i t))) (al, ro, fl (ml M [32] [S])) := by
      refine e_iadd (pc := 48) dX12_inWalk_48 ?_
      refine e_istoren (pc := 49) (i := 3) dX12_inWalk_49 rfl (by decide) rfl ?_
      show Ev g _ _ _ _ _ _ 50 [some (x_r (16 * 32 + 0)), some (x_i a), some (x_i b), some (x_i (x_add v1 v8)), some (x_i v2)] [] (al, ro, fl (ml M [32] [S])) _ _ _ _
      refine e_iinc (pc := 50) dX12_inWalk_50 rfl (by decide) rfl ?_
      show Ev g _ _ _ _ _ _ 53 [some (x_r (16 * 32 + 0)), some (x_i a), some (x_i b), some (x_i (x_add v1 v8)), some (x_i (x_add v2 1))] [] (al, ro, fl (ml M [32] [S])) _ _ _ _
      refine e_goto (pc := 53) (tgt := 5) dX12_inWalk_53 (by decide) ?_
      cases hf4
      have hh := hi4 _ rfl
      try dsimp only at hh
      exact hh
    clear hf4
    refine e_icmp_ne (pc := 27) (tgt := 47) dX12_inWalk_27 (by decide) (fun hb => ?_) (fun hb => ?_)
    · rw [if_neg hb] at hr8
      refine e_iconst (pc := 47) dX12_inWalk_47 (x_R rfl) ?_
      cases hr8
      exact hjhr8
    · rw [if_pos hb] at hr8
      refine e_iloadn (pc := 30) (i := 2) dX12_inWalk_30 rfl rfl ?_
      refine e_if_ne (pc := 31) (tgt := 43) dX12_inWalk_31 (by decide) (fun hb => ?_) (fun hb => ?_)
      · rw [if_neg hb] at hr8
        refine e_iconst (pc := 43) dX12_inWalk_43 (x_R rfl) ?_
        refine e_goto (pc := 44) (tgt := 48) dX12_inWalk_44 (by decide) ?_
        cases hr8
        exact hjhr8
      · rw [if_pos hb] at hr8
        refine e_aloadn (pc := 34) (i := 0) dX12_inWalk_34 rfl rfl ?_
        refine e_iload (pc := 35) dX12_inWalk_35 rfl ?_
        obtain ⟨v10, hq10, hr8⟩ := x_bd1 hr8
        refine e_invV (pc := 37) (K1 := 0) (S1 := 0) (K := 0) (S := 0) (dd2 := 1) (av := [x_i v2]) (st := [x_i v1]) (id := 16 * 32 + 0) dX12_inWalk_37 xmX12_69 rfl (Or.inl ⟨10, 27, TX12, (sa_32_0 hs), rfl, by decide⟩) (f_cal (M := M) (us2 := [32]) [0] hn rfl (And.intro rfl trivial) rfl rfl rfl (c_X12_isLost hst hs   hq10)) (by decide) (Nat.le_of_ble_eq_true rfl) (Or.inl rfl) ?_
        show Ev g _ _ _ _ _ _ 40 [some (x_r (16 * 32 + 0)), some (x_i a), some (x_i b), some (x_i v1), some (x_i v2)] [x_i v10, x_i v1] (al, ro, fl (ml M [32] [S])) _ _ _ _
        refine e_if_ne (pc := 40) (tgt := 47) dX12_inWalk_40 (by decide) (fun hb => ?_) (fun hb => ?_)
        · rw [if_neg hb] at hr8
          refine e_iconst (pc := 47) dX12_inWalk_47 (x_R rfl) ?_
          cases hr8
          exact hjhr8
        · rw [if_pos hb] at hr8
          refine e_iconst (pc := 43) dX12_inWalk_43 (x_R rfl) ?_
          refine e_goto (pc := 44) (tgt := 48) dX12_inWalk_44 (by decide) ?_
          cases hr8
          exact hjhr8
set_option maxRecDepth 100000 in
set_option maxHeartbeats 4000000 in
theorem c_X12_feeds {g : xG} {al : List (Nat × Nat × Nat)} {ro : Nat → Nat → Option Nat} (hst : g.1.stackTraces = false) (hs : SH al ro) {M : Nat → xU} {a : Int} {S : xU}  {t : (Int × xU)} (hG : G12_feeds a S = some t) :
    Cal g yX12_feeds cX12_feeds 3 (some .int) 3 [x_r (16 * 32 + 0), x_i a] (al, ro, fl (ml M [32] [S])) 0 0 (.inl (some (x_i t.1))) (al, ro, fl (ml M [32] [t.2])) := by
  have hn : ([32] : List Nat).Nodup := by decide
  refine cal_of_ev (plainFor_of_name (by decide)) (x_c1 rfl) (Nat.le_of_ble_eq_true rfl) hst ?_
  show Ev g _ _ _ _ _ _ 0 [some (x_r (16 * 32 + 0)), some (x_i a), none] [] (al, ro, fl (ml M [32] [S])) _ _ _ _
  rw [G12_feeds] at hG
  refine e_aloadn (pc := 0) (i := 0) dX12_feeds_0 rfl rfl ?_
  refine e_iloadn (pc := 1) (i := 1) dX12_feeds_1 rfl rfl ?_
  obtain ⟨v1, hq1, hG⟩ := x_bd1 hG
  refine e_invS (pc := 2) (K1 := 0) (S1 := 0) (K := 0) (S := 0) (dd2 := 1) (av := [x_i a]) (st := [x_r (16 * 32 + 0)]) dX12_feeds_2 xmX12_301 rfl (f_cal (M := M) (us2 := []) [] hn rfl trivial rfl rfl rfl (c_X12_isWalk hst hs   hq1)) (by decide) (Nat.le_of_ble_eq_true rfl) (Or.inl rfl) ?_
  show Ev g _ _ _ _ _ _ 5 [some (x_r (16 * 32 + 0)), some (x_i a), none] [x_i v1, x_r (16 * 32 + 0)] (al, ro, fl (ml M [32] [S])) _ _ _ _
  obtain ⟨v3, hr3, hG⟩ := x_bd1 hG
  have hjhr3 : Ev g yX12_feeds cX12_feeds 3 (some .int) [] 3 13 [some (x_r (16 * 32 + 0)), some (x_i a), none] [x_i v3, x_r (16 * 32 + 0)] (al, ro, fl (ml M [32] [S])) 0 0 (.inl (some (x_i t.1))) (al, ro, fl (ml M [32] [t.2])) := by
    refine f_puti (pc := 13) (k := 0) (u := 32) (q := 0) dX12_feeds_13 xf12_58 xw10_0 (sa_32_0 hs) hn rfl rfl rfl (by decide) ?_
    show Ev g _ _ _ _ _ _ 16 [some (x_r (16 * 32 + 0)), some (x_i a), none] [] (al, ro, fl (ml M [32] [(x_up S 0 0 v3)])) _ _ _ _
    refine e_aloadn (pc := 16) (i := 0) dX12_feeds_16 rfl rfl ?_
    refine f_geti (pc := 17) (k := 0) (u := 32) (q := 0) dX12_feeds_17 xf12_58 (sa_32_0 hs) rfl hn rfl rfl (by decide) ?_
    show Ev g _ _ _ _ _ _ 20 [some (x_r (16 * 32 + 0)), some (x_i a), none] [x_i ((x_up S 0 0 v3) 0 0)] (al, ro, fl (ml M [32] [(x_up S 0 0 v3)])) _ _ _ _
    refine e_if_le (pc := 20) (tgt := 25) dX12_feeds_20 (by decide) (fun hb => ?_) (fun hb => ?_)
    · rw [if_pos hb] at hG
      refine e_aloadn (pc := 25) (i := 0) dX12_feeds_25 rfl rfl ?_
      refine e_iloadn (pc := 26) (i := 1) dX12_feeds_26 rfl rfl ?_
      refine e_iconst (pc := 27) dX12_feeds_27 (x_R rfl) ?_
      obtain ⟨v5, hq5, hG⟩ := x_bd1 hG
      refine e_invV (pc := 28) (K1 := 0) (S1 := 0) (K := 0) (S := 0) (dd2 := 2) (av := [x_i a, x_i 0]) (st := []) (id := 16 * 32 + 0) dX12_feeds_28 xmX12_382 rfl (Or.inl ⟨10, 27, TX12, (sa_32_0 hs), rfl, by decide⟩) (f_cal (M := M) (us2 := [32]) [0] hn rfl (And.intro rfl trivial) rfl rfl rfl (c_X12_inWalk hst hs   hq5)) (by decide) (Nat.le_of_ble_eq_true rfl) (Or.inl rfl) ?_
      show Ev g _ _ _ _ _ _ 31 [some (x_r (16 * 32 + 0)), some (x_i a), none] [x_i v5] (al, ro, fl (ml M [32] [(x_up S 0 0 v3)])) _ _ _ _
      refine e_istoren (pc := 31) (i := 2) dX12_feeds_31 rfl (by decide) rfl ?_
      show Ev g _ _ _ _ _ _ 32 [some (x_r (16 * 32 + 0)), some (x_i a), some (x_i v5)] [] (al, ro, fl (ml M [32] [(x_up S 0 0 v3)])) _ _ _ _
      refine e_iloadn (pc := 32) (i := 2) dX12_feeds_32 rfl rfl ?_
      obtain ⟨v7, hr7, hG⟩ := x_bd1 hG
      have hjhr7 : Ev g yX12_feeds cX12_feeds 3 (some .int) [] 3 51 [some (x_r (16 * 32 + 0)), some (x_i a), some (x_i v5)] [x_i v7] (al, ro, fl (ml M [32] [(x_up S 0 0 v3)])) 0 0 (.inl (some (x_i t.1))) (al, ro, fl (ml M [32] [t.2])) := by
        cases hG
        exact (e_ireturn rfl dX12_feeds_51 rfl)
      clear hG
      refine e_if_ne (pc := 33) (tgt := 40) dX12_feeds_33 (by decide) (fun hb => ?_) (fun hb => ?_)
      · rw [if_neg hb] at hr7
        refine e_aloadn (pc := 40) (i := 0) dX12_feeds_40 rfl rfl ?_
        refine f_getr (pc := 41) (u := 32) (q := 0) dX12_feeds_41 xf12_7 (sa_32_0 hs) rfl (sr_32_0_1 hs) ?_
        refine e_bipush (pc := 44) dX12_feeds_44 (by decide +kernel) (x_R rfl) ?_
        refine e_iloadn (pc := 46) (i := 1) dX12_feeds_46 rfl rfl ?_
        refine e_iadd (pc := 47) dX12_feeds_47 ?_
        obtain ⟨hc0, hr7⟩ := x_gd_some hr7
        refine f_iald (pc := 48) (k := 0) (u := 32) (q := 1) (len := 772) dX12_feeds_48 (sa_32_1 hs) hc0 hn rfl rfl (by decide) ?_
        show Ev g _ _ _ _ _ _ 49 [some (x_r (16 * 32 + 0)), some (x_i a), some (x_i v5)] [x_i ((x_up S 0 0 v3) 1 ((x_add 12 a)).toNat)] (al, ro, fl (ml M [32] [(x_up S 0 0 v3)])) _ _ _ _
        refine e_iloadn (pc := 49) (i := 2) dX12_feeds_49 rfl rfl ?_
        obtain ⟨hc0, hr7⟩ := x_gd_some hr7
        refine e_idiv (pc := 50) dX12_feeds_50 hc0 ?_
        cases hr7
        exact hjhr7
      · rw [if_pos hb] at hr7
        refine e_iconst (pc := 36) dX12_feeds_36 (x_R rfl) ?_
        refine e_goto (pc := 37) (tgt := 51) dX12_feeds_37 (by decide) ?_
        cases hr7
        exact hjhr7
    · rw [if_neg hb] at hG
      refine e_iconst (pc := 23) dX12_feeds_23 (x_R rfl) ?_
      cases hG
      exact (e_ireturn rfl dX12_feeds_24 rfl)
  clear hG
  refine e_if_ne (pc := 5) (tgt := 12) dX12_feeds_5 (by decide) (fun hb => ?_) (fun hb => ?_)
  · rw [if_neg hb] at hr3
    refine e_iconst (pc := 12) dX12_feeds_12 (x_R rfl) ?_
    cases hr3
    exact hjhr3
  · rw [if_pos hb] at hr3
    refine e_iconst (pc := 8) dX12_feeds_8 (x_R rfl) ?_
    refine e_goto (pc := 9) (tgt := 13) dX12_feeds_9 (by decide) ?_
    cases hr3
    exact hjhr3
set_option maxRecDepth 100000 in
set_option maxHeartbeats 4000000 in
theorem c_X12_both {g : xG} {al : List (Nat × Nat × Nat)} {ro : Nat → Nat → Option Nat} (hst : g.1.stackTraces = false) (hs : SH al ro) {M : Nat → xU} {a : Int} {b : Int} {S : xU}  {t : Int} (hG : G12_both a b S = some t) :
    Cal g yX12_both cX12_both 3 (some .int) 1 [x_r (16 * 32 + 0), x_i a, x_i b] (al, ro, fl (ml M [32] [S])) 0 0 (.inl (some (x_i t))) (al, ro, fl (ml M [32] [S])) := by
  have hn : ([32] : List Nat).Nodup := by decide
  refine cal_of_ev (plainFor_of_name (by decide)) (x_c1 rfl) (Nat.le_of_ble_eq_true rfl) hst ?_
  show Ev g _ _ _ _ _ _ 0 [some (x_r (16 * 32 + 0)), some (x_i a), some (x_i b)] [] (al, ro, fl (ml M [32] [S])) _ _ _ _
  rw [G12_both] at hG
  refine e_aloadn (pc := 0) (i := 0) dX12_both_0 rfl rfl ?_
  refine e_iloadn (pc := 1) (i := 1) dX12_both_1 rfl rfl ?_
  refine e_iconst (pc := 2) dX12_both_2 (x_R rfl) ?_
  obtain ⟨v1, hq1, hG⟩ := x_bd1 hG
  refine e_invV (pc := 3) (K1 := 0) (S1 := 0) (K := 0) (S := 0) (dd2 := 0) (av := [x_i a, x_i 3]) (st := []) (id := 16 * 32 + 0) dX12_both_3 xmX12_65 rfl (Or.inl ⟨10, 27, TX12, (sa_32_0 hs), rfl, by decide⟩) (f_cal (M := M) (us2 := [32]) [0] hn rfl (And.intro rfl trivial) rfl rfl rfl (c_X12_of hst hs   hq1)) (by decide) (Nat.le_of_ble_eq_true rfl) (Or.inl rfl) ?_
  show Ev g _ _ _ _ _ _ 6 [some (x_r (16 * 32 + 0)), some (x_i a), some (x_i b)] [x_i v1] (al, ro, fl (ml M [32] [S])) _ _ _ _
  refine e_aloadn (pc := 6) (i := 0) dX12_both_6 rfl rfl ?_
  refine e_iloadn (pc := 7) (i := 2) dX12_both_7 rfl rfl ?_
  refine e_iconst (pc := 8) dX12_both_8 (x_R rfl) ?_
  obtain ⟨v3, hq3, hG⟩ := x_bd1 hG
  refine e_invV (pc := 9) (K1 := 0) (S1 := 0) (K := 0) (S := 0) (dd2 := 0) (av := [x_i b, x_i 3]) (st := [x_i v1]) (id := 16 * 32 + 0) dX12_both_9 xmX12_65 rfl (Or.inl ⟨10, 27, TX12, (sa_32_0 hs), rfl, by decide⟩) (f_cal (M := M) (us2 := [32]) [0] hn rfl (And.intro rfl trivial) rfl rfl rfl (c_X12_of hst hs   hq3)) (by decide) (Nat.le_of_ble_eq_true rfl) (Or.inl rfl) ?_
  show Ev g _ _ _ _ _ _ 12 [some (x_r (16 * 32 + 0)), some (x_i a), some (x_i b)] [x_i v3, x_i v1] (al, ro, fl (ml M [32] [S])) _ _ _ _
  refine e_iand (pc := 12) dX12_both_12 ?_
  obtain ⟨v5, hq5, hG⟩ := x_bd1 hG
  refine e_invS (pc := 13) (K1 := 0) (S1 := 0) (K := 0) (S := 0) (dd2 := 0) (av := [x_i (x_and v1 v3)]) (st := []) dX12_both_13 xmX12_352 rfl (f_cal (M := M) (us2 := []) [] hn rfl trivial rfl rfl rfl (c_X12_bits hst hs   hq5)) (by decide) (Nat.le_of_ble_eq_true rfl) (Or.inl rfl) ?_
  show Ev g _ _ _ _ _ _ 16 [some (x_r (16 * 32 + 0)), some (x_i a), some (x_i b)] [x_i v5] (al, ro, fl (ml M [32] [S])) _ _ _ _
  cases hG
  exact (e_ireturn rfl dX12_both_16 rfl)
set_option maxRecDepth 100000 in
set_option maxHeartbeats 4000000 in
theorem c_X12_lowest {g : xG} {al : List (Nat × Nat × Nat)} {ro : Nat → Nat → Option Nat} (hst : g.1.stackTraces = false) (hs : SH al ro) {M : Nat → xU} {a : Int}  {t : Int} (hG : G12_lowest a = some t) :
    Cal g yX12_lowest cX12_lowest 2 (some .int) 1 [x_i a] (al, ro, fl (ml M [] [])) 0 0 (.inl (some (x_i t))) (al, ro, fl (ml M [] [])) := by
  have hn : ([] : List Nat).Nodup := by decide
  refine cal_of_ev (plainFor_of_name (by decide)) (x_c1 rfl) (Nat.le_of_ble_eq_true rfl) hst ?_
  show Ev g _ _ _ _ _ _ 0 [some (x_i a), none] [] (al, ro, fl (ml M [] [])) _ _ _ _
  rw [G12_lowest] at hG
  refine e_iconst (pc := 0) dX12_lowest_0 (x_R rfl) ?_
  refine e_istoren (pc := 1) (i := 1) dX12_lowest_1 rfl (by decide) rfl ?_
  show Ev g _ _ _ _ _ _ 2 [some (x_i a), some (x_i 0)] [] (al, ro, fl (ml M [] [])) _ _ _ _
  obtain ⟨v2, hl3, hG⟩ := x_bd1 hG
  have hk3 : ∀ q : Int, q = v2 → Ev g yX12_lowest cX12_lowest 2 (some .int) [] 1 16 [some (x_i a), some (x_i q)] [] (al, ro, fl (ml M [] [])) 0 0 (.inl (some (x_i t))) (al, ro, fl (ml M [] [])) := by
    intro q hq
    replace hq := hq.symm
    subst hq
    refine e_iloadn (pc := 16) (i := 1) dX12_lowest_16 rfl rfl ?_
    cases hG
    exact (e_ireturn rfl dX12_lowest_17 rfl)
  clear hG
  refine e_whl (G12_lowest_L2 a) (fun z : Int => Ev g yX12_lowest cX12_lowest 2 (some .int) [] 1 2 [some (x_i a), some (x_i z)] [] (al, ro, fl (ml M [] [])) 0 0 (.inl (some (x_i t))) (al, ro, fl (ml M [] []))) (fun q => q = v2) ?_ xFU 0 _ hl3 rfl
  intro z t3 hf3 hi3 hx3
  obtain ⟨v1, hzz⟩ : ∃ y, y = z := ⟨z, rfl⟩
  subst hzz
  rw [G12_lowest_L2] at hf3
  show Ev g _ _ _ _ _ _ 2 [some (x_i a), some (x_i v1)] [] (al, ro, fl (ml M [] [])) _ _ _ _
  refine e_iloadn (pc := 2) (i := 0) dX12_lowest_2 rfl rfl ?_
  refine e_iloadn (pc := 3) (i := 1) dX12_lowest_3 rfl rfl ?_
  obtain ⟨v5, hq5, hf3⟩ := x_bd1 hf3
  refine e_invS (pc := 4) (K1 := 0) (S1 := 0) (K := 0) (S := 0) (dd2 := 0) (av := [x_i a, x_i v1]) (st := []) dX12_lowest_4 xmX12_119 rfl (f_cal (M := M) (us2 := []) [] hn rfl trivial rfl rfl rfl (c_X12_isOf hst hs   hq5)) (by decide) (Nat.le_of_ble_eq_true rfl) (Or.inl rfl) ?_
  show Ev g _ _ _ _ _ _ 7 [some (x_i a), some (x_i v1)] [x_i v5] (al, ro, fl (ml M [] [])) _ _ _ _
  refine e_if_ne (pc := 7) (tgt := 16) dX12_lowest_7 (by decide) (fun hb => ?_) (fun hb => ?_)
  · rw [if_neg hb] at hf3
    cases hf3
    have hh := hk3 _ (hx3 _ rfl)
    try dsimp only at hh
    exact hh
  · rw [if_pos hb] at hf3
    refine e_iinc (pc := 10) dX12_lowest_10 rfl (by decide) rfl ?_
    show Ev g _ _ _ _ _ _ 13 [some (x_i a), some (x_i (x_add v1 1))] [] (al, ro, fl (ml M [] [])) _ _ _ _
    refine e_goto (pc := 13) (tgt := 2) dX12_lowest_13 (by decide) ?_
    cases hf3
    have hh := hi3 _ rfl
    try dsimp only at hh
    exact hh
