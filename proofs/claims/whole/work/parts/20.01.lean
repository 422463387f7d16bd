def G12_has_L9 (S1 : xU) : Int → Option (Int ⊕ Int)
  | v3 => (if (S1 0 10) ≤ v3 then (some (.inr v3)) else (x_b1 (G12_letter v3 S1) fun (v7 : Int) => (x_b1 (G12_isIn v7 97 122) fun (v9 : Int) => (if v9 = 0 then (some (.inr v3)) else (some (.inl (x_add v3 1)))))))
def G12_has_L55 (w : Nat) (S1 : xU) : Int → Option (Int ⊕ (Unit ⊕ (Int × xU)))
  | v11 => (if ((x_sl.getD w 0 : Nat) : Int) ≤ v11 then (some (.inr (.inl ()))) else (x_b1 (G12_letter (x_add (S1 0 11) v11) S1) fun (v14 : Int) => (x_gd ((0 : Int) ≤ v11 ∧ v11 < (x_sl.getD w 0 : Nat)) (if v14 = (x_ch w v11) then (some (.inl (x_add v11 1))) else (some (.inr (.inr (0, S1))))))))
def G12_has (w : Nat) (S : xU) : Option (Int × xU) :=
  (x_b1 (G12_skip S) fun (S1 : xU) => (x_b1 (whl xFU (G12_has_L9 S1) (S1 0 11)) fun (v4 : Int) => (if (x_sub v4 (S1 0 11)) = ((x_sl.getD w 0 : Nat) : Int) then (x_lr (whl xFU (G12_has_L55 w S1) 0) (fun (q : Unit) => x_e1 q fun (_q : Unit) => (some (1, (x_up S1 0 11 v4)))) (fun (q : (Int × xU)) => some q)) else (some (0, S1)))))
set_option maxRecDepth 100000 in
set_option maxHeartbeats 4000000 in
theorem c_X12_has {g : xG} {al : List (Nat × Nat × Nat)} {ro : Nat → Nat → Option Nat} (hst : g.1.stackTraces = false) (hs : SH al ro) (hw : w < x_nS) {M : Nat → xU} {w : Nat} {S : xU} {t : (Int × xU)} (hG : G12_has w S = some t) :
    Cal g yX12_has cX12_has 4 (some .boolean) 6 [x_r (16 * 32 + 0), x_r (x_s0 + w)] (al, ro, fl (ml M [32] [S])) 0 0 (.inl (some (x_i t.1))) (al, ro, fl (ml M [32] [t.2])) := by
  have hn : ([32] : List Nat).Nodup := by decide
  refine cal_of_ev (by decide) (x_c1 rfl) (Nat.le_of_ble_eq_true rfl) hst ?_
  show Ev g _ _ _ _ _ _ 0 [some (x_r (16 * 32 + 0)), some (x_r (x_s0 + w)), none, none] [] (al, ro, fl (ml M [32] [S])) _ _ _ _
  rw [G12_has] at hG
  refine e_aloadn (pc := 0) (i := 0) dX12_has_0 rfl rfl ?_
  obtain ⟨S1, hq1, hG⟩ := x_bd1 hG
  refine e_invV (pc := 1) (K1 := 0) (S1 := 0) (K := 0) (S := 0) (dd2 := 1) (av := []) (st := []) (id := 16 * 32 + 0) dX12_has_1 xmX12_92 rfl (Or.inl ⟨10, 27, TX12, (sa_32_0 hs), rfl, by decide⟩) (f_cal (M := M) (us2 := [32]) [0] hn rfl (And.intro rfl trivial) rfl rfl rfl (c_X12_skip hst hs   hq1)) (by decide) (Nat.le_of_ble_eq_true rfl) (Or.inl rfl) ?_
  show Ev g _ _ _ _ _ _ 4 [some (x_r (16 * 32 + 0)), some (x_r (x_s0 + w)), none, none] [] (al, ro, fl (ml M [32] [S1])) _ _ _ _
  refine e_aloadn (pc := 4) (i := 0) dX12_has_4 rfl rfl ?_
  refine f_geti (pc := 5) (k := 0) (u := 32) (q := 0) dX12_has_5 xf12_82 (sa_32_0 hs) rfl hn rfl rfl (by decide) ?_
  show Ev g _ _ _ _ _ _ 8 [some (x_r (16 * 32 + 0)), some (x_r (x_s0 + w)), none, none] [x_i (S1 0 11)] (al, ro, fl (ml M [32] [S1])) _ _ _ _
  refine e_istoren (pc := 8) (i := 2) dX12_has_8 rfl (by decide) rfl ?_
  show Ev g _ _ _ _ _ _ 9 [some (x_r (16 * 32 + 0)), some (x_r (x_s0 + w)), some (x_i (S1 0 11)), none] [] (al, ro, fl (ml M [32] [S1])) _ _ _ _
  obtain ⟨v4, hl5, hG⟩ := x_bd1 hG
  have hk5 : ∀ q : Int, q = v4 → Ev g yX12_has cX12_has 4 (some .boolean) [] 6 38 [some (x_r (16 * 32 + 0)), some (x_r (x_s0 + w)), some (x_i q), none] [] (al, ro, fl (ml M [32] [S1])) 0 0 (.inl (some (x_i t.1))) (al, ro, fl (ml M [32] [t.2])) := by
    intro q hq
    replace hq := hq.symm
    subst hq
    refine e_iloadn (pc := 38) (i := 2) dX12_has_38 rfl rfl ?_
    refine e_aloadn (pc := 39) (i := 0) dX12_has_39 rfl rfl ?_
    refine f_geti (pc := 40) (k := 0) (u := 32) (q := 0) dX12_has_40 xf12_82 (sa_32_0 hs) rfl hn rfl rfl (by decide) ?_
    show Ev g _ _ _ _ _ _ 43 [some (x_r (16 * 32 + 0)), some (x_r (x_s0 + w)), some (x_i v4), none] [x_i (S1 0 11), x_i v4] (al, ro, fl (ml M [32] [S1])) _ _ _ _
    refine e_isub (pc := 43) dX12_has_43 ?_
    refine e_aloadn (pc := 44) (i := 1) dX12_has_44 rfl rfl ?_
    refine e_invV (pc := 45) (K1 := 0) (S1 := 0) (K := 0) (S := 0) (dd2 := 5) (av := []) (st := [x_i (x_sub v4 (S1 0 11))]) (id := x_s0 + w) dX12_has_45 xmX12_95 rfl (Or.inr ⟨w, hw, rfl, rfl⟩) (p_length hst hw) (by decide) (Nat.le_of_ble_eq_true rfl) (Or.inl rfl) ?_
    show Ev g _ _ _ _ _ _ 48 [some (x_r (16 * 32 + 0)), some (x_r (x_s0 + w)), some (x_i v4), none] [x_i ((x_sl.getD w 0 : Nat) : Int), x_i (x_sub v4 (S1 0 11))] (al, ro, fl (ml M [32] [S1])) _ _ _ _
    refine e_icmp_eq (pc := 48) (tgt := 53) dX12_has_48 (by decide) (fun hb => ?_) (fun hb => ?_)
    · rw [if_pos hb] at hG
      refine e_iconst (pc := 53) dX12_has_53 (x_R rfl) ?_
      refine e_istoren (pc := 54) (i := 3) dX12_has_54 rfl (by decide) rfl ?_
      show Ev g _ _ _ _ _ _ 55 [some (x_r (16 * 32 + 0)), some (x_r (x_s0 + w)), some (x_i v4), some (x_i 0)] [] (al, ro, fl (ml M [32] [S1])) _ _ _ _
      obtain ⟨r12, hl12, hG⟩ := x_lrd hG
      have hk12 : ∀ q : Unit, r12 = .inl q → Ev g yX12_has cX12_has 4 (some .boolean) [] 6 89 [some (x_r (16 * 32 + 0)), some (x_r (x_s0 + w)), some (x_i v4), none] [] (al, ro, fl (ml M [32] [S1])) 0 0 (.inl (some (x_i t.1))) (al, ro, fl (ml M [32] [t.2])) := by
        intro q hq
        subst hq
        replace hG := x_lr_l hG
        replace hG := x_ed1 hG
        refine e_aloadn (pc := 89) (i := 0) dX12_has_89 rfl rfl ?_
        refine e_iloadn (pc := 90) (i := 2) dX12_has_90 rfl rfl ?_
        refine f_puti (pc := 91) (k := 0) (u := 32) (q := 0) dX12_has_91 xf12_82 xw10_11 (sa_32_0 hs) hn rfl rfl rfl (by decide) ?_
        show Ev g _ _ _ _ _ _ 94 [some (x_r (16 * 32 + 0)), some (x_r (x_s0 + w)), some (x_i v4), none] [] (al, ro, fl (ml M [32] [(x_up S1 0 11 v4)])) _ _ _ _
        refine e_iconst (pc := 94) dX12_has_94 (x_R rfl) ?_
        cases hG
        exact (e_ireturn rfl dX12_has_95 (x_bool (by decide)).1)
      have hv12 : ∀ q : (Int × xU), r12 = .inr q → some q = some t := by
        intro q hq
        subst hq
        exact x_lr_r hG
      clear hG
      refine e_whl (G12_has_L55 w S1) (fun z : Int => Ev g yX12_has cX12_has 4 (some .boolean) [] 6 55 [some (x_r (16 * 32 + 0)), some (x_r (x_s0 + w)), some (x_i v4), some (x_i z)] [] (al, ro, fl (ml M [32] [S1])) 0 0 (.inl (some (x_i t.1))) (al, ro, fl (ml M [32] [t.2]))) (fun q => q = r12) ?_ xFU 0 _ hl12 rfl
      intro z t12 hf12 hi12 hx12
      obtain ⟨v11, hzz⟩ : ∃ y, y = z := ⟨z, rfl⟩
      subst hzz
      rw [G12_has_L55] at hf12
      show Ev g _ _ _ _ _ _ 55 [some (x_r (16 * 32 + 0)), some (x_r (x_s0 + w)), some (x_i v4), some (x_i v11)] [] (al, ro, fl (ml M [32] [S1])) _ _ _ _
      refine e_iloadn (pc := 55) (i := 3) dX12_has_55 rfl rfl ?_
      refine e_aloadn (pc := 56) (i := 1) dX12_has_56 rfl rfl ?_
      refine e_invV (pc := 57) (K1 := 0) (S1 := 0) (K := 0) (S := 0) (dd2 := 5) (av := []) (st := [x_i v11]) (id := x_s0 + w) dX12_has_57 xmX12_95 rfl (Or.inr ⟨w, hw, rfl, rfl⟩) (p_length hst hw) (by decide) (Nat.le_of_ble_eq_true rfl) (Or.inl rfl) ?_
      show Ev g _ _ _ _ _ _ 60 [some (x_r (16 * 32 + 0)), some (x_r (x_s0 + w)), some (x_i v4), some (x_i v11)] [x_i ((x_sl.getD w 0 : Nat) : Int), x_i v11] (al, ro, fl (ml M [32] [S1])) _ _ _ _
      refine e_icmp_ge (pc := 60) (tgt := 89) dX12_has_60 (by decide) (fun hb => ?_) (fun hb => ?_)
      · rw [if_pos hb] at hf12
        cases hf12
        refine e_drop (i := 3) ?_
        exact hk12 _ (hx12 _ rfl).symm
      · rw [if_neg hb] at hf12
        refine e_aloadn (pc := 63) (i := 0) dX12_has_63 rfl rfl ?_
        refine e_aloadn (pc := 64) (i := 0) dX12_has_64 rfl rfl ?_
        refine f_geti (pc := 65) (k := 0) (u := 32) (q := 0) dX12_has_65 xf12_82 (sa_32_0 hs) rfl hn rfl rfl (by decide) ?_
        show Ev g _ _ _ _ _ _ 68 [some (x_r (16 * 32 + 0)), some (x_r (x_s0 + w)), some (x_i v4), some (x_i v11)] [x_i (S1 0 11), x_r (16 * 32 + 0)] (al, ro, fl (ml M [32] [S1])) _ _ _ _
        refine e_iloadn (pc := 68) (i := 3) dX12_has_68 rfl rfl ?_
        refine e_iadd (pc := 69) dX12_has_69 ?_
        obtain ⟨v14, hq14, hf12⟩ := x_bd1 hf12
        refine e_invV (pc := 70) (K1 := 0) (S1 := 0) (K := 0) (S := 0) (dd2 := 0) (av := [x_i (x_add (S1 0 11) v11)]) (st := []) (id := 16 * 32 + 0) dX12_has_70 xmX12_88 rfl (Or.inl ⟨10, 27, TX12, (sa_32_0 hs), rfl, by decide⟩) (f_cal (M := M) (us2 := [32]) [0] hn rfl (And.intro rfl trivial) rfl rfl rfl (c_X12_letter hst hs   hq14)) (by decide) (Nat.le_of_ble_eq_true rfl) (Or.inl rfl) ?_
        show Ev g _ _ _ _ _ _ 73 [some (x_r (16 * 32 + 0)), some (x_r (x_s0 + w)), some (x_i v4), some (x_i v11)] [x_i v14] (al, ro, fl (ml M [32] [S1])) _ _ _ _
        refine e_aloadn (pc := 73) (i := 1) dX12_has_73 rfl rfl ?_
        refine e_iloadn (pc := 74) (i := 3) dX12_has_74 rfl rfl ?_
        obtain ⟨hc0, hf12⟩ := x_gd_some hf12
        refine e_invV (pc := 75) (K1 := 0) (S1 := 0) (K := 0) (S := 0) (dd2 := 5) (av := [x_i v11]) (st := [x_i v14]) (id := x_s0 + w) dX12_has_75 xmX12_101 rfl (Or.inr ⟨w, hw, rfl, rfl⟩) (p_charAt hst hw hc0) (by decide) (Nat.le_of_ble_eq_true rfl) (Or.inl rfl) ?_
        show Ev g _ _ _ _ _ _ 78 [some (x_r (16 * 32 + 0)), some (x_r (x_s0 + w)), some (x_i v4), some (x_i v11)] [x_i (x_ch w v11), x_i v14] (al, ro, fl (ml M [32] [S1])) _ _ _ _
        refine e_icmp_eq (pc := 78) (tgt := 83) dX12_has_78 (by decide) (fun hb => ?_) (fun hb => ?_)
        · rw [if_pos hb] at hf12
          refine e_iinc (pc := 83) dX12_has_83 rfl (by decide) rfl ?_
          show Ev g _ _ _ _ _ _ 86 [some (x_r (16 * 32 + 0)), some (x_r (x_s0 + w)), some (x_i v4), some (x_i (x_add v11 1))] [] (al, ro, fl (ml M [32] [S1])) _ _ _ _
          refine e_goto (pc := 86) (tgt := 55) dX12_has_86 (by decide) ?_
          cases hf12
          exact hi12 _ rfl
        · rw [if_neg hb] at hf12
          refine e_iconst (pc := 81) dX12_has_81 (x_R rfl) ?_
          cases hf12
          have hz := hv12 _ (hx12 _ rfl).symm
          cases hz
          exact (e_ireturn rfl dX12_has_82 (x_bool (by decide)).1)
    · rw [if_neg hb] at hG
      refine e_iconst (pc := 51) dX12_has_51 (x_R rfl) ?_
      cases hG
      exact (e_ireturn rfl dX12_has_52 (x_bool (by decide)).1)
  clear hG
  refine e_whl (G12_has_L9 S1) (fun z : Int => Ev g yX12_has cX12_has 4 (some .boolean) [] 6 9 [some (x_r (16 * 32 + 0)), some (x_r (x_s0 + w)), some (x_i z), none] [] (al, ro, fl (ml M [32] [S1])) 0 0 (.inl (some (x_i t.1))) (al, ro, fl (ml M [32] [t.2]))) (fun q => q = v4) ?_ xFU (S1 0 11) _ hl5 rfl
  intro z t5 hf5 hi5 hx5
  obtain ⟨v3, hzz⟩ : ∃ y, y = z := ⟨z, rfl⟩
  subst hzz
  rw [G12_has_L9] at hf5
  show Ev g _ _ _ _ _ _ 9 [some (x_r (16 * 32 + 0)), some (x_r (x_s0 + w)), some (x_i v3), none] [] (al, ro, fl (ml M [32] [S1])) _ _ _ _
  refine e_iloadn (pc := 9) (i := 2) dX12_has_9 rfl rfl ?_
  refine e_aloadn (pc := 10) (i := 0) dX12_has_10 rfl rfl ?_
  refine f_geti (pc := 11) (k := 0) (u := 32) (q := 0) dX12_has_11 xf12_85 (sa_32_0 hs) rfl hn rfl rfl (by decide) ?_
  show Ev g _ _ _ _ _ _ 14 [some (x_r (16 * 32 + 0)), some (x_r (x_s0 + w)), some (x_i v3), none] [x_i (S1 0 10), x_i v3] (al, ro, fl (ml M [32] [S1])) _ _ _ _
  refine e_icmp_ge (pc := 14) (tgt := 38) dX12_has_14 (by decide) (fun hb => ?_) (fun hb => ?_)
  · rw [if_pos hb] at hf5
    cases hf5
    exact hk5 _ (hx5 _ rfl)
  · rw [if_neg hb] at hf5
    refine e_aloadn (pc := 17) (i := 0) dX12_has_17 rfl rfl ?_
    refine e_iloadn (pc := 18) (i := 2) dX12_has_18 rfl rfl ?_
    obtain ⟨v7, hq7, hf5⟩ := x_bd1 hf5
    refine e_invV (pc := 19) (K1 := 0) (S1 := 0) (K := 0) (S := 0) (dd2 := 0) (av := [x_i v3]) (st := []) (id := 16 * 32 + 0) dX12_has_19 xmX12_88 rfl (Or.inl ⟨10, 27, TX12, (sa_32_0 hs), rfl, by decide⟩) (f_cal (M := M) (us2 := [32]) [0] hn rfl (And.intro rfl trivial) rfl rfl rfl (c_X12_letter hst hs   hq7)) (by decide) (Nat.le_of_ble_eq_true rfl) (Or.inl rfl) ?_
    show Ev g _ _ _ _ _ _ 22 [some (x_r (16 * 32 + 0)), some (x_r (x_s0 + w)), some (x_i v3), none] [x_i v7] (al, ro, fl (ml M [32] [S1])) _ _ _ _
    refine e_bipush (pc := 22) dX12_has_22 (by decide +kernel) (x_R rfl) ?_
    refine e_bipush (pc := 24) dX12_has_24 (by decide +kernel) (x_R rfl) ?_
    obtain ⟨v9, hq9, hf5⟩ := x_bd1 hf5
    refine e_invS (pc := 26) (K1 := 0) (S1 := 0) (K := 0) (S := 0) (dd2 := 0) (av := [x_i v7, x_i 97, x_i 122]) (st := []) dX12_has_26 xmX12_61 rfl (f_cal (M := M) (us2 := []) [] hn rfl trivial rfl rfl rfl (c_X12_isIn hst hs   hq9)) (by decide) (Nat.le_of_ble_eq_true rfl) (Or.inl rfl) ?_
    show Ev g _ _ _ _ _ _ 29 [some (x_r (16 * 32 + 0)), some (x_r (x_s0 + w)), some (x_i v3), none] [x_i v9] (al, ro, fl (ml M [32] [S1])) _ _ _ _
    refine e_if_eq (pc := 29) (tgt := 38) dX12_has_29 (by decide) (fun hb => ?_) (fun hb => ?_)
    · rw [if_pos hb] at hf5
      cases hf5
      exact hk5 _ (hx5 _ rfl)
    · rw [if_neg hb] at hf5
      refine e_iinc (pc := 32) dX12_has_32 rfl (by decide) rfl ?_
      show Ev g _ _ _ _ _ _ 35 [some (x_r (16 * 32 + 0)), some (x_r (x_s0 + w)), some (x_i (x_add v3 1)), none] [] (al, ro, fl (ml M [32] [S1])) _ _ _ _
      refine e_goto (pc := 35) (tgt := 9) dX12_has_35 (by decide) ?_
      cases hf5
      exact hi5 _ rfl
def G12_wrong (a : Int) (S : xU) : Option xU :=
  (x_b1 (if (S 0 12) = (-1) then (some (x_up S 0 12 a)) else (some S)) fun (S1 : xU) => (some S1))
set_option maxRecDepth 100000 in
set_option maxHeartbeats 4000000 in
theorem c_X12_wrong {g : xG} {al : List (Nat × Nat × Nat)} {ro : Nat → Nat → Option Nat} (hst : g.1.stackTraces = false) (hs : SH al ro) {M : Nat → xU} {a : Int} {S : xU} {t : xU} (hG : G12_wrong a S = some t) :
    Cal g yX12_wrong cX12_wrong 2 none 0 [x_r (16 * 32 + 0), x_i a] (al, ro, fl (ml M [32] [S])) 0 0 (.inl none) (al, ro, fl (ml M [32] [t])) := by
  have hn : ([32] : List Nat).Nodup := by decide
  refine cal_of_ev (by decide) (x_c1 rfl) (Nat.le_of_ble_eq_true rfl) hst ?_
  show Ev g _ _ _ _ _ _ 0 [some (x_r (16 * 32 + 0)), some (x_i a)] [] (al, ro, fl (ml M [32] [S])) _ _ _ _
  rw [G12_wrong] at hG
  refine e_aloadn (pc := 0) (i := 0) dX12_wrong_0 rfl rfl ?_
  refine f_geti (pc := 1) (k := 0) (u := 32) (q := 0) dX12_wrong_1 xf12_25 (sa_32_0 hs) rfl hn rfl rfl (by decide) ?_
  show Ev g _ _ _ _ _ _ 4 [some (x_r (16 * 32 + 0)), some (x_i a)] [x_i (S 0 12)] (al, ro, fl (ml M [32] [S])) _ _ _ _
  refine e_iconst (pc := 4) dX12_wrong_4 (x_R rfl) ?_
  obtain ⟨S1, hr1, hG⟩ := x_bd1 hG
  have hjhr1 : Ev g yX12_wrong cX12_wrong 2 none [] 0 13 [some (x_r (16 * 32 + 0)), some (x_i a)] [] (al, ro, fl (ml M [32] [S1])) 0 0 (.inl none) (al, ro, fl (ml M [32] [t])) := by
    cases hG
    exact (e_return rfl dX12_wrong_13)
  clear hG
  refine e_icmp_ne (pc := 5) (tgt := 13) dX12_wrong_5 (by decide) (fun hb => ?_) (fun hb => ?_)
  · rw [if_neg hb] at hr1
    cases hr1
    exact hjhr1
  · rw [if_pos hb] at hr1
    refine e_aloadn (pc := 8) (i := 0) dX12_wrong_8 rfl rfl ?_
    refine e_iloadn (pc := 9) (i := 1) dX12_wrong_9 rfl rfl ?_
    refine f_puti (pc := 10) (k := 0) (u := 32) (q := 0) dX12_wrong_10 xf12_25 xw10_12 (sa_32_0 hs) hn rfl rfl rfl (by decide) ?_
    show Ev g _ _ _ _ _ _ 13 [some (x_r (16 * 32 + 0)), some (x_i a)] [] (al, ro, fl (ml M [32] [(x_up S 0 12 a)])) _ _ _ _
    cases hr1
    exact hjhr1
def G12_here (S : xU) : Option (Int × xU) :=
  (x_b1 (G12_skip S) fun (S1 : xU) => (some ((S1 0 11), S1)))
set_option maxRecDepth 100000 in
set_option maxHeartbeats 4000000 in
theorem c_X12_here {g : xG} {al : List (Nat × Nat × Nat)} {ro : Nat → Nat → Option Nat} (hst : g.1.stackTraces = false) (hs : SH al ro) {M : Nat → xU} {S : xU} {t : (Int × xU)} (hG : G12_here S = some t) :
    Cal g yX12_here cX12_here 1 (some .int) 2 [x_r (16 * 32 + 0)] (al, ro, fl (ml M [32] [S])) 0 0 (.inl (some (x_i t.1))) (al, ro, fl (ml M [32] [t.2])) := by
  have hn : ([32] : List Nat).Nodup := by decide
  refine cal_of_ev (by decide) (x_c1 rfl) (Nat.le_of_ble_eq_true rfl) hst ?_
  show Ev g _ _ _ _ _ _ 0 [some (x_r (16 * 32 + 0))] [] (al, ro, fl (ml M [32] [S])) _ _ _ _
  rw [G12_here] at hG
  refine e_aloadn (pc := 0) (i := 0) dX12_here_0 rfl rfl ?_
  obtain ⟨S1, hq1, hG⟩ := x_bd1 hG
  refine e_invV (pc := 1) (K1 := 0) (S1 := 0) (K := 0) (S := 0) (dd2 := 1) (av := []) (st := []) (id := 16 * 32 + 0) dX12_here_1 xmX12_92 rfl (Or.inl ⟨10, 27, TX12, (sa_32_0 hs), rfl, by decide⟩) (f_cal (M := M) (us2 := [32]) [0] hn rfl (And.intro rfl trivial) rfl rfl rfl (c_X12_skip hst hs   hq1)) (by decide) (Nat.le_of_ble_eq_true rfl) (Or.inl rfl) ?_
  show Ev g _ _ _ _ _ _ 4 [some (x_r (16 * 32 + 0))] [] (al, ro, fl (ml M [32] [S1])) _ _ _ _
  refine e_aloadn (pc := 4) (i := 0) dX12_here_4 rfl rfl ?_
  refine f_geti (pc := 5) (k := 0) (u := 32) (q := 0) dX12_here_5 xf12_82 (sa_32_0 hs) rfl hn rfl rfl (by decide) ?_
  show Ev g _ _ _ _ _ _ 8 [some (x_r (16 * 32 + 0))] [x_i (S1 0 11)] (al, ro, fl (ml M [32] [S1])) _ _ _ _
  cases hG
  exact (e_ireturn rfl dX12_here_8 rfl)
def G12_figures_L18 (v1 : Int) : (Int × xU) → Option ((Int × xU) ⊕ (Int × xU))
  | (v4, S5) => (if (S5 0 10) ≤ (S5 0 11) then (some (.inr (v4, S5))) else (x_b1 (G12_letter (S5 0 11) S5) fun (v10 : Int) => (x_b1 (G12_isIn v10 48 57) fun (v12 : Int) => (if v12 = 0 then (some (.inr (v4, S5))) else (if 3 < (x_sub (S5 0 11) v1) then (some (.inr (v4, S5))) else (x_b1 (G12_letter (S5 0 11) S5) fun (v14 : Int) => (some (.inl ((x_sub (x_add (x_mul 10 v4) v14) 48), (x_up S5 0 11 (x_add (S5 0 11) 1)))))))))))
def G12_figures (a : Int) (b : Int) (S : xU) : Option (Int × xU) :=
  (if (S 0 12) = (-1) then (x_b2 (G12_here S) fun (v1 : Int) (S2 : xU) => (x_b2 (whl xFU (G12_figures_L18 v1) (0, S2)) fun (v6 : Int) (S7 : xU) => (x_b1 (if (S7 0 11) = v1 then (x_b1 (G12_wrong v1 S7) fun (S18 : xU) => (some S18)) else (if 3 < (x_sub (S7 0 11) v1) then (x_b1 (G12_wrong v1 S7) fun (S20 : xU) => (some S20)) else (if v6 < a then (x_b1 (G12_wrong v1 S7) fun (S22 : xU) => (some S22)) else (if v6 ≤ b then (some S7) else (x_b1 (G12_wrong v1 S7) fun (S24 : xU) => (some S24)))))) fun (S16 : xU) => (some (v6, S16))))) else (some (0, S)))
set_option maxRecDepth 100000 in
set_option maxHeartbeats 4000000 in
theorem c_X12_figures {g : xG} {al : List (Nat × Nat × Nat)} {ro : Nat → Nat → Option Nat} (hst : g.1.stackTraces = false) (hs : SH al ro) {M : Nat → xU} {a : Int} {b : Int} {S : xU} {t : (Int × xU)} (hG : G12_figures a b S = some t) :
    Cal g yX12_figures cX12_figures 5 (some .int) 3 [x_r (16 * 32 + 0), x_i a, x_i b] (al, ro, fl (ml M [32] [S])) 0 0 (.inl (some (x_i t.1))) (al, ro, fl (ml M [32] [t.2])) := by
  have hn : ([32] : List Nat).Nodup := by decide
  refine cal_of_ev (by decide) (x_c1 rfl) (Nat.le_of_ble_eq_true rfl) hst ?_
  show Ev g _ _ _ _ _ _ 0 [some (x_r (16 * 32 + 0)), some (x_i a), some (x_i b), none, none] [] (al, ro, fl (ml M [32] [S])) _ _ _ _
  rw [G12_figures] at hG
  refine e_aloadn (pc := 0) (i := 0) dX12_figures_0 rfl rfl ?_
  refine f_geti (pc := 1) (k := 0) (u := 32) (q := 0) dX12_figures_1 xf12_25 (sa_32_0 hs) rfl hn rfl rfl (by decide) ?_
  show Ev g _ _ _ _ _ _ 4 [some (x_r (16 * 32 + 0)), some (x_i a), some (x_i b), none, none] [x_i (S 0 12)] (al, ro, fl (ml M [32] [S])) _ _ _ _
  refine e_iconst (pc := 4) dX12_figures_4 (x_R rfl) ?_
  refine e_icmp_eq (pc := 5) (tgt := 10) dX12_figures_5 (by decide) (fun hb => ?_) (fun hb => ?_)
  · rw [if_pos hb] at hG
    refine e_aloadn (pc := 10) (i := 0) dX12_figures_10 rfl rfl ?_
    obtain ⟨v1, S2, hq2, hG⟩ := x_bd2 hG
    refine e_invV (pc := 11) (K1 := 0) (S1 := 0) (K := 0) (S := 0) (dd2 := 2) (av := []) (st := []) (id := 16 * 32 + 0) dX12_figures_11 xmX12_105 rfl (Or.inl ⟨10, 27, TX12, (sa_32_0 hs), rfl, by decide⟩) (f_cal (M := M) (us2 := [32]) [0] hn rfl (And.intro rfl trivial) rfl rfl rfl (c_X12_here hst hs   hq2)) (by decide) (Nat.le_of_ble_eq_true rfl) (Or.inl rfl) ?_
    show Ev g _ _ _ _ _ _ 14 [some (x_r (16 * 32 + 0)), some (x_i a), some (x_i b), none, none] [x_i v1] (al, ro, fl (ml M [32] [S2])) _ _ _ _
    refine e_istoren (pc := 14) (i := 3) dX12_figures_14 rfl (by decide) rfl ?_
    show Ev g _ _ _ _ _ _ 15 [some (x_r (16 * 32 + 0)), some (x_i a), some (x_i b), some (x_i v1), none] [] (al, ro, fl (ml M [32] [S2])) _ _ _ _
    refine e_iconst (pc := 15) dX12_figures_15 (x_R rfl) ?_
    refine e_istore (pc := 16) (i := 4) dX12_figures_16 (by decide) rfl ?_
    show Ev g _ _ _ _ _ _ 18 [some (x_r (16 * 32 + 0)), some (x_i a), some (x_i b), some (x_i v1), some (x_i 0)] [] (al, ro, fl (ml M [32] [S2])) _ _ _ _
    obtain ⟨v6, S7, hl8, hG⟩ := x_bd2 hG
    have hk8 : ∀ q : (Int × xU), q = (v6, S7) → Ev g yX12_figures cX12_figures 5 (some .int) [] 3 89 [some (x_r (16 * 32 + 0)), some (x_i a), some (x_i b), some (x_i v1), some (x_i q.1)] [] (al, ro, fl (ml M [32] [q.2])) 0 0 (.inl (some (x_i t.1))) (al, ro, fl (ml M [32] [t.2])) := by
      intro q hq
      cases hq
      refine e_aloadn (pc := 89) (i := 0) dX12_figures_89 rfl rfl ?_
      refine f_geti (pc := 90) (k := 0) (u := 32) (q := 0) dX12_figures_90 xf12_82 (sa_32_0 hs) rfl hn rfl rfl (by decide) ?_
      show Ev g _ _ _ _ _ _ 93 [some (x_r (16 * 32 + 0)), some (x_i a), some (x_i b), some (x_i v1), some (x_i v6)] [x_i (S7 0 11)] (al, ro, fl (ml M [32] [S7])) _ _ _ _
      refine e_iloadn (pc := 93) (i := 3) dX12_figures_93 rfl rfl ?_
      obtain ⟨S16, hr16, hG⟩ := x_bd1 hG
      have hjhr16 : Ev g yX12_figures cX12_figures 5 (some .int) [] 3 124 [some (x_r (16 * 32 + 0)), some (x_i a), some (x_i b), some (x_i v1), some (x_i v6)] [] (al, ro, fl (ml M [32] [S16])) 0 0 (.inl (some (x_i t.1))) (al, ro, fl (ml M [32] [t.2])) := by
        refine e_iload (pc := 124) dX12_figures_124 rfl ?_
        cases hG
        exact (e_ireturn rfl dX12_figures_126 rfl)
      clear hG
      refine e_icmp_eq (pc := 94) (tgt := 119) dX12_figures_94 (by decide) (fun hb => ?_) (fun hb => ?_)
      · rw [if_pos hb] at hr16
        refine e_aloadn (pc := 119) (i := 0) dX12_figures_119 rfl rfl ?_
        refine e_iloadn (pc := 120) (i := 3) dX12_figures_120 rfl rfl ?_
        obtain ⟨S18, hq18, hr16⟩ := x_bd1 hr16
        refine e_invV (pc := 121) (K1 := 0) (S1 := 0) (K := 0) (S := 0) (dd2 := 0) (av := [x_i v1]) (st := []) (id := 16 * 32 + 0) dX12_figures_121 xmX12_108 rfl (Or.inl ⟨10, 27, TX12, (sa_32_0 hs), rfl, by decide⟩) (f_cal (M := M) (us2 := [32]) [0] hn rfl (And.intro rfl trivial) rfl rfl rfl (c_X12_wrong hst hs   hq18)) (by decide) (Nat.le_of_ble_eq_true rfl) (Or.inl rfl) ?_
        show Ev g _ _ _ _ _ _ 124 [some (x_r (16 * 32 + 0)), some (x_i a), some (x_i b), some (x_i v1), some (x_i v6)] [] (al, ro, fl (ml M [32] [S18])) _ _ _ _
        cases hr16
        exact hjhr16
      · rw [if_neg hb] at hr16
        refine e_aloadn (pc := 97) (i := 0) dX12_figures_97 rfl rfl ?_
        refine f_geti (pc := 98) (k := 0) (u := 32) (q := 0) dX12_figures_98 xf12_82 (sa_32_0 hs) rfl hn rfl rfl (by decide) ?_
        show Ev g _ _ _ _ _ _ 101 [some (x_r (16 * 32 + 0)), some (x_i a), some (x_i b), some (x_i v1), some (x_i v6)] [x_i (S7 0 11)] (al, ro, fl (ml M [32] [S7])) _ _ _ _
        refine e_iloadn (pc := 101) (i := 3) dX12_figures_101 rfl rfl ?_
        refine e_isub (pc := 102) dX12_figures_102 ?_
        refine e_iconst (pc := 103) dX12_figures_103 (x_R rfl) ?_
        refine e_icmp_gt (pc := 104) (tgt := 119) dX12_figures_104 (by decide) (fun hb => ?_) (fun hb => ?_)
        · rw [if_pos hb] at hr16
          refine e_aloadn (pc := 119) (i := 0) dX12_figures_119 rfl rfl ?_
          refine e_iloadn (pc := 120) (i := 3) dX12_figures_120 rfl rfl ?_
          obtain ⟨S20, hq20, hr16⟩ := x_bd1 hr16
          refine e_invV (pc := 121) (K1 := 0) (S1 := 0) (K := 0) (S := 0) (dd2 := 0) (av := [x_i v1]) (st := []) (id := 16 * 32 + 0) dX12_figures_121 xmX12_108 rfl (Or.inl ⟨10, 27, TX12, (sa_32_0 hs), rfl, by decide⟩) (f_cal (M := M) (us2 := [32]) [0] hn rfl (And.intro rfl trivial) rfl rfl rfl (c_X12_wrong hst hs   hq20)) (by decide) (Nat.le_of_ble_eq_true rfl) (Or.inl rfl) ?_
          show Ev g _ _ _ _ _ _ 124 [some (x_r (16 * 32 + 0)), some (x_i a), some (x_i b), some (x_i v1), some (x_i v6)] [] (al, ro, fl (ml M [32] [S20])) _ _ _ _
          cases hr16
          exact hjhr16
        · rw [if_neg hb] at hr16
          refine e_iload (pc := 107) dX12_figures_107 rfl ?_
          refine e_iloadn (pc := 109) (i := 1) dX12_figures_109 rfl rfl ?_
          refine e_icmp_lt (pc := 110) (tgt := 119) dX12_figures_110 (by decide) (fun hb => ?_) (fun hb => ?_)
          · rw [if_pos hb] at hr16
            refine e_aloadn (pc := 119) (i := 0) dX12_figures_119 rfl rfl ?_
            refine e_iloadn (pc := 120) (i := 3) dX12_figures_120 rfl rfl ?_
            obtain ⟨S22, hq22, hr16⟩ := x_bd1 hr16
            refine e_invV (pc := 121) (K1 := 0) (S1 := 0) (K := 0) (S := 0) (dd2 := 0) (av := [x_i v1]) (st := []) (id := 16 * 32 + 0) dX12_figures_121 xmX12_108 rfl (Or.inl ⟨10, 27, TX12, (sa_32_0 hs), rfl, by decide⟩) (f_cal (M := M) (us2 := [32]) [0] hn rfl (And.intro rfl trivial) rfl rfl rfl (c_X12_wrong hst hs   hq22)) (by decide) (Nat.le_of_ble_eq_true rfl) (Or.inl rfl) ?_
            show Ev g _ _ _ _ _ _ 124 [some (x_r (16 * 32 + 0)), some (x_i a), some (x_i b), some (x_i v1), some (x_i v6)] [] (al, ro, fl (ml M [32] [S22])) _ _ _ _
            cases hr16
            exact hjhr16
          · rw [if_neg hb] at hr16
            refine e_iload (pc := 113) dX12_figures_113 rfl ?_
            refine e_iloadn (pc := 115) (i := 2) dX12_figures_115 rfl rfl ?_
            refine e_icmp_le (pc := 116) (tgt := 124) dX12_figures_116 (by decide) (fun hb => ?_) (fun hb => ?_)
            · rw [if_pos hb] at hr16
              cases hr16
              exact hjhr16
            · rw [if_neg hb] at hr16
              refine e_aloadn (pc := 119) (i := 0) dX12_figures_119 rfl rfl ?_
              refine e_iloadn (pc := 120) (i := 3) dX12_figures_120 rfl rfl ?_
              obtain ⟨S24, hq24, hr16⟩ := x_bd1 hr16
              refine e_invV (pc := 121) (K1 := 0) (S1 := 0) (K := 0) (S := 0) (dd2 := 0) (av := [x_i v1]) (st := []) (id := 16 * 32 + 0) dX12_figures_121 xmX12_108 rfl (Or.inl ⟨10, 27, TX12, (sa_32_0 hs), rfl, by decide⟩) (f_cal (M := M) (us2 := [32]) [0] hn rfl (And.intro rfl trivial) rfl rfl rfl (c_X12_wrong hst hs   hq24)) (by decide) (Nat.le_of_ble_eq_true rfl) (Or.inl rfl) ?_
              show Ev g _ _ _ _ _ _ 124 [some (x_r (16 * 32 + 0)), some (x_i a), some (x_i b), some (x_i v1), some (x_i v6)] [] (al, ro, fl (ml M [32] [S24])) _ _ _ _
              cases hr16
              exact hjhr16
    clear hG
    refine e_whl (G12_figures_L18 v1) (fun z : (Int × xU) => Ev g yX12_figures cX12_figures 5 (some .int) [] 3 18 [some (x_r (16 * 32 + 0)), some (x_i a), some (x_i b), some (x_i v1), some (x_i z.1)] [] (al, ro, fl (ml M [32] [z.2])) 0 0 (.inl (some (x_i t.1))) (al, ro, fl (ml M [32] [t.2]))) (fun q => q = (v6, S7)) ?_ xFU (0, S2) _ hl8 rfl
    intro z t8 hf8 hi8 hx8
    obtain ⟨v4, S5⟩ := z
    rw [G12_figures_L18] at hf8
    show Ev g _ _ _ _ _ _ 18 [some (x_r (16 * 32 + 0)), some (x_i a), some (x_i b), some (x_i v1), some (x_i v4)] [] (al, ro, fl (ml M [32] [S5])) _ _ _ _
    refine e_aloadn (pc := 18) (i := 0) dX12_figures_18 rfl rfl ?_
    refine f_geti (pc := 19) (k := 0) (u := 32) (q := 0) dX12_figures_19 xf12_82 (sa_32_0 hs) rfl hn rfl rfl (by decide) ?_
    show Ev g _ _ _ _ _ _ 22 [some (x_r (16 * 32 + 0)), some (x_i a), some (x_i b), some (x_i v1), some (x_i v4)] [x_i (S5 0 11)] (al, ro, fl (ml M [32] [S5])) _ _ _ _
    refine e_aloadn (pc := 22) (i := 0) dX12_figures_22 rfl rfl ?_
    refine f_geti (pc := 23) (k := 0) (u := 32) (q := 0) dX12_figures_23 xf12_85 (sa_32_0 hs) rfl hn rfl rfl (by decide) ?_
    show Ev g _ _ _ _ _ _ 26 [some (x_r (16 * 32 + 0)), some (x_i a), some (x_i b), some (x_i v1), some (x_i v4)] [x_i (S5 0 10), x_i (S5 0 11)] (al, ro, fl (ml M [32] [S5])) _ _ _ _
    refine e_icmp_ge (pc := 26) (tgt := 89) dX12_figures_26 (by decide) (fun hb => ?_) (fun hb => ?_)
    · rw [if_pos hb] at hf8
      cases hf8
      exact hk8 _ (hx8 _ rfl)
    · rw [if_neg hb] at hf8
      refine e_aloadn (pc := 29) (i := 0) dX12_figures_29 rfl rfl ?_
      refine e_aloadn (pc := 30) (i := 0) dX12_figures_30 rfl rfl ?_
      refine f_geti (pc := 31) (k := 0) (u := 32) (q := 0) dX12_figures_31 xf12_82 (sa_32_0 hs) rfl hn rfl rfl (by decide) ?_
      show Ev g _ _ _ _ _ _ 34 [some (x_r (16 * 32 + 0)), some (x_i a), some (x_i b), some (x_i v1), some (x_i v4)] [x_i (S5 0 11), x_r (16 * 32 + 0)] (al, ro, fl (ml M [32] [S5])) _ _ _ _
      obtain ⟨v10, hq10, hf8⟩ := x_bd1 hf8
      refine e_invV (pc := 34) (K1 := 0) (S1 := 0) (K := 0) (S := 0) (dd2 := 0) (av := [x_i (S5 0 11)]) (st := []) (id := 16 * 32 + 0) dX12_figures_34 xmX12_88 rfl (Or.inl ⟨10, 27, TX12, (sa_32_0 hs), rfl, by decide⟩) (f_cal (M := M) (us2 := [32]) [0] hn rfl (And.intro rfl trivial) rfl rfl rfl (c_X12_letter hst hs   hq10)) (by decide) (Nat.le_of_ble_eq_true rfl) (Or.inl rfl) ?_
      show Ev g _ _ _ _ _ _ 37 [some (x_r (16 * 32 + 0)), some (x_i a), some (x_i b), some (x_i v1), some (x_i v4)] [x_i v10] (al, ro, fl (ml M [32] [S5])) _ _ _ _
      refine e_bipush (pc := 37) dX12_figures_37 (by decide +kernel) (x_R rfl) ?_
      refine e_bipush (pc := 39) dX12_figures_39 (by decide +kernel) (x_R rfl) ?_
      obtain ⟨v12, hq12, hf8⟩ := x_bd1 hf8
      refine e_invS (pc := 41) (K1 := 0) (S1 := 0) (K := 0) (S := 0) (dd2 := 0) (av := [x_i v10, x_i 48, x_i 57]) (st := []) dX12_figures_41 xmX12_61 rfl (f_cal (M := M) (us2 := []) [] hn rfl trivial rfl rfl rfl (c_X12_isIn hst hs   hq12)) (by decide) (Nat.le_of_ble_eq_true rfl) (Or.inl rfl) ?_
      show Ev g _ _ _ _ _ _ 44 [some (x_r (16 * 32 + 0)), some (x_i a), some (x_i b), some (x_i v1), some (x_i v4)] [x_i v12] (al, ro, fl (ml M [32] [S5])) _ _ _ _
      refine e_if_eq (pc := 44) (tgt := 89) dX12_figures_44 (by decide) (fun hb => ?_) (fun hb => ?_)
      · rw [if_pos hb] at hf8
        cases hf8
        exact hk8 _ (hx8 _ rfl)
      · rw [if_neg hb] at hf8
        refine e_aloadn (pc := 47) (i := 0) dX12_figures_47 rfl rfl ?_
        refine f_geti (pc := 48) (k := 0) (u := 32) (q := 0) dX12_figures_48 xf12_82 (sa_32_0 hs) rfl hn rfl rfl (by decide) ?_
        show Ev g _ _ _ _ _ _ 51 [some (x_r (16 * 32 + 0)), some (x_i a), some (x_i b), some (x_i v1), some (x_i v4)] [x_i (S5 0 11)] (al, ro, fl (ml M [32] [S5])) _ _ _ _
        refine e_iloadn (pc := 51) (i := 3) dX12_figures_51 rfl rfl ?_
        refine e_isub (pc := 52) dX12_figures_52 ?_
        refine e_iconst (pc := 53) dX12_figures_53 (x_R rfl) ?_
        refine e_icmp_gt (pc := 54) (tgt := 89) dX12_figures_54 (by decide) (fun hb => ?_) (fun hb => ?_)
        · rw [if_pos hb] at hf8
          cases hf8
          exact hk8 _ (hx8 _ rfl)
        · rw [if_neg hb] at hf8
          refine e_bipush (pc := 57) dX12_figures_57 (by decide +kernel) (x_R rfl) ?_
          refine e_iload (pc := 59) dX12_figures_59 rfl ?_
          refine e_imul (pc := 61) dX12_figures_61 ?_
          refine e_aloadn (pc := 62) (i := 0) dX12_figures_62 rfl rfl ?_
          refine e_aloadn (pc := 63) (i := 0) dX12_figures_63 rfl rfl ?_
          refine f_geti (pc := 64) (k := 0) (u := 32) (q := 0) dX12_figures_64 xf12_82 (sa_32_0 hs) rfl hn rfl rfl (by decide) ?_
          show Ev g _ _ _ _ _ _ 67 [some (x_r (16 * 32 + 0)), some (x_i a), some (x_i b), some (x_i v1), some (x_i v4)] [x_i (S5 0 11), x_r (16 * 32 + 0), x_i (x_mul 10 v4)] (al, ro, fl (ml M [32] [S5])) _ _ _ _
          obtain ⟨v14, hq14, hf8⟩ := x_bd1 hf8
          refine e_invV (pc := 67) (K1 := 0) (S1 := 0) (K := 0) (S := 0) (dd2 := 0) (av := [x_i (S5 0 11)]) (st := [x_i (x_mul 10 v4)]) (id := 16 * 32 + 0) dX12_figures_67 xmX12_88 rfl (Or.inl ⟨10, 27, TX12, (sa_32_0 hs), rfl, by decide⟩) (f_cal (M := M) (us2 := [32]) [0] hn rfl (And.intro rfl trivial) rfl rfl rfl (c_X12_letter hst hs   hq14)) (by decide) (Nat.le_of_ble_eq_true rfl) (Or.inl rfl) ?_
          show Ev g _ _ _ _ _ _ 70 [some (x_r (16 * 32 + 0)), some (x_i a), some (x_i b), some (x_i v1), some (x_i v4)] [x_i v14, x_i (x_mul 10 v4)] (al, ro, fl (ml M [32] [S5])) _ _ _ _
          refine e_iadd (pc := 70) dX12_figures_70 ?_
          refine e_bipush (pc := 71) dX12_figures_71 (by decide +kernel) (x_R rfl) ?_
          refine e_isub (pc := 73) dX12_figures_73 ?_
          refine e_istore (pc := 74) (i := 4) dX12_figures_74 (by decide) rfl ?_
          show Ev g _ _ _ _ _ _ 76 [some (x_r (16 * 32 + 0)), some (x_i a), some (x_i b), some (x_i v1), some (x_i (x_sub (x_add (x_mul 10 v4) v14) 48))] [] (al, ro, fl (ml M [32] [S5])) _ _ _ _
          refine e_aloadn (pc := 76) (i := 0) dX12_figures_76 rfl rfl ?_
          refine e_dup (pc := 77) dX12_figures_77 rfl ?_
          refine f_geti (pc := 78) (k := 0) (u := 32) (q := 0) dX12_figures_78 xf12_82 (sa_32_0 hs) rfl hn rfl rfl (by decide) ?_
          show Ev g _ _ _ _ _ _ 81 [some (x_r (16 * 32 + 0)), some (x_i a), some (x_i b), some (x_i v1), some (x_i (x_sub (x_add (x_mul 10 v4) v14) 48))] [x_i (S5 0 11), x_r (16 * 32 + 0)] (al, ro, fl (ml M [32] [S5])) _ _ _ _
          refine e_iconst (pc := 81) dX12_figures_81 (x_R rfl) ?_
          refine e_iadd (pc := 82) dX12_figures_82 ?_
          refine f_puti (pc := 83) (k := 0) (u := 32) (q := 0) dX12_figures_83 xf12_82 xw10_11 (sa_32_0 hs) hn rfl rfl rfl (by decide) ?_
          show Ev g _ _ _ _ _ _ 86 [some (x_r (16 * 32 + 0)), some (x_i a), some (x_i b), some (x_i v1), some (x_i (x_sub (x_add (x_mul 10 v4) v14) 48))] [] (al, ro, fl (ml M [32] [(x_up S5 0 11 (x_add (S5 0 11) 1))])) _ _ _ _
          refine e_goto (pc := 86) (tgt := 18) dX12_figures_86 (by decide) ?_
          cases hf8
          exact hi8 _ rfl
  · rw [if_neg hb] at hG
    refine e_iconst (pc := 8) dX12_figures_8 (x_R rfl) ?_
    cases hG
    exact (e_ireturn rfl dX12_figures_9 rfl)
def G12_after (w : Nat) (a : Int) (b : Int) (S : xU) : Option (Int × xU) :=
  (x_b1 (if (S 0 12) = (-1) then (x_b2 (G12_has w S) fun (v3 : Int) (S4 : xU) => (if v3 = 0 then (x_b1 (G12_wrong (S4 0 11) S4) fun (S6 : xU) => (some S6)) else (some S4))) else (some S)) fun (S1 : xU) => (x_b2 (G12_figures a b S1) fun (v8 : Int) (S9 : xU) => (some (v8, S9))))
set_option maxRecDepth 100000 in
set_option maxHeartbeats 4000000 in
theorem c_X12_after {g : xG} {al : List (Nat × Nat × Nat)} {ro : Nat → Nat → Option Nat} (hst : g.1.stackTraces = false) (hs : SH al ro) (hw : w < x_nS) {M : Nat → xU} {w : Nat} {a : Int} {b : Int} {S : xU} {t : (Int × xU)} (hG : G12_after w a b S = some t) :
    Cal g yX12_after cX12_after 4 (some .int) 7 [x_r (16 * 32 + 0), x_r (x_s0 + w), x_i a, x_i b] (al, ro, fl (ml M [32] [S])) 0 0 (.inl (some (x_i t.1))) (al, ro, fl (ml M [32] [t.2])) := by
  have hn : ([32] : List Nat).Nodup := by decide
  refine cal_of_ev (by decide) (x_c1 rfl) (Nat.le_of_ble_eq_true rfl) hst ?_
  show Ev g _ _ _ _ _ _ 0 [some (x_r (16 * 32 + 0)), some (x_r (x_s0 + w)), some (x_i a), some (x_i b)] [] (al, ro, fl (ml M [32] [S])) _ _ _ _
  rw [G12_after] at hG
  refine e_aloadn (pc := 0) (i := 0) dX12_after_0 rfl rfl ?_
  refine f_geti (pc := 1) (k := 0) (u := 32) (q := 0) dX12_after_1 xf12_25 (sa_32_0 hs) rfl hn rfl rfl (by decide) ?_
  show Ev g _ _ _ _ _ _ 4 [some (x_r (16 * 32 + 0)), some (x_r (x_s0 + w)), some (x_i a), some (x_i b)] [x_i (S 0 12)] (al, ro, fl (ml M [32] [S])) _ _ _ _
  refine e_iconst (pc := 4) dX12_after_4 (x_R rfl) ?_
  obtain ⟨S1, hr1, hG⟩ := x_bd1 hG
  have hjhr1 : Ev g yX12_after cX12_after 4 (some .int) [] 7 24 [some (x_r (16 * 32 + 0)), some (x_r (x_s0 + w)), some (x_i a), some (x_i b)] [] (al, ro, fl (ml M [32] [S1])) 0 0 (.inl (some (x_i t.1))) (al, ro, fl (ml M [32] [t.2])) := by
    refine e_aloadn (pc := 24) (i := 0) dX12_after_24 rfl rfl ?_
    refine e_iloadn (pc := 25) (i := 2) dX12_after_25 rfl rfl ?_
    refine e_iloadn (pc := 26) (i := 3) dX12_after_26 rfl rfl ?_
    obtain ⟨v8, S9, hq9, hG⟩ := x_bd2 hG
    refine e_invV (pc := 27) (K1 := 0) (S1 := 0) (K := 0) (S := 0) (dd2 := 3) (av := [x_i a, x_i b]) (st := []) (id := 16 * 32 + 0) dX12_after_27 xmX12_116 rfl (Or.inl ⟨10, 27, TX12, (sa_32_0 hs), rfl, by decide⟩) (f_cal (M := M) (us2 := [32]) [0] hn rfl (And.intro rfl trivial) rfl rfl rfl (c_X12_figures hst hs   hq9)) (by decide) (Nat.le_of_ble_eq_true rfl) (Or.inl rfl) ?_
    show Ev g _ _ _ _ _ _ 30 [some (x_r (16 * 32 + 0)), some (x_r (x_s0 + w)), some (x_i a), some (x_i b)] [x_i v8] (al, ro, fl (ml M [32] [S9])) _ _ _ _
    cases hG
    exact (e_ireturn rfl dX12_after_30 rfl)
  clear hG
  refine e_icmp_ne (pc := 5) (tgt := 24) dX12_after_5 (by decide) (fun hb => ?_) (fun hb => ?_)
  · rw [if_neg hb] at hr1
    cases hr1
    exact hjhr1
  · rw [if_pos hb] at hr1
    refine e_aloadn (pc := 8) (i := 0) dX12_after_8 rfl rfl ?_
    refine e_aloadn (pc := 9) (i := 1) dX12_after_9 rfl rfl ?_
    obtain ⟨v3, S4, hq4, hr1⟩ := x_bd2 hr1
    refine e_invV (pc := 10) (K1 := 0) (S1 := 0) (K := 0) (S := 0) (dd2 := 6) (av := [x_r (x_s0 + w)]) (st := []) (id := 16 * 32 + 0) dX12_after_10 xmX12_112 rfl (Or.inl ⟨10, 27, TX12, (sa_32_0 hs), rfl, by decide⟩) (f_cal (M := M) (us2 := [32]) [0] hn rfl (And.intro rfl trivial) rfl rfl rfl (c_X12_has hst hs  hw hq4)) (by decide) (Nat.le_of_ble_eq_true rfl) (Or.inl rfl) ?_
    show Ev g _ _ _ _ _ _ 13 [some (x_r (16 * 32 + 0)), some (x_r (x_s0 + w)), some (x_i a), some (x_i b)] [x_i v3] (al, ro, fl (ml M [32] [S4])) _ _ _ _
    refine e_if_ne (pc := 13) (tgt := 24) dX12_after_13 (by decide) (fun hb => ?_) (fun hb => ?_)
    · rw [if_neg hb] at hr1
      cases hr1
      exact hjhr1
    · rw [if_pos hb] at hr1
      refine e_aloadn (pc := 16) (i := 0) dX12_after_16 rfl rfl ?_
      refine e_aloadn (pc := 17) (i := 0) dX12_after_17 rfl rfl ?_
      refine f_geti (pc := 18) (k := 0) (u := 32) (q := 0) dX12_after_18 xf12_82 (sa_32_0 hs) rfl hn rfl rfl (by decide) ?_
      show Ev g _ _ _ _ _ _ 21 [some (x_r (16 * 32 + 0)), some (x_r (x_s0 + w)), some (x_i a), some (x_i b)] [x_i (S4 0 11), x_r (16 * 32 + 0)] (al, ro, fl (ml M [32] [S4])) _ _ _ _
      obtain ⟨S6, hq6, hr1⟩ := x_bd1 hr1
      refine e_invV (pc := 21) (K1 := 0) (S1 := 0) (K := 0) (S := 0) (dd2 := 0) (av := [x_i (S4 0 11)]) (st := []) (id := 16 * 32 + 0) dX12_after_21 xmX12_108 rfl (Or.inl ⟨10, 27, TX12, (sa_32_0 hs), rfl, by decide⟩) (f_cal (M := M) (us2 := [32]) [0] hn rfl (And.intro rfl trivial) rfl rfl rfl (c_X12_wrong hst hs   hq6)) (by decide) (Nat.le_of_ble_eq_true rfl) (Or.inl rfl) ?_
      show Ev g _ _ _ _ _ _ 24 [some (x_r (16 * 32 + 0)), some (x_r (x_s0 + w)), some (x_i a), some (x_i b)] [] (al, ro, fl (ml M [32] [S6])) _ _ _ _
      cases hr1
      exact hjhr1
def G12_isStall_L4 (a : Int) (S : xU) : (Int × Int) → Option ((Int × Int) ⊕ Int)
  | (v1, v2) => (if (S 1 3) ≤ v2 then (some (.inr v1)) else (x_b1 (if v1 = 0 then (x_b1 (G12_of v2 2 S) fun (v8 : Int) => (if v8 = a then (some 1) else (some 0))) else (some 1)) fun (v6 : Int) => (some (.inl (v6, (x_add v2 1))))))
def G12_isStall (a : Int) (S : xU) : Option Int :=
  (x_b1 (whl xFU (G12_isStall_L4 a S) (0, 0)) fun (v3 : Int) => (x_gd (v3 = 0 ∨ v3 = 1) (some v3)))
set_option maxRecDepth 100000 in
set_option maxHeartbeats 4000000 in
theorem c_X12_isStall {g : xG} {al : List (Nat × Nat × Nat)} {ro : Nat → Nat → Option Nat} (hst : g.1.stackTraces = false) (hs : SH al ro) {M : Nat → xU} {a : Int} {S : xU} {t : Int} (hG : G12_isStall a S = some t) :
    Cal g yX12_isStall cX12_isStall 4 (some .boolean) 1 [x_r (16 * 32 + 0), x_i a] (al, ro, fl (ml M [32] [S])) 0 0 (.inl (some (x_i t))) (al, ro, fl (ml M [32] [S])) := by
  have hn : ([32] : List Nat).Nodup := by decide
  refine cal_of_ev (by decide) (x_c1 rfl) (Nat.le_of_ble_eq_true rfl) hst ?_
  show Ev g _ _ _ _ _ _ 0 [some (x_r (16 * 32 + 0)), some (x_i a), none, none] [] (al, ro, fl (ml M [32] [S])) _ _ _ _
  rw [G12_isStall] at hG
  refine e_iconst (pc := 0) dX12_isStall_0 (x_R rfl) ?_
  refine e_istoren (pc := 1) (i := 2) dX12_isStall_1 rfl (by decide) rfl ?_
  show Ev g _ _ _ _ _ _ 2 [some (x_r (16 * 32 + 0)), some (x_i a), some (x_i 0), none] [] (al, ro, fl (ml M [32] [S])) _ _ _ _
  refine e_iconst (pc := 2) dX12_isStall_2 (x_R rfl) ?_
  refine e_istoren (pc := 3) (i := 3) dX12_isStall_3 rfl (by decide) rfl ?_
  show Ev g _ _ _ _ _ _ 4 [some (x_r (16 * 32 + 0)), some (x_i a), some (x_i 0), some (x_i 0)] [] (al, ro, fl (ml M [32] [S])) _ _ _ _
  obtain ⟨v3, hl4, hG⟩ := x_bd1 hG
  have hk4 : ∀ q : Int, q = v3 → Ev g yX12_isStall cX12_isStall 4 (some .boolean) [] 1 40 [some (x_r (16 * 32 + 0)), some (x_i a), some (x_i q), none] [] (al, ro, fl (ml M [32] [S])) 0 0 (.inl (some (x_i t))) (al, ro, fl (ml M [32] [S])) := by
    intro q hq
    replace hq := hq.symm
    subst hq
    refine e_iloadn (pc := 40) (i := 2) dX12_isStall_40 rfl rfl ?_
    obtain ⟨hc0, hG⟩ := x_gd_some hG
    cases hG
    exact (e_ireturn rfl dX12_isStall_41 (x_bool hc0).1)
  clear hG
  refine e_whl (G12_isStall_L4 a S) (fun z : (Int × Int) => Ev g yX12_isStall cX12_isStall 4 (some .boolean) [] 1 4 [some (x_r (16 * 32 + 0)), some (x_i a), some (x_i z.1), some (x_i z.2)] [] (al, ro, fl (ml M [32] [S])) 0 0 (.inl (some (x_i t))) (al, ro, fl (ml M [32] [S]))) (fun q => q = v3) ?_ xFU (0, 0) _ hl4 rfl
  intro z t4 hf4 hi4 hx4
  obtain ⟨v1, v2⟩ := z
  rw [G12_isStall_L4] at hf4
  show Ev g _ _ _ _ _ _ 4 [some (x_r (16 * 32 + 0)), some (x_i a), some (x_i v1), some (x_i v2)] [] (al, ro, fl (ml M [32] [S])) _ _ _ _
  refine e_iloadn (pc := 4) (i := 3) dX12_isStall_4 rfl rfl ?_
  refine e_aloadn (pc := 5) (i := 0) dX12_isStall_5 rfl rfl ?_
  refine f_getr (pc := 6) (u := 32) (q := 0) dX12_isStall_6 xf12_7 (sa_32_0 hs) rfl (sr_32_0_1 hs) ?_
  refine e_iconst (pc := 9) dX12_isStall_9 (x_R rfl) ?_
  refine f_iald (pc := 10) (k := 0) (u := 32) (q := 1) (len := 772) dX12_isStall_10 (sa_32_1 hs) (by decide) hn rfl rfl (by decide) ?_
  show Ev g _ _ _ _ _ _ 11 [some (x_r (16 * 32 + 0)), some (x_i a), some (x_i v1), some (x_i v2)] [x_i (S 1 3), x_i v2] (al, ro, fl (ml M [32] [S])) _ _ _ _
  refine e_icmp_ge (pc := 11) (tgt := 40) dX12_isStall_11 (by decide) (fun hb => ?_) (fun hb => ?_)
  · rw [if_pos hb] at hf4
    cases hf4
    refine e_drop (i := 3) ?_
    exact hk4 _ (hx4 _ rfl)
  · rw [if_neg hb] at hf4
    refine e_iloadn (pc := 14) (i := 2) dX12_isStall_14 rfl rfl ?_
    obtain ⟨v6, hr6, hf4⟩ := x_bd1 hf4
    have hjhr6 : Ev g yX12_isStall cX12_isStall 4 (some .boolean) [] 1 33 [some (x_r (16 * 32 + 0)), some (x_i a), some (x_i v1), some (x_i v2)] [x_i v6] (al, ro, fl (ml M [32] [S])) 0 0 (.inl (some (x_i t))) (al, ro, fl (ml M [32] [S])) := by
      refine e_istoren (pc := 33) (i := 2) dX12_isStall_33 rfl (by decide) rfl ?_
      show Ev g _ _ _ _ _ _ 34 [some (x_r (16 * 32 + 0)), some (x_i a), some (x_i v6), some (x_i v2)] [] (al, ro, fl (ml M [32] [S])) _ _ _ _
      refine e_iinc (pc := 34) dX12_isStall_34 rfl (by decide) rfl ?_
      show Ev g _ _ _ _ _ _ 37 [some (x_r (16 * 32 + 0)), some (x_i a), some (x_i v6), some (x_i (x_add v2 1))] [] (al, ro, fl (ml M [32] [S])) _ _ _ _
      refine e_goto (pc := 37) (tgt := 4) dX12_isStall_37 (by decide) ?_
      cases hf4
      exact hi4 _ rfl
    clear hf4
    refine e_if_ne (pc := 15) (tgt := 28) dX12_isStall_15 (by decide) (fun hb => ?_) (fun hb => ?_)
    · rw [if_neg hb] at hr6
      refine e_iconst (pc := 28) dX12_isStall_28 (x_R rfl) ?_
      refine e_goto (pc := 29) (tgt := 33) dX12_isStall_29 (by decide) ?_
      cases hr6
      exact hjhr6
    · rw [if_pos hb] at hr6
      refine e_aloadn (pc := 18) (i := 0) dX12_isStall_18 rfl rfl ?_
      refine e_iloadn (pc := 19) (i := 3) dX12_isStall_19 rfl rfl ?_
      refine e_iconst (pc := 20) dX12_isStall_20 (x_R rfl) ?_
      obtain ⟨v8, hq8, hr6⟩ := x_bd1 hr6
      refine e_invV (pc := 21) (K1 := 0) (S1 := 0) (K := 0) (S := 0) (dd2 := 0) (av := [x_i v2, x_i 2]) (st := []) (id := 16 * 32 + 0) dX12_isStall_21 xmX12_65 rfl (Or.inl ⟨10, 27, TX12, (sa_32_0 hs), rfl, by decide⟩) (f_cal (M := M) (us2 := [32]) [0] hn rfl (And.intro rfl trivial) rfl rfl rfl (c_X12_of hst hs   hq8)) (by decide) (Nat.le_of_ble_eq_true rfl) (Or.inl rfl) ?_
      show Ev g _ _ _ _ _ _ 24 [some (x_r (16 * 32 + 0)), some (x_i a), some (x_i v1), some (x_i v2)] [x_i v8] (al, ro, fl (ml M [32] [S])) _ _ _ _
      refine e_iloadn (pc := 24) (i := 1) dX12_isStall_24 rfl rfl ?_
      refine e_icmp_ne (pc := 25) (tgt := 32) dX12_isStall_25 (by decide) (fun hb => ?_) (fun hb => ?_)
      · rw [if_neg hb] at hr6
        refine e_iconst (pc := 32) dX12_isStall_32 (x_R rfl) ?_
        cases hr6
        exact hjhr6
      · rw [if_pos hb] at hr6
        refine e_iconst (pc := 28) dX12_isStall_28 (x_R rfl) ?_
        refine e_goto (pc := 29) (tgt := 33) dX12_isStall_29 (by decide) ?_
        cases hr6
        exact hjhr6
def G12_months_L22 (S2 : xU) : (Int × Int × Int) → Option ((Int × Int × Int) ⊕ (Int × Int × Int))
  | (v4, v5, v6) => (if (S2 0 10) ≤ v6 then (some (.inr (v4, v5, v6))) else (x_b1 (G12_letter v6 S2) fun (v12 : Int) => (x_b1 (G12_isIn v12 97 122) fun (v14 : Int) => (if v14 = 0 then (some (.inr (v4, v5, v6))) else (x_b1 (G12_letter v6 S2) fun (v16 : Int) => (x_b1 (if v5 = 0 then (some 0) else (if 12 ≤ (x_sub v16 97) then (some 0) else (x_b1 (G12_isOf v4 (x_sub v16 97)) fun (v20 : Int) => (if v20 = 0 then (some 1) else (some 0))))) fun (v18 : Int) => (x_b1 (if 12 ≤ (x_sub v16 97) then (some 0) else (some (x_shl 1 (x_sub v16 97)))) fun (v22 : Int) => (some (.inl ((x_or v4 v22), v18, (x_add v6 1)))))))))))
def G12_months (S : xU) : Option (Int × xU) :=
  (if (S 0 12) = (-1) then (x_b2 (G12_here S) fun (v1 : Int) (S2 : xU) => (x_b3 (whl xFU (G12_months_L22 S2) (0, 1, v1)) fun (v7 : Int) (v8 : Int) (v9 : Int) => (x_b1 (if v8 = 0 then (x_b1 (G12_wrong v1 S2) fun (S26 : xU) => (some S26)) else (if v7 = 0 then (x_b1 (G12_wrong v1 S2) fun (S28 : xU) => (some S28)) else (some (x_up S2 0 11 v9)))) fun (S24 : xU) => (some (v7, S24))))) else (some (0, S)))
set_option maxRecDepth 100000 in
set_option maxHeartbeats 4000000 in
theorem c_X12_months {g : xG} {al : List (Nat × Nat × Nat)} {ro : Nat → Nat → Option Nat} (hst : g.1.stackTraces = false) (hs : SH al ro) {M : Nat → xU} {S : xU} {t : (Int × xU)} (hG : G12_months S = some t) :
    Cal g yX12_months cX12_months 6 (some .int) 3 [x_r (16 * 32 + 0)] (al, ro, fl (ml M [32] [S])) 0 0 (.inl (some (x_i t.1))) (al, ro, fl (ml M [32] [t.2])) := by
  have hn : ([32] : List Nat).Nodup := by decide
  refine cal_of_ev (by decide) (x_c1 rfl) (Nat.le_of_ble_eq_true rfl) hst ?_
  show Ev g _ _ _ _ _ _ 0 [some (x_r (16 * 32 + 0)), none, none, none, none, none] [] (al, ro, fl (ml M [32] [S])) _ _ _ _
  rw [G12_months] at hG
  refine e_aloadn (pc := 0) (i := 0) dX12_months_0 rfl rfl ?_
  refine f_geti (pc := 1) (k := 0) (u := 32) (q := 0) dX12_months_1 xf12_25 (sa_32_0 hs) rfl hn rfl rfl (by decide) ?_
  show Ev g _ _ _ _ _ _ 4 [some (x_r (16 * 32 + 0)), none, none, none, none, none] [x_i (S 0 12)] (al, ro, fl (ml M [32] [S])) _ _ _ _
  refine e_iconst (pc := 4) dX12_months_4 (x_R rfl) ?_
  refine e_icmp_eq (pc := 5) (tgt := 10) dX12_months_5 (by decide) (fun hb => ?_) (fun hb => ?_)
  · rw [if_pos hb] at hG
    refine e_aloadn (pc := 10) (i := 0) dX12_months_10 rfl rfl ?_
    obtain ⟨v1, S2, hq2, hG⟩ := x_bd2 hG
    refine e_invV (pc := 11) (K1 := 0) (S1 := 0) (K := 0) (S := 0) (dd2 := 2) (av := []) (st := []) (id := 16 * 32 + 0) dX12_months_11 xmX12_105 rfl (Or.inl ⟨10, 27, TX12, (sa_32_0 hs), rfl, by decide⟩) (f_cal (M := M) (us2 := [32]) [0] hn rfl (And.intro rfl trivial) rfl rfl rfl (c_X12_here hst hs   hq2)) (by decide) (Nat.le_of_ble_eq_true rfl) (Or.inl rfl) ?_
    show Ev g _ _ _ _ _ _ 14 [some (x_r (16 * 32 + 0)), none, none, none, none, none] [x_i v1] (al, ro, fl (ml M [32] [S2])) _ _ _ _
    refine e_istoren (pc := 14) (i := 1) dX12_months_14 rfl (by decide) rfl ?_
    show Ev g _ _ _ _ _ _ 15 [some (x_r (16 * 32 + 0)), some (x_i v1), none, none, none, none] [] (al, ro, fl (ml M [32] [S2])) _ _ _ _
    refine e_iconst (pc := 15) dX12_months_15 (x_R rfl) ?_
    refine e_istoren (pc := 16) (i := 2) dX12_months_16 rfl (by decide) rfl ?_
    show Ev g _ _ _ _ _ _ 17 [some (x_r (16 * 32 + 0)), some (x_i v1), some (x_i 0), none, none, none] [] (al, ro, fl (ml M [32] [S2])) _ _ _ _
    refine e_iconst (pc := 17) dX12_months_17 (x_R rfl) ?_
    refine e_istoren (pc := 18) (i := 3) dX12_months_18 rfl (by decide) rfl ?_
    show Ev g _ _ _ _ _ _ 19 [some (x_r (16 * 32 + 0)), some (x_i v1), some (x_i 0), some (x_i 1), none, none] [] (al, ro, fl (ml M [32] [S2])) _ _ _ _
    refine e_iloadn (pc := 19) (i := 1) dX12_months_19 rfl rfl ?_
    refine e_istore (pc := 20) (i := 4) dX12_months_20 (by decide) rfl ?_
    show Ev g _ _ _ _ _ _ 22 [some (x_r (16 * 32 + 0)), some (x_i v1), some (x_i 0), some (x_i 1), some (x_i v1), none] [] (al, ro, fl (ml M [32] [S2])) _ _ _ _
    obtain ⟨v7, v8, v9, hl10, hG⟩ := x_bd3 hG
    have hk10 : ∀ q : (Int × Int × Int), q = (v7, v8, v9) → Ev g yX12_months cX12_months 6 (some .int) [] 3 108 [some (x_r (16 * 32 + 0)), some (x_i v1), some (x_i q.1), some (x_i q.2.1), some (x_i q.2.2), none] [] (al, ro, fl (ml M [32] [S2])) 0 0 (.inl (some (x_i t.1))) (al, ro, fl (ml M [32] [t.2])) := by
      intro q hq
      cases hq
      refine e_iloadn (pc := 108) (i := 3) dX12_months_108 rfl rfl ?_
      obtain ⟨S24, hr24, hG⟩ := x_bd1 hG
      have hjhr24 : Ev g yX12_months cX12_months 6 (some .int) [] 3 130 [some (x_r (16 * 32 + 0)), some (x_i v1), some (x_i v7), some (x_i v8), some (x_i v9), none] [] (al, ro, fl (ml M [32] [S24])) 0 0 (.inl (some (x_i t.1))) (al, ro, fl (ml M [32] [t.2])) := by
        refine e_iloadn (pc := 130) (i := 2) dX12_months_130 rfl rfl ?_
        cases hG
        exact (e_ireturn rfl dX12_months_131 rfl)
      clear hG
      refine e_if_eq (pc := 109) (tgt := 116) dX12_months_109 (by decide) (fun hb => ?_) (fun hb => ?_)
      · rw [if_pos hb] at hr24
        refine e_aloadn (pc := 116) (i := 0) dX12_months_116 rfl rfl ?_
        refine e_iloadn (pc := 117) (i := 1) dX12_months_117 rfl rfl ?_
        obtain ⟨S26, hq26, hr24⟩ := x_bd1 hr24
        refine e_invV (pc := 118) (K1 := 0) (S1 := 0) (K := 0) (S := 0) (dd2 := 0) (av := [x_i v1]) (st := []) (id := 16 * 32 + 0) dX12_months_118 xmX12_108 rfl (Or.inl ⟨10, 27, TX12, (sa_32_0 hs), rfl, by decide⟩) (f_cal (M := M) (us2 := [32]) [0] hn rfl (And.intro rfl trivial) rfl rfl rfl (c_X12_wrong hst hs   hq26)) (by decide) (Nat.le_of_ble_eq_true rfl) (Or.inl rfl) ?_
        show Ev g _ _ _ _ _ _ 121 [some (x_r (16 * 32 + 0)), some (x_i v1), some (x_i v7), some (x_i v8), some (x_i v9), none] [] (al, ro, fl (ml M [32] [S26])) _ _ _ _
        refine e_goto (pc := 121) (tgt := 130) dX12_months_121 (by decide) ?_
        cases hr24
        exact hjhr24
      · rw [if_neg hb] at hr24
        refine e_iloadn (pc := 112) (i := 2) dX12_months_112 rfl rfl ?_
        refine e_if_ne (pc := 113) (tgt := 124) dX12_months_113 (by decide) (fun hb => ?_) (fun hb => ?_)
        · rw [if_neg hb] at hr24
          refine e_aloadn (pc := 124) (i := 0) dX12_months_124 rfl rfl ?_
          refine e_iload (pc := 125) dX12_months_125 rfl ?_
          refine f_puti (pc := 127) (k := 0) (u := 32) (q := 0) dX12_months_127 xf12_82 xw10_11 (sa_32_0 hs) hn rfl rfl rfl (by decide) ?_
          show Ev g _ _ _ _ _ _ 130 [some (x_r (16 * 32 + 0)), some (x_i v1), some (x_i v7), some (x_i v8), some (x_i v9), none] [] (al, ro, fl (ml M [32] [(x_up S2 0 11 v9)])) _ _ _ _
          cases hr24
          exact hjhr24
        · rw [if_pos hb] at hr24
          refine e_aloadn (pc := 116) (i := 0) dX12_months_116 rfl rfl ?_
          refine e_iloadn (pc := 117) (i := 1) dX12_months_117 rfl rfl ?_
          obtain ⟨S28, hq28, hr24⟩ := x_bd1 hr24
          refine e_invV (pc := 118) (K1 := 0) (S1 := 0) (K := 0) (S := 0) (dd2 := 0) (av := [x_i v1]) (st := []) (id := 16 * 32 + 0) dX12_months_118 xmX12_108 rfl (Or.inl ⟨10, 27, TX12, (sa_32_0 hs), rfl, by decide⟩) (f_cal (M := M) (us2 := [32]) [0] hn rfl (And.intro rfl trivial) rfl rfl rfl (c_X12_wrong hst hs   hq28)) (by decide) (Nat.le_of_ble_eq_true rfl) (Or.inl rfl) ?_
          show Ev g _ _ _ _ _ _ 121 [some (x_r (16 * 32 + 0)), some (x_i v1), some (x_i v7), some (x_i v8), some (x_i v9), none] [] (al, ro, fl (ml M [32] [S28])) _ _ _ _
          refine e_goto (pc := 121) (tgt := 130) dX12_months_121 (by decide) ?_
          cases hr24
          exact hjhr24
    clear hG
    refine e_whl (G12_months_L22 S2) (fun z : (Int × Int × Int) => Ev g yX12_months cX12_months 6 (some .int) [] 3 22 [some (x_r (16 * 32 + 0)), some (x_i v1), some (x_i z.1), some (x_i z.2.1), some (x_i z.2.2), none] [] (al, ro, fl (ml M [32] [S2])) 0 0 (.inl (some (x_i t.1))) (al, ro, fl (ml M [32] [t.2]))) (fun q => q = (v7, v8, v9)) ?_ xFU (0, 1, v1) _ hl10 rfl
    intro z t10 hf10 hi10 hx10
    obtain ⟨v4, v5, v6⟩ := z
    rw [G12_months_L22] at hf10
    show Ev g _ _ _ _ _ _ 22 [some (x_r (16 * 32 + 0)), some (x_i v1), some (x_i v4), some (x_i v5), some (x_i v6), none] [] (al, ro, fl (ml M [32] [S2])) _ _ _ _
    refine e_iload (pc := 22) dX12_months_22 rfl ?_
    refine e_aloadn (pc := 24) (i := 0) dX12_months_24 rfl rfl ?_
    refine f_geti (pc := 25) (k := 0) (u := 32) (q := 0) dX12_months_25 xf12_85 (sa_32_0 hs) rfl hn rfl rfl (by decide) ?_
    show Ev g _ _ _ _ _ _ 28 [some (x_r (16 * 32 + 0)), some (x_i v1), some (x_i v4), some (x_i v5), some (x_i v6), none] [x_i (S2 0 10), x_i v6] (al, ro, fl (ml M [32] [S2])) _ _ _ _
    refine e_icmp_ge (pc := 28) (tgt := 108) dX12_months_28 (by decide) (fun hb => ?_) (fun hb => ?_)
    · rw [if_pos hb] at hf10
      cases hf10
      exact hk10 _ (hx10 _ rfl)
    · rw [if_neg hb] at hf10
      refine e_aloadn (pc := 31) (i := 0) dX12_months_31 rfl rfl ?_
      refine e_iload (pc := 32) dX12_months_32 rfl ?_
      obtain ⟨v12, hq12, hf10⟩ := x_bd1 hf10
      refine e_invV (pc := 34) (K1 := 0) (S1 := 0) (K := 0) (S := 0) (dd2 := 0) (av := [x_i v6]) (st := []) (id := 16 * 32 + 0) dX12_months_34 xmX12_88 rfl (Or.inl ⟨10, 27, TX12, (sa_32_0 hs), rfl, by decide⟩) (f_cal (M := M) (us2 := [32]) [0] hn rfl (And.intro rfl trivial) rfl rfl rfl (c_X12_letter hst hs   hq12)) (by decide) (Nat.le_of_ble_eq_true rfl) (Or.inl rfl) ?_
      show Ev g _ _ _ _ _ _ 37 [some (x_r (16 * 32 + 0)), some (x_i v1), some (x_i v4), some (x_i v5), some (x_i v6), none] [x_i v12] (al, ro, fl (ml M [32] [S2])) _ _ _ _
      refine e_bipush (pc := 37) dX12_months_37 (by decide +kernel) (x_R rfl) ?_
      refine e_bipush (pc := 39) dX12_months_39 (by decide +kernel) (x_R rfl) ?_
      obtain ⟨v14, hq14, hf10⟩ := x_bd1 hf10
      refine e_invS (pc := 41) (K1 := 0) (S1 := 0) (K := 0) (S := 0) (dd2 := 0) (av := [x_i v12, x_i 97, x_i 122]) (st := []) dX12_months_41 xmX12_61 rfl (f_cal (M := M) (us2 := []) [] hn rfl trivial rfl rfl rfl (c_X12_isIn hst hs   hq14)) (by decide) (Nat.le_of_ble_eq_true rfl) (Or.inl rfl) ?_
      show Ev g _ _ _ _ _ _ 44 [some (x_r (16 * 32 + 0)), some (x_i v1), some (x_i v4), some (x_i v5), some (x_i v6), none] [x_i v14] (al, ro, fl (ml M [32] [S2])) _ _ _ _
      refine e_if_eq (pc := 44) (tgt := 108) dX12_months_44 (by decide) (fun hb => ?_) (fun hb => ?_)
      · rw [if_pos hb] at hf10
        cases hf10
        exact hk10 _ (hx10 _ rfl)
      · rw [if_neg hb] at hf10
        refine e_aloadn (pc := 47) (i := 0) dX12_months_47 rfl rfl ?_
        refine e_iload (pc := 48) dX12_months_48 rfl ?_
        obtain ⟨v16, hq16, hf10⟩ := x_bd1 hf10
        refine e_invV (pc := 50) (K1 := 0) (S1 := 0) (K := 0) (S := 0) (dd2 := 0) (av := [x_i v6]) (st := []) (id := 16 * 32 + 0) dX12_months_50 xmX12_88 rfl (Or.inl ⟨10, 27, TX12, (sa_32_0 hs), rfl, by decide⟩) (f_cal (M := M) (us2 := [32]) [0] hn rfl (And.intro rfl trivial) rfl rfl rfl (c_X12_letter hst hs   hq16)) (by decide) (Nat.le_of_ble_eq_true rfl) (Or.inl rfl) ?_
        show Ev g _ _ _ _ _ _ 53 [some (x_r (16 * 32 + 0)), some (x_i v1), some (x_i v4), some (x_i v5), some (x_i v6), none] [x_i v16] (al, ro, fl (ml M [32] [S2])) _ _ _ _
        refine e_bipush (pc := 53) dX12_months_53 (by decide +kernel) (x_R rfl) ?_
        refine e_isub (pc := 55) dX12_months_55 ?_
        refine e_istore (pc := 56) (i := 5) dX12_months_56 (by decide) rfl ?_
        show Ev g _ _ _ _ _ _ 58 [some (x_r (16 * 32 + 0)), some (x_i v1), some (x_i v4), some (x_i v5), some (x_i v6), some (x_i (x_sub v16 97))] [] (al, ro, fl (ml M [32] [S2])) _ _ _ _
        refine e_iloadn (pc := 58) (i := 3) dX12_months_58 rfl rfl ?_
        obtain ⟨v18, hr18, hf10⟩ := x_bd1 hf10
        have hjhr18 : Ev g yX12_months cX12_months 6 (some .int) [] 3 83 [some (x_r (16 * 32 + 0)), some (x_i v1), some (x_i v4), some (x_i v5), some (x_i v6), some (x_i (x_sub v16 97))] [x_i v18] (al, ro, fl (ml M [32] [S2])) 0 0 (.inl (some (x_i t.1))) (al, ro, fl (ml M [32] [t.2])) := by
          refine e_istoren (pc := 83) (i := 3) dX12_months_83 rfl (by decide) rfl ?_
          show Ev g _ _ _ _ _ _ 84 [some (x_r (16 * 32 + 0)), some (x_i v1), some (x_i v4), some (x_i v18), some (x_i v6), some (x_i (x_sub v16 97))] [] (al, ro, fl (ml M [32] [S2])) _ _ _ _
          refine e_iloadn (pc := 84) (i := 2) dX12_months_84 rfl rfl ?_
          refine e_iload (pc := 85) dX12_months_85 rfl ?_
          refine e_bipush (pc := 87) dX12_months_87 (by decide +kernel) (x_R rfl) ?_
          obtain ⟨v22, hr22, hf10⟩ := x_bd1 hf10
          have hjhr22 : Ev g yX12_months cX12_months 6 (some .int) [] 3 100 [some (x_r (16 * 32 + 0)), some (x_i v1), some (x_i v4), some (x_i v18), some (x_i v6), some (x_i (x_sub v16 97))] [x_i v22, x_i v4] (al, ro, fl (ml M [32] [S2])) 0 0 (.inl (some (x_i t.1))) (al, ro, fl (ml M [32] [t.2])) := by
            refine e_ior (pc := 100) dX12_months_100 ?_
            refine e_istoren (pc := 101) (i := 2) dX12_months_101 rfl (by decide) rfl ?_
            show Ev g _ _ _ _ _ _ 102 [some (x_r (16 * 32 + 0)), some (x_i v1), some (x_i (x_or v4 v22)), some (x_i v18), some (x_i v6), some (x_i (x_sub v16 97))] [] (al, ro, fl (ml M [32] [S2])) _ _ _ _
            refine e_iinc (pc := 102) dX12_months_102 rfl (by decide) rfl ?_
            show Ev g _ _ _ _ _ _ 105 [some (x_r (16 * 32 + 0)), some (x_i v1), some (x_i (x_or v4 v22)), some (x_i v18), some (x_i (x_add v6 1)), some (x_i (x_sub v16 97))] [] (al, ro, fl (ml M [32] [S2])) _ _ _ _
            refine e_goto (pc := 105) (tgt := 22) dX12_months_105 (by decide) ?_
            cases hf10
            refine e_drop (i := 5) ?_
            exact hi10 _ rfl
          clear hf10
          refine e_icmp_ge (pc := 89) (tgt := 99) dX12_months_89 (by decide) (fun hb => ?_) (fun hb => ?_)
          · rw [if_pos hb] at hr22
            refine e_iconst (pc := 99) dX12_months_99 (x_R rfl) ?_
            cases hr22
            exact hjhr22
          · rw [if_neg hb] at hr22
            refine e_iconst (pc := 92) dX12_months_92 (x_R rfl) ?_
            refine e_iload (pc := 93) dX12_months_93 rfl ?_
            refine e_ishl (pc := 95) dX12_months_95 ?_
            refine e_goto (pc := 96) (tgt := 100) dX12_months_96 (by decide) ?_
            cases hr22
            exact hjhr22
        clear hf10
        refine e_if_eq (pc := 59) (tgt := 82) dX12_months_59 (by decide) (fun hb => ?_) (fun hb => ?_)
        · rw [if_pos hb] at hr18
          refine e_iconst (pc := 82) dX12_months_82 (x_R rfl) ?_
          cases hr18
          exact hjhr18
        · rw [if_neg hb] at hr18
          refine e_iload (pc := 62) dX12_months_62 rfl ?_
          refine e_bipush (pc := 64) dX12_months_64 (by decide +kernel) (x_R rfl) ?_
          refine e_icmp_ge (pc := 66) (tgt := 82) dX12_months_66 (by decide) (fun hb => ?_) (fun hb => ?_)
          · rw [if_pos hb] at hr18
            refine e_iconst (pc := 82) dX12_months_82 (x_R rfl) ?_
            cases hr18
            exact hjhr18
          · rw [if_neg hb] at hr18
            refine e_iloadn (pc := 69) (i := 2) dX12_months_69 rfl rfl ?_
            refine e_iload (pc := 70) dX12_months_70 rfl ?_
            obtain ⟨v20, hq20, hr18⟩ := x_bd1 hr18
            refine e_invS (pc := 72) (K1 := 0) (S1 := 0) (K := 0) (S := 0) (dd2 := 0) (av := [x_i v4, x_i (x_sub v16 97)]) (st := []) dX12_months_72 xmX12_119 rfl (f_cal (M := M) (us2 := []) [] hn rfl trivial rfl rfl rfl (c_X12_isOf hst hs   hq20)) (by decide) (Nat.le_of_ble_eq_true rfl) (Or.inl rfl) ?_
            show Ev g _ _ _ _ _ _ 75 [some (x_r (16 * 32 + 0)), some (x_i v1), some (x_i v4), some (x_i v5), some (x_i v6), some (x_i (x_sub v16 97))] [x_i v20] (al, ro, fl (ml M [32] [S2])) _ _ _ _
            refine e_if_ne (pc := 75) (tgt := 82) dX12_months_75 (by decide) (fun hb => ?_) (fun hb => ?_)
            · rw [if_neg hb] at hr18
              refine e_iconst (pc := 82) dX12_months_82 (x_R rfl) ?_
              cases hr18
              exact hjhr18
            · rw [if_pos hb] at hr18
              refine e_iconst (pc := 78) dX12_months_78 (x_R rfl) ?_
              refine e_goto (pc := 79) (tgt := 83) dX12_months_79 (by decide) ?_
              cases hr18
              exact hjhr18
  · rw [if_neg hb] at hG
    refine e_iconst (pc := 8) dX12_months_8 (x_R rfl) ?_
    cases hG
    exact (e_ireturn rfl dX12_months_9 rfl)
