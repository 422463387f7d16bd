def G12_thrown (S : xU) : Option Int :=
  (some (S 0 0))
set_option maxRecDepth 100000 in
set_option maxHeartbeats 4000000 in
theorem c_X12_thrown {g : xG} {al : List (Nat × Nat × Nat)} {ro : Nat → Nat → Option Nat} (hst : g.1.stackTraces = false) (hs : SH al ro) {M : Nat → xU} {S : xU} {t : Int} (hG : G12_thrown S = some t) :
    Cal g yX12_thrown cX12_thrown 1 (some .int) 0 [x_r (16 * 32 + 0)] (al, ro, fl (ml M [32] [S])) 0 0 (.inl (some (x_i t))) (al, ro, fl (ml M [32] [S])) := by
  have hn : ([32] : List Nat).Nodup := by decide
  refine cal_of_ev (by decide) (x_c1 rfl) (Nat.le_of_ble_eq_true rfl) hst ?_
  show Ev g _ _ _ _ _ _ 0 [some (x_r (16 * 32 + 0))] [] (al, ro, fl (ml M [32] [S])) _ _ _ _
  rw [G12_thrown] at hG
  refine e_aloadn (pc := 0) (i := 0) dX12_thrown_0 rfl rfl ?_
  refine f_geti (pc := 1) (k := 0) (u := 32) (q := 0) dX12_thrown_1 xf12_58 (sa_32_0 hs) rfl hn rfl rfl (by decide) ?_
  show Ev g _ _ _ _ _ _ 4 [some (x_r (16 * 32 + 0))] [x_i (S 0 0)] (al, ro, fl (ml M [32] [S])) _ _ _ _
  cases hG
  exact (e_ireturn rfl dX12_thrown_4 rfl)
def G12_isIn (a : Int) (b : Int) (c : Int) : Option Int :=
  (x_b1 (if a < b then (some 0) else (if c < a then (some 0) else (some 1))) fun (v1 : Int) => (x_gd (v1 = 0 ∨ v1 = 1) (some v1)))
set_option maxRecDepth 100000 in
set_option maxHeartbeats 4000000 in
theorem c_X12_isIn {g : xG} {al : List (Nat × Nat × Nat)} {ro : Nat → Nat → Option Nat} (hst : g.1.stackTraces = false) (hs : SH al ro) {M : Nat → xU} {a : Int} {b : Int} {c : Int} {t : Int} (hG : G12_isIn a b c = some t) :
    Cal g yX12_isIn cX12_isIn 3 (some .boolean) 0 [x_i a, x_i b, x_i c] (al, ro, fl (ml M [] [])) 0 0 (.inl (some (x_i t))) (al, ro, fl (ml M [] [])) := by
  have hn : ([] : List Nat).Nodup := by decide
  refine cal_of_ev (by decide) (x_c1 rfl) (Nat.le_of_ble_eq_true rfl) hst ?_
  show Ev g _ _ _ _ _ _ 0 [some (x_i a), some (x_i b), some (x_i c)] [] (al, ro, fl (ml M [] [])) _ _ _ _
  rw [G12_isIn] at hG
  refine e_iloadn (pc := 0) (i := 0) dX12_isIn_0 rfl rfl ?_
  refine e_iloadn (pc := 1) (i := 1) dX12_isIn_1 rfl rfl ?_
  obtain ⟨v1, hr1, hG⟩ := x_bd1 hG
  have hjhr1 : Ev g yX12_isIn cX12_isIn 3 (some .boolean) [] 0 15 [some (x_i a), some (x_i b), some (x_i c)] [x_i v1] (al, ro, fl (ml M [] [])) 0 0 (.inl (some (x_i t))) (al, ro, fl (ml M [] [])) := by
    obtain ⟨hc0, hG⟩ := x_gd_some hG
    cases hG
    exact (e_ireturn rfl dX12_isIn_15 (x_bool hc0).1)
  clear hG
  refine e_icmp_lt (pc := 2) (tgt := 14) dX12_isIn_2 (by decide) (fun hb => ?_) (fun hb => ?_)
  · rw [if_pos hb] at hr1
    refine e_iconst (pc := 14) dX12_isIn_14 (x_R rfl) ?_
    cases hr1
    exact hjhr1
  · rw [if_neg hb] at hr1
    refine e_iloadn (pc := 5) (i := 0) dX12_isIn_5 rfl rfl ?_
    refine e_iloadn (pc := 6) (i := 2) dX12_isIn_6 rfl rfl ?_
    refine e_icmp_gt (pc := 7) (tgt := 14) dX12_isIn_7 (by decide) (fun hb => ?_) (fun hb => ?_)
    · rw [if_pos hb] at hr1
      refine e_iconst (pc := 14) dX12_isIn_14 (x_R rfl) ?_
      cases hr1
      exact hjhr1
    · rw [if_neg hb] at hr1
      refine e_iconst (pc := 10) dX12_isIn_10 (x_R rfl) ?_
      refine e_goto (pc := 11) (tgt := 15) dX12_isIn_11 (by decide) ?_
      cases hr1
      exact hjhr1
def G12_lesser (a : Int) (b : Int) : Option Int :=
  (x_b1 (if b ≤ a then (some b) else (some a)) fun (v1 : Int) => (some v1))
set_option maxRecDepth 100000 in
set_option maxHeartbeats 4000000 in
theorem c_X12_lesser {g : xG} {al : List (Nat × Nat × Nat)} {ro : Nat → Nat → Option Nat} (hst : g.1.stackTraces = false) (hs : SH al ro) {M : Nat → xU} {a : Int} {b : Int} {t : Int} (hG : G12_lesser a b = some t) :
    Cal g yX12_lesser cX12_lesser 2 (some .int) 0 [x_i a, x_i b] (al, ro, fl (ml M [] [])) 0 0 (.inl (some (x_i t))) (al, ro, fl (ml M [] [])) := by
  have hn : ([] : List Nat).Nodup := by decide
  refine cal_of_ev (by decide) (x_c1 rfl) (Nat.le_of_ble_eq_true rfl) hst ?_
  show Ev g _ _ _ _ _ _ 0 [some (x_i a), some (x_i b)] [] (al, ro, fl (ml M [] [])) _ _ _ _
  rw [G12_lesser] at hG
  refine e_iloadn (pc := 0) (i := 0) dX12_lesser_0 rfl rfl ?_
  refine e_iloadn (pc := 1) (i := 1) dX12_lesser_1 rfl rfl ?_
  obtain ⟨v1, hr1, hG⟩ := x_bd1 hG
  have hjhr1 : Ev g yX12_lesser cX12_lesser 2 (some .int) [] 0 10 [some (x_i a), some (x_i b)] [x_i v1] (al, ro, fl (ml M [] [])) 0 0 (.inl (some (x_i t))) (al, ro, fl (ml M [] [])) := by
    cases hG
    exact (e_ireturn rfl dX12_lesser_10 rfl)
  clear hG
  refine e_icmp_ge (pc := 2) (tgt := 9) dX12_lesser_2 (by decide) (fun hb => ?_) (fun hb => ?_)
  · rw [if_pos hb] at hr1
    refine e_iloadn (pc := 9) (i := 1) dX12_lesser_9 rfl rfl ?_
    cases hr1
    exact hjhr1
  · rw [if_neg hb] at hr1
    refine e_iloadn (pc := 5) (i := 0) dX12_lesser_5 rfl rfl ?_
    refine e_goto (pc := 6) (tgt := 10) dX12_lesser_6 (by decide) ?_
    cases hr1
    exact hjhr1
def G12_greater (a : Int) (b : Int) : Option Int :=
  (x_b1 (if a ≤ b then (some b) else (some a)) fun (v1 : Int) => (some v1))
set_option maxRecDepth 100000 in
set_option maxHeartbeats 4000000 in
theorem c_X12_greater {g : xG} {al : List (Nat × Nat × Nat)} {ro : Nat → Nat → Option Nat} (hst : g.1.stackTraces = false) (hs : SH al ro) {M : Nat → xU} {a : Int} {b : Int} {t : Int} (hG : G12_greater a b = some t) :
    Cal g yX12_greater cX12_greater 2 (some .int) 0 [x_i a, x_i b] (al, ro, fl (ml M [] [])) 0 0 (.inl (some (x_i t))) (al, ro, fl (ml M [] [])) := by
  have hn : ([] : List Nat).Nodup := by decide
  refine cal_of_ev (by decide) (x_c1 rfl) (Nat.le_of_ble_eq_true rfl) hst ?_
  show Ev g _ _ _ _ _ _ 0 [some (x_i a), some (x_i b)] [] (al, ro, fl (ml M [] [])) _ _ _ _
  rw [G12_greater] at hG
  refine e_iloadn (pc := 0) (i := 0) dX12_greater_0 rfl rfl ?_
  refine e_iloadn (pc := 1) (i := 1) dX12_greater_1 rfl rfl ?_
  obtain ⟨v1, hr1, hG⟩ := x_bd1 hG
  have hjhr1 : Ev g yX12_greater cX12_greater 2 (some .int) [] 0 10 [some (x_i a), some (x_i b)] [x_i v1] (al, ro, fl (ml M [] [])) 0 0 (.inl (some (x_i t))) (al, ro, fl (ml M [] [])) := by
    cases hG
    exact (e_ireturn rfl dX12_greater_10 rfl)
  clear hG
  refine e_icmp_le (pc := 2) (tgt := 9) dX12_greater_2 (by decide) (fun hb => ?_) (fun hb => ?_)
  · rw [if_pos hb] at hr1
    refine e_iloadn (pc := 9) (i := 1) dX12_greater_9 rfl rfl ?_
    cases hr1
    exact hjhr1
  · rw [if_neg hb] at hr1
    refine e_iloadn (pc := 5) (i := 0) dX12_greater_5 rfl rfl ?_
    refine e_goto (pc := 6) (tgt := 10) dX12_greater_6 (by decide) ?_
    cases hr1
    exact hjhr1
def G12_isOf (a : Int) (b : Int) : Option Int :=
  (x_b1 (if (x_and (x_shr a b) 1) = 1 then (some 1) else (some 0)) fun (v1 : Int) => (x_gd (v1 = 0 ∨ v1 = 1) (some v1)))
set_option maxRecDepth 100000 in
set_option maxHeartbeats 4000000 in
theorem c_X12_isOf {g : xG} {al : List (Nat × Nat × Nat)} {ro : Nat → Nat → Option Nat} (hst : g.1.stackTraces = false) (hs : SH al ro) {M : Nat → xU} {a : Int} {b : Int} {t : Int} (hG : G12_isOf a b = some t) :
    Cal g yX12_isOf cX12_isOf 2 (some .boolean) 0 [x_i a, x_i b] (al, ro, fl (ml M [] [])) 0 0 (.inl (some (x_i t))) (al, ro, fl (ml M [] [])) := by
  have hn : ([] : List Nat).Nodup := by decide
  refine cal_of_ev (by decide) (x_c1 rfl) (Nat.le_of_ble_eq_true rfl) hst ?_
  show Ev g _ _ _ _ _ _ 0 [some (x_i a), some (x_i b)] [] (al, ro, fl (ml M [] [])) _ _ _ _
  rw [G12_isOf] at hG
  refine e_iloadn (pc := 0) (i := 0) dX12_isOf_0 rfl rfl ?_
  refine e_iloadn (pc := 1) (i := 1) dX12_isOf_1 rfl rfl ?_
  refine e_ishr (pc := 2) dX12_isOf_2 ?_
  refine e_iconst (pc := 3) dX12_isOf_3 (x_R rfl) ?_
  refine e_iand (pc := 4) dX12_isOf_4 ?_
  refine e_iconst (pc := 5) dX12_isOf_5 (x_R rfl) ?_
  obtain ⟨v1, hr1, hG⟩ := x_bd1 hG
  have hjhr1 : Ev g yX12_isOf cX12_isOf 2 (some .boolean) [] 0 14 [some (x_i a), some (x_i b)] [x_i v1] (al, ro, fl (ml M [] [])) 0 0 (.inl (some (x_i t))) (al, ro, fl (ml M [] [])) := by
    obtain ⟨hc0, hG⟩ := x_gd_some hG
    cases hG
    exact (e_ireturn rfl dX12_isOf_14 (x_bool hc0).1)
  clear hG
  refine e_icmp_ne (pc := 6) (tgt := 13) dX12_isOf_6 (by decide) (fun hb => ?_) (fun hb => ?_)
  · rw [if_neg hb] at hr1
    refine e_iconst (pc := 13) dX12_isOf_13 (x_R rfl) ?_
    cases hr1
    exact hjhr1
  · rw [if_pos hb] at hr1
    refine e_iconst (pc := 9) dX12_isOf_9 (x_R rfl) ?_
    refine e_goto (pc := 10) (tgt := 14) dX12_isOf_10 (by decide) ?_
    cases hr1
    exact hjhr1
def G12_bits_L4 (a : Int) : (Int × Int) → Option ((Int × Int) ⊕ Int)
  | (v1, v2) => (if 31 ≤ v2 then (some (.inr v1)) else (some (.inl ((x_add v1 (x_and (x_shr a v2) 1)), (x_add v2 1)))))
def G12_bits (a : Int) : Option Int :=
  (x_b1 (whl xFU (G12_bits_L4 a) (0, 0)) fun (v3 : Int) => (some v3))
set_option maxRecDepth 100000 in
set_option maxHeartbeats 4000000 in
theorem c_X12_bits {g : xG} {al : List (Nat × Nat × Nat)} {ro : Nat → Nat → Option Nat} (hst : g.1.stackTraces = false) (hs : SH al ro) {M : Nat → xU} {a : Int} {t : Int} (hG : G12_bits a = some t) :
    Cal g yX12_bits cX12_bits 3 (some .int) 0 [x_i a] (al, ro, fl (ml M [] [])) 0 0 (.inl (some (x_i t))) (al, ro, fl (ml M [] [])) := by
  have hn : ([] : List Nat).Nodup := by decide
  refine cal_of_ev (by decide) (x_c1 rfl) (Nat.le_of_ble_eq_true rfl) hst ?_
  show Ev g _ _ _ _ _ _ 0 [some (x_i a), none, none] [] (al, ro, fl (ml M [] [])) _ _ _ _
  rw [G12_bits] at hG
  refine e_iconst (pc := 0) dX12_bits_0 (x_R rfl) ?_
  refine e_istoren (pc := 1) (i := 1) dX12_bits_1 rfl (by decide) rfl ?_
  show Ev g _ _ _ _ _ _ 2 [some (x_i a), some (x_i 0), none] [] (al, ro, fl (ml M [] [])) _ _ _ _
  refine e_iconst (pc := 2) dX12_bits_2 (x_R rfl) ?_
  refine e_istoren (pc := 3) (i := 2) dX12_bits_3 rfl (by decide) rfl ?_
  show Ev g _ _ _ _ _ _ 4 [some (x_i a), some (x_i 0), some (x_i 0)] [] (al, ro, fl (ml M [] [])) _ _ _ _
  obtain ⟨v3, hl4, hG⟩ := x_bd1 hG
  have hk4 : ∀ q : Int, q = v3 → Ev g yX12_bits cX12_bits 3 (some .int) [] 0 24 [some (x_i a), some (x_i q), none] [] (al, ro, fl (ml M [] [])) 0 0 (.inl (some (x_i t))) (al, ro, fl (ml M [] [])) := by
    intro q hq
    replace hq := hq.symm
    subst hq
    refine e_iloadn (pc := 24) (i := 1) dX12_bits_24 rfl rfl ?_
    cases hG
    exact (e_ireturn rfl dX12_bits_25 rfl)
  clear hG
  refine e_whl (G12_bits_L4 a) (fun z : (Int × Int) => Ev g yX12_bits cX12_bits 3 (some .int) [] 0 4 [some (x_i a), some (x_i z.1), some (x_i z.2)] [] (al, ro, fl (ml M [] [])) 0 0 (.inl (some (x_i t))) (al, ro, fl (ml M [] []))) (fun q => q = v3) ?_ xFU (0, 0) _ hl4 rfl
  intro z t4 hf4 hi4 hx4
  obtain ⟨v1, v2⟩ := z
  rw [G12_bits_L4] at hf4
  show Ev g _ _ _ _ _ _ 4 [some (x_i a), some (x_i v1), some (x_i v2)] [] (al, ro, fl (ml M [] [])) _ _ _ _
  refine e_iloadn (pc := 4) (i := 2) dX12_bits_4 rfl rfl ?_
  refine e_bipush (pc := 5) dX12_bits_5 (by decide +kernel) (x_R rfl) ?_
  refine e_icmp_ge (pc := 7) (tgt := 24) dX12_bits_7 (by decide) (fun hb => ?_) (fun hb => ?_)
  · rw [if_pos hb] at hf4
    cases hf4
    refine e_drop (i := 2) ?_
    exact hk4 _ (hx4 _ rfl)
  · rw [if_neg hb] at hf4
    refine e_iloadn (pc := 10) (i := 1) dX12_bits_10 rfl rfl ?_
    refine e_iloadn (pc := 11) (i := 0) dX12_bits_11 rfl rfl ?_
    refine e_iloadn (pc := 12) (i := 2) dX12_bits_12 rfl rfl ?_
    refine e_ishr (pc := 13) dX12_bits_13 ?_
    refine e_iconst (pc := 14) dX12_bits_14 (x_R rfl) ?_
    refine e_iand (pc := 15) dX12_bits_15 ?_
    refine e_iadd (pc := 16) dX12_bits_16 ?_
    refine e_istoren (pc := 17) (i := 1) dX12_bits_17 rfl (by decide) rfl ?_
    show Ev g _ _ _ _ _ _ 18 [some (x_i a), some (x_i (x_add v1 (x_and (x_shr a v2) 1))), some (x_i v2)] [] (al, ro, fl (ml M [] [])) _ _ _ _
    refine e_iinc (pc := 18) dX12_bits_18 rfl (by decide) rfl ?_
    show Ev g _ _ _ _ _ _ 21 [some (x_i a), some (x_i (x_add v1 (x_and (x_shr a v2) 1))), some (x_i (x_add v2 1))] [] (al, ro, fl (ml M [] [])) _ _ _ _
    refine e_goto (pc := 21) (tgt := 4) dX12_bits_21 (by decide) ?_
    cases hf4
    exact hi4 _ rfl
def G12_of (a : Int) (b : Int) (S : xU) : Option Int :=
  (x_gd ((0 : Int) ≤ (x_add (x_add 16 (x_mul 8 a)) b) ∧ (x_add (x_add 16 (x_mul 8 a)) b) < 772) (some (S 1 ((x_add (x_add 16 (x_mul 8 a)) b)).toNat)))
set_option maxRecDepth 100000 in
set_option maxHeartbeats 4000000 in
theorem c_X12_of {g : xG} {al : List (Nat × Nat × Nat)} {ro : Nat → Nat → Option Nat} (hst : g.1.stackTraces = false) (hs : SH al ro) {M : Nat → xU} {a : Int} {b : Int} {S : xU} {t : Int} (hG : G12_of a b S = some t) :
    Cal g yX12_of cX12_of 3 (some .int) 0 [x_r (16 * 32 + 0), x_i a, x_i b] (al, ro, fl (ml M [32] [S])) 0 0 (.inl (some (x_i t))) (al, ro, fl (ml M [32] [S])) := by
  have hn : ([32] : List Nat).Nodup := by decide
  refine cal_of_ev (by decide) (x_c1 rfl) (Nat.le_of_ble_eq_true rfl) hst ?_
  show Ev g _ _ _ _ _ _ 0 [some (x_r (16 * 32 + 0)), some (x_i a), some (x_i b)] [] (al, ro, fl (ml M [32] [S])) _ _ _ _
  rw [G12_of] at hG
  refine e_aloadn (pc := 0) (i := 0) dX12_of_0 rfl rfl ?_
  refine f_getr (pc := 1) (u := 32) (q := 0) dX12_of_1 xf12_7 (sa_32_0 hs) rfl (sr_32_0_1 hs) ?_
  refine e_bipush (pc := 4) dX12_of_4 (by decide +kernel) (x_R rfl) ?_
  refine e_bipush (pc := 6) dX12_of_6 (by decide +kernel) (x_R rfl) ?_
  refine e_iloadn (pc := 8) (i := 1) dX12_of_8 rfl rfl ?_
  refine e_imul (pc := 9) dX12_of_9 ?_
  refine e_iadd (pc := 10) dX12_of_10 ?_
  refine e_iloadn (pc := 11) (i := 2) dX12_of_11 rfl rfl ?_
  refine e_iadd (pc := 12) dX12_of_12 ?_
  obtain ⟨hc0, hG⟩ := x_gd_some hG
  refine f_iald (pc := 13) (k := 0) (u := 32) (q := 1) (len := 772) dX12_of_13 (sa_32_1 hs) hc0 hn rfl rfl (by decide) ?_
  show Ev g _ _ _ _ _ _ 14 [some (x_r (16 * 32 + 0)), some (x_i a), some (x_i b)] [x_i (S 1 ((x_add (x_add 16 (x_mul 8 a)) b)).toNat)] (al, ro, fl (ml M [32] [S])) _ _ _ _
  cases hG
  exact (e_ireturn rfl dX12_of_14 rfl)
def G12_lays (a : Int) (b : Int) (c : Int) (S : xU) : Option xU :=
  (x_gd ((0 : Int) ≤ (x_add (x_add 16 (x_mul 8 a)) b) ∧ (x_add (x_add 16 (x_mul 8 a)) b) < 772) (some (x_up S 1 ((x_add (x_add 16 (x_mul 8 a)) b)).toNat c)))
set_option maxRecDepth 100000 in
set_option maxHeartbeats 4000000 in
theorem c_X12_lays {g : xG} {al : List (Nat × Nat × Nat)} {ro : Nat → Nat → Option Nat} (hst : g.1.stackTraces = false) (hs : SH al ro) {M : Nat → xU} {a : Int} {b : Int} {c : Int} {S : xU} {t : xU} (hG : G12_lays a b c S = some t) :
    Cal g yX12_lays cX12_lays 4 none 0 [x_r (16 * 32 + 0), x_i a, x_i b, x_i c] (al, ro, fl (ml M [32] [S])) 0 0 (.inl none) (al, ro, fl (ml M [32] [t])) := by
  have hn : ([32] : List Nat).Nodup := by decide
  refine cal_of_ev (by decide) (x_c1 rfl) (Nat.le_of_ble_eq_true rfl) hst ?_
  show Ev g _ _ _ _ _ _ 0 [some (x_r (16 * 32 + 0)), some (x_i a), some (x_i b), some (x_i c)] [] (al, ro, fl (ml M [32] [S])) _ _ _ _
  rw [G12_lays] at hG
  refine e_aloadn (pc := 0) (i := 0) dX12_lays_0 rfl rfl ?_
  refine f_getr (pc := 1) (u := 32) (q := 0) dX12_lays_1 xf12_7 (sa_32_0 hs) rfl (sr_32_0_1 hs) ?_
  refine e_bipush (pc := 4) dX12_lays_4 (by decide +kernel) (x_R rfl) ?_
  refine e_bipush (pc := 6) dX12_lays_6 (by decide +kernel) (x_R rfl) ?_
  refine e_iloadn (pc := 8) (i := 1) dX12_lays_8 rfl rfl ?_
  refine e_imul (pc := 9) dX12_lays_9 ?_
  refine e_iadd (pc := 10) dX12_lays_10 ?_
  refine e_iloadn (pc := 11) (i := 2) dX12_lays_11 rfl rfl ?_
  refine e_iadd (pc := 12) dX12_lays_12 ?_
  refine e_iloadn (pc := 13) (i := 3) dX12_lays_13 rfl rfl ?_
  obtain ⟨hc0, hG⟩ := x_gd_some hG
  refine f_iast (pc := 14) (k := 0) (u := 32) (q := 1) (len := 772) dX12_lays_14 (sa_32_1 hs) hc0 hn rfl rfl rfl (by decide) ?_
  show Ev g _ _ _ _ _ _ 15 [some (x_r (16 * 32 + 0)), some (x_i a), some (x_i b), some (x_i c)] [] (al, ro, fl (ml M [32] [(x_up S 1 ((x_add (x_add 16 (x_mul 8 a)) b)).toNat c)])) _ _ _ _
  cases hG
  exact (e_return rfl dX12_lays_15)
def G12_isMonk (a : Int) (S : xU) : Option Int :=
  (x_b1 (G12_isIn a 0 (x_sub (S 1 3) 1)) fun (v1 : Int) => (x_gd (v1 = 0 ∨ v1 = 1) (some v1)))
set_option maxRecDepth 100000 in
set_option maxHeartbeats 4000000 in
theorem c_X12_isMonk {g : xG} {al : List (Nat × Nat × Nat)} {ro : Nat → Nat → Option Nat} (hst : g.1.stackTraces = false) (hs : SH al ro) {M : Nat → xU} {a : Int} {S : xU} {t : Int} (hG : G12_isMonk a S = some t) :
    Cal g yX12_isMonk cX12_isMonk 2 (some .boolean) 1 [x_r (16 * 32 + 0), x_i a] (al, ro, fl (ml M [32] [S])) 0 0 (.inl (some (x_i t))) (al, ro, fl (ml M [32] [S])) := by
  have hn : ([32] : List Nat).Nodup := by decide
  refine cal_of_ev (by decide) (x_c1 rfl) (Nat.le_of_ble_eq_true rfl) hst ?_
  show Ev g _ _ _ _ _ _ 0 [some (x_r (16 * 32 + 0)), some (x_i a)] [] (al, ro, fl (ml M [32] [S])) _ _ _ _
  rw [G12_isMonk] at hG
  refine e_iloadn (pc := 0) (i := 1) dX12_isMonk_0 rfl rfl ?_
  refine e_iconst (pc := 1) dX12_isMonk_1 (x_R rfl) ?_
  refine e_aloadn (pc := 2) (i := 0) dX12_isMonk_2 rfl rfl ?_
  refine f_getr (pc := 3) (u := 32) (q := 0) dX12_isMonk_3 xf12_7 (sa_32_0 hs) rfl (sr_32_0_1 hs) ?_
  refine e_iconst (pc := 6) dX12_isMonk_6 (x_R rfl) ?_
  refine f_iald (pc := 7) (k := 0) (u := 32) (q := 1) (len := 772) dX12_isMonk_7 (sa_32_1 hs) (by decide) hn rfl rfl (by decide) ?_
  show Ev g _ _ _ _ _ _ 8 [some (x_r (16 * 32 + 0)), some (x_i a)] [x_i (S 1 3), x_i 0, x_i a] (al, ro, fl (ml M [32] [S])) _ _ _ _
  refine e_iconst (pc := 8) dX12_isMonk_8 (x_R rfl) ?_
  refine e_isub (pc := 9) dX12_isMonk_9 ?_
  obtain ⟨v1, hq1, hG⟩ := x_bd1 hG
  refine e_invS (pc := 10) (K1 := 0) (S1 := 0) (K := 0) (S := 0) (dd2 := 0) (av := [x_i a, x_i 0, x_i (x_sub (S 1 3) 1)]) (st := []) dX12_isMonk_10 xmX12_61 rfl (f_cal (M := M) (us2 := []) [] hn rfl trivial rfl rfl rfl (c_X12_isIn hst hs   hq1)) (by decide) (Nat.le_of_ble_eq_true rfl) (Or.inl rfl) ?_
  show Ev g _ _ _ _ _ _ 13 [some (x_r (16 * 32 + 0)), some (x_i a)] [x_i v1] (al, ro, fl (ml M [32] [S])) _ _ _ _
  obtain ⟨hc0, hG⟩ := x_gd_some hG
  cases hG
  exact (e_ireturn rfl dX12_isMonk_13 (x_bool hc0).1)
def G12_isFlag (a : Int) : Option Int :=
  (x_b1 (G12_isIn a 0 15) fun (v1 : Int) => (x_gd (v1 = 0 ∨ v1 = 1) (some v1)))
set_option maxRecDepth 100000 in
set_option maxHeartbeats 4000000 in
theorem c_X12_isFlag {g : xG} {al : List (Nat × Nat × Nat)} {ro : Nat → Nat → Option Nat} (hst : g.1.stackTraces = false) (hs : SH al ro) {M : Nat → xU} {a : Int} {t : Int} (hG : G12_isFlag a = some t) :
    Cal g yX12_isFlag cX12_isFlag 1 (some .boolean) 1 [x_i a] (al, ro, fl (ml M [] [])) 0 0 (.inl (some (x_i t))) (al, ro, fl (ml M [] [])) := by
  have hn : ([] : List Nat).Nodup := by decide
  refine cal_of_ev (by decide) (x_c1 rfl) (Nat.le_of_ble_eq_true rfl) hst ?_
  show Ev g _ _ _ _ _ _ 0 [some (x_i a)] [] (al, ro, fl (ml M [] [])) _ _ _ _
  rw [G12_isFlag] at hG
  refine e_iloadn (pc := 0) (i := 0) dX12_isFlag_0 rfl rfl ?_
  refine e_iconst (pc := 1) dX12_isFlag_1 (x_R rfl) ?_
  refine e_bipush (pc := 2) dX12_isFlag_2 (by decide +kernel) (x_R rfl) ?_
  obtain ⟨v1, hq1, hG⟩ := x_bd1 hG
  refine e_invS (pc := 4) (K1 := 0) (S1 := 0) (K := 0) (S := 0) (dd2 := 0) (av := [x_i a, x_i 0, x_i 15]) (st := []) dX12_isFlag_4 xmX12_61 rfl (f_cal (M := M) (us2 := []) [] hn rfl trivial rfl rfl rfl (c_X12_isIn hst hs   hq1)) (by decide) (Nat.le_of_ble_eq_true rfl) (Or.inl rfl) ?_
  show Ev g _ _ _ _ _ _ 7 [some (x_i a)] [x_i v1] (al, ro, fl (ml M [] [])) _ _ _ _
  obtain ⟨hc0, hG⟩ := x_gd_some hG
  cases hG
  exact (e_ireturn rfl dX12_isFlag_7 (x_bool hc0).1)
def G12_isWalk (a : Int) : Option Int :=
  (x_b1 (G12_isIn a 0 3) fun (v1 : Int) => (x_gd (v1 = 0 ∨ v1 = 1) (some v1)))
set_option maxRecDepth 100000 in
set_option maxHeartbeats 4000000 in
theorem c_X12_isWalk {g : xG} {al : List (Nat × Nat × Nat)} {ro : Nat → Nat → Option Nat} (hst : g.1.stackTraces = false) (hs : SH al ro) {M : Nat → xU} {a : Int} {t : Int} (hG : G12_isWalk a = some t) :
    Cal g yX12_isWalk cX12_isWalk 1 (some .boolean) 1 [x_i a] (al, ro, fl (ml M [] [])) 0 0 (.inl (some (x_i t))) (al, ro, fl (ml M [] [])) := by
  have hn : ([] : List Nat).Nodup := by decide
  refine cal_of_ev (by decide) (x_c1 rfl) (Nat.le_of_ble_eq_true rfl) hst ?_
  show Ev g _ _ _ _ _ _ 0 [some (x_i a)] [] (al, ro, fl (ml M [] [])) _ _ _ _
  rw [G12_isWalk] at hG
  refine e_iloadn (pc := 0) (i := 0) dX12_isWalk_0 rfl rfl ?_
  refine e_iconst (pc := 1) dX12_isWalk_1 (x_R rfl) ?_
  refine e_iconst (pc := 2) dX12_isWalk_2 (x_R rfl) ?_
  obtain ⟨v1, hq1, hG⟩ := x_bd1 hG
  refine e_invS (pc := 3) (K1 := 0) (S1 := 0) (K := 0) (S := 0) (dd2 := 0) (av := [x_i a, x_i 0, x_i 3]) (st := []) dX12_isWalk_3 xmX12_61 rfl (f_cal (M := M) (us2 := []) [] hn rfl trivial rfl rfl rfl (c_X12_isIn hst hs   hq1)) (by decide) (Nat.le_of_ble_eq_true rfl) (Or.inl rfl) ?_
  show Ev g _ _ _ _ _ _ 6 [some (x_i a)] [x_i v1] (al, ro, fl (ml M [] [])) _ _ _ _
  obtain ⟨hc0, hG⟩ := x_gd_some hG
  cases hG
  exact (e_ireturn rfl dX12_isWalk_6 (x_bool hc0).1)
def G12_seasonOf (a : Int) (S : xU) : Option Int :=
  (x_b1 (if 4 ≤ (S 1 7) then (some (x_div a 4)) else (some (S 1 7))) fun (v1 : Int) => (some v1))
set_option maxRecDepth 100000 in
set_option maxHeartbeats 4000000 in
theorem c_X12_seasonOf {g : xG} {al : List (Nat × Nat × Nat)} {ro : Nat → Nat → Option Nat} (hst : g.1.stackTraces = false) (hs : SH al ro) {M : Nat → xU} {a : Int} {S : xU} {t : Int} (hG : G12_seasonOf a S = some t) :
    Cal g yX12_seasonOf cX12_seasonOf 2 (some .int) 0 [x_r (16 * 32 + 0), x_i a] (al, ro, fl (ml M [32] [S])) 0 0 (.inl (some (x_i t))) (al, ro, fl (ml M [32] [S])) := by
  have hn : ([32] : List Nat).Nodup := by decide
  refine cal_of_ev (by decide) (x_c1 rfl) (Nat.le_of_ble_eq_true rfl) hst ?_
  show Ev g _ _ _ _ _ _ 0 [some (x_r (16 * 32 + 0)), some (x_i a)] [] (al, ro, fl (ml M [32] [S])) _ _ _ _
  rw [G12_seasonOf] at hG
  refine e_aloadn (pc := 0) (i := 0) dX12_seasonOf_0 rfl rfl ?_
  refine f_getr (pc := 1) (u := 32) (q := 0) dX12_seasonOf_1 xf12_7 (sa_32_0 hs) rfl (sr_32_0_1 hs) ?_
  refine e_bipush (pc := 4) dX12_seasonOf_4 (by decide +kernel) (x_R rfl) ?_
  refine f_iald (pc := 6) (k := 0) (u := 32) (q := 1) (len := 772) dX12_seasonOf_6 (sa_32_1 hs) (by decide) hn rfl rfl (by decide) ?_
  show Ev g _ _ _ _ _ _ 7 [some (x_r (16 * 32 + 0)), some (x_i a)] [x_i (S 1 7)] (al, ro, fl (ml M [32] [S])) _ _ _ _
  refine e_iconst (pc := 7) dX12_seasonOf_7 (x_R rfl) ?_
  obtain ⟨v1, hr1, hG⟩ := x_bd1 hG
  have hjhr1 : Ev g yX12_seasonOf cX12_seasonOf 2 (some .int) [] 0 24 [some (x_r (16 * 32 + 0)), some (x_i a)] [x_i v1] (al, ro, fl (ml M [32] [S])) 0 0 (.inl (some (x_i t))) (al, ro, fl (ml M [32] [S])) := by
    cases hG
    exact (e_ireturn rfl dX12_seasonOf_24 rfl)
  clear hG
  refine e_icmp_ge (pc := 8) (tgt := 21) dX12_seasonOf_8 (by decide) (fun hb => ?_) (fun hb => ?_)
  · rw [if_pos hb] at hr1
    refine e_iloadn (pc := 21) (i := 1) dX12_seasonOf_21 rfl rfl ?_
    refine e_iconst (pc := 22) dX12_seasonOf_22 (x_R rfl) ?_
    refine e_idiv (pc := 23) dX12_seasonOf_23 (by decide) ?_
    cases hr1
    exact hjhr1
  · rw [if_neg hb] at hr1
    refine e_aloadn (pc := 11) (i := 0) dX12_seasonOf_11 rfl rfl ?_
    refine f_getr (pc := 12) (u := 32) (q := 0) dX12_seasonOf_12 xf12_7 (sa_32_0 hs) rfl (sr_32_0_1 hs) ?_
    refine e_bipush (pc := 15) dX12_seasonOf_15 (by decide +kernel) (x_R rfl) ?_
    refine f_iald (pc := 17) (k := 0) (u := 32) (q := 1) (len := 772) dX12_seasonOf_17 (sa_32_1 hs) (by decide) hn rfl rfl (by decide) ?_
    show Ev g _ _ _ _ _ _ 18 [some (x_r (16 * 32 + 0)), some (x_i a)] [x_i (S 1 7)] (al, ro, fl (ml M [32] [S])) _ _ _ _
    refine e_goto (pc := 18) (tgt := 24) dX12_seasonOf_18 (by decide) ?_
    cases hr1
    exact hjhr1
def G12_isLost (a : Int) (S : xU) : Option Int :=
  (x_b1 (G12_of a 4 S) fun (v1 : Int) => (x_b1 (if v1 ≤ 0 then (some 0) else (some 1)) fun (v3 : Int) => (x_gd (v3 = 0 ∨ v3 = 1) (some v3))))
set_option maxRecDepth 100000 in
set_option maxHeartbeats 4000000 in
theorem c_X12_isLost {g : xG} {al : List (Nat × Nat × Nat)} {ro : Nat → Nat → Option Nat} (hst : g.1.stackTraces = false) (hs : SH al ro) {M : Nat → xU} {a : Int} {S : xU} {t : Int} (hG : G12_isLost a S = some t) :
    Cal g yX12_isLost cX12_isLost 2 (some .boolean) 1 [x_r (16 * 32 + 0), x_i a] (al, ro, fl (ml M [32] [S])) 0 0 (.inl (some (x_i t))) (al, ro, fl (ml M [32] [S])) := by
  have hn : ([32] : List Nat).Nodup := by decide
  refine cal_of_ev (by decide) (x_c1 rfl) (Nat.le_of_ble_eq_true rfl) hst ?_
  show Ev g _ _ _ _ _ _ 0 [some (x_r (16 * 32 + 0)), some (x_i a)] [] (al, ro, fl (ml M [32] [S])) _ _ _ _
  rw [G12_isLost] at hG
  refine e_aloadn (pc := 0) (i := 0) dX12_isLost_0 rfl rfl ?_
  refine e_iloadn (pc := 1) (i := 1) dX12_isLost_1 rfl rfl ?_
  refine e_iconst (pc := 2) dX12_isLost_2 (x_R rfl) ?_
  obtain ⟨v1, hq1, hG⟩ := x_bd1 hG
  refine e_invV (pc := 3) (K1 := 0) (S1 := 0) (K := 0) (S := 0) (dd2 := 0) (av := [x_i a, x_i 4]) (st := []) (id := 16 * 32 + 0) dX12_isLost_3 xmX12_65 rfl (Or.inl ⟨10, 27, TX12, (sa_32_0 hs), rfl, by decide⟩) (f_cal (M := M) (us2 := [32]) [0] hn rfl (And.intro rfl trivial) rfl rfl rfl (c_X12_of hst hs   hq1)) (by decide) (Nat.le_of_ble_eq_true rfl) (Or.inl rfl) ?_
  show Ev g _ _ _ _ _ _ 6 [some (x_r (16 * 32 + 0)), some (x_i a)] [x_i v1] (al, ro, fl (ml M [32] [S])) _ _ _ _
  obtain ⟨v3, hr3, hG⟩ := x_bd1 hG
  have hjhr3 : Ev g yX12_isLost cX12_isLost 2 (some .boolean) [] 1 14 [some (x_r (16 * 32 + 0)), some (x_i a)] [x_i v3] (al, ro, fl (ml M [32] [S])) 0 0 (.inl (some (x_i t))) (al, ro, fl (ml M [32] [S])) := by
    obtain ⟨hc0, hG⟩ := x_gd_some hG
    cases hG
    exact (e_ireturn rfl dX12_isLost_14 (x_bool hc0).1)
  clear hG
  refine e_if_le (pc := 6) (tgt := 13) dX12_isLost_6 (by decide) (fun hb => ?_) (fun hb => ?_)
  · rw [if_pos hb] at hr3
    refine e_iconst (pc := 13) dX12_isLost_13 (x_R rfl) ?_
    cases hr3
    exact hjhr3
  · rw [if_neg hb] at hr3
    refine e_iconst (pc := 9) dX12_isLost_9 (x_R rfl) ?_
    refine e_goto (pc := 10) (tgt := 14) dX12_isLost_10 (by decide) ?_
    cases hr3
    exact hjhr3
def G12_inChoir (a : Int) (S : xU) : Option Int :=
  (x_b1 (G12_isLost a S) fun (v1 : Int) => (x_b1 (if v1 = 0 then (x_b1 (G12_of a 0 S) fun (v5 : Int) => (if v5 = (S 1 6) then (some 1) else (some 0))) else (some 0)) fun (v3 : Int) => (x_gd (v3 = 0 ∨ v3 = 1) (some v3))))
set_option maxRecDepth 100000 in
set_option maxHeartbeats 4000000 in
theorem c_X12_inChoir {g : xG} {al : List (Nat × Nat × Nat)} {ro : Nat → Nat → Option Nat} (hst : g.1.stackTraces = false) (hs : SH al ro) {M : Nat → xU} {a : Int} {S : xU} {t : Int} (hG : G12_inChoir a S = some t) :
    Cal g yX12_inChoir cX12_inChoir 2 (some .boolean) 2 [x_r (16 * 32 + 0), x_i a] (al, ro, fl (ml M [32] [S])) 0 0 (.inl (some (x_i t))) (al, ro, fl (ml M [32] [S])) := by
  have hn : ([32] : List Nat).Nodup := by decide
  refine cal_of_ev (by decide) (x_c1 rfl) (Nat.le_of_ble_eq_true rfl) hst ?_
  show Ev g _ _ _ _ _ _ 0 [some (x_r (16 * 32 + 0)), some (x_i a)] [] (al, ro, fl (ml M [32] [S])) _ _ _ _
  rw [G12_inChoir] at hG
  refine e_aloadn (pc := 0) (i := 0) dX12_inChoir_0 rfl rfl ?_
  refine e_iloadn (pc := 1) (i := 1) dX12_inChoir_1 rfl rfl ?_
  obtain ⟨v1, hq1, hG⟩ := x_bd1 hG
  refine e_invV (pc := 2) (K1 := 0) (S1 := 0) (K := 0) (S := 0) (dd2 := 1) (av := [x_i a]) (st := []) (id := 16 * 32 + 0) dX12_inChoir_2 xmX12_69 rfl (Or.inl ⟨10, 27, TX12, (sa_32_0 hs), rfl, by decide⟩) (f_cal (M := M) (us2 := [32]) [0] hn rfl (And.intro rfl trivial) rfl rfl rfl (c_X12_isLost hst hs   hq1)) (by decide) (Nat.le_of_ble_eq_true rfl) (Or.inl rfl) ?_
  show Ev g _ _ _ _ _ _ 5 [some (x_r (16 * 32 + 0)), some (x_i a)] [x_i v1] (al, ro, fl (ml M [32] [S])) _ _ _ _
  obtain ⟨v3, hr3, hG⟩ := x_bd1 hG
  have hjhr3 : Ev g yX12_inChoir cX12_inChoir 2 (some .boolean) [] 2 29 [some (x_r (16 * 32 + 0)), some (x_i a)] [x_i v3] (al, ro, fl (ml M [32] [S])) 0 0 (.inl (some (x_i t))) (al, ro, fl (ml M [32] [S])) := by
    obtain ⟨hc0, hG⟩ := x_gd_some hG
    cases hG
    exact (e_ireturn rfl dX12_inChoir_29 (x_bool hc0).1)
  clear hG
  refine e_if_ne (pc := 5) (tgt := 28) dX12_inChoir_5 (by decide) (fun hb => ?_) (fun hb => ?_)
  · rw [if_neg hb] at hr3
    refine e_iconst (pc := 28) dX12_inChoir_28 (x_R rfl) ?_
    cases hr3
    exact hjhr3
  · rw [if_pos hb] at hr3
    refine e_aloadn (pc := 8) (i := 0) dX12_inChoir_8 rfl rfl ?_
    refine e_iloadn (pc := 9) (i := 1) dX12_inChoir_9 rfl rfl ?_
    refine e_iconst (pc := 10) dX12_inChoir_10 (x_R rfl) ?_
    obtain ⟨v5, hq5, hr3⟩ := x_bd1 hr3
    refine e_invV (pc := 11) (K1 := 0) (S1 := 0) (K := 0) (S := 0) (dd2 := 0) (av := [x_i a, x_i 0]) (st := []) (id := 16 * 32 + 0) dX12_inChoir_11 xmX12_65 rfl (Or.inl ⟨10, 27, TX12, (sa_32_0 hs), rfl, by decide⟩) (f_cal (M := M) (us2 := [32]) [0] hn rfl (And.intro rfl trivial) rfl rfl rfl (c_X12_of hst hs   hq5)) (by decide) (Nat.le_of_ble_eq_true rfl) (Or.inl rfl) ?_
    show Ev g _ _ _ _ _ _ 14 [some (x_r (16 * 32 + 0)), some (x_i a)] [x_i v5] (al, ro, fl (ml M [32] [S])) _ _ _ _
    refine e_aloadn (pc := 14) (i := 0) dX12_inChoir_14 rfl rfl ?_
    refine f_getr (pc := 15) (u := 32) (q := 0) dX12_inChoir_15 xf12_7 (sa_32_0 hs) rfl (sr_32_0_1 hs) ?_
    refine e_bipush (pc := 18) dX12_inChoir_18 (by decide +kernel) (x_R rfl) ?_
    refine f_iald (pc := 20) (k := 0) (u := 32) (q := 1) (len := 772) dX12_inChoir_20 (sa_32_1 hs) (by decide) hn rfl rfl (by decide) ?_
    show Ev g _ _ _ _ _ _ 21 [some (x_r (16 * 32 + 0)), some (x_i a)] [x_i (S 1 6), x_i v5] (al, ro, fl (ml M [32] [S])) _ _ _ _
    refine e_icmp_ne (pc := 21) (tgt := 28) dX12_inChoir_21 (by decide) (fun hb => ?_) (fun hb => ?_)
    · rw [if_neg hb] at hr3
      refine e_iconst (pc := 28) dX12_inChoir_28 (x_R rfl) ?_
      cases hr3
      exact hjhr3
    · rw [if_pos hb] at hr3
      refine e_iconst (pc := 24) dX12_inChoir_24 (x_R rfl) ?_
      refine e_goto (pc := 25) (tgt := 29) dX12_inChoir_25 (by decide) ?_
      cases hr3
      exact hjhr3
def G12_steps (a : Int) (b : Int) : Option Int :=
  (x_b1 (G12_lesser (x_rem (x_add (x_sub a b) 16) 16) (x_sub 16 (x_rem (x_add (x_sub a b) 16) 16))) fun (v1 : Int) => (some v1))
set_option maxRecDepth 100000 in
set_option maxHeartbeats 4000000 in
theorem c_X12_steps {g : xG} {al : List (Nat × Nat × Nat)} {ro : Nat → Nat → Option Nat} (hst : g.1.stackTraces = false) (hs : SH al ro) {M : Nat → xU} {a : Int} {b : Int} {t : Int} (hG : G12_steps a b = some t) :
    Cal g yX12_steps cX12_steps 3 (some .int) 1 [x_i a, x_i b] (al, ro, fl (ml M [] [])) 0 0 (.inl (some (x_i t))) (al, ro, fl (ml M [] [])) := by
  have hn : ([] : List Nat).Nodup := by decide
  refine cal_of_ev (by decide) (x_c1 rfl) (Nat.le_of_ble_eq_true rfl) hst ?_
  show Ev g _ _ _ _ _ _ 0 [some (x_i a), some (x_i b), none] [] (al, ro, fl (ml M [] [])) _ _ _ _
  rw [G12_steps] at hG
  refine e_iloadn (pc := 0) (i := 0) dX12_steps_0 rfl rfl ?_
  refine e_iloadn (pc := 1) (i := 1) dX12_steps_1 rfl rfl ?_
  refine e_isub (pc := 2) dX12_steps_2 ?_
  refine e_bipush (pc := 3) dX12_steps_3 (by decide +kernel) (x_R rfl) ?_
  refine e_iadd (pc := 5) dX12_steps_5 ?_
  refine e_bipush (pc := 6) dX12_steps_6 (by decide +kernel) (x_R rfl) ?_
  refine e_irem (pc := 8) dX12_steps_8 (by decide) ?_
  refine e_istoren (pc := 9) (i := 2) dX12_steps_9 rfl (by decide) rfl ?_
  show Ev g _ _ _ _ _ _ 10 [some (x_i a), some (x_i b), some (x_i (x_rem (x_add (x_sub a b) 16) 16))] [] (al, ro, fl (ml M [] [])) _ _ _ _
  refine e_iloadn (pc := 10) (i := 2) dX12_steps_10 rfl rfl ?_
  refine e_bipush (pc := 11) dX12_steps_11 (by decide +kernel) (x_R rfl) ?_
  refine e_iloadn (pc := 13) (i := 2) dX12_steps_13 rfl rfl ?_
  refine e_isub (pc := 14) dX12_steps_14 ?_
  obtain ⟨v1, hq1, hG⟩ := x_bd1 hG
  refine e_invS (pc := 15) (K1 := 0) (S1 := 0) (K := 0) (S := 0) (dd2 := 0) (av := [x_i (x_rem (x_add (x_sub a b) 16) 16), x_i (x_sub 16 (x_rem (x_add (x_sub a b) 16) 16))]) (st := []) dX12_steps_15 xmX12_73 rfl (f_cal (M := M) (us2 := []) [] hn rfl trivial rfl rfl rfl (c_X12_lesser hst hs   hq1)) (by decide) (Nat.le_of_ble_eq_true rfl) (Or.inl rfl) ?_
  show Ev g _ _ _ _ _ _ 18 [some (x_i a), some (x_i b), some (x_i (x_rem (x_add (x_sub a b) 16) 16))] [x_i v1] (al, ro, fl (ml M [] [])) _ _ _ _
  cases hG
  exact (e_ireturn rfl dX12_steps_18 rfl)
def G12_all (S : xU) : Option Int :=
  (some (x_sub (x_shl 1 (S 1 3)) 1))
set_option maxRecDepth 100000 in
set_option maxHeartbeats 4000000 in
theorem c_X12_all {g : xG} {al : List (Nat × Nat × Nat)} {ro : Nat → Nat → Option Nat} (hst : g.1.stackTraces = false) (hs : SH al ro) {M : Nat → xU} {S : xU} {t : Int} (hG : G12_all S = some t) :
    Cal g yX12_all cX12_all 1 (some .int) 0 [x_r (16 * 32 + 0)] (al, ro, fl (ml M [32] [S])) 0 0 (.inl (some (x_i t))) (al, ro, fl (ml M [32] [S])) := by
  have hn : ([32] : List Nat).Nodup := by decide
  refine cal_of_ev (by decide) (x_c1 rfl) (Nat.le_of_ble_eq_true rfl) hst ?_
  show Ev g _ _ _ _ _ _ 0 [some (x_r (16 * 32 + 0))] [] (al, ro, fl (ml M [32] [S])) _ _ _ _
  rw [G12_all] at hG
  refine e_iconst (pc := 0) dX12_all_0 (x_R rfl) ?_
  refine e_aloadn (pc := 1) (i := 0) dX12_all_1 rfl rfl ?_
  refine f_getr (pc := 2) (u := 32) (q := 0) dX12_all_2 xf12_7 (sa_32_0 hs) rfl (sr_32_0_1 hs) ?_
  refine e_iconst (pc := 5) dX12_all_5 (x_R rfl) ?_
  refine f_iald (pc := 6) (k := 0) (u := 32) (q := 1) (len := 772) dX12_all_6 (sa_32_1 hs) (by decide) hn rfl rfl (by decide) ?_
  show Ev g _ _ _ _ _ _ 7 [some (x_r (16 * 32 + 0))] [x_i (S 1 3), x_i 1] (al, ro, fl (ml M [32] [S])) _ _ _ _
  refine e_ishl (pc := 7) dX12_all_7 ?_
  refine e_iconst (pc := 8) dX12_all_8 (x_R rfl) ?_
  refine e_isub (pc := 9) dX12_all_9 ?_
  cases hG
  exact (e_ireturn rfl dX12_all_10 rfl)
def G12_feed_L23 (a : Int) (b : Int) (c : Int) (d : Int) (e : Int) : (Int × xU) → Option ((Int × xU) ⊕ xU)
  | (v1, S2) => (if 20 ≤ v1 then (some (.inr S2)) else (x_b1 (if 4 ≤ v1 then (if 8 ≤ v1 then (if 12 ≤ v1 then (if 16 ≤ v1 then (some e) else (some d)) else (some c)) else (some b)) else (some a)) fun (v6 : Int) => (x_gd ((0 : Int) ≤ (S2 0 8) ∧ (S2 0 8) < 400) (some (.inl ((x_add v1 1), (x_up (x_up S2 5 ((S2 0 8)).toNat (x_and (x_ush v6 (x_sub 24 (x_mul 8 (x_rem v1 4)))) 255)) 0 8 (x_add ((x_up S2 5 ((S2 0 8)).toNat (x_and (x_ush v6 (x_sub 24 (x_mul 8 (x_rem v1 4)))) 255)) 0 8) 1))))))))
def G12_feed (a : Int) (b : Int) (c : Int) (d : Int) (e : Int) (S : xU) : Option (Int × xU) :=
  (if (x_add ((x_up S 0 0 0) 0 8) 20) ≤ 400 then (x_b1 (whl xFU (G12_feed_L23 a b c d e) (0, (x_up S 0 0 0))) fun (S3 : xU) => (some ((S3 0 8), S3))) else (some ((-1), (x_up S 0 0 0))))
set_option maxRecDepth 100000 in
set_option maxHeartbeats 4000000 in
theorem c_X12_feed {g : xG} {al : List (Nat × Nat × Nat)} {ro : Nat → Nat → Option Nat} (hst : g.1.stackTraces = false) (hs : SH al ro) {M : Nat → xU} {a : Int} {b : Int} {c : Int} {d : Int} {e : Int} {S : xU} {t : (Int × xU)} (hG : G12_feed a b c d e S = some t) :
    Cal g yX12_feed cX12_feed 8 (some .int) 0 [x_r (16 * 32 + 0), x_i a, x_i b, x_i c, x_i d, x_i e] (al, ro, fl (ml M [32] [S])) 0 0 (.inl (some (x_i t.1))) (al, ro, fl (ml M [32] [t.2])) := by
  have hn : ([32] : List Nat).Nodup := by decide
  refine cal_of_ev (by decide) (x_c1 rfl) (Nat.le_of_ble_eq_true rfl) hst ?_
  show Ev g _ _ _ _ _ _ 0 [some (x_r (16 * 32 + 0)), some (x_i a), some (x_i b), some (x_i c), some (x_i d), some (x_i e), none, none] [] (al, ro, fl (ml M [32] [S])) _ _ _ _
  rw [G12_feed] at hG
  refine e_aloadn (pc := 0) (i := 0) dX12_feed_0 rfl rfl ?_
  refine e_iconst (pc := 1) dX12_feed_1 (x_R rfl) ?_
  refine f_puti (pc := 2) (k := 0) (u := 32) (q := 0) dX12_feed_2 xf12_58 xw10_0 (sa_32_0 hs) hn rfl rfl rfl (by decide) ?_
  show Ev g _ _ _ _ _ _ 5 [some (x_r (16 * 32 + 0)), some (x_i a), some (x_i b), some (x_i c), some (x_i d), some (x_i e), none, none] [] (al, ro, fl (ml M [32] [(x_up S 0 0 0)])) _ _ _ _
  refine e_aloadn (pc := 5) (i := 0) dX12_feed_5 rfl rfl ?_
  refine f_geti (pc := 6) (k := 0) (u := 32) (q := 0) dX12_feed_6 xf12_76 (sa_32_0 hs) rfl hn rfl rfl (by decide) ?_
  show Ev g _ _ _ _ _ _ 9 [some (x_r (16 * 32 + 0)), some (x_i a), some (x_i b), some (x_i c), some (x_i d), some (x_i e), none, none] [x_i ((x_up S 0 0 0) 0 8)] (al, ro, fl (ml M [32] [(x_up S 0 0 0)])) _ _ _ _
  refine e_bipush (pc := 9) dX12_feed_9 (by decide +kernel) (x_R rfl) ?_
  refine e_iadd (pc := 11) dX12_feed_11 ?_
  refine e_sipush (pc := 12) dX12_feed_12 (by decide +kernel) (x_R rfl) ?_
  refine e_icmp_le (pc := 15) (tgt := 20) dX12_feed_15 (by decide) (fun hb => ?_) (fun hb => ?_)
  · rw [if_pos hb] at hG
    refine e_iconst (pc := 20) dX12_feed_20 (x_R rfl) ?_
    refine e_istore (pc := 21) (i := 6) dX12_feed_21 (by decide) rfl ?_
    show Ev g _ _ _ _ _ _ 23 [some (x_r (16 * 32 + 0)), some (x_i a), some (x_i b), some (x_i c), some (x_i d), some (x_i e), some (x_i 0), none] [] (al, ro, fl (ml M [32] [(x_up S 0 0 0)])) _ _ _ _
    obtain ⟨S3, hl4, hG⟩ := x_bd1 hG
    have hk4 : ∀ q : xU, q = S3 → Ev g yX12_feed cX12_feed 8 (some .int) [] 0 120 [some (x_r (16 * 32 + 0)), some (x_i a), some (x_i b), some (x_i c), some (x_i d), some (x_i e), none, none] [] (al, ro, fl (ml M [32] [q])) 0 0 (.inl (some (x_i t.1))) (al, ro, fl (ml M [32] [t.2])) := by
      intro q hq
      replace hq := hq.symm
      subst hq
      refine e_aloadn (pc := 120) (i := 0) dX12_feed_120 rfl rfl ?_
      refine f_geti (pc := 121) (k := 0) (u := 32) (q := 0) dX12_feed_121 xf12_76 (sa_32_0 hs) rfl hn rfl rfl (by decide) ?_
      show Ev g _ _ _ _ _ _ 124 [some (x_r (16 * 32 + 0)), some (x_i a), some (x_i b), some (x_i c), some (x_i d), some (x_i e), none, none] [x_i (S3 0 8)] (al, ro, fl (ml M [32] [S3])) _ _ _ _
      cases hG
      exact (e_ireturn rfl dX12_feed_124 rfl)
    clear hG
    refine e_whl (G12_feed_L23 a b c d e) (fun z : (Int × xU) => Ev g yX12_feed cX12_feed 8 (some .int) [] 0 23 [some (x_r (16 * 32 + 0)), some (x_i a), some (x_i b), some (x_i c), some (x_i d), some (x_i e), some (x_i z.1), none] [] (al, ro, fl (ml M [32] [z.2])) 0 0 (.inl (some (x_i t.1))) (al, ro, fl (ml M [32] [t.2]))) (fun q => q = S3) ?_ xFU (0, (x_up S 0 0 0)) _ hl4 rfl
    intro z t4 hf4 hi4 hx4
    obtain ⟨v1, S2⟩ := z
    rw [G12_feed_L23] at hf4
    show Ev g _ _ _ _ _ _ 23 [some (x_r (16 * 32 + 0)), some (x_i a), some (x_i b), some (x_i c), some (x_i d), some (x_i e), some (x_i v1), none] [] (al, ro, fl (ml M [32] [S2])) _ _ _ _
    refine e_iload (pc := 23) dX12_feed_23 rfl ?_
    refine e_bipush (pc := 25) dX12_feed_25 (by decide +kernel) (x_R rfl) ?_
    refine e_icmp_ge (pc := 27) (tgt := 120) dX12_feed_27 (by decide) (fun hb => ?_) (fun hb => ?_)
    · rw [if_pos hb] at hf4
      cases hf4
      refine e_drop (i := 6) ?_
      exact hk4 _ (hx4 _ rfl)
    · rw [if_neg hb] at hf4
      refine e_iload (pc := 30) dX12_feed_30 rfl ?_
      refine e_iconst (pc := 32) dX12_feed_32 (x_R rfl) ?_
      obtain ⟨v6, hr6, hf4⟩ := x_bd1 hf4
      have hjhr6 : Ev g yX12_feed cX12_feed 8 (some .int) [] 0 76 [some (x_r (16 * 32 + 0)), some (x_i a), some (x_i b), some (x_i c), some (x_i d), some (x_i e), some (x_i v1), none] [x_i v6] (al, ro, fl (ml M [32] [S2])) 0 0 (.inl (some (x_i t.1))) (al, ro, fl (ml M [32] [t.2])) := by
        refine e_istore (pc := 76) (i := 7) dX12_feed_76 (by decide) rfl ?_
        show Ev g _ _ _ _ _ _ 78 [some (x_r (16 * 32 + 0)), some (x_i a), some (x_i b), some (x_i c), some (x_i d), some (x_i e), some (x_i v1), some (x_i v6)] [] (al, ro, fl (ml M [32] [S2])) _ _ _ _
        refine e_aloadn (pc := 78) (i := 0) dX12_feed_78 rfl rfl ?_
        refine f_getr (pc := 79) (u := 32) (q := 0) dX12_feed_79 xf12_22 (sa_32_0 hs) rfl (sr_32_0_7 hs) ?_
        refine e_aloadn (pc := 82) (i := 0) dX12_feed_82 rfl rfl ?_
        refine f_geti (pc := 83) (k := 0) (u := 32) (q := 0) dX12_feed_83 xf12_76 (sa_32_0 hs) rfl hn rfl rfl (by decide) ?_
        show Ev g _ _ _ _ _ _ 86 [some (x_r (16 * 32 + 0)), some (x_i a), some (x_i b), some (x_i c), some (x_i d), some (x_i e), some (x_i v1), some (x_i v6)] [x_i (S2 0 8), x_r (16 * 32 + 5)] (al, ro, fl (ml M [32] [S2])) _ _ _ _
        refine e_iload (pc := 86) dX12_feed_86 rfl ?_
        refine e_bipush (pc := 88) dX12_feed_88 (by decide +kernel) (x_R rfl) ?_
        refine e_bipush (pc := 90) dX12_feed_90 (by decide +kernel) (x_R rfl) ?_
        refine e_iload (pc := 92) dX12_feed_92 rfl ?_
        refine e_iconst (pc := 94) dX12_feed_94 (x_R rfl) ?_
        refine e_irem (pc := 95) dX12_feed_95 (by decide) ?_
        refine e_imul (pc := 96) dX12_feed_96 ?_
        refine e_isub (pc := 97) dX12_feed_97 ?_
        refine e_iushr (pc := 98) dX12_feed_98 ?_
        refine e_sipush (pc := 99) dX12_feed_99 (by decide +kernel) (x_R rfl) ?_
        refine e_iand (pc := 102) dX12_feed_102 ?_
        obtain ⟨hc0, hf4⟩ := x_gd_some hf4
        refine f_iast (pc := 103) (k := 0) (u := 32) (q := 5) (len := 400) dX12_feed_103 (sa_32_5 hs) hc0 hn rfl rfl rfl (by decide) ?_
        show Ev g _ _ _ _ _ _ 104 [some (x_r (16 * 32 + 0)), some (x_i a), some (x_i b), some (x_i c), some (x_i d), some (x_i e), some (x_i v1), some (x_i v6)] [] (al, ro, fl (ml M [32] [(x_up S2 5 ((S2 0 8)).toNat (x_and (x_ush v6 (x_sub 24 (x_mul 8 (x_rem v1 4)))) 255))])) _ _ _ _
        refine e_aloadn (pc := 104) (i := 0) dX12_feed_104 rfl rfl ?_
        refine e_dup (pc := 105) dX12_feed_105 rfl ?_
        refine f_geti (pc := 106) (k := 0) (u := 32) (q := 0) dX12_feed_106 xf12_76 (sa_32_0 hs) rfl hn rfl rfl (by decide) ?_
        show Ev g _ _ _ _ _ _ 109 [some (x_r (16 * 32 + 0)), some (x_i a), some (x_i b), some (x_i c), some (x_i d), some (x_i e), some (x_i v1), some (x_i v6)] [x_i ((x_up S2 5 ((S2 0 8)).toNat (x_and (x_ush v6 (x_sub 24 (x_mul 8 (x_rem v1 4)))) 255)) 0 8), x_r (16 * 32 + 0)] (al, ro, fl (ml M [32] [(x_up S2 5 ((S2 0 8)).toNat (x_and (x_ush v6 (x_sub 24 (x_mul 8 (x_rem v1 4)))) 255))])) _ _ _ _
        refine e_iconst (pc := 109) dX12_feed_109 (x_R rfl) ?_
        refine e_iadd (pc := 110) dX12_feed_110 ?_
        refine f_puti (pc := 111) (k := 0) (u := 32) (q := 0) dX12_feed_111 xf12_76 xw10_8 (sa_32_0 hs) hn rfl rfl rfl (by decide) ?_
        show Ev g _ _ _ _ _ _ 114 [some (x_r (16 * 32 + 0)), some (x_i a), some (x_i b), some (x_i c), some (x_i d), some (x_i e), some (x_i v1), some (x_i v6)] [] (al, ro, fl (ml M [32] [(x_up (x_up S2 5 ((S2 0 8)).toNat (x_and (x_ush v6 (x_sub 24 (x_mul 8 (x_rem v1 4)))) 255)) 0 8 (x_add ((x_up S2 5 ((S2 0 8)).toNat (x_and (x_ush v6 (x_sub 24 (x_mul 8 (x_rem v1 4)))) 255)) 0 8) 1))])) _ _ _ _
        refine e_iinc (pc := 114) dX12_feed_114 rfl (by decide) rfl ?_
        show Ev g _ _ _ _ _ _ 117 [some (x_r (16 * 32 + 0)), some (x_i a), some (x_i b), some (x_i c), some (x_i d), some (x_i e), some (x_i (x_add v1 1)), some (x_i v6)] [] (al, ro, fl (ml M [32] [(x_up (x_up S2 5 ((S2 0 8)).toNat (x_and (x_ush v6 (x_sub 24 (x_mul 8 (x_rem v1 4)))) 255)) 0 8 (x_add ((x_up S2 5 ((S2 0 8)).toNat (x_and (x_ush v6 (x_sub 24 (x_mul 8 (x_rem v1 4)))) 255)) 0 8) 1))])) _ _ _ _
        refine e_goto (pc := 117) (tgt := 23) dX12_feed_117 (by decide) ?_
        cases hf4
        refine e_drop (i := 7) ?_
        exact hi4 _ rfl
      clear hf4
      refine e_icmp_ge (pc := 33) (tgt := 40) dX12_feed_33 (by decide) (fun hb => ?_) (fun hb => ?_)
      · rw [if_pos hb] at hr6
        refine e_iload (pc := 40) dX12_feed_40 rfl ?_
        refine e_bipush (pc := 42) dX12_feed_42 (by decide +kernel) (x_R rfl) ?_
        refine e_icmp_ge (pc := 44) (tgt := 51) dX12_feed_44 (by decide) (fun hb => ?_) (fun hb => ?_)
        · rw [if_pos hb] at hr6
          refine e_iload (pc := 51) dX12_feed_51 rfl ?_
          refine e_bipush (pc := 53) dX12_feed_53 (by decide +kernel) (x_R rfl) ?_
          refine e_icmp_ge (pc := 55) (tgt := 62) dX12_feed_55 (by decide) (fun hb => ?_) (fun hb => ?_)
          · rw [if_pos hb] at hr6
            refine e_iload (pc := 62) dX12_feed_62 rfl ?_
            refine e_bipush (pc := 64) dX12_feed_64 (by decide +kernel) (x_R rfl) ?_
            refine e_icmp_ge (pc := 66) (tgt := 74) dX12_feed_66 (by decide) (fun hb => ?_) (fun hb => ?_)
            · rw [if_pos hb] at hr6
              refine e_iload (pc := 74) dX12_feed_74 rfl ?_
              cases hr6
              exact hjhr6
            · rw [if_neg hb] at hr6
              refine e_iload (pc := 69) dX12_feed_69 rfl ?_
              refine e_goto (pc := 71) (tgt := 76) dX12_feed_71 (by decide) ?_
              cases hr6
              exact hjhr6
          · rw [if_neg hb] at hr6
            refine e_iloadn (pc := 58) (i := 3) dX12_feed_58 rfl rfl ?_
            refine e_goto (pc := 59) (tgt := 76) dX12_feed_59 (by decide) ?_
            cases hr6
            exact hjhr6
        · rw [if_neg hb] at hr6
          refine e_iloadn (pc := 47) (i := 2) dX12_feed_47 rfl rfl ?_
          refine e_goto (pc := 48) (tgt := 76) dX12_feed_48 (by decide) ?_
          cases hr6
          exact hjhr6
      · rw [if_neg hb] at hr6
        refine e_iloadn (pc := 36) (i := 1) dX12_feed_36 rfl rfl ?_
        refine e_goto (pc := 37) (tgt := 76) dX12_feed_37 (by decide) ?_
        cases hr6
        exact hjhr6
  · rw [if_neg hb] at hG
    refine e_iconst (pc := 18) dX12_feed_18 (x_R rfl) ?_
    cases hG
    exact (e_ireturn rfl dX12_feed_19 rfl)
def G12_end (a : Int) (S : xU) : Option (Int × xU) :=
  (x_b1 (G12_isIn a 0 ((x_up S 0 0 0) 0 8)) fun (v1 : Int) => (if v1 = 0 then (some (0, (x_up S 0 0 0))) else (some (1, (x_up (x_up S 0 0 0) 0 8 a)))))
set_option maxRecDepth 100000 in
set_option maxHeartbeats 4000000 in
theorem c_X12_end {g : xG} {al : List (Nat × Nat × Nat)} {ro : Nat → Nat → Option Nat} (hst : g.1.stackTraces = false) (hs : SH al ro) {M : Nat → xU} {a : Int} {S : xU} {t : (Int × xU)} (hG : G12_end a S = some t) :
    Cal g yX12_end cX12_end 2 (some .boolean) 1 [x_r (16 * 32 + 0), x_i a] (al, ro, fl (ml M [32] [S])) 0 0 (.inl (some (x_i t.1))) (al, ro, fl (ml M [32] [t.2])) := by
  have hn : ([32] : List Nat).Nodup := by decide
  refine cal_of_ev (by decide) (x_c1 rfl) (Nat.le_of_ble_eq_true rfl) hst ?_
  show Ev g _ _ _ _ _ _ 0 [some (x_r (16 * 32 + 0)), some (x_i a)] [] (al, ro, fl (ml M [32] [S])) _ _ _ _
  rw [G12_end] at hG
  refine e_aloadn (pc := 0) (i := 0) dX12_end_0 rfl rfl ?_
  refine e_iconst (pc := 1) dX12_end_1 (x_R rfl) ?_
  refine f_puti (pc := 2) (k := 0) (u := 32) (q := 0) dX12_end_2 xf12_58 xw10_0 (sa_32_0 hs) hn rfl rfl rfl (by decide) ?_
  show Ev g _ _ _ _ _ _ 5 [some (x_r (16 * 32 + 0)), some (x_i a)] [] (al, ro, fl (ml M [32] [(x_up S 0 0 0)])) _ _ _ _
  refine e_iloadn (pc := 5) (i := 1) dX12_end_5 rfl rfl ?_
  refine e_iconst (pc := 6) dX12_end_6 (x_R rfl) ?_
  refine e_aloadn (pc := 7) (i := 0) dX12_end_7 rfl rfl ?_
  refine f_geti (pc := 8) (k := 0) (u := 32) (q := 0) dX12_end_8 xf12_76 (sa_32_0 hs) rfl hn rfl rfl (by decide) ?_
  show Ev g _ _ _ _ _ _ 11 [some (x_r (16 * 32 + 0)), some (x_i a)] [x_i ((x_up S 0 0 0) 0 8), x_i 0, x_i a] (al, ro, fl (ml M [32] [(x_up S 0 0 0)])) _ _ _ _
  obtain ⟨v1, hq1, hG⟩ := x_bd1 hG
  refine e_invS (pc := 11) (K1 := 0) (S1 := 0) (K := 0) (S := 0) (dd2 := 0) (av := [x_i a, x_i 0, x_i ((x_up S 0 0 0) 0 8)]) (st := []) dX12_end_11 xmX12_61 rfl (f_cal (M := M) (us2 := []) [] hn rfl trivial rfl rfl rfl (c_X12_isIn hst hs   hq1)) (by decide) (Nat.le_of_ble_eq_true rfl) (Or.inl rfl) ?_
  show Ev g _ _ _ _ _ _ 14 [some (x_r (16 * 32 + 0)), some (x_i a)] [x_i v1] (al, ro, fl (ml M [32] [(x_up S 0 0 0)])) _ _ _ _
  refine e_if_ne (pc := 14) (tgt := 19) dX12_end_14 (by decide) (fun hb => ?_) (fun hb => ?_)
  · rw [if_neg hb] at hG
    refine e_aloadn (pc := 19) (i := 0) dX12_end_19 rfl rfl ?_
    refine e_iloadn (pc := 20) (i := 1) dX12_end_20 rfl rfl ?_
    refine f_puti (pc := 21) (k := 0) (u := 32) (q := 0) dX12_end_21 xf12_76 xw10_8 (sa_32_0 hs) hn rfl rfl rfl (by decide) ?_
    show Ev g _ _ _ _ _ _ 24 [some (x_r (16 * 32 + 0)), some (x_i a)] [] (al, ro, fl (ml M [32] [(x_up (x_up S 0 0 0) 0 8 a)])) _ _ _ _
    refine e_iconst (pc := 24) dX12_end_24 (x_R rfl) ?_
    cases hG
    exact (e_ireturn rfl dX12_end_25 (x_bool (by decide)).1)
  · rw [if_pos hb] at hG
    refine e_iconst (pc := 17) dX12_end_17 (x_R rfl) ?_
    cases hG
    exact (e_ireturn rfl dX12_end_18 (x_bool (by decide)).1)
def G12_letter (a : Int) (S : xU) : Option Int :=
  (x_b1 (if (S 0 9) = (-1) then (x_gd ((0 : Int) ≤ a ∧ a < 400) (some (S 5 (a).toNat))) else (x_gd ((0 : Int) ≤ (x_add (S 0 9) a) ∧ (x_add (S 0 9) a) < 772) (some (S 1 ((x_add (S 0 9) a)).toNat)))) fun (v1 : Int) => (some v1))
set_option maxRecDepth 100000 in
set_option maxHeartbeats 4000000 in
theorem c_X12_letter {g : xG} {al : List (Nat × Nat × Nat)} {ro : Nat → Nat → Option Nat} (hst : g.1.stackTraces = false) (hs : SH al ro) {M : Nat → xU} {a : Int} {S : xU} {t : Int} (hG : G12_letter a S = some t) :
    Cal g yX12_letter cX12_letter 2 (some .int) 0 [x_r (16 * 32 + 0), x_i a] (al, ro, fl (ml M [32] [S])) 0 0 (.inl (some (x_i t))) (al, ro, fl (ml M [32] [S])) := by
  have hn : ([32] : List Nat).Nodup := by decide
  refine cal_of_ev (by decide) (x_c1 rfl) (Nat.le_of_ble_eq_true rfl) hst ?_
  show Ev g _ _ _ _ _ _ 0 [some (x_r (16 * 32 + 0)), some (x_i a)] [] (al, ro, fl (ml M [32] [S])) _ _ _ _
  rw [G12_letter] at hG
  refine e_aloadn (pc := 0) (i := 0) dX12_letter_0 rfl rfl ?_
  refine f_geti (pc := 1) (k := 0) (u := 32) (q := 0) dX12_letter_1 xf12_79 (sa_32_0 hs) rfl hn rfl rfl (by decide) ?_
  show Ev g _ _ _ _ _ _ 4 [some (x_r (16 * 32 + 0)), some (x_i a)] [x_i (S 0 9)] (al, ro, fl (ml M [32] [S])) _ _ _ _
  refine e_iconst (pc := 4) dX12_letter_4 (x_R rfl) ?_
  obtain ⟨v1, hr1, hG⟩ := x_bd1 hG
  have hjhr1 : Ev g yX12_letter cX12_letter 2 (some .int) [] 0 28 [some (x_r (16 * 32 + 0)), some (x_i a)] [x_i v1] (al, ro, fl (ml M [32] [S])) 0 0 (.inl (some (x_i t))) (al, ro, fl (ml M [32] [S])) := by
    cases hG
    exact (e_ireturn rfl dX12_letter_28 rfl)
  clear hG
  refine e_icmp_ne (pc := 5) (tgt := 17) dX12_letter_5 (by decide) (fun hb => ?_) (fun hb => ?_)
  · rw [if_neg hb] at hr1
    refine e_aloadn (pc := 17) (i := 0) dX12_letter_17 rfl rfl ?_
    refine f_getr (pc := 18) (u := 32) (q := 0) dX12_letter_18 xf12_7 (sa_32_0 hs) rfl (sr_32_0_1 hs) ?_
    refine e_aloadn (pc := 21) (i := 0) dX12_letter_21 rfl rfl ?_
    refine f_geti (pc := 22) (k := 0) (u := 32) (q := 0) dX12_letter_22 xf12_79 (sa_32_0 hs) rfl hn rfl rfl (by decide) ?_
    show Ev g _ _ _ _ _ _ 25 [some (x_r (16 * 32 + 0)), some (x_i a)] [x_i (S 0 9), x_r (16 * 32 + 1)] (al, ro, fl (ml M [32] [S])) _ _ _ _
    refine e_iloadn (pc := 25) (i := 1) dX12_letter_25 rfl rfl ?_
    refine e_iadd (pc := 26) dX12_letter_26 ?_
    obtain ⟨hc0, hr1⟩ := x_gd_some hr1
    refine f_iald (pc := 27) (k := 0) (u := 32) (q := 1) (len := 772) dX12_letter_27 (sa_32_1 hs) hc0 hn rfl rfl (by decide) ?_
    show Ev g _ _ _ _ _ _ 28 [some (x_r (16 * 32 + 0)), some (x_i a)] [x_i (S 1 ((x_add (S 0 9) a)).toNat)] (al, ro, fl (ml M [32] [S])) _ _ _ _
    cases hr1
    exact hjhr1
  · rw [if_pos hb] at hr1
    refine e_aloadn (pc := 8) (i := 0) dX12_letter_8 rfl rfl ?_
    refine f_getr (pc := 9) (u := 32) (q := 0) dX12_letter_9 xf12_22 (sa_32_0 hs) rfl (sr_32_0_7 hs) ?_
    refine e_iloadn (pc := 12) (i := 1) dX12_letter_12 rfl rfl ?_
    obtain ⟨hc0, hr1⟩ := x_gd_some hr1
    refine f_iald (pc := 13) (k := 0) (u := 32) (q := 5) (len := 400) dX12_letter_13 (sa_32_5 hs) hc0 hn rfl rfl (by decide) ?_
    show Ev g _ _ _ _ _ _ 14 [some (x_r (16 * 32 + 0)), some (x_i a)] [x_i (S 5 (a).toNat)] (al, ro, fl (ml M [32] [S])) _ _ _ _
    refine e_goto (pc := 14) (tgt := 28) dX12_letter_14 (by decide) ?_
    cases hr1
    exact hjhr1
def G12_skip_L0  : xU → Option (xU ⊕ xU)
  | S1 => (if (S1 0 10) ≤ (S1 0 11) then (some (.inr S1)) else (x_b1 (G12_letter (S1 0 11) S1) fun (v5 : Int) => (if v5 = 32 then (some (.inl (x_up S1 0 11 (x_add (S1 0 11) 1)))) else (some (.inr S1)))))
def G12_skip (S : xU) : Option xU :=
  (x_b1 (whl xFU G12_skip_L0 S) fun (S2 : xU) => (some S2))
set_option maxRecDepth 100000 in
set_option maxHeartbeats 4000000 in
theorem c_X12_skip {g : xG} {al : List (Nat × Nat × Nat)} {ro : Nat → Nat → Option Nat} (hst : g.1.stackTraces = false) (hs : SH al ro) {M : Nat → xU} {S : xU} {t : xU} (hG : G12_skip S = some t) :
    Cal g yX12_skip cX12_skip 1 none 1 [x_r (16 * 32 + 0)] (al, ro, fl (ml M [32] [S])) 0 0 (.inl none) (al, ro, fl (ml M [32] [t])) := by
  have hn : ([32] : List Nat).Nodup := by decide
  refine cal_of_ev (by decide) (x_c1 rfl) (Nat.le_of_ble_eq_true rfl) hst ?_
  show Ev g _ _ _ _ _ _ 0 [some (x_r (16 * 32 + 0))] [] (al, ro, fl (ml M [32] [S])) _ _ _ _
  rw [G12_skip] at hG
  obtain ⟨S2, hl3, hG⟩ := x_bd1 hG
  have hk3 : ∀ q : xU, q = S2 → Ev g yX12_skip cX12_skip 1 none [] 1 37 [some (x_r (16 * 32 + 0))] [] (al, ro, fl (ml M [32] [q])) 0 0 (.inl none) (al, ro, fl (ml M [32] [t])) := by
    intro q hq
    replace hq := hq.symm
    subst hq
    cases hG
    exact (e_return rfl dX12_skip_37)
  clear hG
  refine e_whl G12_skip_L0 (fun z : xU => Ev g yX12_skip cX12_skip 1 none [] 1 0 [some (x_r (16 * 32 + 0))] [] (al, ro, fl (ml M [32] [z])) 0 0 (.inl none) (al, ro, fl (ml M [32] [t]))) (fun q => q = S2) ?_ xFU S _ hl3 rfl
  intro z t3 hf3 hi3 hx3
  obtain ⟨S1, hzz⟩ : ∃ y, y = z := ⟨z, rfl⟩
  subst hzz
  rw [G12_skip_L0] at hf3
  show Ev g _ _ _ _ _ _ 0 [some (x_r (16 * 32 + 0))] [] (al, ro, fl (ml M [32] [S1])) _ _ _ _
  refine e_aloadn (pc := 0) (i := 0) dX12_skip_0 rfl rfl ?_
  refine f_geti (pc := 1) (k := 0) (u := 32) (q := 0) dX12_skip_1 xf12_82 (sa_32_0 hs) rfl hn rfl rfl (by decide) ?_
  show Ev g _ _ _ _ _ _ 4 [some (x_r (16 * 32 + 0))] [x_i (S1 0 11)] (al, ro, fl (ml M [32] [S1])) _ _ _ _
  refine e_aloadn (pc := 4) (i := 0) dX12_skip_4 rfl rfl ?_
  refine f_geti (pc := 5) (k := 0) (u := 32) (q := 0) dX12_skip_5 xf12_85 (sa_32_0 hs) rfl hn rfl rfl (by decide) ?_
  show Ev g _ _ _ _ _ _ 8 [some (x_r (16 * 32 + 0))] [x_i (S1 0 10), x_i (S1 0 11)] (al, ro, fl (ml M [32] [S1])) _ _ _ _
  refine e_icmp_ge (pc := 8) (tgt := 37) dX12_skip_8 (by decide) (fun hb => ?_) (fun hb => ?_)
  · rw [if_pos hb] at hf3
    cases hf3
    exact hk3 _ (hx3 _ rfl)
  · rw [if_neg hb] at hf3
    refine e_aloadn (pc := 11) (i := 0) dX12_skip_11 rfl rfl ?_
    refine e_aloadn (pc := 12) (i := 0) dX12_skip_12 rfl rfl ?_
    refine f_geti (pc := 13) (k := 0) (u := 32) (q := 0) dX12_skip_13 xf12_82 (sa_32_0 hs) rfl hn rfl rfl (by decide) ?_
    show Ev g _ _ _ _ _ _ 16 [some (x_r (16 * 32 + 0))] [x_i (S1 0 11), x_r (16 * 32 + 0)] (al, ro, fl (ml M [32] [S1])) _ _ _ _
    obtain ⟨v5, hq5, hf3⟩ := x_bd1 hf3
    refine e_invV (pc := 16) (K1 := 0) (S1 := 0) (K := 0) (S := 0) (dd2 := 0) (av := [x_i (S1 0 11)]) (st := []) (id := 16 * 32 + 0) dX12_skip_16 xmX12_88 rfl (Or.inl ⟨10, 27, TX12, (sa_32_0 hs), rfl, by decide⟩) (f_cal (M := M) (us2 := [32]) [0] hn rfl (And.intro rfl trivial) rfl rfl rfl (c_X12_letter hst hs   hq5)) (by decide) (Nat.le_of_ble_eq_true rfl) (Or.inl rfl) ?_
    show Ev g _ _ _ _ _ _ 19 [some (x_r (16 * 32 + 0))] [x_i v5] (al, ro, fl (ml M [32] [S1])) _ _ _ _
    refine e_bipush (pc := 19) dX12_skip_19 (by decide +kernel) (x_R rfl) ?_
    refine e_icmp_ne (pc := 21) (tgt := 37) dX12_skip_21 (by decide) (fun hb => ?_) (fun hb => ?_)
    · rw [if_neg hb] at hf3
      cases hf3
      exact hk3 _ (hx3 _ rfl)
    · rw [if_pos hb] at hf3
      refine e_aloadn (pc := 24) (i := 0) dX12_skip_24 rfl rfl ?_
      refine e_dup (pc := 25) dX12_skip_25 rfl ?_
      refine f_geti (pc := 26) (k := 0) (u := 32) (q := 0) dX12_skip_26 xf12_82 (sa_32_0 hs) rfl hn rfl rfl (by decide) ?_
      show Ev g _ _ _ _ _ _ 29 [some (x_r (16 * 32 + 0))] [x_i (S1 0 11), x_r (16 * 32 + 0)] (al, ro, fl (ml M [32] [S1])) _ _ _ _
      refine e_iconst (pc := 29) dX12_skip_29 (x_R rfl) ?_
      refine e_iadd (pc := 30) dX12_skip_30 ?_
      refine f_puti (pc := 31) (k := 0) (u := 32) (q := 0) dX12_skip_31 xf12_82 xw10_11 (sa_32_0 hs) hn rfl rfl rfl (by decide) ?_
      show Ev g _ _ _ _ _ _ 34 [some (x_r (16 * 32 + 0))] [] (al, ro, fl (ml M [32] [(x_up S1 0 11 (x_add (S1 0 11) 1))])) _ _ _ _
      refine e_goto (pc := 34) (tgt := 0) dX12_skip_34 (by decide) ?_
      cases hf3
      exact hi3 _ rfl
def G12_isSign (a : Int) (S : xU) : Option (Int × xU) :=
  (x_b1 (G12_skip S) fun (S1 : xU) => (x_b1 (if (S1 0 10) ≤ (S1 0 11) then (some 0) else (x_b1 (G12_letter (S1 0 11) S1) fun (v5 : Int) => (if v5 = a then (some 1) else (some 0)))) fun (v3 : Int) => (x_gd (v3 = 0 ∨ v3 = 1) (some (v3, S1)))))
set_option maxRecDepth 100000 in
set_option maxHeartbeats 4000000 in
theorem c_X12_isSign {g : xG} {al : List (Nat × Nat × Nat)} {ro : Nat → Nat → Option Nat} (hst : g.1.stackTraces = false) (hs : SH al ro) {M : Nat → xU} {a : Int} {S : xU} {t : (Int × xU)} (hG : G12_isSign a S = some t) :
    Cal g yX12_isSign cX12_isSign 2 (some .boolean) 2 [x_r (16 * 32 + 0), x_i a] (al, ro, fl (ml M [32] [S])) 0 0 (.inl (some (x_i t.1))) (al, ro, fl (ml M [32] [t.2])) := by
  have hn : ([32] : List Nat).Nodup := by decide
  refine cal_of_ev (by decide) (x_c1 rfl) (Nat.le_of_ble_eq_true rfl) hst ?_
  show Ev g _ _ _ _ _ _ 0 [some (x_r (16 * 32 + 0)), some (x_i a)] [] (al, ro, fl (ml M [32] [S])) _ _ _ _
  rw [G12_isSign] at hG
  refine e_aloadn (pc := 0) (i := 0) dX12_isSign_0 rfl rfl ?_
  obtain ⟨S1, hq1, hG⟩ := x_bd1 hG
  refine e_invV (pc := 1) (K1 := 0) (S1 := 0) (K := 0) (S := 0) (dd2 := 1) (av := []) (st := []) (id := 16 * 32 + 0) dX12_isSign_1 xmX12_92 rfl (Or.inl ⟨10, 27, TX12, (sa_32_0 hs), rfl, by decide⟩) (f_cal (M := M) (us2 := [32]) [0] hn rfl (And.intro rfl trivial) rfl rfl rfl (c_X12_skip hst hs   hq1)) (by decide) (Nat.le_of_ble_eq_true rfl) (Or.inl rfl) ?_
  show Ev g _ _ _ _ _ _ 4 [some (x_r (16 * 32 + 0)), some (x_i a)] [] (al, ro, fl (ml M [32] [S1])) _ _ _ _
  refine e_aloadn (pc := 4) (i := 0) dX12_isSign_4 rfl rfl ?_
  refine f_geti (pc := 5) (k := 0) (u := 32) (q := 0) dX12_isSign_5 xf12_82 (sa_32_0 hs) rfl hn rfl rfl (by decide) ?_
  show Ev g _ _ _ _ _ _ 8 [some (x_r (16 * 32 + 0)), some (x_i a)] [x_i (S1 0 11)] (al, ro, fl (ml M [32] [S1])) _ _ _ _
  refine e_aloadn (pc := 8) (i := 0) dX12_isSign_8 rfl rfl ?_
  refine f_geti (pc := 9) (k := 0) (u := 32) (q := 0) dX12_isSign_9 xf12_85 (sa_32_0 hs) rfl hn rfl rfl (by decide) ?_
  show Ev g _ _ _ _ _ _ 12 [some (x_r (16 * 32 + 0)), some (x_i a)] [x_i (S1 0 10), x_i (S1 0 11)] (al, ro, fl (ml M [32] [S1])) _ _ _ _
  obtain ⟨v3, hr3, hG⟩ := x_bd1 hG
  have hjhr3 : Ev g yX12_isSign cX12_isSign 2 (some .boolean) [] 2 32 [some (x_r (16 * 32 + 0)), some (x_i a)] [x_i v3] (al, ro, fl (ml M [32] [S1])) 0 0 (.inl (some (x_i t.1))) (al, ro, fl (ml M [32] [t.2])) := by
    obtain ⟨hc0, hG⟩ := x_gd_some hG
    cases hG
    exact (e_ireturn rfl dX12_isSign_32 (x_bool hc0).1)
  clear hG
  refine e_icmp_ge (pc := 12) (tgt := 31) dX12_isSign_12 (by decide) (fun hb => ?_) (fun hb => ?_)
  · rw [if_pos hb] at hr3
    refine e_iconst (pc := 31) dX12_isSign_31 (x_R rfl) ?_
    cases hr3
    exact hjhr3
  · rw [if_neg hb] at hr3
    refine e_aloadn (pc := 15) (i := 0) dX12_isSign_15 rfl rfl ?_
    refine e_aloadn (pc := 16) (i := 0) dX12_isSign_16 rfl rfl ?_
    refine f_geti (pc := 17) (k := 0) (u := 32) (q := 0) dX12_isSign_17 xf12_82 (sa_32_0 hs) rfl hn rfl rfl (by decide) ?_
    show Ev g _ _ _ _ _ _ 20 [some (x_r (16 * 32 + 0)), some (x_i a)] [x_i (S1 0 11), x_r (16 * 32 + 0)] (al, ro, fl (ml M [32] [S1])) _ _ _ _
    obtain ⟨v5, hq5, hr3⟩ := x_bd1 hr3
    refine e_invV (pc := 20) (K1 := 0) (S1 := 0) (K := 0) (S := 0) (dd2 := 0) (av := [x_i (S1 0 11)]) (st := []) (id := 16 * 32 + 0) dX12_isSign_20 xmX12_88 rfl (Or.inl ⟨10, 27, TX12, (sa_32_0 hs), rfl, by decide⟩) (f_cal (M := M) (us2 := [32]) [0] hn rfl (And.intro rfl trivial) rfl rfl rfl (c_X12_letter hst hs   hq5)) (by decide) (Nat.le_of_ble_eq_true rfl) (Or.inl rfl) ?_
    show Ev g _ _ _ _ _ _ 23 [some (x_r (16 * 32 + 0)), some (x_i a)] [x_i v5] (al, ro, fl (ml M [32] [S1])) _ _ _ _
    refine e_iloadn (pc := 23) (i := 1) dX12_isSign_23 rfl rfl ?_
    refine e_icmp_ne (pc := 24) (tgt := 31) dX12_isSign_24 (by decide) (fun hb => ?_) (fun hb => ?_)
    · rw [if_neg hb] at hr3
      refine e_iconst (pc := 31) dX12_isSign_31 (x_R rfl) ?_
      cases hr3
      exact hjhr3
    · rw [if_pos hb] at hr3
      refine e_iconst (pc := 27) dX12_isSign_27 (x_R rfl) ?_
      refine e_goto (pc := 28) (tgt := 32) dX12_isSign_28 (by decide) ?_
      cases hr3
      exact hjhr3
def G12_has_L9 (S1 : xU) : Int → Option (Int ⊕ Int)
  | v3 => (if (S1 0 10) ≤ v3 then (some (.inr v3)) else (x_b1 (G12_letter v3 S1) fun (v7 : Int) => (x_b1 (G12_isIn v7 97 122) fun (v9 : Int) => (if v9 = 0 then (some (.inr v3)) else (some (.inl (x_add v3 1)))))))
def G12_has_L55 (w : Nat) (S1 : xU) : Int → Option (Int ⊕ (Unit ⊕ (Int × xU)))
  | v11 => (if ((x_sl.getD w 0 : Nat) : Int) ≤ v11 then (some (.inr (.inl ()))) else (x_b1 (G12_letter (x_add (S1 0 11) v11) S1) fun (v14 : Int) => (x_gd ((0 : Int) ≤ v11 ∧ v11 < (x_sl.getD w 0 : Nat)) (if v14 = (x_ch w v11) then (some (.inl (x_add v11 1))) else (some (.inr (.inr (0, S1))))))))
def G12_has (w : Nat) (S : xU) : Option (Int × xU) :=
  (x_b1 (G12_skip S) fun (S1 : xU) => (x_b1 (whl xFU (G12_has_L9 S1) (S1 0 11)) fun (v4 : Int) => (if (x_sub v4 (S1 0 11)) = ((x_sl.getD w 0 : Nat) : Int) then (x_lr (whl xFU (G12_has_L55 w S1) 0) (fun (q : Unit) => x_e1 q fun (_q : Unit) => (some (1, (x_up S1 0 11 v4)))) (fun (q : (Int × xU)) => some q)) else (some (0, S1)))))
set_option maxRecDepth 100000 in
set_option maxHeartbeats 4000000 in
theorem c_X12_has {g : xG} {al : List (Nat × Nat × Nat)} {ro : Nat → Nat → Option Nat} (hst : g.1.stackTraces = false) (hs : SH al ro) (hw : w < x_nS) {M : Nat → xU} {w : Nat} {S : xU} {t : (Int × xU)} (hG : G12_has w S = some t) :
    Cal g yX12_has cX12_has 4 (some .boolean) 6 [x_r (16 * 32 + 0), x_r (x_s0 + w)] (al, ro, fl (ml M [32] [S])) 0 0 (.inl (some (x_i t.1))) (al, ro, fl (ml M [32] [t.2])) := by
  have hn : ([32] : List Nat).Nodup := by decide
  refine cal_of_ev (by decide) (x_c1 rfl) (Nat.le_of_ble_eq_true rfl) hst ?_
  show Ev g _ _ _ _ _ _ 0 [some (x_r (16 * 32 + 0)), some (x_r (x_s0 + w)), none, none] [] (al, ro, fl (ml M [32] [S])) _ _ _ _
  rw [G12_has] at hG
  refine e_aloadn (pc := 0) (i := 0) dX12_has_0 rfl rfl ?_
  obtain ⟨S1, hq1, hG⟩ := x_bd1 hG
  refine e_invV (pc := 1) (K1 := 0) (S1 := 0) (K := 0) (S := 0) (dd2 := 1) (av := []) (st := []) (id := 16 * 32 + 0) dX12_has_1 xmX12_92 rfl (Or.inl ⟨10, 27, TX12, (sa_32_0 hs), rfl, by decide⟩) (f_cal (M := M) (us2 := [32]) [0] hn rfl (And.intro rfl trivial) rfl rfl rfl (c_X12_skip hst hs   hq1)) (by decide) (Nat.le_of_ble_eq_true rfl) (Or.inl rfl) ?_
  show Ev g _ _ _ _ _ _ 4 [some (x_r (16 * 32 + 0)), some (x_r (x_s0 + w)), none, none] [] (al, ro, fl (ml M [32] [S1])) _ _ _ _
  refine e_aloadn (pc := 4) (i := 0) dX12_has_4 rfl rfl ?_
  refine f_geti (pc := 5) (k := 0) (u := 32) (q := 0) dX12_has_5 xf12_82 (sa_32_0 hs) rfl hn rfl rfl (by decide) ?_
  show Ev g _ _ _ _ _ _ 8 [some (x_r (16 * 32 + 0)), some (x_r (x_s0 + w)), none, none] [x_i (S1 0 11)] (al, ro, fl (ml M [32] [S1])) _ _ _ _
  refine e_istoren (pc := 8) (i := 2) dX12_has_8 rfl (by decide) rfl ?_
  show Ev g _ _ _ _ _ _ 9 [some (x_r (16 * 32 + 0)), some (x_r (x_s0 + w)), some (x_i (S1 0 11)), none] [] (al, ro, fl (ml M [32] [S1])) _ _ _ _
  obtain ⟨v4, hl5, hG⟩ := x_bd1 hG
  have hk5 : ∀ q : Int, q = v4 → Ev g yX12_has cX12_has 4 (some .boolean) [] 6 38 [some (x_r (16 * 32 + 0)), some (x_r (x_s0 + w)), some (x_i q), none] [] (al, ro, fl (ml M [32] [S1])) 0 0 (.inl (some (x_i t.1))) (al, ro, fl (ml M [32] [t.2])) := by
    intro q hq
    replace hq := hq.symm
    subst hq
    refine e_iloadn (pc := 38) (i := 2) dX12_has_38 rfl rfl ?_
    refine e_aloadn (pc := 39) (i := 0) dX12_has_39 rfl rfl ?_
    refine f_geti (pc := 40) (k := 0) (u := 32) (q := 0) dX12_has_40 xf12_82 (sa_32_0 hs) rfl hn rfl rfl (by decide) ?_
    show Ev g _ _ _ _ _ _ 43 [some (x_r (16 * 32 + 0)), some (x_r (x_s0 + w)), some (x_i v4), none] [x_i (S1 0 11), x_i v4] (al, ro, fl (ml M [32] [S1])) _ _ _ _
    refine e_isub (pc := 43) dX12_has_43 ?_
    refine e_aloadn (pc := 44) (i := 1) dX12_has_44 rfl rfl ?_
    refine e_invV (pc := 45) (K1 := 0) (S1 := 0) (K := 0) (S := 0) (dd2 := 5) (av := []) (st := [x_i (x_sub v4 (S1 0 11))]) (id := x_s0 + w) dX12_has_45 xmX12_95 rfl (Or.inr ⟨w, hw, rfl, rfl⟩) (p_length hst hw) (by decide) (Nat.le_of_ble_eq_true rfl) (Or.inl rfl) ?_
    show Ev g _ _ _ _ _ _ 48 [some (x_r (16 * 32 + 0)), some (x_r (x_s0 + w)), some (x_i v4), none] [x_i ((x_sl.getD w 0 : Nat) : Int), x_i (x_sub v4 (S1 0 11))] (al, ro, fl (ml M [32] [S1])) _ _ _ _
    refine e_icmp_eq (pc := 48) (tgt := 53) dX12_has_48 (by decide) (fun hb => ?_) (fun hb => ?_)
    · rw [if_pos hb] at hG
      refine e_iconst (pc := 53) dX12_has_53 (x_R rfl) ?_
      refine e_istoren (pc := 54) (i := 3) dX12_has_54 rfl (by decide) rfl ?_
      show Ev g _ _ _ _ _ _ 55 [some (x_r (16 * 32 + 0)), some (x_r (x_s0 + w)), some (x_i v4), some (x_i 0)] [] (al, ro, fl (ml M [32] [S1])) _ _ _ _
      obtain ⟨r12, hl12, hG⟩ := x_lrd hG
      have hk12 : ∀ q : Unit, r12 = .inl q → Ev g yX12_has cX12_has 4 (some .boolean) [] 6 89 [some (x_r (16 * 32 + 0)), some (x_r (x_s0 + w)), some (x_i v4), none] [] (al, ro, fl (ml M [32] [S1])) 0 0 (.inl (some (x_i t.1))) (al, ro, fl (ml M [32] [t.2])) := by
        intro q hq
        subst hq
        replace hG := x_lr_l hG
        replace hG := x_ed1 hG
        refine e_aloadn (pc := 89) (i := 0) dX12_has_89 rfl rfl ?_
        refine e_iloadn (pc := 90) (i := 2) dX12_has_90 rfl rfl ?_
        refine f_puti (pc := 91) (k := 0) (u := 32) (q := 0) dX12_has_91 xf12_82 xw10_11 (sa_32_0 hs) hn rfl rfl rfl (by decide) ?_
        show Ev g _ _ _ _ _ _ 94 [some (x_r (16 * 32 + 0)), some (x_r (x_s0 + w)), some (x_i v4), none] [] (al, ro, fl (ml M [32] [(x_up S1 0 11 v4)])) _ _ _ _
        refine e_iconst (pc := 94) dX12_has_94 (x_R rfl) ?_
        cases hG
        exact (e_ireturn rfl dX12_has_95 (x_bool (by decide)).1)
      have hv12 : ∀ q : (Int × xU), r12 = .inr q → some q = some t := by
        intro q hq
        subst hq
        exact x_lr_r hG
      clear hG
      refine e_whl (G12_has_L55 w S1) (fun z : Int => Ev g yX12_has cX12_has 4 (some .boolean) [] 6 55 [some (x_r (16 * 32 + 0)), some (x_r (x_s0 + w)), some (x_i v4), some (x_i z)] [] (al, ro, fl (ml M [32] [S1])) 0 0 (.inl (some (x_i t.1))) (al, ro, fl (ml M [32] [t.2]))) (fun q => q = r12) ?_ xFU 0 _ hl12 rfl
      intro z t12 hf12 hi12 hx12
      obtain ⟨v11, hzz⟩ : ∃ y, y = z := ⟨z, rfl⟩
      subst hzz
      rw [G12_has_L55] at hf12
      show Ev g _ _ _ _ _ _ 55 [some (x_r (16 * 32 + 0)), some (x_r (x_s0 + w)), some (x_i v4), some (x_i v11)] [] (al, ro, fl (ml M [32] [S1])) _ _ _ _
      refine e_iloadn (pc := 55) (i := 3) dX12_has_55 rfl rfl ?_
      refine e_aloadn (pc := 56) (i := 1) dX12_has_56 rfl rfl ?_
      refine e_invV (pc := 57) (K1 := 0) (S1 := 0) (K := 0) (S := 0) (dd2 := 5) (av := []) (st := [x_i v11]) (id := x_s0 + w) dX12_has_57 xmX12_95 rfl (Or.inr ⟨w, hw, rfl, rfl⟩) (p_length hst hw) (by decide) (Nat.le_of_ble_eq_true rfl) (Or.inl rfl) ?_
      show Ev g _ _ _ _ _ _ 60 [some (x_r (16 * 32 + 0)), some (x_r (x_s0 + w)), some (x_i v4), some (x_i v11)] [x_i ((x_sl.getD w 0 : Nat) : Int), x_i v11] (al, ro, fl (ml M [32] [S1])) _ _ _ _
      refine e_icmp_ge (pc := 60) (tgt := 89) dX12_has_60 (by decide) (fun hb => ?_) (fun hb => ?_)
      · rw [if_pos hb] at hf12
        cases hf12
        refine e_drop (i := 3) ?_
        exact hk12 _ (hx12 _ rfl).symm
      · rw [if_neg hb] at hf12
        refine e_aloadn (pc := 63) (i := 0) dX12_has_63 rfl rfl ?_
        refine e_aloadn (pc := 64) (i := 0) dX12_has_64 rfl rfl ?_
        refine f_geti (pc := 65) (k := 0) (u := 32) (q := 0) dX12_has_65 xf12_82 (sa_32_0 hs) rfl hn rfl rfl (by decide) ?_
        show Ev g _ _ _ _ _ _ 68 [some (x_r (16 * 32 + 0)), some (x_r (x_s0 + w)), some (x_i v4), some (x_i v11)] [x_i (S1 0 11), x_r (16 * 32 + 0)] (al, ro, fl (ml M [32] [S1])) _ _ _ _
        refine e_iloadn (pc := 68) (i := 3) dX12_has_68 rfl rfl ?_
        refine e_iadd (pc := 69) dX12_has_69 ?_
        obtain ⟨v14, hq14, hf12⟩ := x_bd1 hf12
        refine e_invV (pc := 70) (K1 := 0) (S1 := 0) (K := 0) (S := 0) (dd2 := 0) (av := [x_i (x_add (S1 0 11) v11)]) (st := []) (id := 16 * 32 + 0) dX12_has_70 xmX12_88 rfl (Or.inl ⟨10, 27, TX12, (sa_32_0 hs), rfl, by decide⟩) (f_cal (M := M) (us2 := [32]) [0] hn rfl (And.intro rfl trivial) rfl rfl rfl (c_X12_letter hst hs   hq14)) (by decide) (Nat.le_of_ble_eq_true rfl) (Or.inl rfl) ?_
        show Ev g _ _ _ _ _ _ 73 [some (x_r (16 * 32 + 0)), some (x_r (x_s0 + w)), some (x_i v4), some (x_i v11)] [x_i v14] (al, ro, fl (ml M [32] [S1])) _ _ _ _
        refine e_aloadn (pc := 73) (i := 1) dX12_has_73 rfl rfl ?_
        refine e_iloadn (pc := 74) (i := 3) dX12_has_74 rfl rfl ?_
        obtain ⟨hc0, hf12⟩ := x_gd_some hf12
        refine e_invV (pc := 75) (K1 := 0) (S1 := 0) (K := 0) (S := 0) (dd2 := 5) (av := [x_i v11]) (st := [x_i v14]) (id := x_s0 + w) dX12_has_75 xmX12_101 rfl (Or.inr ⟨w, hw, rfl, rfl⟩) (p_charAt hst hw hc0) (by decide) (Nat.le_of_ble_eq_true rfl) (Or.inl rfl) ?_
        show Ev g _ _ _ _ _ _ 78 [some (x_r (16 * 32 + 0)), some (x_r (x_s0 + w)), some (x_i v4), some (x_i v11)] [x_i (x_ch w v11), x_i v14] (al, ro, fl (ml M [32] [S1])) _ _ _ _
        refine e_icmp_eq (pc := 78) (tgt := 83) dX12_has_78 (by decide) (fun hb => ?_) (fun hb => ?_)
        · rw [if_pos hb] at hf12
          refine e_iinc (pc := 83) dX12_has_83 rfl (by decide) rfl ?_
          show Ev g _ _ _ _ _ _ 86 [some (x_r (16 * 32 + 0)), some (x_r (x_s0 + w)), some (x_i v4), some (x_i (x_add v11 1))] [] (al, ro, fl (ml M [32] [S1])) _ _ _ _
          refine e_goto (pc := 86) (tgt := 55) dX12_has_86 (by decide) ?_
          cases hf12
          exact hi12 _ rfl
        · rw [if_neg hb] at hf12
          refine e_iconst (pc := 81) dX12_has_81 (x_R rfl) ?_
          cases hf12
          have hz := hv12 _ (hx12 _ rfl).symm
          cases hz
          exact (e_ireturn rfl dX12_has_82 (x_bool (by decide)).1)
    · rw [if_neg hb] at hG
      refine e_iconst (pc := 51) dX12_has_51 (x_R rfl) ?_
      cases hG
      exact (e_ireturn rfl dX12_has_52 (x_bool (by decide)).1)
  clear hG
  refine e_whl (G12_has_L9 S1) (fun z : Int => Ev g yX12_has cX12_has 4 (some .boolean) [] 6 9 [some (x_r (16 * 32 + 0)), some (x_r (x_s0 + w)), some (x_i z), none] [] (al, ro, fl (ml M [32] [S1])) 0 0 (.inl (some (x_i t.1))) (al, ro, fl (ml M [32] [t.2]))) (fun q => q = v4) ?_ xFU (S1 0 11) _ hl5 rfl
  intro z t5 hf5 hi5 hx5
  obtain ⟨v3, hzz⟩ : ∃ y, y = z := ⟨z, rfl⟩
  subst hzz
  rw [G12_has_L9] at hf5
  show Ev g _ _ _ _ _ _ 9 [some (x_r (16 * 32 + 0)), some (x_r (x_s0 + w)), some (x_i v3), none] [] (al, ro, fl (ml M [32] [S1])) _ _ _ _
  refine e_iloadn (pc := 9) (i := 2) dX12_has_9 rfl rfl ?_
  refine e_aloadn (pc := 10) (i := 0) dX12_has_10 rfl rfl ?_
  refine f_geti (pc := 11) (k := 0) (u := 32) (q := 0) dX12_has_11 xf12_85 (sa_32_0 hs) rfl hn rfl rfl (by decide) ?_
  show Ev g _ _ _ _ _ _ 14 [some (x_r (16 * 32 + 0)), some (x_r (x_s0 + w)), some (x_i v3), none] [x_i (S1 0 10), x_i v3] (al, ro, fl (ml M [32] [S1])) _ _ _ _
  refine e_icmp_ge (pc := 14) (tgt := 38) dX12_has_14 (by decide) (fun hb => ?_) (fun hb => ?_)
  · rw [if_pos hb] at hf5
    cases hf5
    exact hk5 _ (hx5 _ rfl)
  · rw [if_neg hb] at hf5
    refine e_aloadn (pc := 17) (i := 0) dX12_has_17 rfl rfl ?_
    refine e_iloadn (pc := 18) (i := 2) dX12_has_18 rfl rfl ?_
    obtain ⟨v7, hq7, hf5⟩ := x_bd1 hf5
    refine e_invV (pc := 19) (K1 := 0) (S1 := 0) (K := 0) (S := 0) (dd2 := 0) (av := [x_i v3]) (st := []) (id := 16 * 32 + 0) dX12_has_19 xmX12_88 rfl (Or.inl ⟨10, 27, TX12, (sa_32_0 hs), rfl, by decide⟩) (f_cal (M := M) (us2 := [32]) [0] hn rfl (And.intro rfl trivial) rfl rfl rfl (c_X12_letter hst hs   hq7)) (by decide) (Nat.le_of_ble_eq_true rfl) (Or.inl rfl) ?_
    show Ev g _ _ _ _ _ _ 22 [some (x_r (16 * 32 + 0)), some (x_r (x_s0 + w)), some (x_i v3), none] [x_i v7] (al, ro, fl (ml M [32] [S1])) _ _ _ _
    refine e_bipush (pc := 22) dX12_has_22 (by decide +kernel) (x_R rfl) ?_
    refine e_bipush (pc := 24) dX12_has_24 (by decide +kernel) (x_R rfl) ?_
    obtain ⟨v9, hq9, hf5⟩ := x_bd1 hf5
    refine e_invS (pc := 26) (K1 := 0) (S1 := 0) (K := 0) (S := 0) (dd2 := 0) (av := [x_i v7, x_i 97, x_i 122]) (st := []) dX12_has_26 xmX12_61 rfl (f_cal (M := M) (us2 := []) [] hn rfl trivial rfl rfl rfl (c_X12_isIn hst hs   hq9)) (by decide) (Nat.le_of_ble_eq_true rfl) (Or.inl rfl) ?_
    show Ev g _ _ _ _ _ _ 29 [some (x_r (16 * 32 + 0)), some (x_r (x_s0 + w)), some (x_i v3), none] [x_i v9] (al, ro, fl (ml M [32] [S1])) _ _ _ _
    refine e_if_eq (pc := 29) (tgt := 38) dX12_has_29 (by decide) (fun hb => ?_) (fun hb => ?_)
    · rw [if_pos hb] at hf5
      cases hf5
      exact hk5 _ (hx5 _ rfl)
    · rw [if_neg hb] at hf5
      refine e_iinc (pc := 32) dX12_has_32 rfl (by decide) rfl ?_
      show Ev g _ _ _ _ _ _ 35 [some (x_r (16 * 32 + 0)), some (x_r (x_s0 + w)), some (x_i (x_add v3 1)), none] [] (al, ro, fl (ml M [32] [S1])) _ _ _ _
      refine e_goto (pc := 35) (tgt := 9) dX12_has_35 (by decide) ?_
      cases hf5
      exact hi5 _ rfl
def G12_wrong (a : Int) (S : xU) : Option xU :=
  (x_b1 (if (S 0 12) = (-1) then (some (x_up S 0 12 a)) else (some S)) fun (S1 : xU) => (some S1))
set_option maxRecDepth 100000 in
set_option maxHeartbeats 4000000 in
theorem c_X12_wrong {g : xG} {al : List (Nat × Nat × Nat)} {ro : Nat → Nat → Option Nat} (hst : g.1.stackTraces = false) (hs : SH al ro) {M : Nat → xU} {a : Int} {S : xU} {t : xU} (hG : G12_wrong a S = some t) :
    Cal g yX12_wrong cX12_wrong 2 none 0 [x_r (16 * 32 + 0), x_i a] (al, ro, fl (ml M [32] [S])) 0 0 (.inl none) (al, ro, fl (ml M [32] [t])) := by
  have hn : ([32] : List Nat).Nodup := by decide
  refine cal_of_ev (by decide) (x_c1 rfl) (Nat.le_of_ble_eq_true rfl) hst ?_
  show Ev g _ _ _ _ _ _ 0 [some (x_r (16 * 32 + 0)), some (x_i a)] [] (al, ro, fl (ml M [32] [S])) _ _ _ _
  rw [G12_wrong] at hG
  refine e_aloadn (pc := 0) (i := 0) dX12_wrong_0 rfl rfl ?_
  refine f_geti (pc := 1) (k := 0) (u := 32) (q := 0) dX12_wrong_1 xf12_25 (sa_32_0 hs) rfl hn rfl rfl (by decide) ?_
  show Ev g _ _ _ _ _ _ 4 [some (x_r (16 * 32 + 0)), some (x_i a)] [x_i (S 0 12)] (al, ro, fl (ml M [32] [S])) _ _ _ _
  refine e_iconst (pc := 4) dX12_wrong_4 (x_R rfl) ?_
  obtain ⟨S1, hr1, hG⟩ := x_bd1 hG
  have hjhr1 : Ev g yX12_wrong cX12_wrong 2 none [] 0 13 [some (x_r (16 * 32 + 0)), some (x_i a)] [] (al, ro, fl (ml M [32] [S1])) 0 0 (.inl none) (al, ro, fl (ml M [32] [t])) := by
    cases hG
    exact (e_return rfl dX12_wrong_13)
  clear hG
  refine e_icmp_ne (pc := 5) (tgt := 13) dX12_wrong_5 (by decide) (fun hb => ?_) (fun hb => ?_)
  · rw [if_neg hb] at hr1
    cases hr1
    exact hjhr1
  · rw [if_pos hb] at hr1
    refine e_aloadn (pc := 8) (i := 0) dX12_wrong_8 rfl rfl ?_
    refine e_iloadn (pc := 9) (i := 1) dX12_wrong_9 rfl rfl ?_
    refine f_puti (pc := 10) (k := 0) (u := 32) (q := 0) dX12_wrong_10 xf12_25 xw10_12 (sa_32_0 hs) hn rfl rfl rfl (by decide) ?_
    show Ev g _ _ _ _ _ _ 13 [some (x_r (16 * 32 + 0)), some (x_i a)] [] (al, ro, fl (ml M [32] [(x_up S 0 12 a)])) _ _ _ _
    cases hr1
    exact hjhr1
def G12_here (S : xU) : Option (Int × xU) :=
  (x_b1 (G12_skip S) fun (S1 : xU) => (some ((S1 0 11), S1)))
set_option maxRecDepth 100000 in
set_option maxHeartbeats 4000000 in
theorem c_X12_here {g : xG} {al : List (Nat × Nat × Nat)} {ro : Nat → Nat → Option Nat} (hst : g.1.stackTraces = false) (hs : SH al ro) {M : Nat → xU} {S : xU} {t : (Int × xU)} (hG : G12_here S = some t) :
    Cal g yX12_here cX12_here 1 (some .int) 2 [x_r (16 * 32 + 0)] (al, ro, fl (ml M [32] [S])) 0 0 (.inl (some (x_i t.1))) (al, ro, fl (ml M [32] [t.2])) := by
  have hn : ([32] : List Nat).Nodup := by decide
  refine cal_of_ev (by decide) (x_c1 rfl) (Nat.le_of_ble_eq_true rfl) hst ?_
  show Ev g _ _ _ _ _ _ 0 [some (x_r (16 * 32 + 0))] [] (al, ro, fl (ml M [32] [S])) _ _ _ _
  rw [G12_here] at hG
  refine e_aloadn (pc := 0) (i := 0) dX12_here_0 rfl rfl ?_
  obtain ⟨S1, hq1, hG⟩ := x_bd1 hG
  refine e_invV (pc := 1) (K1 := 0) (S1 := 0) (K := 0) (S := 0) (dd2 := 1) (av := []) (st := []) (id := 16 * 32 + 0) dX12_here_1 xmX12_92 rfl (Or.inl ⟨10, 27, TX12, (sa_32_0 hs), rfl, by decide⟩) (f_cal (M := M) (us2 := [32]) [0] hn rfl (And.intro rfl trivial) rfl rfl rfl (c_X12_skip hst hs   hq1)) (by decide) (Nat.le_of_ble_eq_true rfl) (Or.inl rfl) ?_
  show Ev g _ _ _ _ _ _ 4 [some (x_r (16 * 32 + 0))] [] (al, ro, fl (ml M [32] [S1])) _ _ _ _
  refine e_aloadn (pc := 4) (i := 0) dX12_here_4 rfl rfl ?_
  refine f_geti (pc := 5) (k := 0) (u := 32) (q := 0) dX12_here_5 xf12_82 (sa_32_0 hs) rfl hn rfl rfl (by decide) ?_
  show Ev g _ _ _ _ _ _ 8 [some (x_r (16 * 32 + 0))] [x_i (S1 0 11)] (al, ro, fl (ml M [32] [S1])) _ _ _ _
  cases hG
  exact (e_ireturn rfl dX12_here_8 rfl)
def G12_figures_L18 (v1 : Int) : (Int × xU) → Option ((Int × xU) ⊕ (Int × xU))
  | (v4, S5) => (if (S5 0 10) ≤ (S5 0 11) then (some (.inr (v4, S5))) else (x_b1 (G12_letter (S5 0 11) S5) fun (v10 : Int) => (x_b1 (G12_isIn v10 48 57) fun (v12 : Int) => (if v12 = 0 then (some (.inr (v4, S5))) else (if 3 < (x_sub (S5 0 11) v1) then (some (.inr (v4, S5))) else (x_b1 (G12_letter (S5 0 11) S5) fun (v14 : Int) => (some (.inl ((x_sub (x_add (x_mul 10 v4) v14) 48), (x_up S5 0 11 (x_add (S5 0 11) 1)))))))))))
def G12_figures (a : Int) (b : Int) (S : xU) : Option (Int × xU) :=
  (if (S 0 12) = (-1) then (x_b2 (G12_here S) fun (v1 : Int) (S2 : xU) => (x_b2 (whl xFU (G12_figures_L18 v1) (0, S2)) fun (v6 : Int) (S7 : xU) => (x_b1 (if (S7 0 11) = v1 then (x_b1 (G12_wrong v1 S7) fun (S18 : xU) => (some S18)) else (if 3 < (x_sub (S7 0 11) v1) then (x_b1 (G12_wrong v1 S7) fun (S20 : xU) => (some S20)) else (if v6 < a then (x_b1 (G12_wrong v1 S7) fun (S22 : xU) => (some S22)) else (if v6 ≤ b then (some S7) else (x_b1 (G12_wrong v1 S7) fun (S24 : xU) => (some S24)))))) fun (S16 : xU) => (some (v6, S16))))) else (some (0, S)))
set_option maxRecDepth 100000 in
set_option maxHeartbeats 4000000 in
theorem c_X12_figures {g : xG} {al : List (Nat × Nat × Nat)} {ro : Nat → Nat → Option Nat} (hst : g.1.stackTraces = false) (hs : SH al ro) {M : Nat → xU} {a : Int} {b : Int} {S : xU} {t : (Int × xU)} (hG : G12_figures a b S = some t) :
    Cal g yX12_figures cX12_figures 5 (some .int) 3 [x_r (16 * 32 + 0), x_i a, x_i b] (al, ro, fl (ml M [32] [S])) 0 0 (.inl (some (x_i t.1))) (al, ro, fl (ml M [32] [t.2])) := by
  have hn : ([32] : List Nat).Nodup := by decide
  refine cal_of_ev (by decide) (x_c1 rfl) (Nat.le_of_ble_eq_true rfl) hst ?_
  show Ev g _ _ _ _ _ _ 0 [some (x_r (16 * 32 + 0)), some (x_i a), some (x_i b), none, none] [] (al, ro, fl (ml M [32] [S])) _ _ _ _
  rw [G12_figures] at hG
  refine e_aloadn (pc := 0) (i := 0) dX12_figures_0 rfl rfl ?_
  refine f_geti (pc := 1) (k := 0) (u := 32) (q := 0) dX12_figures_1 xf12_25 (sa_32_0 hs) rfl hn rfl rfl (by decide) ?_
  show Ev g _ _ _ _ _ _ 4 [some (x_r (16 * 32 + 0)), some (x_i a), some (x_i b), none, none] [x_i (S 0 12)] (al, ro, fl (ml M [32] [S])) _ _ _ _
  refine e_iconst (pc := 4) dX12_figures_4 (x_R rfl) ?_
  refine e_icmp_eq (pc := 5) (tgt := 10) dX12_figures_5 (by decide) (fun hb => ?_) (fun hb => ?_)
  · rw [if_pos hb] at hG
    refine e_aloadn (pc := 10) (i := 0) dX12_figures_10 rfl rfl ?_
    obtain ⟨v1, S2, hq2, hG⟩ := x_bd2 hG
    refine e_invV (pc := 11) (K1 := 0) (S1 := 0) (K := 0) (S := 0) (dd2 := 2) (av := []) (st := []) (id := 16 * 32 + 0) dX12_figures_11 xmX12_105 rfl (Or.inl ⟨10, 27, TX12, (sa_32_0 hs), rfl, by decide⟩) (f_cal (M := M) (us2 := [32]) [0] hn rfl (And.intro rfl trivial) rfl rfl rfl (c_X12_here hst hs   hq2)) (by decide) (Nat.le_of_ble_eq_true rfl) (Or.inl rfl) ?_
    show Ev g _ _ _ _ _ _ 14 [some (x_r (16 * 32 + 0)), some (x_i a), some (x_i b), none, none] [x_i v1] (al, ro, fl (ml M [32] [S2])) _ _ _ _
    refine e_istoren (pc := 14) (i := 3) dX12_figures_14 rfl (by decide) rfl ?_
    show Ev g _ _ _ _ _ _ 15 [some (x_r (16 * 32 + 0)), some (x_i a), some (x_i b), some (x_i v1), none] [] (al, ro, fl (ml M [32] [S2])) _ _ _ _
    refine e_iconst (pc := 15) dX12_figures_15 (x_R rfl) ?_
    refine e_istore (pc := 16) (i := 4) dX12_figures_16 (by decide) rfl ?_
    show Ev g _ _ _ _ _ _ 18 [some (x_r (16 * 32 + 0)), some (x_i a), some (x_i b), some (x_i v1), some (x_i 0)] [] (al, ro, fl (ml M [32] [S2])) _ _ _ _
    obtain ⟨v6, S7, hl8, hG⟩ := x_bd2 hG
    have hk8 : ∀ q : (Int × xU), q = (v6, S7) → Ev g yX12_figures cX12_figures 5 (some .int) [] 3 89 [some (x_r (16 * 32 + 0)), some (x_i a), some (x_i b), some (x_i v1), some (x_i q.1)] [] (al, ro, fl (ml M [32] [q.2])) 0 0 (.inl (some (x_i t.1))) (al, ro, fl (ml M [32] [t.2])) := by
      intro q hq
      cases hq
      refine e_aloadn (pc := 89) (i := 0) dX12_figures_89 rfl rfl ?_
      refine f_geti (pc := 90) (k := 0) (u := 32) (q := 0) dX12_figures_90 xf12_82 (sa_32_0 hs) rfl hn rfl rfl (by decide) ?_
      show Ev g _ _ _ _ _ _ 93 [some (x_r (16 * 32 + 0)), some (x_i a), some (x_i b), some (x_i v1), some (x_i v6)] [x_i (S7 0 11)] (al, ro, fl (ml M [32] [S7])) _ _ _ _
      refine e_iloadn (pc := 93) (i := 3) dX12_figures_93 rfl rfl ?_
      obtain ⟨S16, hr16, hG⟩ := x_bd1 hG
      have hjhr16 : Ev g yX12_figures cX12_figures 5 (some .int) [] 3 124 [some (x_r (16 * 32 + 0)), some (x_i a), some (x_i b), some (x_i v1), some (x_i v6)] [] (al, ro, fl (ml M [32] [S16])) 0 0 (.inl (some (x_i t.1))) (al, ro, fl (ml M [32] [t.2])) := by
        refine e_iload (pc := 124) dX12_figures_124 rfl ?_
        cases hG
        exact (e_ireturn rfl dX12_figures_126 rfl)
      clear hG
      refine e_icmp_eq (pc := 94) (tgt := 119) dX12_figures_94 (by decide) (fun hb => ?_) (fun hb => ?_)
      · rw [if_pos hb] at hr16
        refine e_aloadn (pc := 119) (i := 0) dX12_figures_119 rfl rfl ?_
        refine e_iloadn (pc := 120) (i := 3) dX12_figures_120 rfl rfl ?_
        obtain ⟨S18, hq18, hr16⟩ := x_bd1 hr16
        refine e_invV (pc := 121) (K1 := 0) (S1 := 0) (K := 0) (S := 0) (dd2 := 0) (av := [x_i v1]) (st := []) (id := 16 * 32 + 0) dX12_figures_121 xmX12_108 rfl (Or.inl ⟨10, 27, TX12, (sa_32_0 hs), rfl, by decide⟩) (f_cal (M := M) (us2 := [32]) [0] hn rfl (And.intro rfl trivial) rfl rfl rfl (c_X12_wrong hst hs   hq18)) (by decide) (Nat.le_of_ble_eq_true rfl) (Or.inl rfl) ?_
        show Ev g _ _ _ _ _ _ 124 [some (x_r (16 * 32 + 0)), some (x_i a), some (x_i b), some (x_i v1), some (x_i v6)] [] (al, ro, fl (ml M [32] [S18])) _ _ _ _
        cases hr16
        exact hjhr16
      · rw [if_neg hb] at hr16
        refine e_aloadn (pc := 97) (i := 0) dX12_figures_97 rfl rfl ?_
        refine f_geti (pc := 98) (k := 0) (u := 32) (q := 0) dX12_figures_98 xf12_82 (sa_32_0 hs) rfl hn rfl rfl (by decide) ?_
        show Ev g _ _ _ _ _ _ 101 [some (x_r (16 * 32 + 0)), some (x_i a), some (x_i b), some (x_i v1), some (x_i v6)] [x_i (S7 0 11)] (al, ro, fl (ml M [32] [S7])) _ _ _ _
        refine e_iloadn (pc := 101) (i := 3) dX12_figures_101 rfl rfl ?_
        refine e_isub (pc := 102) dX12_figures_102 ?_
        refine e_iconst (pc := 103) dX12_figures_103 (x_R rfl) ?_
        refine e_icmp_gt (pc := 104) (tgt := 119) dX12_figures_104 (by decide) (fun hb => ?_) (fun hb => ?_)
        · rw [if_pos hb] at hr16
          refine e_aloadn (pc := 119) (i := 0) dX12_figures_119 rfl rfl ?_
          refine e_iloadn (pc := 120) (i := 3) dX12_figures_120 rfl rfl ?_
          obtain ⟨S20, hq20, hr16⟩ := x_bd1 hr16
          refine e_invV (pc := 121) (K1 := 0) (S1 := 0) (K := 0) (S := 0) (dd2 := 0) (av := [x_i v1]) (st := []) (id := 16 * 32 + 0) dX12_figures_121 xmX12_108 rfl (Or.inl ⟨10, 27, TX12, (sa_32_0 hs), rfl, by decide⟩) (f_cal (M := M) (us2 := [32]) [0] hn rfl (And.intro rfl trivial) rfl rfl rfl (c_X12_wrong hst hs   hq20)) (by decide) (Nat.le_of_ble_eq_true rfl) (Or.inl rfl) ?_
          show Ev g _ _ _ _ _ _ 124 [some (x_r (16 * 32 + 0)), some (x_i a), some (x_i b), some (x_i v1), some (x_i v6)] [] (al, ro, fl (ml M [32] [S20])) _ _ _ _
          cases hr16
          exact hjhr16
        · rw [if_neg hb] at hr16
          refine e_iload (pc := 107) dX12_figures_107 rfl ?_
          refine e_iloadn (pc := 109) (i := 1) dX12_figures_109 rfl rfl ?_
          refine e_icmp_lt (pc := 110) (tgt := 119) dX12_figures_110 (by decide) (fun hb => ?_) (fun hb => ?_)
          · rw [if_pos hb] at hr16
            refine e_aloadn (pc := 119) (i := 0) dX12_figures_119 rfl rfl ?_
            refine e_iloadn (pc := 120) (i := 3) dX12_figures_120 rfl rfl ?_
            obtain ⟨S22, hq22, hr16⟩ := x_bd1 hr16
            refine e_invV (pc := 121) (K1 := 0) (S1 := 0) (K := 0) (S := 0) (dd2 := 0) (av := [x_i v1]) (st := []) (id := 16 * 32 + 0) dX12_figures_121 xmX12_108 rfl (Or.inl ⟨10, 27, TX12, (sa_32_0 hs), rfl, by decide⟩) (f_cal (M := M) (us2 := [32]) [0] hn rfl (And.intro rfl trivial) rfl rfl rfl (c_X12_wrong hst hs   hq22)) (by decide) (Nat.le_of_ble_eq_true rfl) (Or.inl rfl) ?_
            show Ev g _ _ _ _ _ _ 124 [some (x_r (16 * 32 + 0)), some (x_i a), some (x_i b), some (x_i v1), some (x_i v6)] [] (al, ro, fl (ml M [32] [S22])) _ _ _ _
            cases hr16
            exact hjhr16
          · rw [if_neg hb] at hr16
            refine e_iload (pc := 113) dX12_figures_113 rfl ?_
            refine e_iloadn (pc := 115) (i := 2) dX12_figures_115 rfl rfl ?_
            refine e_icmp_le (pc := 116) (tgt := 124) dX12_figures_116 (by decide) (fun hb => ?_) (fun hb => ?_)
            · rw [if_pos hb] at hr16
              cases hr16
              exact hjhr16
            · rw [if_neg hb] at hr16
              refine e_aloadn (pc := 119) (i := 0) dX12_figures_119 rfl rfl ?_
              refine e_iloadn (pc := 120) (i := 3) dX12_figures_120 rfl rfl ?_
              obtain ⟨S24, hq24, hr16⟩ := x_bd1 hr16
              refine e_invV (pc := 121) (K1 := 0) (S1 := 0) (K := 0) (S := 0) (dd2 := 0) (av := [x_i v1]) (st := []) (id := 16 * 32 + 0) dX12_figures_121 xmX12_108 rfl (Or.inl ⟨10, 27, TX12, (sa_32_0 hs), rfl, by decide⟩) (f_cal (M := M) (us2 := [32]) [0] hn rfl (And.intro rfl trivial) rfl rfl rfl (c_X12_wrong hst hs   hq24)) (by decide) (Nat.le_of_ble_eq_true rfl) (Or.inl rfl) ?_
              show Ev g _ _ _ _ _ _ 124 [some (x_r (16 * 32 + 0)), some (x_i a), some (x_i b), some (x_i v1), some (x_i v6)] [] (al, ro, fl (ml M [32] [S24])) _ _ _ _
              cases hr16
              exact hjhr16
    clear hG
    refine e_whl (G12_figures_L18 v1) (fun z : (Int × xU) => Ev g yX12_figures cX12_figures 5 (some .int) [] 3 18 [some (x_r (16 * 32 + 0)), some (x_i a), some (x_i b), some (x_i v1), some (x_i z.1)] [] (al, ro, fl (ml M [32] [z.2])) 0 0 (.inl (some (x_i t.1))) (al, ro, fl (ml M [32] [t.2]))) (fun q => q = (v6, S7)) ?_ xFU (0, S2) _ hl8 rfl
    intro z t8 hf8 hi8 hx8
    obtain ⟨v4, S5⟩ := z
    rw [G12_figures_L18] at hf8
    show Ev g _ _ _ _ _ _ 18 [some (x_r (16 * 32 + 0)), some (x_i a), some (x_i b), some (x_i v1), some (x_i v4)] [] (al, ro, fl (ml M [32] [S5])) _ _ _ _
    refine e_aloadn (pc := 18) (i := 0) dX12_figures_18 rfl rfl ?_
    refine f_geti (pc := 19) (k := 0) (u := 32) (q := 0) dX12_figures_19 xf12_82 (sa_32_0 hs) rfl hn rfl rfl (by decide) ?_
    show Ev g _ _ _ _ _ _ 22 [some (x_r (16 * 32 + 0)), some (x_i a), some (x_i b), some (x_i v1), some (x_i v4)] [x_i (S5 0 11)] (al, ro, fl (ml M [32] [S5])) _ _ _ _
    refine e_aloadn (pc := 22) (i := 0) dX12_figures_22 rfl rfl ?_
    refine f_geti (pc := 23) (k := 0) (u := 32) (q := 0) dX12_figures_23 xf12_85 (sa_32_0 hs) rfl hn rfl rfl (by decide) ?_
    show Ev g _ _ _ _ _ _ 26 [some (x_r (16 * 32 + 0)), some (x_i a), some (x_i b), some (x_i v1), some (x_i v4)] [x_i (S5 0 10), x_i (S5 0 11)] (al, ro, fl (ml M [32] [S5])) _ _ _ _
    refine e_icmp_ge (pc := 26) (tgt := 89) dX12_figures_26 (by decide) (fun hb => ?_) (fun hb => ?_)
    · rw [if_pos hb] at hf8
      cases hf8
      exact hk8 _ (hx8 _ rfl)
    · rw [if_neg hb] at hf8
      refine e_aloadn (pc := 29) (i := 0) dX12_figures_29 rfl rfl ?_
      refine e_aloadn (pc := 30) (i := 0) dX12_figures_30 rfl rfl ?_
      refine f_geti (pc := 31) (k := 0) (u := 32) (q := 0) dX12_figures_31 xf12_82 (sa_32_0 hs) rfl hn rfl rfl (by decide) ?_
      show Ev g _ _ _ _ _ _ 34 [some (x_r (16 * 32 + 0)), some (x_i a), some (x_i b), some (x_i v1), some (x_i v4)] [x_i (S5 0 11), x_r (16 * 32 + 0)] (al, ro, fl (ml M [32] [S5])) _ _ _ _
      obtain ⟨v10, hq10, hf8⟩ := x_bd1 hf8
      refine e_invV (pc := 34) (K1 := 0) (S1 := 0) (K := 0) (S := 0) (dd2 := 0) (av := [x_i (S5 0 11)]) (st := []) (id := 16 * 32 + 0) dX12_figures_34 xmX12_88 rfl (Or.inl ⟨10, 27, TX12, (sa_32_0 hs), rfl, by decide⟩) (f_cal (M := M) (us2 := [32]) [0] hn rfl (And.intro rfl trivial) rfl rfl rfl (c_X12_letter hst hs   hq10)) (by decide) (Nat.le_of_ble_eq_true rfl) (Or.inl rfl) ?_
      show Ev g _ _ _ _ _ _ 37 [some (x_r (16 * 32 + 0)), some (x_i a), some (x_i b), some (x_i v1), some (x_i v4)] [x_i v10] (al, ro, fl (ml M [32] [S5])) _ _ _ _
      refine e_bipush (pc := 37) dX12_figures_37 (by decide +kernel) (x_R rfl) ?_
      refine e_bipush (pc := 39) dX12_figures_39 (by decide +kernel) (x_R rfl) ?_
      obtain ⟨v12, hq12, hf8⟩ := x_bd1 hf8
      refine e_invS (pc := 41) (K1 := 0) (S1 := 0) (K := 0) (S := 0) (dd2 := 0) (av := [x_i v10, x_i 48, x_i 57]) (st := []) dX12_figures_41 xmX12_61 rfl (f_cal (M := M) (us2 := []) [] hn rfl trivial rfl rfl rfl (c_X12_isIn hst hs   hq12)) (by decide) (Nat.le_of_ble_eq_true rfl) (Or.inl rfl) ?_
      show Ev g _ _ _ _ _ _ 44 [some (x_r (16 * 32 + 0)), some (x_i a), some (x_i b), some (x_i v1), some (x_i v4)] [x_i v12] (al, ro, fl (ml M [32] [S5])) _ _ _ _
      refine e_if_eq (pc := 44) (tgt := 89) dX12_figures_44 (by decide) (fun hb => ?_) (fun hb => ?_)
      · rw [if_pos hb] at hf8
        cases hf8
        exact hk8 _ (hx8 _ rfl)
      · rw [if_neg hb] at hf8
        refine e_aloadn (pc := 47) (i := 0) dX12_figures_47 rfl rfl ?_
        refine f_geti (pc := 48) (k := 0) (u := 32) (q := 0) dX12_figures_48 xf12_82 (sa_32_0 hs) rfl hn rfl rfl (by decide) ?_
        show Ev g _ _ _ _ _ _ 51 [some (x_r (16 * 32 + 0)), some (x_i a), some (x_i b), some (x_i v1), some (x_i v4)] [x_i (S5 0 11)] (al, ro, fl (ml M [32] [S5])) _ _ _ _
        refine e_iloadn (pc := 51) (i := 3) dX12_figures_51 rfl rfl ?_
        refine e_isub (pc := 52) dX12_figures_52 ?_
        refine e_iconst (pc := 53) dX12_figures_53 (x_R rfl) ?_
        refine e_icmp_gt (pc := 54) (tgt := 89) dX12_figures_54 (by decide) (fun hb => ?_) (fun hb => ?_)
        · rw [if_pos hb] at hf8
          cases hf8
          exact hk8 _ (hx8 _ rfl)
        · rw [if_neg hb] at hf8
          refine e_bipush (pc := 57) dX12_figures_57 (by decide +kernel) (x_R rfl) ?_
          refine e_iload (pc := 59) dX12_figures_59 rfl ?_
          refine e_imul (pc := 61) dX12_figures_61 ?_
          refine e_aloadn (pc := 62) (i := 0) dX12_figures_62 rfl rfl ?_
          refine e_aloadn (pc := 63) (i := 0) dX12_figures_63 rfl rfl ?_
          refine f_geti (pc := 64) (k := 0) (u := 32) (q := 0) dX12_figures_64 xf12_82 (sa_32_0 hs) rfl hn rfl rfl (by decide) ?_
          show Ev g _ _ _ _ _ _ 67 [some (x_r (16 * 32 + 0)), some (x_i a), some (x_i b), some (x_i v1), some (x_i v4)] [x_i (S5 0 11), x_r (16 * 32 + 0), x_i (x_mul 10 v4)] (al, ro, fl (ml M [32] [S5])) _ _ _ _
          obtain ⟨v14, hq14, hf8⟩ := x_bd1 hf8
          refine e_invV (pc := 67) (K1 := 0) (S1 := 0) (K := 0) (S := 0) (dd2 := 0) (av := [x_i (S5 0 11)]) (st := [x_i (x_mul 10 v4)]) (id := 16 * 32 + 0) dX12_figures_67 xmX12_88 rfl (Or.inl ⟨10, 27, TX12, (sa_32_0 hs), rfl, by decide⟩) (f_cal (M := M) (us2 := [32]) [0] hn rfl (And.intro rfl trivial) rfl rfl rfl (c_X12_letter hst hs   hq14)) (by decide) (Nat.le_of_ble_eq_true rfl) (Or.inl rfl) ?_
          show Ev g _ _ _ _ _ _ 70 [some (x_r (16 * 32 + 0)), some (x_i a), some (x_i b), some (x_i v1), some (x_i v4)] [x_i v14, x_i (x_mul 10 v4)] (al, ro, fl (ml M [32] [S5])) _ _ _ _
          refine e_iadd (pc := 70) dX12_figures_70 ?_
          refine e_bipush (pc := 71) dX12_figures_71 (by decide +kernel) (x_R rfl) ?_
          refine e_isub (pc := 73) dX12_figures_73 ?_
          refine e_istore (pc := 74) (i := 4) dX12_figures_74 (by decide) rfl ?_
          show Ev g _ _ _ _ _ _ 76 [some (x_r (16 * 32 + 0)), some (x_i a), some (x_i b), some (x_i v1), some (x_i (x_sub (x_add (x_mul 10 v4) v14) 48))] [] (al, ro, fl (ml M [32] [S5])) _ _ _ _
          refine e_aloadn (pc := 76) (i := 0) dX12_figures_76 rfl rfl ?_
          refine e_dup (pc := 77) dX12_figures_77 rfl ?_
          refine f_geti (pc := 78) (k := 0) (u := 32) (q := 0) dX12_figures_78 xf12_82 (sa_32_0 hs) rfl hn rfl rfl (by decide) ?_
          show Ev g _ _ _ _ _ _ 81 [some (x_r (16 * 32 + 0)), some (x_i a), some (x_i b), some (x_i v1), some (x_i (x_sub (x_add (x_mul 10 v4) v14) 48))] [x_i (S5 0 11), x_r (16 * 32 + 0)] (al, ro, fl (ml M [32] [S5])) _ _ _ _
          refine e_iconst (pc := 81) dX12_figures_81 (x_R rfl) ?_
          refine e_iadd (pc := 82) dX12_figures_82 ?_
          refine f_puti (pc := 83) (k := 0) (u := 32) (q := 0) dX12_figures_83 xf12_82 xw10_11 (sa_32_0 hs) hn rfl rfl rfl (by decide) ?_
          show Ev g _ _ _ _ _ _ 86 [some (x_r (16 * 32 + 0)), some (x_i a), some (x_i b), some (x_i v1), some (x_i (x_sub (x_add (x_mul 10 v4) v14) 48))] [] (al, ro, fl (ml M [32] [(x_up S5 0 11 (x_add (S5 0 11) 1))])) _ _ _ _
          refine e_goto (pc := 86) (tgt := 18) dX12_figures_86 (by decide) ?_
          cases hf8
          exact hi8 _ rfl
  · rw [if_neg hb] at hG
    refine e_iconst (pc := 8) dX12_figures_8 (x_R rfl) ?_
    cases hG
    exact (e_ireturn rfl dX12_figures_9 rfl)
def G12_after (w : Nat) (a : Int) (b : Int) (S : xU) : Option (Int × xU) :=
  (x_b1 (if (S 0 12) = (-1) then (x_b2 (G12_has w S) fun (v3 : Int) (S4 : xU) => (if v3 = 0 then (x_b1 (G12_wrong (S4 0 11) S4) fun (S6 : xU) => (some S6)) else (some S4))) else (some S)) fun (S1 : xU) => (x_b2 (G12_figures a b S1) fun (v8 : Int) (S9 : xU) => (some (v8, S9))))
set_option maxRecDepth 100000 in
set_option maxHeartbeats 4000000 in
theorem c_X12_after {g : xG} {al : List (Nat × Nat × Nat)} {ro : Nat → Nat → Option Nat} (hst : g.1.stackTraces = false) (hs : SH al ro) (hw : w < x_nS) {M : Nat → xU} {w : Nat} {a : Int} {b : Int} {S : xU} {t : (Int × xU)} (hG : G12_after w a b S = some t) :
    Cal g yX12_after cX12_after 4 (some .int) 7 [x_r (16 * 32 + 0), x_r (x_s0 + w), x_i a, x_i b] (al, ro, fl (ml M [32] [S])) 0 0 (.inl (some (x_i t.1))) (al, ro, fl (ml M [32] [t.2])) := by
  have hn : ([32] : List Nat).Nodup := by decide
  refine cal_of_ev (by decide) (x_c1 rfl) (Nat.le_of_ble_eq_true rfl) hst ?_
  show Ev g _ _ _ _ _ _ 0 [some (x_r (16 * 32 + 0)), some (x_r (x_s0 + w)), some (x_i a), some (x_i b)] [] (al, ro, fl (ml M [32] [S])) _ _ _ _
  rw [G12_after] at hG
  refine e_aloadn (pc := 0) (i := 0) dX12_after_0 rfl rfl ?_
  refine f_geti (pc := 1) (k := 0) (u := 32) (q := 0) dX12_after_1 xf12_25 (sa_32_0 hs) rfl hn rfl rfl (by decide) ?_
  show Ev g _ _ _ _ _ _ 4 [some (x_r (16 * 32 + 0)), some (x_r (x_s0 + w)), some (x_i a), some (x_i b)] [x_i (S 0 12)] (al, ro, fl (ml M [32] [S])) _ _ _ _
  refine e_iconst (pc := 4) dX12_after_4 (x_R rfl) ?_
  obtain ⟨S1, hr1, hG⟩ := x_bd1 hG
  have hjhr1 : Ev g yX12_after cX12_after 4 (some .int) [] 7 24 [some (x_r (16 * 32 + 0)), some (x_r (x_s0 + w)), some (x_i a), some (x_i b)] [] (al, ro, fl (ml M [32] [S1])) 0 0 (.inl (some (x_i t.1))) (al, ro, fl (ml M [32] [t.2])) := by
    refine e_aloadn (pc := 24) (i := 0) dX12_after_24 rfl rfl ?_
    refine e_iloadn (pc := 25) (i := 2) dX12_after_25 rfl rfl ?_
    refine e_iloadn (pc := 26) (i := 3) dX12_after_26 rfl rfl ?_
    obtain ⟨v8, S9, hq9, hG⟩ := x_bd2 hG
    refine e_invV (pc := 27) (K1 := 0) (S1 := 0) (K := 0) (S := 0) (dd2 := 3) (av := [x_i a, x_i b]) (st := []) (id := 16 * 32 + 0) dX12_after_27 xmX12_116 rfl (Or.inl ⟨10, 27, TX12, (sa_32_0 hs), rfl, by decide⟩) (f_cal (M := M) (us2 := [32]) [0] hn rfl (And.intro rfl trivial) rfl rfl rfl (c_X12_figures hst hs   hq9)) (by decide) (Nat.le_of_ble_eq_true rfl) (Or.inl rfl) ?_
    show Ev g _ _ _ _ _ _ 30 [some (x_r (16 * 32 + 0)), some (x_r (x_s0 + w)), some (x_i a), some (x_i b)] [x_i v8] (al, ro, fl (ml M [32] [S9])) _ _ _ _
    cases hG
    exact (e_ireturn rfl dX12_after_30 rfl)
  clear hG
  refine e_icmp_ne (pc := 5) (tgt := 24) dX12_after_5 (by decide) (fun hb => ?_) (fun hb => ?_)
  · rw [if_neg hb] at hr1
    cases hr1
    exact hjhr1
  · rw [if_pos hb] at hr1
    refine e_aloadn (pc := 8) (i := 0) dX12_after_8 rfl rfl ?_
    refine e_aloadn (pc := 9) (i := 1) dX12_after_9 rfl rfl ?_
    obtain ⟨v3, S4, hq4, hr1⟩ := x_bd2 hr1
    refine e_invV (pc := 10) (K1 := 0) (S1 := 0) (K := 0) (S := 0) (dd2 := 6) (av := [x_r (x_s0 + w)]) (st := []) (id := 16 * 32 + 0) dX12_after_10 xmX12_112 rfl (Or.inl ⟨10, 27, TX12, (sa_32_0 hs), rfl, by decide⟩) (f_cal (M := M) (us2 := [32]) [0] hn rfl (And.intro rfl trivial) rfl rfl rfl (c_X12_has hst hs  hw hq4)) (by decide) (Nat.le_of_ble_eq_true rfl) (Or.inl rfl) ?_
    show Ev g _ _ _ _ _ _ 13 [some (x_r (16 * 32 + 0)), some (x_r (x_s0 + w)), some (x_i a), some (x_i b)] [x_i v3] (al, ro, fl (ml M [32] [S4])) _ _ _ _
    refine e_if_ne (pc := 13) (tgt := 24) dX12_after_13 (by decide) (fun hb => ?_) (fun hb => ?_)
    · rw [if_neg hb] at hr1
      cases hr1
      exact hjhr1
    · rw [if_pos hb] at hr1
      refine e_aloadn (pc := 16) (i := 0) dX12_after_16 rfl rfl ?_
      refine e_aloadn (pc := 17) (i := 0) dX12_after_17 rfl rfl ?_
      refine f_geti (pc := 18) (k := 0) (u := 32) (q := 0) dX12_after_18 xf12_82 (sa_32_0 hs) rfl hn rfl rfl (by decide) ?_
      show Ev g _ _ _ _ _ _ 21 [some (x_r (16 * 32 + 0)), some (x_r (x_s0 + w)), some (x_i a), some (x_i b)] [x_i (S4 0 11), x_r (16 * 32 + 0)] (al, ro, fl (ml M [32] [S4])) _ _ _ _
      obtain ⟨S6, hq6, hr1⟩ := x_bd1 hr1
      refine e_invV (pc := 21) (K1 := 0) (S1 := 0) (K := 0) (S := 0) (dd2 := 0) (av := [x_i (S4 0 11)]) (st := []) (id := 16 * 32 + 0) dX12_after_21 xmX12_108 rfl (Or.inl ⟨10, 27, TX12, (sa_32_0 hs), rfl, by decide⟩) (f_cal (M := M) (us2 := [32]) [0] hn rfl (And.intro rfl trivial) rfl rfl rfl (c_X12_wrong hst hs   hq6)) (by decide) (Nat.le_of_ble_eq_true rfl) (Or.inl rfl) ?_
      show Ev g _ _ _ _ _ _ 24 [some (x_r (16 * 32 + 0)), some (x_r (x_s0 + w)), some (x_i a), some (x_i b)] [] (al, ro, fl (ml M [32] [S6])) _ _ _ _
      cases hr1
      exact hjhr1
def G12_isStall_L4 (a : Int) (S : xU) : (Int × Int) → Option ((Int × Int) ⊕ Int)
  | (v1, v2) => (if (S 1 3) ≤ v2 then (some (.inr v1)) else (x_b1 (if v1 = 0 then (x_b1 (G12_of v2 2 S) fun (v8 : Int) => (if v8 = a then (some 1) else (some 0))) else (some 1)) fun (v6 : Int) => (some (.inl (v6, (x_add v2 1))))))
def G12_isStall (a : Int) (S : xU) : Option Int :=
  (x_b1 (whl xFU (G12_isStall_L4 a S) (0, 0)) fun (v3 : Int) => (x_gd (v3 = 0 ∨ v3 = 1) (some v3)))
set_option maxRecDepth 100000 in
set_option maxHeartbeats 4000000 in
theorem c_X12_isStall {g : xG} {al : List (Nat × Nat × Nat)} {ro : Nat → Nat → Option Nat} (hst : g.1.stackTraces = false) (hs : SH al ro) {M : Nat → xU} {a : Int} {S : xU} {t : Int} (hG : G12_isStall a S = some t) :
    Cal g yX12_isStall cX12_isStall 4 (some .boolean) 1 [x_r (16 * 32 + 0), x_i a] (al, ro, fl (ml M [32] [S])) 0 0 (.inl (some (x_i t))) (al, ro, fl (ml M [32] [S])) := by
  have hn : ([32] : List Nat).Nodup := by decide
  refine cal_of_ev (by decide) (x_c1 rfl) (Nat.le_of_ble_eq_true rfl) hst ?_
  show Ev g _ _ _ _ _ _ 0 [some (x_r (16 * 32 + 0)), some (x_i a), none, none] [] (al, ro, fl (ml M [32] [S])) _ _ _ _
  rw [G12_isStall] at hG
  refine e_iconst (pc := 0) dX12_isStall_0 (x_R rfl) ?_
  refine e_istoren (pc := 1) (i := 2) dX12_isStall_1 rfl (by decide) rfl ?_
  show Ev g _ _ _ _ _ _ 2 [some (x_r (16 * 32 + 0)), some (x_i a), some (x_i 0), none] [] (al, ro, fl (ml M [32] [S])) _ _ _ _
  refine e_iconst (pc := 2) dX12_isStall_2 (x_R rfl) ?_
  refine e_istoren (pc := 3) (i := 3) dX12_isStall_3 rfl (by decide) rfl ?_
  show Ev g _ _ _ _ _ _ 4 [some (x_r (16 * 32 + 0)), some (x_i a), some (x_i 0), some (x_i 0)] [] (al, ro, fl (ml M [32] [S])) _ _ _ _
  obtain ⟨v3, hl4, hG⟩ := x_bd1 hG
  have hk4 : ∀ q : Int, q = v3 → Ev g yX12_isStall cX12_isStall 4 (some .boolean) [] 1 40 [some (x_r (16 * 32 + 0)), some (x_i a), some (x_i q), none] [] (al, ro, fl (ml M [32] [S])) 0 0 (.inl (some (x_i t))) (al, ro, fl (ml M [32] [S])) := by
    intro q hq
    replace hq := hq.symm
    subst hq
    refine e_iloadn (pc := 40) (i := 2) dX12_isStall_40 rfl rfl ?_
    obtain ⟨hc0, hG⟩ := x_gd_some hG
    cases hG
    exact (e_ireturn rfl dX12_isStall_41 (x_bool hc0).1)
  clear hG
  refine e_whl (G12_isStall_L4 a S) (fun z : (Int × Int) => Ev g yX12_isStall cX12_isStall 4 (some .boolean) [] 1 4 [some (x_r (16 * 32 + 0)), some (x_i a), some (x_i z.1), some (x_i z.2)] [] (al, ro, fl (ml M [32] [S])) 0 0 (.inl (some (x_i t))) (al, ro, fl (ml M [32] [S]))) (fun q => q = v3) ?_ xFU (0, 0) _ hl4 rfl
  intro z t4 hf4 hi4 hx4
  obtain ⟨v1, v2⟩ := z
  rw [G12_isStall_L4] at hf4
  show Ev g _ _ _ _ _ _ 4 [some (x_r (16 * 32 + 0)), some (x_i a), some (x_i v1), some (x_i v2)] [] (al, ro, fl (ml M [32] [S])) _ _ _ _
  refine e_iloadn (pc := 4) (i := 3) dX12_isStall_4 rfl rfl ?_
  refine e_aloadn (pc := 5) (i := 0) dX12_isStall_5 rfl rfl ?_
  refine f_getr (pc := 6) (u := 32) (q := 0) dX12_isStall_6 xf12_7 (sa_32_0 hs) rfl (sr_32_0_1 hs) ?_
  refine e_iconst (pc := 9) dX12_isStall_9 (x_R rfl) ?_
  refine f_iald (pc := 10) (k := 0) (u := 32) (q := 1) (len := 772) dX12_isStall_10 (sa_32_1 hs) (by decide) hn rfl rfl (by decide) ?_
  show Ev g _ _ _ _ _ _ 11 [some (x_r (16 * 32 + 0)), some (x_i a), some (x_i v1), some (x_i v2)] [x_i (S 1 3), x_i v2] (al, ro, fl (ml M [32] [S])) _ _ _ _
  refine e_icmp_ge (pc := 11) (tgt := 40) dX12_isStall_11 (by decide) (fun hb => ?_) (fun hb => ?_)
  · rw [if_pos hb] at hf4
    cases hf4
    refine e_drop (i := 3) ?_
    exact hk4 _ (hx4 _ rfl)
  · rw [if_neg hb] at hf4
    refine e_iloadn (pc := 14) (i := 2) dX12_isStall_14 rfl rfl ?_
    obtain ⟨v6, hr6, hf4⟩ := x_bd1 hf4
    have hjhr6 : Ev g yX12_isStall cX12_isStall 4 (some .boolean) [] 1 33 [some (x_r (16 * 32 + 0)), some (x_i a), some (x_i v1), some (x_i v2)] [x_i v6] (al, ro, fl (ml M [32] [S])) 0 0 (.inl (some (x_i t))) (al, ro, fl (ml M [32] [S])) := by
      refine e_istoren (pc := 33) (i := 2) dX12_isStall_33 rfl (by decide) rfl ?_
      show Ev g _ _ _ _ _ _ 34 [some (x_r (16 * 32 + 0)), some (x_i a), some (x_i v6), some (x_i v2)] [] (al, ro, fl (ml M [32] [S])) _ _ _ _
      refine e_iinc (pc := 34) dX12_isStall_34 rfl (by decide) rfl ?_
      show Ev g _ _ _ _ _ _ 37 [some (x_r (16 * 32 + 0)), some (x_i a), some (x_i v6), some (x_i (x_add v2 1))] [] (al, ro, fl (ml M [32] [S])) _ _ _ _
      refine e_goto (pc := 37) (tgt := 4) dX12_isStall_37 (by decide) ?_
      cases hf4
      exact hi4 _ rfl
    clear hf4
    refine e_if_ne (pc := 15) (tgt := 28) dX12_isStall_15 (by decide) (fun hb => ?_) (fun hb => ?_)
    · rw [if_neg hb] at hr6
      refine e_iconst (pc := 28) dX12_isStall_28 (x_R rfl) ?_
      refine e_goto (pc := 29) (tgt := 33) dX12_isStall_29 (by decide) ?_
      cases hr6
      exact hjhr6
    · rw [if_pos hb] at hr6
      refine e_aloadn (pc := 18) (i := 0) dX12_isStall_18 rfl rfl ?_
      refine e_iloadn (pc := 19) (i := 3) dX12_isStall_19 rfl rfl ?_
      refine e_iconst (pc := 20) dX12_isStall_20 (x_R rfl) ?_
      obtain ⟨v8, hq8, hr6⟩ := x_bd1 hr6
      refine e_invV (pc := 21) (K1 := 0) (S1 := 0) (K := 0) (S := 0) (dd2 := 0) (av := [x_i v2, x_i 2]) (st := []) (id := 16 * 32 + 0) dX12_isStall_21 xmX12_65 rfl (Or.inl ⟨10, 27, TX12, (sa_32_0 hs), rfl, by decide⟩) (f_cal (M := M) (us2 := [32]) [0] hn rfl (And.intro rfl trivial) rfl rfl rfl (c_X12_of hst hs   hq8)) (by decide) (Nat.le_of_ble_eq_true rfl) (Or.inl rfl) ?_
      show Ev g _ _ _ _ _ _ 24 [some (x_r (16 * 32 + 0)), some (x_i a), some (x_i v1), some (x_i v2)] [x_i v8] (al, ro, fl (ml M [32] [S])) _ _ _ _
      refine e_iloadn (pc := 24) (i := 1) dX12_isStall_24 rfl rfl ?_
      refine e_icmp_ne (pc := 25) (tgt := 32) dX12_isStall_25 (by decide) (fun hb => ?_) (fun hb => ?_)
      · rw [if_neg hb] at hr6
        refine e_iconst (pc := 32) dX12_isStall_32 (x_R rfl) ?_
        cases hr6
        exact hjhr6
      · rw [if_pos hb] at hr6
        refine e_iconst (pc := 28) dX12_isStall_28 (x_R rfl) ?_
        refine e_goto (pc := 29) (tgt := 33) dX12_isStall_29 (by decide) ?_
        cases hr6
        exact hjhr6
def G12_months_L22 (S2 : xU) : (Int × Int × Int) → Option ((Int × Int × Int) ⊕ (Int × Int × Int))
  | (v4, v5, v6) => (if (S2 0 10) ≤ v6 then (some (.inr (v4, v5, v6))) else (x_b1 (G12_letter v6 S2) fun (v12 : Int) => (x_b1 (G12_isIn v12 97 122) fun (v14 : Int) => (if v14 = 0 then (some (.inr (v4, v5, v6))) else (x_b1 (G12_letter v6 S2) fun (v16 : Int) => (x_b1 (if v5 = 0 then (some 0) else (if 12 ≤ (x_sub v16 97) then (some 0) else (x_b1 (G12_isOf v4 (x_sub v16 97)) fun (v20 : Int) => (if v20 = 0 then (some 1) else (some 0))))) fun (v18 : Int) => (x_b1 (if 12 ≤ (x_sub v16 97) then (some 0) else (some (x_shl 1 (x_sub v16 97)))) fun (v22 : Int) => (some (.inl ((x_or v4 v22), v18, (x_add v6 1)))))))))))
def G12_months (S : xU) : Option (Int × xU) :=
  (if (S 0 12) = (-1) then (x_b2 (G12_here S) fun (v1 : Int) (S2 : xU) => (x_b3 (whl xFU (G12_months_L22 S2) (0, 1, v1)) fun (v7 : Int) (v8 : Int) (v9 : Int) => (x_b1 (if v8 = 0 then (x_b1 (G12_wrong v1 S2) fun (S26 : xU) => (some S26)) else (if v7 = 0 then (x_b1 (G12_wrong v1 S2) fun (S28 : xU) => (some S28)) else (some (x_up S2 0 11 v9)))) fun (S24 : xU) => (some (v7, S24))))) else (some (0, S)))
set_option maxRecDepth 100000 in
set_option maxHeartbeats 4000000 in
theorem c_X12_months {g : xG} {al : List (Nat × Nat × Nat)} {ro : Nat → Nat → Option Nat} (hst : g.1.stackTraces = false) (hs : SH al ro) {M : Nat → xU} {S : xU} {t : (Int × xU)} (hG : G12_months S = some t) :
    Cal g yX12_months cX12_months 6 (some .int) 3 [x_r (16 * 32 + 0)] (al, ro, fl (ml M [32] [S])) 0 0 (.inl (some (x_i t.1))) (al, ro, fl (ml M [32] [t.2])) := by
  have hn : ([32] : List Nat).Nodup := by decide
  refine cal_of_ev (by decide) (x_c1 rfl) (Nat.le_of_ble_eq_true rfl) hst ?_
  show Ev g _ _ _ _ _ _ 0 [some (x_r (16 * 32 + 0)), none, none, none, none, none] [] (al, ro, fl (ml M [32] [S])) _ _ _ _
  rw [G12_months] at hG
  refine e_aloadn (pc := 0) (i := 0) dX12_months_0 rfl rfl ?_
  refine f_geti (pc := 1) (k := 0) (u := 32) (q := 0) dX12_months_1 xf12_25 (sa_32_0 hs) rfl hn rfl rfl (by decide) ?_
  show Ev g _ _ _ _ _ _ 4 [some (x_r (16 * 32 + 0)), none, none, none, none, none] [x_i (S 0 12)] (al, ro, fl (ml M [32] [S])) _ _ _ _
  refine e_iconst (pc := 4) dX12_months_4 (x_R rfl) ?_
  refine e_icmp_eq (pc := 5) (tgt := 10) dX12_months_5 (by decide) (fun hb => ?_) (fun hb => ?_)
  · rw [if_pos hb] at hG
    refine e_aloadn (pc := 10) (i := 0) dX12_months_10 rfl rfl ?_
    obtain ⟨v1, S2, hq2, hG⟩ := x_bd2 hG
    refine e_invV (pc := 11) (K1 := 0) (S1 := 0) (K := 0) (S := 0) (dd2 := 2) (av := []) (st := []) (id := 16 * 32 + 0) dX12_months_11 xmX12_105 rfl (Or.inl ⟨10, 27, TX12, (sa_32_0 hs), rfl, by decide⟩) (f_cal (M := M) (us2 := [32]) [0] hn rfl (And.intro rfl trivial) rfl rfl rfl (c_X12_here hst hs   hq2)) (by decide) (Nat.le_of_ble_eq_true rfl) (Or.inl rfl) ?_
    show Ev g _ _ _ _ _ _ 14 [some (x_r (16 * 32 + 0)), none, none, none, none, none] [x_i v1] (al, ro, fl (ml M [32] [S2])) _ _ _ _
    refine e_istoren (pc := 14) (i := 1) dX12_months_14 rfl (by decide) rfl ?_
    show Ev g _ _ _ _ _ _ 15 [some (x_r (16 * 32 + 0)), some (x_i v1), none, none, none, none] [] (al, ro, fl (ml M [32] [S2])) _ _ _ _
    refine e_iconst (pc := 15) dX12_months_15 (x_R rfl) ?_
    refine e_istoren (pc := 16) (i := 2) dX12_months_16 rfl (by decide) rfl ?_
    show Ev g _ _ _ _ _ _ 17 [some (x_r (16 * 32 + 0)), some (x_i v1), some (x_i 0), none, none, none] [] (al, ro, fl (ml M [32] [S2])) _ _ _ _
    refine e_iconst (pc := 17) dX12_months_17 (x_R rfl) ?_
    refine e_istoren (pc := 18) (i := 3) dX12_months_18 rfl (by decide) rfl ?_
    show Ev g _ _ _ _ _ _ 19 [some (x_r (16 * 32 + 0)), some (x_i v1), some (x_i 0), some (x_i 1), none, none] [] (al, ro, fl (ml M [32] [S2])) _ _ _ _
    refine e_iloadn (pc := 19) (i := 1) dX12_months_19 rfl rfl ?_
    refine e_istore (pc := 20) (i := 4) dX12_months_20 (by decide) rfl ?_
    show Ev g _ _ _ _ _ _ 22 [some (x_r (16 * 32 + 0)), some (x_i v1), some (x_i 0), some (x_i 1), some (x_i v1), none] [] (al, ro, fl (ml M [32] [S2])) _ _ _ _
    obtain ⟨v7, v8, v9, hl10, hG⟩ := x_bd3 hG
    have hk10 : ∀ q : (Int × Int × Int), q = (v7, v8, v9) → Ev g yX12_months cX12_months 6 (some .int) [] 3 108 [some (x_r (16 * 32 + 0)), some (x_i v1), some (x_i q.1), some (x_i q.2.1), some (x_i q.2.2), none] [] (al, ro, fl (ml M [32] [S2])) 0 0 (.inl (some (x_i t.1))) (al, ro, fl (ml M [32] [t.2])) := by
      intro q hq
      cases hq
      refine e_iloadn (pc := 108) (i := 3) dX12_months_108 rfl rfl ?_
      obtain ⟨S24, hr24, hG⟩ := x_bd1 hG
      have hjhr24 : Ev g yX12_months cX12_months 6 (some .int) [] 3 130 [some (x_r (16 * 32 + 0)), some (x_i v1), some (x_i v7), some (x_i v8), some (x_i v9), none] [] (al, ro, fl (ml M [32] [S24])) 0 0 (.inl (some (x_i t.1))) (al, ro, fl (ml M [32] [t.2])) := by
        refine e_iloadn (pc := 130) (i := 2) dX12_months_130 rfl rfl ?_
        cases hG
        exact (e_ireturn rfl dX12_months_131 rfl)
      clear hG
      refine e_if_eq (pc := 109) (tgt := 116) dX12_months_109 (by decide) (fun hb => ?_) (fun hb => ?_)
      · rw [if_pos hb] at hr24
        refine e_aloadn (pc := 116) (i := 0) dX12_months_116 rfl rfl ?_
        refine e_iloadn (pc := 117) (i := 1) dX12_months_117 rfl rfl ?_
        obtain ⟨S26, hq26, hr24⟩ := x_bd1 hr24
        refine e_invV (pc := 118) (K1 := 0) (S1 := 0) (K := 0) (S := 0) (dd2 := 0) (av := [x_i v1]) (st := []) (id := 16 * 32 + 0) dX12_months_118 xmX12_108 rfl (Or.inl ⟨10, 27, TX12, (sa_32_0 hs), rfl, by decide⟩) (f_cal (M := M) (us2 := [32]) [0] hn rfl (And.intro rfl trivial) rfl rfl rfl (c_X12_wrong hst hs   hq26)) (by decide) (Nat.le_of_ble_eq_true rfl) (Or.inl rfl) ?_
        show Ev g _ _ _ _ _ _ 121 [some (x_r (16 * 32 + 0)), some (x_i v1), some (x_i v7), some (x_i v8), some (x_i v9), none] [] (al, ro, fl (ml M [32] [S26])) _ _ _ _
        refine e_goto (pc := 121) (tgt := 130) dX12_months_121 (by decide) ?_
        cases hr24
        exact hjhr24
      · rw [if_neg hb] at hr24
        refine e_iloadn (pc := 112) (i := 2) dX12_months_112 rfl rfl ?_
        refine e_if_ne (pc := 113) (tgt := 124) dX12_months_113 (by decide) (fun hb => ?_) (fun hb => ?_)
        · rw [if_neg hb] at hr24
          refine e_aloadn (pc := 124) (i := 0) dX12_months_124 rfl rfl ?_
          refine e_iload (pc := 125) dX12_months_125 rfl ?_
          refine f_puti (pc := 127) (k := 0) (u := 32) (q := 0) dX12_months_127 xf12_82 xw10_11 (sa_32_0 hs) hn rfl rfl rfl (by decide) ?_
          show Ev g _ _ _ _ _ _ 130 [some (x_r (16 * 32 + 0)), some (x_i v1), some (x_i v7), some (x_i v8), some (x_i v9), none] [] (al, ro, fl (ml M [32] [(x_up S2 0 11 v9)])) _ _ _ _
          cases hr24
          exact hjhr24
        · rw [if_pos hb] at hr24
          refine e_aloadn (pc := 116) (i := 0) dX12_months_116 rfl rfl ?_
          refine e_iloadn (pc := 117) (i := 1) dX12_months_117 rfl rfl ?_
          obtain ⟨S28, hq28, hr24⟩ := x_bd1 hr24
          refine e_invV (pc := 118) (K1 := 0) (S1 := 0) (K := 0) (S := 0) (dd2 := 0) (av := [x_i v1]) (st := []) (id := 16 * 32 + 0) dX12_months_118 xmX12_108 rfl (Or.inl ⟨10, 27, TX12, (sa_32_0 hs), rfl, by decide⟩) (f_cal (M := M) (us2 := [32]) [0] hn rfl (And.intro rfl trivial) rfl rfl rfl (c_X12_wrong hst hs   hq28)) (by decide) (Nat.le_of_ble_eq_true rfl) (Or.inl rfl) ?_
          show Ev g _ _ _ _ _ _ 121 [some (x_r (16 * 32 + 0)), some (x_i v1), some (x_i v7), some (x_i v8), some (x_i v9), none] [] (al, ro, fl (ml M [32] [S28])) _ _ _ _
          refine e_goto (pc := 121) (tgt := 130) dX12_months_121 (by decide) ?_
          cases hr24
          exact hjhr24
    clear hG
    refine e_whl (G12_months_L22 S2) (fun z : (Int × Int × Int) => Ev g yX12_months cX12_months 6 (some .int) [] 3 22 [some (x_r (16 * 32 + 0)), some (x_i v1), some (x_i z.1), some (x_i z.2.1), some (x_i z.2.2), none] [] (al, ro, fl (ml M [32] [S2])) 0 0 (.inl (some (x_i t.1))) (al, ro, fl (ml M [32] [t.2]))) (fun q => q = (v7, v8, v9)) ?_ xFU (0, 1, v1) _ hl10 rfl
    intro z t10 hf10 hi10 hx10
    obtain ⟨v4, v5, v6⟩ := z
    rw [G12_months_L22] at hf10
    show Ev g _ _ _ _ _ _ 22 [some (x_r (16 * 32 + 0)), some (x_i v1), some (x_i v4), some (x_i v5), some (x_i v6), none] [] (al, ro, fl (ml M [32] [S2])) _ _ _ _
    refine e_iload (pc := 22) dX12_months_22 rfl ?_
    refine e_aloadn (pc := 24) (i := 0) dX12_months_24 rfl rfl ?_
    refine f_geti (pc := 25) (k := 0) (u := 32) (q := 0) dX12_months_25 xf12_85 (sa_32_0 hs) rfl hn rfl rfl (by decide) ?_
    show Ev g _ _ _ _ _ _ 28 [some (x_r (16 * 32 + 0)), some (x_i v1), some (x_i v4), some (x_i v5), some (x_i v6), none] [x_i (S2 0 10), x_i v6] (al, ro, fl (ml M [32] [S2])) _ _ _ _
    refine e_icmp_ge (pc := 28) (tgt := 108) dX12_months_28 (by decide) (fun hb => ?_) (fun hb => ?_)
    · rw [if_pos hb] at hf10
      cases hf10
      exact hk10 _ (hx10 _ rfl)
    · rw [if_neg hb] at hf10
      refine e_aloadn (pc := 31) (i := 0) dX12_months_31 rfl rfl ?_
      refine e_iload (pc := 32) dX12_months_32 rfl ?_
      obtain ⟨v12, hq12, hf10⟩ := x_bd1 hf10
      refine e_invV (pc := 34) (K1 := 0) (S1 := 0) (K := 0) (S := 0) (dd2 := 0) (av := [x_i v6]) (st := []) (id := 16 * 32 + 0) dX12_months_34 xmX12_88 rfl (Or.inl ⟨10, 27, TX12, (sa_32_0 hs), rfl, by decide⟩) (f_cal (M := M) (us2 := [32]) [0] hn rfl (And.intro rfl trivial) rfl rfl rfl (c_X12_letter hst hs   hq12)) (by decide) (Nat.le_of_ble_eq_true rfl) (Or.inl rfl) ?_
      show Ev g _ _ _ _ _ _ 37 [some (x_r (16 * 32 + 0)), some (x_i v1), some (x_i v4), some (x_i v5), some (x_i v6), none] [x_i v12] (al, ro, fl (ml M [32] [S2])) _ _ _ _
      refine e_bipush (pc := 37) dX12_months_37 (by decide +kernel) (x_R rfl) ?_
      refine e_bipush (pc := 39) dX12_months_39 (by decide +kernel) (x_R rfl) ?_
      obtain ⟨v14, hq14, hf10⟩ := x_bd1 hf10
      refine e_invS (pc := 41) (K1 := 0) (S1 := 0) (K := 0) (S := 0) (dd2 := 0) (av := [x_i v12, x_i 97, x_i 122]) (st := []) dX12_months_41 xmX12_61 rfl (f_cal (M := M) (us2 := []) [] hn rfl trivial rfl rfl rfl (c_X12_isIn hst hs   hq14)) (by decide) (Nat.le_of_ble_eq_true rfl) (Or.inl rfl) ?_
      show Ev g _ _ _ _ _ _ 44 [some (x_r (16 * 32 + 0)), some (x_i v1), some (x_i v4), some (x_i v5), some (x_i v6), none] [x_i v14] (al, ro, fl (ml M [32] [S2])) _ _ _ _
      refine e_if_eq (pc := 44) (tgt := 108) dX12_months_44 (by decide) (fun hb => ?_) (fun hb => ?_)
      · rw [if_pos hb] at hf10
        cases hf10
        exact hk10 _ (hx10 _ rfl)
      · rw [if_neg hb] at hf10
        refine e_aloadn (pc := 47) (i := 0) dX12_months_47 rfl rfl ?_
        refine e_iload (pc := 48) dX12_months_48 rfl ?_
        obtain ⟨v16, hq16, hf10⟩ := x_bd1 hf10
        refine e_invV (pc := 50) (K1 := 0) (S1 := 0) (K := 0) (S := 0) (dd2 := 0) (av := [x_i v6]) (st := []) (id := 16 * 32 + 0) dX12_months_50 xmX12_88 rfl (Or.inl ⟨10, 27, TX12, (sa_32_0 hs), rfl, by decide⟩) (f_cal (M := M) (us2 := [32]) [0] hn rfl (And.intro rfl trivial) rfl rfl rfl (c_X12_letter hst hs   hq16)) (by decide) (Nat.le_of_ble_eq_true rfl) (Or.inl rfl) ?_
        show Ev g _ _ _ _ _ _ 53 [some (x_r (16 * 32 + 0)), some (x_i v1), some (x_i v4), some (x_i v5), some (x_i v6), none] [x_i v16] (al, ro, fl (ml M [32] [S2])) _ _ _ _
        refine e_bipush (pc := 53) dX12_months_53 (by decide +kernel) (x_R rfl) ?_
        refine e_isub (pc := 55) dX12_months_55 ?_
        refine e_istore (pc := 56) (i := 5) dX12_months_56 (by decide) rfl ?_
        show Ev g _ _ _ _ _ _ 58 [some (x_r (16 * 32 + 0)), some (x_i v1), some (x_i v4), some (x_i v5), some (x_i v6), some (x_i (x_sub v16 97))] [] (al, ro, fl (ml M [32] [S2])) _ _ _ _
        refine e_iloadn (pc := 58) (i := 3) dX12_months_58 rfl rfl ?_
        obtain ⟨v18, hr18, hf10⟩ := x_bd1 hf10
        have hjhr18 : Ev g yX12_months cX12_months 6 (some .int) [] 3 83 [some (x_r (16 * 32 + 0)), some (x_i v1), some (x_i v4), some (x_i v5), some (x_i v6), some (x_i (x_sub v16 97))] [x_i v18] (al, ro, fl (ml M [32] [S2])) 0 0 (.inl (some (x_i t.1))) (al, ro, fl (ml M [32] [t.2])) := by
          refine e_istoren (pc := 83) (i := 3) dX12_months_83 rfl (by decide) rfl ?_
          show Ev g _ _ _ _ _ _ 84 [some (x_r (16 * 32 + 0)), some (x_i v1), some (x_i v4), some (x_i v18), some (x_i v6), some (x_i (x_sub v16 97))] [] (al, ro, fl (ml M [32] [S2])) _ _ _ _
          refine e_iloadn (pc := 84) (i := 2) dX12_months_84 rfl rfl ?_
          refine e_iload (pc := 85) dX12_months_85 rfl ?_
          refine e_bipush (pc := 87) dX12_months_87 (by decide +kernel) (x_R rfl) ?_
          obtain ⟨v22, hr22, hf10⟩ := x_bd1 hf10
          have hjhr22 : Ev g yX12_months cX12_months 6 (some .int) [] 3 100 [some (x_r (16 * 32 + 0)), some (x_i v1), some (x_i v4), some (x_i v18), some (x_i v6), some (x_i (x_sub v16 97))] [x_i v22, x_i v4] (al, ro, fl (ml M [32] [S2])) 0 0 (.inl (some (x_i t.1))) (al, ro, fl (ml M [32] [t.2])) := by
            refine e_ior (pc := 100) dX12_months_100 ?_
            refine e_istoren (pc := 101) (i := 2) dX12_months_101 rfl (by decide) rfl ?_
            show Ev g _ _ _ _ _ _ 102 [some (x_r (16 * 32 + 0)), some (x_i v1), some (x_i (x_or v4 v22)), some (x_i v18), some (x_i v6), some (x_i (x_sub v16 97))] [] (al, ro, fl (ml M [32] [S2])) _ _ _ _
            refine e_iinc (pc := 102) dX12_months_102 rfl (by decide) rfl ?_
            show Ev g _ _ _ _ _ _ 105 [some (x_r (16 * 32 + 0)), some (x_i v1), some (x_i (x_or v4 v22)), some (x_i v18), some (x_i (x_add v6 1)), some (x_i (x_sub v16 97))] [] (al, ro, fl (ml M [32] [S2])) _ _ _ _
            refine e_goto (pc := 105) (tgt := 22) dX12_months_105 (by decide) ?_
            cases hf10
            refine e_drop (i := 5) ?_
            exact hi10 _ rfl
          clear hf10
          refine e_icmp_ge (pc := 89) (tgt := 99) dX12_months_89 (by decide) (fun hb => ?_) (fun hb => ?_)
          · rw [if_pos hb] at hr22
            refine e_iconst (pc := 99) dX12_months_99 (x_R rfl) ?_
            cases hr22
            exact hjhr22
          · rw [if_neg hb] at hr22
            refine e_iconst (pc := 92) dX12_months_92 (x_R rfl) ?_
            refine e_iload (pc := 93) dX12_months_93 rfl ?_
            refine e_ishl (pc := 95) dX12_months_95 ?_
            refine e_goto (pc := 96) (tgt := 100) dX12_months_96 (by decide) ?_
            cases hr22
            exact hjhr22
        clear hf10
        refine e_if_eq (pc := 59) (tgt := 82) dX12_months_59 (by decide) (fun hb => ?_) (fun hb => ?_)
        · rw [if_pos hb] at hr18
          refine e_iconst (pc := 82) dX12_months_82 (x_R rfl) ?_
          cases hr18
          exact hjhr18
        · rw [if_neg hb] at hr18
          refine e_iload (pc := 62) dX12_months_62 rfl ?_
          refine e_bipush (pc := 64) dX12_months_64 (by decide +kernel) (x_R rfl) ?_
          refine e_icmp_ge (pc := 66) (tgt := 82) dX12_months_66 (by decide) (fun hb => ?_) (fun hb => ?_)
          · rw [if_pos hb] at hr18
            refine e_iconst (pc := 82) dX12_months_82 (x_R rfl) ?_
            cases hr18
            exact hjhr18
          · rw [if_neg hb] at hr18
            refine e_iloadn (pc := 69) (i := 2) dX12_months_69 rfl rfl ?_
            refine e_iload (pc := 70) dX12_months_70 rfl ?_
            obtain ⟨v20, hq20, hr18⟩ := x_bd1 hr18
            refine e_invS (pc := 72) (K1 := 0) (S1 := 0) (K := 0) (S := 0) (dd2 := 0) (av := [x_i v4, x_i (x_sub v16 97)]) (st := []) dX12_months_72 xmX12_119 rfl (f_cal (M := M) (us2 := []) [] hn rfl trivial rfl rfl rfl (c_X12_isOf hst hs   hq20)) (by decide) (Nat.le_of_ble_eq_true rfl) (Or.inl rfl) ?_
            show Ev g _ _ _ _ _ _ 75 [some (x_r (16 * 32 + 0)), some (x_i v1), some (x_i v4), some (x_i v5), some (x_i v6), some (x_i (x_sub v16 97))] [x_i v20] (al, ro, fl (ml M [32] [S2])) _ _ _ _
            refine e_if_ne (pc := 75) (tgt := 82) dX12_months_75 (by decide) (fun hb => ?_) (fun hb => ?_)
            · rw [if_neg hb] at hr18
              refine e_iconst (pc := 82) dX12_months_82 (x_R rfl) ?_
              cases hr18
              exact hjhr18
            · rw [if_pos hb] at hr18
              refine e_iconst (pc := 78) dX12_months_78 (x_R rfl) ?_
              refine e_goto (pc := 79) (tgt := 83) dX12_months_79 (by decide) ?_
              cases hr18
              exact hjhr18
  · rw [if_neg hb] at hG
    refine e_iconst (pc := 8) dX12_months_8 (x_R rfl) ?_
    cases hG
    exact (e_ireturn rfl dX12_months_9 rfl)
def G12_monkLine_L203 (S46 : xU) : (Int × xU) → Option ((Int × xU) ⊕ xU)
  | (v54, S55) => (if 8 ≤ v54 then (some (.inr S55)) else (x_b1 (G12_lays (S46 1 3) v54 0 S55) fun (S59 : xU) => (some (.inl ((x_add v54 1), S59)))))
def G12_monkLine (a : Int) (S : xU) : Option xU :=
  (x_b1 (if (S 1 3) = 7 then (x_b1 (G12_wrong a S) fun (S3 : xU) => (some S3)) else (some S)) fun (S1 : xU) => (x_b2 (G12_after 1 0 15 S1) fun (v5 : Int) (S6 : xU) => (x_b2 (if (S6 0 12) = (-1) then (x_b2 (G12_has 2 S6) fun (v11 : Int) (S12 : xU) => (if v11 = 0 then (some (0, S12)) else (some (1, S12)))) else (some (0, S6))) fun (v8 : Int) (S9 : xU) => (x_b1 (if (S9 0 12) = (-1) then (if v8 = 0 then (x_b1 (G12_wrong (S9 0 11) S9) fun (S16 : xU) => (some S16)) else (some S9)) else (some S9)) fun (S14 : xU) => (x_b2 (if v8 = 0 then (some ((S14 0 11), S14)) else (x_b2 (G12_here S14) fun (v21 : Int) (S22 : xU) => (some (v21, S22)))) fun (v18 : Int) (S19 : xU) => (x_b2 (if v8 = 0 then (some (0, S19)) else (x_b2 (G12_figures 0 11 S19) fun (v27 : Int) (S28 : xU) => (some (v27, S28)))) fun (v24 : Int) (S25 : xU) => (x_b1 (if (S25 0 12) = (-1) then (x_b1 (G12_isStall v24 S25) fun (v32 : Int) => (if v32 = 0 then (some S25) else (x_b1 (G12_wrong v18 S25) fun (S34 : xU) => (some S34)))) else (some S25)) fun (S30 : xU) => (x_b2 (if (S30 0 12) = (-1) then (x_b2 (G12_has 3 S30) fun (v39 : Int) (S40 : xU) => (if v39 = 0 then (some (2, S40)) else (x_b2 (G12_figures 0 8 S40) fun (v42 : Int) (S43 : xU) => (some (v42, S43))))) else (some (2, S30))) fun (v36 : Int) (S37 : xU) => (x_b2 (if (S37 0 12) = (-1) then (x_b2 (G12_has 4 S37) fun (v48 : Int) (S49 : xU) => (if v48 = 0 then (some (0, S49)) else (x_b2 (G12_months S49) fun (v51 : Int) (S52 : xU) => (some (v51, S52))))) else (some (0, S37))) fun (v45 : Int) (S46 : xU) => (if (S46 0 12) = (-1) then (x_b1 (whl xFU (G12_monkLine_L203 S46) (0, S46)) fun (S56 : xU) => (x_b1 (G12_lays (S46 1 3) 0 v5 S56) fun (S61 : xU) => (x_b1 (G12_lays (S46 1 3) 2 v24 S61) fun (S63 : xU) => (x_b1 (G12_lays (S46 1 3) 1 v36 S63) fun (S65 : xU) => (x_b1 (G12_lays (S46 1 3) 3 v45 S65) fun (S67 : xU) => (some (x_up S67 1 3 (x_add (S67 1 3) 1)))))))) else (some S46)))))))))))
set_option maxRecDepth 100000 in
set_option maxHeartbeats 4000000 in
theorem c_X12_monkLine {g : xG} {al : List (Nat × Nat × Nat)} {ro : Nat → Nat → Option Nat} (hst : g.1.stackTraces = false) (hs : SH al ro) {M : Nat → xU} {a : Int} {S : xU} {t : xU} (hG : G12_monkLine a S = some t) :
    Cal g yX12_monkLine cX12_monkLine 10 none 8 [x_r (16 * 32 + 0), x_i a] (al, ro, fl (ml M [32] [S])) 0 0 (.inl none) (al, ro, fl (ml M [32] [t])) := by
  have hn : ([32] : List Nat).Nodup := by decide
  refine cal_of_ev (by decide) (x_c1 rfl) (Nat.le_of_ble_eq_true rfl) hst ?_
  show Ev g _ _ _ _ _ _ 0 [some (x_r (16 * 32 + 0)), some (x_i a), none, none, none, none, none, none, none, none] [] (al, ro, fl (ml M [32] [S])) _ _ _ _
  rw [G12_monkLine] at hG
  refine e_aloadn (pc := 0) (i := 0) dX12_monkLine_0 rfl rfl ?_
  refine f_getr (pc := 1) (u := 32) (q := 0) dX12_monkLine_1 xf12_7 (sa_32_0 hs) rfl (sr_32_0_1 hs) ?_
  refine e_iconst (pc := 4) dX12_monkLine_4 (x_R rfl) ?_
  refine f_iald (pc := 5) (k := 0) (u := 32) (q := 1) (len := 772) dX12_monkLine_5 (sa_32_1 hs) (by decide) hn rfl rfl (by decide) ?_
  show Ev g _ _ _ _ _ _ 6 [some (x_r (16 * 32 + 0)), some (x_i a), none, none, none, none, none, none, none, none] [x_i (S 1 3)] (al, ro, fl (ml M [32] [S])) _ _ _ _
  refine e_bipush (pc := 6) dX12_monkLine_6 (by decide +kernel) (x_R rfl) ?_
  obtain ⟨S1, hr1, hG⟩ := x_bd1 hG
  have hjhr1 : Ev g yX12_monkLine cX12_monkLine 10 none [] 8 16 [some (x_r (16 * 32 + 0)), some (x_i a), none, none, none, none, none, none, none, none] [] (al, ro, fl (ml M [32] [S1])) 0 0 (.inl none) (al, ro, fl (ml M [32] [t])) := by
    refine e_aloadn (pc := 16) (i := 0) dX12_monkLine_16 rfl rfl ?_
    refine e_ldcS (pc := 17) (i := 1) dX12_monkLine_17 (by decide +kernel) (by decide) ?_
    refine e_iconst (pc := 19) dX12_monkLine_19 (x_R rfl) ?_
    refine e_bipush (pc := 20) dX12_monkLine_20 (by decide +kernel) (x_R rfl) ?_
    obtain ⟨v5, S6, hq6, hG⟩ := x_bd2 hG
    refine e_invV (pc := 22) (K1 := 0) (S1 := 0) (K := 0) (S := 0) (dd2 := 7) (av := [x_r (x_s0 + 1), x_i 0, x_i 15]) (st := []) (id := 16 * 32 + 0) dX12_monkLine_22 xmX12_124 rfl (Or.inl ⟨10, 27, TX12, (sa_32_0 hs), rfl, by decide⟩) (f_cal (M := M) (us2 := [32]) [0] hn rfl (And.intro rfl trivial) rfl rfl rfl (c_X12_after hst hs  (by decide) hq6)) (by decide) (Nat.le_of_ble_eq_true rfl) (Or.inl rfl) ?_
    show Ev g _ _ _ _ _ _ 25 [some (x_r (16 * 32 + 0)), some (x_i a), none, none, none, none, none, none, none, none] [x_i v5] (al, ro, fl (ml M [32] [S6])) _ _ _ _
    refine e_istoren (pc := 25) (i := 2) dX12_monkLine_25 rfl (by decide) rfl ?_
    show Ev g _ _ _ _ _ _ 26 [some (x_r (16 * 32 + 0)), some (x_i a), some (x_i v5), none, none, none, none, none, none, none] [] (al, ro, fl (ml M [32] [S6])) _ _ _ _
    refine e_aloadn (pc := 26) (i := 0) dX12_monkLine_26 rfl rfl ?_
    refine f_geti (pc := 27) (k := 0) (u := 32) (q := 0) dX12_monkLine_27 xf12_25 (sa_32_0 hs) rfl hn rfl rfl (by decide) ?_
    show Ev g _ _ _ _ _ _ 30 [some (x_r (16 * 32 + 0)), some (x_i a), some (x_i v5), none, none, none, none, none, none, none] [x_i (S6 0 12)] (al, ro, fl (ml M [32] [S6])) _ _ _ _
    refine e_iconst (pc := 30) dX12_monkLine_30 (x_R rfl) ?_
    obtain ⟨v8, S9, hr9, hG⟩ := x_bd2 hG
    have hjhr9 : Ev g yX12_monkLine cX12_monkLine 10 none [] 8 48 [some (x_r (16 * 32 + 0)), some (x_i a), some (x_i v5), none, none, none, none, none, none, none] [x_i v8] (al, ro, fl (ml M [32] [S9])) 0 0 (.inl none) (al, ro, fl (ml M [32] [t])) := by
      refine e_istoren (pc := 48) (i := 3) dX12_monkLine_48 rfl (by decide) rfl ?_
      show Ev g _ _ _ _ _ _ 49 [some (x_r (16 * 32 + 0)), some (x_i a), some (x_i v5), some (x_i v8), none, none, none, none, none, none] [] (al, ro, fl (ml M [32] [S9])) _ _ _ _
      refine e_aloadn (pc := 49) (i := 0) dX12_monkLine_49 rfl rfl ?_
      refine f_geti (pc := 50) (k := 0) (u := 32) (q := 0) dX12_monkLine_50 xf12_25 (sa_32_0 hs) rfl hn rfl rfl (by decide) ?_
      show Ev g _ _ _ _ _ _ 53 [some (x_r (16 * 32 + 0)), some (x_i a), some (x_i v5), some (x_i v8), none, none, none, none, none, none] [x_i (S9 0 12)] (al, ro, fl (ml M [32] [S9])) _ _ _ _
      refine e_iconst (pc := 53) dX12_monkLine_53 (x_R rfl) ?_
      obtain ⟨S14, hr14, hG⟩ := x_bd1 hG
      have hjhr14 : Ev g yX12_monkLine cX12_monkLine 10 none [] 8 69 [some (x_r (16 * 32 + 0)), some (x_i a), some (x_i v5), some (x_i v8), none, none, none, none, none, none] [] (al, ro, fl (ml M [32] [S14])) 0 0 (.inl none) (al, ro, fl (ml M [32] [t])) := by
        refine e_iloadn (pc := 69) (i := 3) dX12_monkLine_69 rfl rfl ?_
        obtain ⟨v18, S19, hr19, hG⟩ := x_bd2 hG
        have hjhr19 : Ev g yX12_monkLine cX12_monkLine 10 none [] 8 84 [some (x_r (16 * 32 + 0)), some (x_i a), some (x_i v5), some (x_i v8), none, none, none, none, none, none] [x_i v18] (al, ro, fl (ml M [32] [S19])) 0 0 (.inl none) (al, ro, fl (ml M [32] [t])) := by
          refine e_istore (pc := 84) (i := 4) dX12_monkLine_84 (by decide) rfl ?_
          show Ev g _ _ _ _ _ _ 86 [some (x_r (16 * 32 + 0)), some (x_i a), some (x_i v5), some (x_i v8), some (x_i v18), none, none, none, none, none] [] (al, ro, fl (ml M [32] [S19])) _ _ _ _
          refine e_iloadn (pc := 86) (i := 3) dX12_monkLine_86 rfl rfl ?_
          obtain ⟨v24, S25, hr25, hG⟩ := x_bd2 hG
          have hjhr25 : Ev g yX12_monkLine cX12_monkLine 10 none [] 8 101 [some (x_r (16 * 32 + 0)), some (x_i a), some (x_i v5), some (x_i v8), some (x_i v18), none, none, none, none, none] [x_i v24] (al, ro, fl (ml M [32] [S25])) 0 0 (.inl none) (al, ro, fl (ml M [32] [t])) := by
            refine e_istore (pc := 101) (i := 5) dX12_monkLine_101 (by decide) rfl ?_
            show Ev g _ _ _ _ _ _ 103 [some (x_r (16 * 32 + 0)), some (x_i a), some (x_i v5), some (x_i v8), some (x_i v18), some (x_i v24), none, none, none, none] [] (al, ro, fl (ml M [32] [S25])) _ _ _ _
            refine e_aloadn (pc := 103) (i := 0) dX12_monkLine_103 rfl rfl ?_
            refine f_geti (pc := 104) (k := 0) (u := 32) (q := 0) dX12_monkLine_104 xf12_25 (sa_32_0 hs) rfl hn rfl rfl (by decide) ?_
            show Ev g _ _ _ _ _ _ 107 [some (x_r (16 * 32 + 0)), some (x_i a), some (x_i v5), some (x_i v8), some (x_i v18), some (x_i v24), none, none, none, none] [x_i (S25 0 12)] (al, ro, fl (ml M [32] [S25])) _ _ _ _
            refine e_iconst (pc := 107) dX12_monkLine_107 (x_R rfl) ?_
            obtain ⟨S30, hr30, hG⟩ := x_bd1 hG
            have hjhr30 : Ev g yX12_monkLine cX12_monkLine 10 none [] 8 126 [some (x_r (16 * 32 + 0)), some (x_i a), some (x_i v5), some (x_i v8), some (x_i v18), some (x_i v24), none, none, none, none] [] (al, ro, fl (ml M [32] [S30])) 0 0 (.inl none) (al, ro, fl (ml M [32] [t])) := by
              refine e_aloadn (pc := 126) (i := 0) dX12_monkLine_126 rfl rfl ?_
              refine f_geti (pc := 127) (k := 0) (u := 32) (q := 0) dX12_monkLine_127 xf12_25 (sa_32_0 hs) rfl hn rfl rfl (by decide) ?_
              show Ev g _ _ _ _ _ _ 130 [some (x_r (16 * 32 + 0)), some (x_i a), some (x_i v5), some (x_i v8), some (x_i v18), some (x_i v24), none, none, none, none] [x_i (S30 0 12)] (al, ro, fl (ml M [32] [S30])) _ _ _ _
              refine e_iconst (pc := 130) dX12_monkLine_130 (x_R rfl) ?_
              obtain ⟨v36, S37, hr37, hG⟩ := x_bd2 hG
              have hjhr37 : Ev g yX12_monkLine cX12_monkLine 10 none [] 8 154 [some (x_r (16 * 32 + 0)), some (x_i a), some (x_i v5), some (x_i v8), some (x_i v18), some (x_i v24), none, none, none, none] [x_i v36] (al, ro, fl (ml M [32] [S37])) 0 0 (.inl none) (al, ro, fl (ml M [32] [t])) := by
                refine e_istore (pc := 154) (i := 6) dX12_monkLine_154 (by decide) rfl ?_
                show Ev g _ _ _ _ _ _ 156 [some (x_r (16 * 32 + 0)), some (x_i a), some (x_i v5), some (x_i v8), some (x_i v18), some (x_i v24), some (x_i v36), none, none, none] [] (al, ro, fl (ml M [32] [S37])) _ _ _ _
                refine e_aloadn (pc := 156) (i := 0) dX12_monkLine_156 rfl rfl ?_
                refine f_geti (pc := 157) (k := 0) (u := 32) (q := 0) dX12_monkLine_157 xf12_25 (sa_32_0 hs) rfl hn rfl rfl (by decide) ?_
                show Ev g _ _ _ _ _ _ 160 [some (x_r (16 * 32 + 0)), some (x_i a), some (x_i v5), some (x_i v8), some (x_i v18), some (x_i v24), some (x_i v36), none, none, none] [x_i (S37 0 12)] (al, ro, fl (ml M [32] [S37])) _ _ _ _
                refine e_iconst (pc := 160) dX12_monkLine_160 (x_R rfl) ?_
                obtain ⟨v45, S46, hr46, hG⟩ := x_bd2 hG
                have hjhr46 : Ev g yX12_monkLine cX12_monkLine 10 none [] 8 181 [some (x_r (16 * 32 + 0)), some (x_i a), some (x_i v5), some (x_i v8), some (x_i v18), some (x_i v24), some (x_i v36), none, none, none] [x_i v45] (al, ro, fl (ml M [32] [S46])) 0 0 (.inl none) (al, ro, fl (ml M [32] [t])) := by
                  refine e_istore (pc := 181) (i := 7) dX12_monkLine_181 (by decide) rfl ?_
                  show Ev g _ _ _ _ _ _ 183 [some (x_r (16 * 32 + 0)), some (x_i a), some (x_i v5), some (x_i v8), some (x_i v18), some (x_i v24), some (x_i v36), some (x_i v45), none, none] [] (al, ro, fl (ml M [32] [S46])) _ _ _ _
                  refine e_aloadn (pc := 183) (i := 0) dX12_monkLine_183 rfl rfl ?_
                  refine f_geti (pc := 184) (k := 0) (u := 32) (q := 0) dX12_monkLine_184 xf12_25 (sa_32_0 hs) rfl hn rfl rfl (by decide) ?_
                  show Ev g _ _ _ _ _ _ 187 [some (x_r (16 * 32 + 0)), some (x_i a), some (x_i v5), some (x_i v8), some (x_i v18), some (x_i v24), some (x_i v36), some (x_i v45), none, none] [x_i (S46 0 12)] (al, ro, fl (ml M [32] [S46])) _ _ _ _
                  refine e_iconst (pc := 187) dX12_monkLine_187 (x_R rfl) ?_
                  refine e_icmp_eq (pc := 188) (tgt := 192) dX12_monkLine_188 (by decide) (fun hb => ?_) (fun hb => ?_)
                  · rw [if_pos hb] at hG
                    refine e_aloadn (pc := 192) (i := 0) dX12_monkLine_192 rfl rfl ?_
                    refine f_getr (pc := 193) (u := 32) (q := 0) dX12_monkLine_193 xf12_7 (sa_32_0 hs) rfl (sr_32_0_1 hs) ?_
                    refine e_iconst (pc := 196) dX12_monkLine_196 (x_R rfl) ?_
                    refine f_iald (pc := 197) (k := 0) (u := 32) (q := 1) (len := 772) dX12_monkLine_197 (sa_32_1 hs) (by decide) hn rfl rfl (by decide) ?_
                    show Ev g _ _ _ _ _ _ 198 [some (x_r (16 * 32 + 0)), some (x_i a), some (x_i v5), some (x_i v8), some (x_i v18), some (x_i v24), some (x_i v36), some (x_i v45), none, none] [x_i (S46 1 3)] (al, ro, fl (ml M [32] [S46])) _ _ _ _
                    refine e_istore (pc := 198) (i := 8) dX12_monkLine_198 (by decide) rfl ?_
                    show Ev g _ _ _ _ _ _ 200 [some (x_r (16 * 32 + 0)), some (x_i a), some (x_i v5), some (x_i v8), some (x_i v18), some (x_i v24), some (x_i v36), some (x_i v45), some (x_i (S46 1 3)), none] [] (al, ro, fl (ml M [32] [S46])) _ _ _ _
                    refine e_iconst (pc := 200) dX12_monkLine_200 (x_R rfl) ?_
                    refine e_istore (pc := 201) (i := 9) dX12_monkLine_201 (by decide) rfl ?_
                    show Ev g _ _ _ _ _ _ 203 [some (x_r (16 * 32 + 0)), some (x_i a), some (x_i v5), some (x_i v8), some (x_i v18), some (x_i v24), some (x_i v36), some (x_i v45), some (x_i (S46 1 3)), some (x_i 0)] [] (al, ro, fl (ml M [32] [S46])) _ _ _ _
                    obtain ⟨S56, hl57, hG⟩ := x_bd1 hG
                    have hk57 : ∀ q : xU, q = S56 → Ev g yX12_monkLine cX12_monkLine 10 none [] 8 225 [some (x_r (16 * 32 + 0)), some (x_i a), some (x_i v5), some (x_i v8), some (x_i v18), some (x_i v24), some (x_i v36), some (x_i v45), some (x_i (S46 1 3)), none] [] (al, ro, fl (ml M [32] [q])) 0 0 (.inl none) (al, ro, fl (ml M [32] [t])) := by
                      intro q hq
                      replace hq := hq.symm
                      subst hq
                      refine e_aloadn (pc := 225) (i := 0) dX12_monkLine_225 rfl rfl ?_
                      refine e_iload (pc := 226) dX12_monkLine_226 rfl ?_
                      refine e_iconst (pc := 228) dX12_monkLine_228 (x_R rfl) ?_
                      refine e_iloadn (pc := 229) (i := 2) dX12_monkLine_229 rfl rfl ?_
                      obtain ⟨S61, hq61, hG⟩ := x_bd1 hG
                      refine e_invV (pc := 230) (K1 := 0) (S1 := 0) (K := 0) (S := 0) (dd2 := 0) (av := [x_i (S46 1 3), x_i 0, x_i v5]) (st := []) (id := 16 * 32 + 0) dX12_monkLine_230 xmX12_140 rfl (Or.inl ⟨10, 27, TX12, (sa_32_0 hs), rfl, by decide⟩) (f_cal (M := M) (us2 := [32]) [0] hn rfl (And.intro rfl trivial) rfl rfl rfl (c_X12_lays hst hs   hq61)) (by decide) (Nat.le_of_ble_eq_true rfl) (Or.inl rfl) ?_
                      show Ev g _ _ _ _ _ _ 233 [some (x_r (16 * 32 + 0)), some (x_i a), some (x_i v5), some (x_i v8), some (x_i v18), some (x_i v24), some (x_i v36), some (x_i v45), some (x_i (S46 1 3)), none] [] (al, ro, fl (ml M [32] [S61])) _ _ _ _
                      refine e_aloadn (pc := 233) (i := 0) dX12_monkLine_233 rfl rfl ?_
                      refine e_iload (pc := 234) dX12_monkLine_234 rfl ?_
                      refine e_iconst (pc := 236) dX12_monkLine_236 (x_R rfl) ?_
                      refine e_iload (pc := 237) dX12_monkLine_237 rfl ?_
                      obtain ⟨S63, hq63, hG⟩ := x_bd1 hG
                      refine e_invV (pc := 239) (K1 := 0) (S1 := 0) (K := 0) (S := 0) (dd2 := 0) (av := [x_i (S46 1 3), x_i 2, x_i v24]) (st := []) (id := 16 * 32 + 0) dX12_monkLine_239 xmX12_140 rfl (Or.inl ⟨10, 27, TX12, (sa_32_0 hs), rfl, by decide⟩) (f_cal (M := M) (us2 := [32]) [0] hn rfl (And.intro rfl trivial) rfl rfl rfl (c_X12_lays hst hs   hq63)) (by decide) (Nat.le_of_ble_eq_true rfl) (Or.inl rfl) ?_
                      show Ev g _ _ _ _ _ _ 242 [some (x_r (16 * 32 + 0)), some (x_i a), some (x_i v5), some (x_i v8), some (x_i v18), some (x_i v24), some (x_i v36), some (x_i v45), some (x_i (S46 1 3)), none] [] (al, ro, fl (ml M [32] [S63])) _ _ _ _
                      refine e_aloadn (pc := 242) (i := 0) dX12_monkLine_242 rfl rfl ?_
                      refine e_iload (pc := 243) dX12_monkLine_243 rfl ?_
                      refine e_iconst (pc := 245) dX12_monkLine_245 (x_R rfl) ?_
                      refine e_iload (pc := 246) dX12_monkLine_246 rfl ?_
                      obtain ⟨S65, hq65, hG⟩ := x_bd1 hG
                      refine e_invV (pc := 248) (K1 := 0) (S1 := 0) (K := 0) (S := 0) (dd2 := 0) (av := [x_i (S46 1 3), x_i 1, x_i v36]) (st := []) (id := 16 * 32 + 0) dX12_monkLine_248 xmX12_140 rfl (Or.inl ⟨10, 27, TX12, (sa_32_0 hs), rfl, by decide⟩) (f_cal (M := M) (us2 := [32]) [0] hn rfl (And.intro rfl trivial) rfl rfl rfl (c_X12_lays hst hs   hq65)) (by decide) (Nat.le_of_ble_eq_true rfl) (Or.inl rfl) ?_
                      show Ev g _ _ _ _ _ _ 251 [some (x_r (16 * 32 + 0)), some (x_i a), some (x_i v5), some (x_i v8), some (x_i v18), some (x_i v24), some (x_i v36), some (x_i v45), some (x_i (S46 1 3)), none] [] (al, ro, fl (ml M [32] [S65])) _ _ _ _
                      refine e_aloadn (pc := 251) (i := 0) dX12_monkLine_251 rfl rfl ?_
                      refine e_iload (pc := 252) dX12_monkLine_252 rfl ?_
                      refine e_iconst (pc := 254) dX12_monkLine_254 (x_R rfl) ?_
                      refine e_iload (pc := 255) dX12_monkLine_255 rfl ?_
                      obtain ⟨S67, hq67, hG⟩ := x_bd1 hG
                      refine e_invV (pc := 257) (K1 := 0) (S1 := 0) (K := 0) (S := 0) (dd2 := 0) (av := [x_i (S46 1 3), x_i 3, x_i v45]) (st := []) (id := 16 * 32 + 0) dX12_monkLine_257 xmX12_140 rfl (Or.inl ⟨10, 27, TX12, (sa_32_0 hs), rfl, by decide⟩) (f_cal (M := M) (us2 := [32]) [0] hn rfl (And.intro rfl trivial) rfl rfl rfl (c_X12_lays hst hs   hq67)) (by decide) (Nat.le_of_ble_eq_true rfl) (Or.inl rfl) ?_
                      show Ev g _ _ _ _ _ _ 260 [some (x_r (16 * 32 + 0)), some (x_i a), some (x_i v5), some (x_i v8), some (x_i v18), some (x_i v24), some (x_i v36), some (x_i v45), some (x_i (S46 1 3)), none] [] (al, ro, fl (ml M [32] [S67])) _ _ _ _
                      refine e_aloadn (pc := 260) (i := 0) dX12_monkLine_260 rfl rfl ?_
                      refine f_getr (pc := 261) (u := 32) (q := 0) dX12_monkLine_261 xf12_7 (sa_32_0 hs) rfl (sr_32_0_1 hs) ?_
                      refine e_iconst (pc := 264) dX12_monkLine_264 (x_R rfl) ?_
                      refine e_dup2 (pc := 265) dX12_monkLine_265 rfl rfl ?_
                      refine f_iald (pc := 266) (k := 0) (u := 32) (q := 1) (len := 772) dX12_monkLine_266 (sa_32_1 hs) (by decide) hn rfl rfl (by decide) ?_
                      show Ev g _ _ _ _ _ _ 267 [some (x_r (16 * 32 + 0)), some (x_i a), some (x_i v5), some (x_i v8), some (x_i v18), some (x_i v24), some (x_i v36), some (x_i v45), some (x_i (S46 1 3)), none] [x_i (S67 1 3), x_i 3, x_r (16 * 32 + 1)] (al, ro, fl (ml M [32] [S67])) _ _ _ _
                      refine e_iconst (pc := 267) dX12_monkLine_267 (x_R rfl) ?_
                      refine e_iadd (pc := 268) dX12_monkLine_268 ?_
                      refine f_iast (pc := 269) (k := 0) (u := 32) (q := 1) (len := 772) dX12_monkLine_269 (sa_32_1 hs) (by decide) hn rfl rfl rfl (by decide) ?_
                      show Ev g _ _ _ _ _ _ 270 [some (x_r (16 * 32 + 0)), some (x_i a), some (x_i v5), some (x_i v8), some (x_i v18), some (x_i v24), some (x_i v36), some (x_i v45), some (x_i (S46 1 3)), none] [] (al, ro, fl (ml M [32] [(x_up S67 1 3 (x_add (S67 1 3) 1))])) _ _ _ _
                      cases hG
                      exact (e_return rfl dX12_monkLine_270)
                    clear hG
                    refine e_whl (G12_monkLine_L203 S46) (fun z : (Int × xU) => Ev g yX12_monkLine cX12_monkLine 10 none [] 8 203 [some (x_r (16 * 32 + 0)), some (x_i a), some (x_i v5), some (x_i v8), some (x_i v18), some (x_i v24), some (x_i v36), some (x_i v45), some (x_i (S46 1 3)), some (x_i z.1)] [] (al, ro, fl (ml M [32] [z.2])) 0 0 (.inl none) (al, ro, fl (ml M [32] [t]))) (fun q => q = S56) ?_ xFU (0, S46) _ hl57 rfl
                    intro z t57 hf57 hi57 hx57
                    obtain ⟨v54, S55⟩ := z
                    rw [G12_monkLine_L203] at hf57
                    show Ev g _ _ _ _ _ _ 203 [some (x_r (16 * 32 + 0)), some (x_i a), some (x_i v5), some (x_i v8), some (x_i v18), some (x_i v24), some (x_i v36), some (x_i v45), some (x_i (S46 1 3)), some (x_i v54)] [] (al, ro, fl (ml M [32] [S55])) _ _ _ _
                    refine e_iload (pc := 203) dX12_monkLine_203 rfl ?_
                    refine e_bipush (pc := 205) dX12_monkLine_205 (by decide +kernel) (x_R rfl) ?_
                    refine e_icmp_ge (pc := 207) (tgt := 225) dX12_monkLine_207 (by decide) (fun hb => ?_) (fun hb => ?_)
                    · rw [if_pos hb] at hf57
                      cases hf57
                      refine e_drop (i := 9) ?_
                      exact hk57 _ (hx57 _ rfl)
                    · rw [if_neg hb] at hf57
                      refine e_aloadn (pc := 210) (i := 0) dX12_monkLine_210 rfl rfl ?_
                      refine e_iload (pc := 211) dX12_monkLine_211 rfl ?_
                      refine e_iload (pc := 213) dX12_monkLine_213 rfl ?_
                      refine e_iconst (pc := 215) dX12_monkLine_215 (x_R rfl) ?_
                      obtain ⟨S59, hq59, hf57⟩ := x_bd1 hf57
                      refine e_invV (pc := 216) (K1 := 0) (S1 := 0) (K := 0) (S := 0) (dd2 := 0) (av := [x_i (S46 1 3), x_i v54, x_i 0]) (st := []) (id := 16 * 32 + 0) dX12_monkLine_216 xmX12_140 rfl (Or.inl ⟨10, 27, TX12, (sa_32_0 hs), rfl, by decide⟩) (f_cal (M := M) (us2 := [32]) [0] hn rfl (And.intro rfl trivial) rfl rfl rfl (c_X12_lays hst hs   hq59)) (by decide) (Nat.le_of_ble_eq_true rfl) (Or.inl rfl) ?_
                      show Ev g _ _ _ _ _ _ 219 [some (x_r (16 * 32 + 0)), some (x_i a), some (x_i v5), some (x_i v8), some (x_i v18), some (x_i v24), some (x_i v36), some (x_i v45), some (x_i (S46 1 3)), some (x_i v54)] [] (al, ro, fl (ml M [32] [S59])) _ _ _ _
                      refine e_iinc (pc := 219) dX12_monkLine_219 rfl (by decide) rfl ?_
                      show Ev g _ _ _ _ _ _ 222 [some (x_r (16 * 32 + 0)), some (x_i a), some (x_i v5), some (x_i v8), some (x_i v18), some (x_i v24), some (x_i v36), some (x_i v45), some (x_i (S46 1 3)), some (x_i (x_add v54 1))] [] (al, ro, fl (ml M [32] [S59])) _ _ _ _
                      refine e_goto (pc := 222) (tgt := 203) dX12_monkLine_222 (by decide) ?_
                      cases hf57
                      exact hi57 _ rfl
                  · rw [if_neg hb] at hG
                    cases hG
                    exact (e_return rfl dX12_monkLine_191)
                clear hG
                refine e_icmp_ne (pc := 161) (tgt := 180) dX12_monkLine_161 (by decide) (fun hb => ?_) (fun hb => ?_)
                · rw [if_neg hb] at hr46
                  refine e_iconst (pc := 180) dX12_monkLine_180 (x_R rfl) ?_
                  cases hr46
                  exact hjhr46
                · rw [if_pos hb] at hr46
                  refine e_aloadn (pc := 164) (i := 0) dX12_monkLine_164 rfl rfl ?_
                  refine e_ldcS (pc := 165) (i := 4) dX12_monkLine_165 (by decide +kernel) (by decide) ?_
                  obtain ⟨v48, S49, hq49, hr46⟩ := x_bd2 hr46
                  refine e_invV (pc := 167) (K1 := 0) (S1 := 0) (K := 0) (S := 0) (dd2 := 6) (av := [x_r (x_s0 + 4)]) (st := []) (id := 16 * 32 + 0) dX12_monkLine_167 xmX12_112 rfl (Or.inl ⟨10, 27, TX12, (sa_32_0 hs), rfl, by decide⟩) (f_cal (M := M) (us2 := [32]) [0] hn rfl (And.intro rfl trivial) rfl rfl rfl (c_X12_has hst hs  (by decide) hq49)) (by decide) (Nat.le_of_ble_eq_true rfl) (Or.inl rfl) ?_
                  show Ev g _ _ _ _ _ _ 170 [some (x_r (16 * 32 + 0)), some (x_i a), some (x_i v5), some (x_i v8), some (x_i v18), some (x_i v24), some (x_i v36), none, none, none] [x_i v48] (al, ro, fl (ml M [32] [S49])) _ _ _ _
                  refine e_if_eq (pc := 170) (tgt := 180) dX12_monkLine_170 (by decide) (fun hb => ?_) (fun hb => ?_)
                  · rw [if_pos hb] at hr46
                    refine e_iconst (pc := 180) dX12_monkLine_180 (x_R rfl) ?_
                    cases hr46
                    exact hjhr46
                  · rw [if_neg hb] at hr46
                    refine e_aloadn (pc := 173) (i := 0) dX12_monkLine_173 rfl rfl ?_
                    obtain ⟨v51, S52, hq52, hr46⟩ := x_bd2 hr46
                    refine e_invV (pc := 174) (K1 := 0) (S1 := 0) (K := 0) (S := 0) (dd2 := 3) (av := []) (st := []) (id := 16 * 32 + 0) dX12_monkLine_174 xmX12_137 rfl (Or.inl ⟨10, 27, TX12, (sa_32_0 hs), rfl, by decide⟩) (f_cal (M := M) (us2 := [32]) [0] hn rfl (And.intro rfl trivial) rfl rfl rfl (c_X12_months hst hs   hq52)) (by decide) (Nat.le_of_ble_eq_true rfl) (Or.inl rfl) ?_
                    show Ev g _ _ _ _ _ _ 177 [some (x_r (16 * 32 + 0)), some (x_i a), some (x_i v5), some (x_i v8), some (x_i v18), some (x_i v24), some (x_i v36), none, none, none] [x_i v51] (al, ro, fl (ml M [32] [S52])) _ _ _ _
                    refine e_goto (pc := 177) (tgt := 181) dX12_monkLine_177 (by decide) ?_
                    cases hr46
                    exact hjhr46
              clear hG
              refine e_icmp_ne (pc := 131) (tgt := 153) dX12_monkLine_131 (by decide) (fun hb => ?_) (fun hb => ?_)
              · rw [if_neg hb] at hr37
                refine e_iconst (pc := 153) dX12_monkLine_153 (x_R rfl) ?_
                cases hr37
                exact hjhr37
              · rw [if_pos hb] at hr37
                refine e_aloadn (pc := 134) (i := 0) dX12_monkLine_134 rfl rfl ?_
                refine e_ldcS (pc := 135) (i := 3) dX12_monkLine_135 (by decide +kernel) (by decide) ?_
                obtain ⟨v39, S40, hq40, hr37⟩ := x_bd2 hr37
                refine e_invV (pc := 137) (K1 := 0) (S1 := 0) (K := 0) (S := 0) (dd2 := 6) (av := [x_r (x_s0 + 3)]) (st := []) (id := 16 * 32 + 0) dX12_monkLine_137 xmX12_112 rfl (Or.inl ⟨10, 27, TX12, (sa_32_0 hs), rfl, by decide⟩) (f_cal (M := M) (us2 := [32]) [0] hn rfl (And.intro rfl trivial) rfl rfl rfl (c_X12_has hst hs  (by decide) hq40)) (by decide) (Nat.le_of_ble_eq_true rfl) (Or.inl rfl) ?_
                show Ev g _ _ _ _ _ _ 140 [some (x_r (16 * 32 + 0)), some (x_i a), some (x_i v5), some (x_i v8), some (x_i v18), some (x_i v24), none, none, none, none] [x_i v39] (al, ro, fl (ml M [32] [S40])) _ _ _ _
                refine e_if_eq (pc := 140) (tgt := 153) dX12_monkLine_140 (by decide) (fun hb => ?_) (fun hb => ?_)
                · rw [if_pos hb] at hr37
                  refine e_iconst (pc := 153) dX12_monkLine_153 (x_R rfl) ?_
                  cases hr37
                  exact hjhr37
                · rw [if_neg hb] at hr37
                  refine e_aloadn (pc := 143) (i := 0) dX12_monkLine_143 rfl rfl ?_
                  refine e_iconst (pc := 144) dX12_monkLine_144 (x_R rfl) ?_
                  refine e_bipush (pc := 145) dX12_monkLine_145 (by decide +kernel) (x_R rfl) ?_
                  obtain ⟨v42, S43, hq43, hr37⟩ := x_bd2 hr37
                  refine e_invV (pc := 147) (K1 := 0) (S1 := 0) (K := 0) (S := 0) (dd2 := 3) (av := [x_i 0, x_i 8]) (st := []) (id := 16 * 32 + 0) dX12_monkLine_147 xmX12_116 rfl (Or.inl ⟨10, 27, TX12, (sa_32_0 hs), rfl, by decide⟩) (f_cal (M := M) (us2 := [32]) [0] hn rfl (And.intro rfl trivial) rfl rfl rfl (c_X12_figures hst hs   hq43)) (by decide) (Nat.le_of_ble_eq_true rfl) (Or.inl rfl) ?_
                  show Ev g _ _ _ _ _ _ 150 [some (x_r (16 * 32 + 0)), some (x_i a), some (x_i v5), some (x_i v8), some (x_i v18), some (x_i v24), none, none, none, none] [x_i v42] (al, ro, fl (ml M [32] [S43])) _ _ _ _
                  refine e_goto (pc := 150) (tgt := 154) dX12_monkLine_150 (by decide) ?_
                  cases hr37
                  exact hjhr37
            clear hG
            refine e_icmp_ne (pc := 108) (tgt := 126) dX12_monkLine_108 (by decide) (fun hb => ?_) (fun hb => ?_)
            · rw [if_neg hb] at hr30
              cases hr30
              exact hjhr30
            · rw [if_pos hb] at hr30
              refine e_aloadn (pc := 111) (i := 0) dX12_monkLine_111 rfl rfl ?_
              refine e_iload (pc := 112) dX12_monkLine_112 rfl ?_
              obtain ⟨v32, hq32, hr30⟩ := x_bd1 hr30
              refine e_invV (pc := 114) (K1 := 0) (S1 := 0) (K := 0) (S := 0) (dd2 := 1) (av := [x_i v24]) (st := []) (id := 16 * 32 + 0) dX12_monkLine_114 xmX12_130 rfl (Or.inl ⟨10, 27, TX12, (sa_32_0 hs), rfl, by decide⟩) (f_cal (M := M) (us2 := [32]) [0] hn rfl (And.intro rfl trivial) rfl rfl rfl (c_X12_isStall hst hs   hq32)) (by decide) (Nat.le_of_ble_eq_true rfl) (Or.inl rfl) ?_
              show Ev g _ _ _ _ _ _ 117 [some (x_r (16 * 32 + 0)), some (x_i a), some (x_i v5), some (x_i v8), some (x_i v18), some (x_i v24), none, none, none, none] [x_i v32] (al, ro, fl (ml M [32] [S25])) _ _ _ _
              refine e_if_eq (pc := 117) (tgt := 126) dX12_monkLine_117 (by decide) (fun hb => ?_) (fun hb => ?_)
              · rw [if_pos hb] at hr30
                cases hr30
                exact hjhr30
              · rw [if_neg hb] at hr30
                refine e_aloadn (pc := 120) (i := 0) dX12_monkLine_120 rfl rfl ?_
                refine e_iload (pc := 121) dX12_monkLine_121 rfl ?_
                obtain ⟨S34, hq34, hr30⟩ := x_bd1 hr30
                refine e_invV (pc := 123) (K1 := 0) (S1 := 0) (K := 0) (S := 0) (dd2 := 0) (av := [x_i v18]) (st := []) (id := 16 * 32 + 0) dX12_monkLine_123 xmX12_108 rfl (Or.inl ⟨10, 27, TX12, (sa_32_0 hs), rfl, by decide⟩) (f_cal (M := M) (us2 := [32]) [0] hn rfl (And.intro rfl trivial) rfl rfl rfl (c_X12_wrong hst hs   hq34)) (by decide) (Nat.le_of_ble_eq_true rfl) (Or.inl rfl) ?_
                show Ev g _ _ _ _ _ _ 126 [some (x_r (16 * 32 + 0)), some (x_i a), some (x_i v5), some (x_i v8), some (x_i v18), some (x_i v24), none, none, none, none] [] (al, ro, fl (ml M [32] [S34])) _ _ _ _
                cases hr30
                exact hjhr30
          clear hG
          refine e_if_eq (pc := 87) (tgt := 100) dX12_monkLine_87 (by decide) (fun hb => ?_) (fun hb => ?_)
          · rw [if_pos hb] at hr25
            refine e_iconst (pc := 100) dX12_monkLine_100 (x_R rfl) ?_
            cases hr25
            exact hjhr25
          · rw [if_neg hb] at hr25
            refine e_aloadn (pc := 90) (i := 0) dX12_monkLine_90 rfl rfl ?_
            refine e_iconst (pc := 91) dX12_monkLine_91 (x_R rfl) ?_
            refine e_bipush (pc := 92) dX12_monkLine_92 (by decide +kernel) (x_R rfl) ?_
            obtain ⟨v27, S28, hq28, hr25⟩ := x_bd2 hr25
            refine e_invV (pc := 94) (K1 := 0) (S1 := 0) (K := 0) (S := 0) (dd2 := 3) (av := [x_i 0, x_i 11]) (st := []) (id := 16 * 32 + 0) dX12_monkLine_94 xmX12_116 rfl (Or.inl ⟨10, 27, TX12, (sa_32_0 hs), rfl, by decide⟩) (f_cal (M := M) (us2 := [32]) [0] hn rfl (And.intro rfl trivial) rfl rfl rfl (c_X12_figures hst hs   hq28)) (by decide) (Nat.le_of_ble_eq_true rfl) (Or.inl rfl) ?_
            show Ev g _ _ _ _ _ _ 97 [some (x_r (16 * 32 + 0)), some (x_i a), some (x_i v5), some (x_i v8), some (x_i v18), none, none, none, none, none] [x_i v27] (al, ro, fl (ml M [32] [S28])) _ _ _ _
            refine e_goto (pc := 97) (tgt := 101) dX12_monkLine_97 (by decide) ?_
            cases hr25
            exact hjhr25
        clear hG
        refine e_if_eq (pc := 70) (tgt := 80) dX12_monkLine_70 (by decide) (fun hb => ?_) (fun hb => ?_)
        · rw [if_pos hb] at hr19
          refine e_aloadn (pc := 80) (i := 0) dX12_monkLine_80 rfl rfl ?_
          refine f_geti (pc := 81) (k := 0) (u := 32) (q := 0) dX12_monkLine_81 xf12_82 (sa_32_0 hs) rfl hn rfl rfl (by decide) ?_
          show Ev g _ _ _ _ _ _ 84 [some (x_r (16 * 32 + 0)), some (x_i a), some (x_i v5), some (x_i v8), none, none, none, none, none, none] [x_i (S14 0 11)] (al, ro, fl (ml M [32] [S14])) _ _ _ _
          cases hr19
          exact hjhr19
        · rw [if_neg hb] at hr19
          refine e_aloadn (pc := 73) (i := 0) dX12_monkLine_73 rfl rfl ?_
          obtain ⟨v21, S22, hq22, hr19⟩ := x_bd2 hr19
          refine e_invV (pc := 74) (K1 := 0) (S1 := 0) (K := 0) (S := 0) (dd2 := 2) (av := []) (st := []) (id := 16 * 32 + 0) dX12_monkLine_74 xmX12_105 rfl (Or.inl ⟨10, 27, TX12, (sa_32_0 hs), rfl, by decide⟩) (f_cal (M := M) (us2 := [32]) [0] hn rfl (And.intro rfl trivial) rfl rfl rfl (c_X12_here hst hs   hq22)) (by decide) (Nat.le_of_ble_eq_true rfl) (Or.inl rfl) ?_
          show Ev g _ _ _ _ _ _ 77 [some (x_r (16 * 32 + 0)), some (x_i a), some (x_i v5), some (x_i v8), none, none, none, none, none, none] [x_i v21] (al, ro, fl (ml M [32] [S22])) _ _ _ _
          refine e_goto (pc := 77) (tgt := 84) dX12_monkLine_77 (by decide) ?_
          cases hr19
          exact hjhr19
      clear hG
      refine e_icmp_ne (pc := 54) (tgt := 69) dX12_monkLine_54 (by decide) (fun hb => ?_) (fun hb => ?_)
      · rw [if_neg hb] at hr14
        cases hr14
        exact hjhr14
      · rw [if_pos hb] at hr14
        refine e_iloadn (pc := 57) (i := 3) dX12_monkLine_57 rfl rfl ?_
        refine e_if_ne (pc := 58) (tgt := 69) dX12_monkLine_58 (by decide) (fun hb => ?_) (fun hb => ?_)
        · rw [if_neg hb] at hr14
          cases hr14
          exact hjhr14
        · rw [if_pos hb] at hr14
          refine e_aloadn (pc := 61) (i := 0) dX12_monkLine_61 rfl rfl ?_
          refine e_aloadn (pc := 62) (i := 0) dX12_monkLine_62 rfl rfl ?_
          refine f_geti (pc := 63) (k := 0) (u := 32) (q := 0) dX12_monkLine_63 xf12_82 (sa_32_0 hs) rfl hn rfl rfl (by decide) ?_
          show Ev g _ _ _ _ _ _ 66 [some (x_r (16 * 32 + 0)), some (x_i a), some (x_i v5), some (x_i v8), none, none, none, none, none, none] [x_i (S9 0 11), x_r (16 * 32 + 0)] (al, ro, fl (ml M [32] [S9])) _ _ _ _
          obtain ⟨S16, hq16, hr14⟩ := x_bd1 hr14
          refine e_invV (pc := 66) (K1 := 0) (S1 := 0) (K := 0) (S := 0) (dd2 := 0) (av := [x_i (S9 0 11)]) (st := []) (id := 16 * 32 + 0) dX12_monkLine_66 xmX12_108 rfl (Or.inl ⟨10, 27, TX12, (sa_32_0 hs), rfl, by decide⟩) (f_cal (M := M) (us2 := [32]) [0] hn rfl (And.intro rfl trivial) rfl rfl rfl (c_X12_wrong hst hs   hq16)) (by decide) (Nat.le_of_ble_eq_true rfl) (Or.inl rfl) ?_
          show Ev g _ _ _ _ _ _ 69 [some (x_r (16 * 32 + 0)), some (x_i a), some (x_i v5), some (x_i v8), none, none, none, none, none, none] [] (al, ro, fl (ml M [32] [S16])) _ _ _ _
          cases hr14
          exact hjhr14
    clear hG
    refine e_icmp_ne (pc := 31) (tgt := 47) dX12_monkLine_31 (by decide) (fun hb => ?_) (fun hb => ?_)
    · rw [if_neg hb] at hr9
      refine e_iconst (pc := 47) dX12_monkLine_47 (x_R rfl) ?_
      cases hr9
      exact hjhr9
    · rw [if_pos hb] at hr9
      refine e_aloadn (pc := 34) (i := 0) dX12_monkLine_34 rfl rfl ?_
      refine e_ldcS (pc := 35) (i := 2) dX12_monkLine_35 (by decide +kernel) (by decide) ?_
      obtain ⟨v11, S12, hq12, hr9⟩ := x_bd2 hr9
      refine e_invV (pc := 37) (K1 := 0) (S1 := 0) (K := 0) (S := 0) (dd2 := 6) (av := [x_r (x_s0 + 2)]) (st := []) (id := 16 * 32 + 0) dX12_monkLine_37 xmX12_112 rfl (Or.inl ⟨10, 27, TX12, (sa_32_0 hs), rfl, by decide⟩) (f_cal (M := M) (us2 := [32]) [0] hn rfl (And.intro rfl trivial) rfl rfl rfl (c_X12_has hst hs  (by decide) hq12)) (by decide) (Nat.le_of_ble_eq_true rfl) (Or.inl rfl) ?_
      show Ev g _ _ _ _ _ _ 40 [some (x_r (16 * 32 + 0)), some (x_i a), some (x_i v5), none, none, none, none, none, none, none] [x_i v11] (al, ro, fl (ml M [32] [S12])) _ _ _ _
      refine e_if_eq (pc := 40) (tgt := 47) dX12_monkLine_40 (by decide) (fun hb => ?_) (fun hb => ?_)
      · rw [if_pos hb] at hr9
        refine e_iconst (pc := 47) dX12_monkLine_47 (x_R rfl) ?_
        cases hr9
        exact hjhr9
      · rw [if_neg hb] at hr9
        refine e_iconst (pc := 43) dX12_monkLine_43 (x_R rfl) ?_
        refine e_goto (pc := 44) (tgt := 48) dX12_monkLine_44 (by decide) ?_
        cases hr9
        exact hjhr9
  clear hG
  refine e_icmp_ne (pc := 8) (tgt := 16) dX12_monkLine_8 (by decide) (fun hb => ?_) (fun hb => ?_)
  · rw [if_neg hb] at hr1
    cases hr1
    exact hjhr1
  · rw [if_pos hb] at hr1
    refine e_aloadn (pc := 11) (i := 0) dX12_monkLine_11 rfl rfl ?_
    refine e_iloadn (pc := 12) (i := 1) dX12_monkLine_12 rfl rfl ?_
    obtain ⟨S3, hq3, hr1⟩ := x_bd1 hr1
    refine e_invV (pc := 13) (K1 := 0) (S1 := 0) (K := 0) (S := 0) (dd2 := 0) (av := [x_i a]) (st := []) (id := 16 * 32 + 0) dX12_monkLine_13 xmX12_108 rfl (Or.inl ⟨10, 27, TX12, (sa_32_0 hs), rfl, by decide⟩) (f_cal (M := M) (us2 := [32]) [0] hn rfl (And.intro rfl trivial) rfl rfl rfl (c_X12_wrong hst hs   hq3)) (by decide) (Nat.le_of_ble_eq_true rfl) (Or.inl rfl) ?_
    show Ev g _ _ _ _ _ _ 16 [some (x_r (16 * 32 + 0)), some (x_i a), none, none, none, none, none, none, none, none] [] (al, ro, fl (ml M [32] [S3])) _ _ _ _
    cases hr1
    exact hjhr1
def G12_seasonName (a : Int) (S : xU) : Option (Int × xU) :=
  (if (S 0 12) = (-1) then (x_b2 (G12_has 8 S) fun (v1 : Int) (S2 : xU) => (x_b2 (if v1 = 0 then (x_b2 (G12_has 9 S2) fun (v7 : Int) (S8 : xU) => (if v7 = 0 then (x_b2 (G12_has 10 S8) fun (v10 : Int) (S11 : xU) => (if v10 = 0 then (x_b2 (G12_has 11 S11) fun (v13 : Int) (S14 : xU) => (if v13 = 0 then (if a = 0 then (some ((-1), S14)) else (x_b2 (G12_has 7 S14) fun (v16 : Int) (S17 : xU) => (if v16 = 0 then (some ((-1), S17)) else (some (4, S17))))) else (some (3, S14)))) else (some (2, S11)))) else (some (1, S8)))) else (some (0, S2))) fun (v4 : Int) (S5 : xU) => (x_b1 (if v4 = (-1) then (x_b2 (G12_here S5) fun (v21 : Int) (S22 : xU) => (x_b1 (G12_wrong v21 S22) fun (S24 : xU) => (some S24))) else (some S5)) fun (S19 : xU) => (x_b1 (if v4 = (-1) then (some 0) else (some v4)) fun (v26 : Int) => (some (v26, S19)))))) else (some (0, S)))
set_option maxRecDepth 100000 in
set_option maxHeartbeats 4000000 in
theorem c_X12_seasonName {g : xG} {al : List (Nat × Nat × Nat)} {ro : Nat → Nat → Option Nat} (hst : g.1.stackTraces = false) (hs : SH al ro) {M : Nat → xU} {a : Int} {S : xU} {t : (Int × xU)} (hG : G12_seasonName a S = some t) :
    Cal g yX12_seasonName cX12_seasonName 3 (some .int) 7 [x_r (16 * 32 + 0), x_i a] (al, ro, fl (ml M [32] [S])) 0 0 (.inl (some (x_i t.1))) (al, ro, fl (ml M [32] [t.2])) := by
  have hn : ([32] : List Nat).Nodup := by decide
  refine cal_of_ev (by decide) (x_c1 rfl) (Nat.le_of_ble_eq_true rfl) hst ?_
  show Ev g _ _ _ _ _ _ 0 [some (x_r (16 * 32 + 0)), some (x_i a), none] [] (al, ro, fl (ml M [32] [S])) _ _ _ _
  rw [G12_seasonName] at hG
  refine e_aloadn (pc := 0) (i := 0) dX12_seasonName_0 rfl rfl ?_
  refine f_geti (pc := 1) (k := 0) (u := 32) (q := 0) dX12_seasonName_1 xf12_25 (sa_32_0 hs) rfl hn rfl rfl (by decide) ?_
  show Ev g _ _ _ _ _ _ 4 [some (x_r (16 * 32 + 0)), some (x_i a), none] [x_i (S 0 12)] (al, ro, fl (ml M [32] [S])) _ _ _ _
  refine e_iconst (pc := 4) dX12_seasonName_4 (x_R rfl) ?_
  refine e_icmp_eq (pc := 5) (tgt := 10) dX12_seasonName_5 (by decide) (fun hb => ?_) (fun hb => ?_)
  · rw [if_pos hb] at hG
    refine e_aloadn (pc := 10) (i := 0) dX12_seasonName_10 rfl rfl ?_
    refine e_ldcS (pc := 11) (i := 8) dX12_seasonName_11 (by decide +kernel) (by decide) ?_
    obtain ⟨v1, S2, hq2, hG⟩ := x_bd2 hG
    refine e_invV (pc := 13) (K1 := 0) (S1 := 0) (K := 0) (S := 0) (dd2 := 6) (av := [x_r (x_s0 + 8)]) (st := []) (id := 16 * 32 + 0) dX12_seasonName_13 xmX12_112 rfl (Or.inl ⟨10, 27, TX12, (sa_32_0 hs), rfl, by decide⟩) (f_cal (M := M) (us2 := [32]) [0] hn rfl (And.intro rfl trivial) rfl rfl rfl (c_X12_has hst hs  (by decide) hq2)) (by decide) (Nat.le_of_ble_eq_true rfl) (Or.inl rfl) ?_
    show Ev g _ _ _ _ _ _ 16 [some (x_r (16 * 32 + 0)), some (x_i a), none] [x_i v1] (al, ro, fl (ml M [32] [S2])) _ _ _ _
    obtain ⟨v4, S5, hr5, hG⟩ := x_bd2 hG
    have hjhr5 : Ev g yX12_seasonName cX12_seasonName 3 (some .int) [] 7 80 [some (x_r (16 * 32 + 0)), some (x_i a), none] [x_i v4] (al, ro, fl (ml M [32] [S5])) 0 0 (.inl (some (x_i t.1))) (al, ro, fl (ml M [32] [t.2])) := by
      refine e_istoren (pc := 80) (i := 2) dX12_seasonName_80 rfl (by decide) rfl ?_
      show Ev g _ _ _ _ _ _ 81 [some (x_r (16 * 32 + 0)), some (x_i a), some (x_i v4)] [] (al, ro, fl (ml M [32] [S5])) _ _ _ _
      refine e_iloadn (pc := 81) (i := 2) dX12_seasonName_81 rfl rfl ?_
      refine e_iconst (pc := 82) dX12_seasonName_82 (x_R rfl) ?_
      obtain ⟨S19, hr19, hG⟩ := x_bd1 hG
      have hjhr19 : Ev g yX12_seasonName cX12_seasonName 3 (some .int) [] 7 94 [some (x_r (16 * 32 + 0)), some (x_i a), some (x_i v4)] [] (al, ro, fl (ml M [32] [S19])) 0 0 (.inl (some (x_i t.1))) (al, ro, fl (ml M [32] [t.2])) := by
        refine e_iloadn (pc := 94) (i := 2) dX12_seasonName_94 rfl rfl ?_
        refine e_iconst (pc := 95) dX12_seasonName_95 (x_R rfl) ?_
        obtain ⟨v26, hr26, hG⟩ := x_bd1 hG
        have hjhr26 : Ev g yX12_seasonName cX12_seasonName 3 (some .int) [] 7 104 [some (x_r (16 * 32 + 0)), some (x_i a), some (x_i v4)] [x_i v26] (al, ro, fl (ml M [32] [S19])) 0 0 (.inl (some (x_i t.1))) (al, ro, fl (ml M [32] [t.2])) := by
          cases hG
          exact (e_ireturn rfl dX12_seasonName_104 rfl)
        clear hG
        refine e_icmp_ne (pc := 96) (tgt := 103) dX12_seasonName_96 (by decide) (fun hb => ?_) (fun hb => ?_)
        · rw [if_neg hb] at hr26
          refine e_iloadn (pc := 103) (i := 2) dX12_seasonName_103 rfl rfl ?_
          cases hr26
          exact hjhr26
        · rw [if_pos hb] at hr26
          refine e_iconst (pc := 99) dX12_seasonName_99 (x_R rfl) ?_
          refine e_goto (pc := 100) (tgt := 104) dX12_seasonName_100 (by decide) ?_
          cases hr26
          exact hjhr26
      clear hG
      refine e_icmp_ne (pc := 83) (tgt := 94) dX12_seasonName_83 (by decide) (fun hb => ?_) (fun hb => ?_)
      · rw [if_neg hb] at hr19
        cases hr19
        exact hjhr19
      · rw [if_pos hb] at hr19
        refine e_aloadn (pc := 86) (i := 0) dX12_seasonName_86 rfl rfl ?_
        refine e_aloadn (pc := 87) (i := 0) dX12_seasonName_87 rfl rfl ?_
        obtain ⟨v21, S22, hq22, hr19⟩ := x_bd2 hr19
        refine e_invV (pc := 88) (K1 := 0) (S1 := 0) (K := 0) (S := 0) (dd2 := 2) (av := []) (st := [x_r (16 * 32 + 0)]) (id := 16 * 32 + 0) dX12_seasonName_88 xmX12_105 rfl (Or.inl ⟨10, 27, TX12, (sa_32_0 hs), rfl, by decide⟩) (f_cal (M := M) (us2 := [32]) [0] hn rfl (And.intro rfl trivial) rfl rfl rfl (c_X12_here hst hs   hq22)) (by decide) (Nat.le_of_ble_eq_true rfl) (Or.inl rfl) ?_
        show Ev g _ _ _ _ _ _ 91 [some (x_r (16 * 32 + 0)), some (x_i a), some (x_i v4)] [x_i v21, x_r (16 * 32 + 0)] (al, ro, fl (ml M [32] [S22])) _ _ _ _
        obtain ⟨S24, hq24, hr19⟩ := x_bd1 hr19
        refine e_invV (pc := 91) (K1 := 0) (S1 := 0) (K := 0) (S := 0) (dd2 := 0) (av := [x_i v21]) (st := []) (id := 16 * 32 + 0) dX12_seasonName_91 xmX12_108 rfl (Or.inl ⟨10, 27, TX12, (sa_32_0 hs), rfl, by decide⟩) (f_cal (M := M) (us2 := [32]) [0] hn rfl (And.intro rfl trivial) rfl rfl rfl (c_X12_wrong hst hs   hq24)) (by decide) (Nat.le_of_ble_eq_true rfl) (Or.inl rfl) ?_
        show Ev g _ _ _ _ _ _ 94 [some (x_r (16 * 32 + 0)), some (x_i a), some (x_i v4)] [] (al, ro, fl (ml M [32] [S24])) _ _ _ _
        cases hr19
        exact hjhr19
    clear hG
    refine e_if_eq (pc := 16) (tgt := 23) dX12_seasonName_16 (by decide) (fun hb => ?_) (fun hb => ?_)
    · rw [if_pos hb] at hr5
      refine e_aloadn (pc := 23) (i := 0) dX12_seasonName_23 rfl rfl ?_
      refine e_ldcS (pc := 24) (i := 9) dX12_seasonName_24 (by decide +kernel) (by decide) ?_
      obtain ⟨v7, S8, hq8, hr5⟩ := x_bd2 hr5
      refine e_invV (pc := 26) (K1 := 0) (S1 := 0) (K := 0) (S := 0) (dd2 := 6) (av := [x_r (x_s0 + 9)]) (st := []) (id := 16 * 32 + 0) dX12_seasonName_26 xmX12_112 rfl (Or.inl ⟨10, 27, TX12, (sa_32_0 hs), rfl, by decide⟩) (f_cal (M := M) (us2 := [32]) [0] hn rfl (And.intro rfl trivial) rfl rfl rfl (c_X12_has hst hs  (by decide) hq8)) (by decide) (Nat.le_of_ble_eq_true rfl) (Or.inl rfl) ?_
      show Ev g _ _ _ _ _ _ 29 [some (x_r (16 * 32 + 0)), some (x_i a), none] [x_i v7] (al, ro, fl (ml M [32] [S8])) _ _ _ _
      refine e_if_eq (pc := 29) (tgt := 36) dX12_seasonName_29 (by decide) (fun hb => ?_) (fun hb => ?_)
      · rw [if_pos hb] at hr5
        refine e_aloadn (pc := 36) (i := 0) dX12_seasonName_36 rfl rfl ?_
        refine e_ldcS (pc := 37) (i := 10) dX12_seasonName_37 (by decide +kernel) (by decide) ?_
        obtain ⟨v10, S11, hq11, hr5⟩ := x_bd2 hr5
        refine e_invV (pc := 39) (K1 := 0) (S1 := 0) (K := 0) (S := 0) (dd2 := 6) (av := [x_r (x_s0 + 10)]) (st := []) (id := 16 * 32 + 0) dX12_seasonName_39 xmX12_112 rfl (Or.inl ⟨10, 27, TX12, (sa_32_0 hs), rfl, by decide⟩) (f_cal (M := M) (us2 := [32]) [0] hn rfl (And.intro rfl trivial) rfl rfl rfl (c_X12_has hst hs  (by decide) hq11)) (by decide) (Nat.le_of_ble_eq_true rfl) (Or.inl rfl) ?_
        show Ev g _ _ _ _ _ _ 42 [some (x_r (16 * 32 + 0)), some (x_i a), none] [x_i v10] (al, ro, fl (ml M [32] [S11])) _ _ _ _
        refine e_if_eq (pc := 42) (tgt := 49) dX12_seasonName_42 (by decide) (fun hb => ?_) (fun hb => ?_)
        · rw [if_pos hb] at hr5
          refine e_aloadn (pc := 49) (i := 0) dX12_seasonName_49 rfl rfl ?_
          refine e_ldcS (pc := 50) (i := 11) dX12_seasonName_50 (by decide +kernel) (by decide) ?_
          obtain ⟨v13, S14, hq14, hr5⟩ := x_bd2 hr5
          refine e_invV (pc := 52) (K1 := 0) (S1 := 0) (K := 0) (S := 0) (dd2 := 6) (av := [x_r (x_s0 + 11)]) (st := []) (id := 16 * 32 + 0) dX12_seasonName_52 xmX12_112 rfl (Or.inl ⟨10, 27, TX12, (sa_32_0 hs), rfl, by decide⟩) (f_cal (M := M) (us2 := [32]) [0] hn rfl (And.intro rfl trivial) rfl rfl rfl (c_X12_has hst hs  (by decide) hq14)) (by decide) (Nat.le_of_ble_eq_true rfl) (Or.inl rfl) ?_
          show Ev g _ _ _ _ _ _ 55 [some (x_r (16 * 32 + 0)), some (x_i a), none] [x_i v13] (al, ro, fl (ml M [32] [S14])) _ _ _ _
          refine e_if_eq (pc := 55) (tgt := 62) dX12_seasonName_55 (by decide) (fun hb => ?_) (fun hb => ?_)
          · rw [if_pos hb] at hr5
            refine e_iloadn (pc := 62) (i := 1) dX12_seasonName_62 rfl rfl ?_
            refine e_if_eq (pc := 63) (tgt := 79) dX12_seasonName_63 (by decide) (fun hb => ?_) (fun hb => ?_)
            · rw [if_pos hb] at hr5
              refine e_iconst (pc := 79) dX12_seasonName_79 (x_R rfl) ?_
              cases hr5
              exact hjhr5
            · rw [if_neg hb] at hr5
              refine e_aloadn (pc := 66) (i := 0) dX12_seasonName_66 rfl rfl ?_
              refine e_ldcS (pc := 67) (i := 7) dX12_seasonName_67 (by decide +kernel) (by decide) ?_
              obtain ⟨v16, S17, hq17, hr5⟩ := x_bd2 hr5
              refine e_invV (pc := 69) (K1 := 0) (S1 := 0) (K := 0) (S := 0) (dd2 := 6) (av := [x_r (x_s0 + 7)]) (st := []) (id := 16 * 32 + 0) dX12_seasonName_69 xmX12_112 rfl (Or.inl ⟨10, 27, TX12, (sa_32_0 hs), rfl, by decide⟩) (f_cal (M := M) (us2 := [32]) [0] hn rfl (And.intro rfl trivial) rfl rfl rfl (c_X12_has hst hs  (by decide) hq17)) (by decide) (Nat.le_of_ble_eq_true rfl) (Or.inl rfl) ?_
              show Ev g _ _ _ _ _ _ 72 [some (x_r (16 * 32 + 0)), some (x_i a), none] [x_i v16] (al, ro, fl (ml M [32] [S17])) _ _ _ _
              refine e_if_eq (pc := 72) (tgt := 79) dX12_seasonName_72 (by decide) (fun hb => ?_) (fun hb => ?_)
              · rw [if_pos hb] at hr5
                refine e_iconst (pc := 79) dX12_seasonName_79 (x_R rfl) ?_
                cases hr5
                exact hjhr5
              · rw [if_neg hb] at hr5
                refine e_iconst (pc := 75) dX12_seasonName_75 (x_R rfl) ?_
                refine e_goto (pc := 76) (tgt := 80) dX12_seasonName_76 (by decide) ?_
                cases hr5
                exact hjhr5
          · rw [if_neg hb] at hr5
            refine e_iconst (pc := 58) dX12_seasonName_58 (x_R rfl) ?_
            refine e_goto (pc := 59) (tgt := 80) dX12_seasonName_59 (by decide) ?_
            cases hr5
            exact hjhr5
        · rw [if_neg hb] at hr5
          refine e_iconst (pc := 45) dX12_seasonName_45 (x_R rfl) ?_
          refine e_goto (pc := 46) (tgt := 80) dX12_seasonName_46 (by decide) ?_
          cases hr5
          exact hjhr5
      · rw [if_neg hb] at hr5
        refine e_iconst (pc := 32) dX12_seasonName_32 (x_R rfl) ?_
        refine e_goto (pc := 33) (tgt := 80) dX12_seasonName_33 (by decide) ?_
        cases hr5
        exact hjhr5
    · rw [if_neg hb] at hr5
      refine e_iconst (pc := 19) dX12_seasonName_19 (x_R rfl) ?_
      refine e_goto (pc := 20) (tgt := 80) dX12_seasonName_20 (by decide) ?_
      cases hr5
      exact hjhr5
  · rw [if_neg hb] at hG
    refine e_iconst (pc := 8) dX12_seasonName_8 (x_R rfl) ?_
    cases hG
    exact (e_ireturn rfl dX12_seasonName_9 rfl)
def G12_says (a : Int) (b : Int) (c : Int) (S : xU) : Option xU :=
  (x_b2 (G12_figures b c S) fun (v1 : Int) (S2 : xU) => (x_b1 (if (S2 0 12) = (-1) then (x_gd ((0 : Int) ≤ a ∧ a < 772) (some (x_up S2 1 (a).toNat v1))) else (some S2)) fun (S4 : xU) => (some S4)))
set_option maxRecDepth 100000 in
set_option maxHeartbeats 4000000 in
theorem c_X12_says {g : xG} {al : List (Nat × Nat × Nat)} {ro : Nat → Nat → Option Nat} (hst : g.1.stackTraces = false) (hs : SH al ro) {M : Nat → xU} {a : Int} {b : Int} {c : Int} {S : xU} {t : xU} (hG : G12_says a b c S = some t) :
    Cal g yX12_says cX12_says 5 none 4 [x_r (16 * 32 + 0), x_i a, x_i b, x_i c] (al, ro, fl (ml M [32] [S])) 0 0 (.inl none) (al, ro, fl (ml M [32] [t])) := by
  have hn : ([32] : List Nat).Nodup := by decide
  refine cal_of_ev (by decide) (x_c1 rfl) (Nat.le_of_ble_eq_true rfl) hst ?_
  show Ev g _ _ _ _ _ _ 0 [some (x_r (16 * 32 + 0)), some (x_i a), some (x_i b), some (x_i c), none] [] (al, ro, fl (ml M [32] [S])) _ _ _ _
  rw [G12_says] at hG
  refine e_aloadn (pc := 0) (i := 0) dX12_says_0 rfl rfl ?_
  refine e_iloadn (pc := 1) (i := 2) dX12_says_1 rfl rfl ?_
  refine e_iloadn (pc := 2) (i := 3) dX12_says_2 rfl rfl ?_
  obtain ⟨v1, S2, hq2, hG⟩ := x_bd2 hG
  refine e_invV (pc := 3) (K1 := 0) (S1 := 0) (K := 0) (S := 0) (dd2 := 3) (av := [x_i b, x_i c]) (st := []) (id := 16 * 32 + 0) dX12_says_3 xmX12_116 rfl (Or.inl ⟨10, 27, TX12, (sa_32_0 hs), rfl, by decide⟩) (f_cal (M := M) (us2 := [32]) [0] hn rfl (And.intro rfl trivial) rfl rfl rfl (c_X12_figures hst hs   hq2)) (by decide) (Nat.le_of_ble_eq_true rfl) (Or.inl rfl) ?_
  show Ev g _ _ _ _ _ _ 6 [some (x_r (16 * 32 + 0)), some (x_i a), some (x_i b), some (x_i c), none] [x_i v1] (al, ro, fl (ml M [32] [S2])) _ _ _ _
  refine e_istore (pc := 6) (i := 4) dX12_says_6 (by decide) rfl ?_
  show Ev g _ _ _ _ _ _ 8 [some (x_r (16 * 32 + 0)), some (x_i a), some (x_i b), some (x_i c), some (x_i v1)] [] (al, ro, fl (ml M [32] [S2])) _ _ _ _
  refine e_aloadn (pc := 8) (i := 0) dX12_says_8 rfl rfl ?_
  refine f_geti (pc := 9) (k := 0) (u := 32) (q := 0) dX12_says_9 xf12_25 (sa_32_0 hs) rfl hn rfl rfl (by decide) ?_
  show Ev g _ _ _ _ _ _ 12 [some (x_r (16 * 32 + 0)), some (x_i a), some (x_i b), some (x_i c), some (x_i v1)] [x_i (S2 0 12)] (al, ro, fl (ml M [32] [S2])) _ _ _ _
  refine e_iconst (pc := 12) dX12_says_12 (x_R rfl) ?_
  obtain ⟨S4, hr4, hG⟩ := x_bd1 hG
  have hjhr4 : Ev g yX12_says cX12_says 5 none [] 4 24 [some (x_r (16 * 32 + 0)), some (x_i a), some (x_i b), some (x_i c), some (x_i v1)] [] (al, ro, fl (ml M [32] [S4])) 0 0 (.inl none) (al, ro, fl (ml M [32] [t])) := by
    cases hG
    exact (e_return rfl dX12_says_24)
  clear hG
  refine e_icmp_ne (pc := 13) (tgt := 24) dX12_says_13 (by decide) (fun hb => ?_) (fun hb => ?_)
  · rw [if_neg hb] at hr4
    cases hr4
    exact hjhr4
  · rw [if_pos hb] at hr4
    refine e_aloadn (pc := 16) (i := 0) dX12_says_16 rfl rfl ?_
    refine f_getr (pc := 17) (u := 32) (q := 0) dX12_says_17 xf12_7 (sa_32_0 hs) rfl (sr_32_0_1 hs) ?_
    refine e_iloadn (pc := 20) (i := 1) dX12_says_20 rfl rfl ?_
    refine e_iload (pc := 21) dX12_says_21 rfl ?_
    obtain ⟨hc0, hr4⟩ := x_gd_some hr4
    refine f_iast (pc := 23) (k := 0) (u := 32) (q := 1) (len := 772) dX12_says_23 (sa_32_1 hs) hc0 hn rfl rfl rfl (by decide) ?_
    show Ev g _ _ _ _ _ _ 24 [some (x_r (16 * 32 + 0)), some (x_i a), some (x_i b), some (x_i c), some (x_i v1)] [] (al, ro, fl (ml M [32] [(x_up S2 1 (a).toNat v1)])) _ _ _ _
    cases hr4
    exact hjhr4
def G12_cloisterLine (S : xU) : Option xU :=
  (x_b2 (G12_here S) fun (v1 : Int) (S2 : xU) => (x_b2 (G12_has 0 S2) fun (v4 : Int) (S5 : xU) => (x_b1 (if v4 = 0 then (x_b2 (G12_has 5 S5) fun (v9 : Int) (S10 : xU) => (if v9 = 0 then (x_b2 (G12_has 6 S10) fun (v12 : Int) (S13 : xU) => (if v12 = 0 then (x_b2 (G12_has 12 S13) fun (v15 : Int) (S16 : xU) => (if v15 = 0 then (x_b2 (G12_has 13 S16) fun (v18 : Int) (S19 : xU) => (if v18 = 0 then (x_b2 (G12_has 14 S19) fun (v21 : Int) (S22 : xU) => (if v21 = 0 then (x_b2 (G12_has 15 S22) fun (v24 : Int) (S25 : xU) => (if v24 = 0 then (x_b2 (G12_has 16 S25) fun (v27 : Int) (S28 : xU) => (if v27 = 0 then (x_b1 (G12_wrong (S28 0 11) S28) fun (S30 : xU) => (some S30)) else (x_b1 (G12_says 5 0 999 S28) fun (S32 : xU) => (some S32)))) else (x_b1 (G12_says 4 0 23 S25) fun (S34 : xU) => (some S34)))) else (x_b2 (G12_seasonName 0 S22) fun (v36 : Int) (S37 : xU) => (x_b1 (G12_says (x_add 12 v36) 0 999 S37) fun (S39 : xU) => (some S39))))) else (x_b1 (G12_says 9 0 20 S19) fun (S41 : xU) => (some S41)))) else (x_b1 (G12_says 8 0 100 S16) fun (S43 : xU) => (some S43)))) else (x_b2 (G12_seasonName 1 S13) fun (v45 : Int) (S46 : xU) => (x_b1 (if (S46 0 12) = (-1) then (some (x_up S46 1 7 v45)) else (some S46)) fun (S48 : xU) => (some S48))))) else (x_b1 (G12_says 6 0 15 S10) fun (S50 : xU) => (some S50)))) else (x_b1 (G12_monkLine v1 S5) fun (S52 : xU) => (some S52))) fun (S7 : xU) => (some S7))))
set_option maxRecDepth 100000 in
set_option maxHeartbeats 4000000 in
theorem c_X12_cloisterLine {g : xG} {al : List (Nat × Nat × Nat)} {ro : Nat → Nat → Option Nat} (hst : g.1.stackTraces = false) (hs : SH al ro) {M : Nat → xU} {S : xU} {t : xU} (hG : G12_cloisterLine S = some t) :
    Cal g yX12_cloisterLine cX12_cloisterLine 3 none 9 [x_r (16 * 32 + 0)] (al, ro, fl (ml M [32] [S])) 0 0 (.inl none) (al, ro, fl (ml M [32] [t])) := by
  have hn : ([32] : List Nat).Nodup := by decide
  refine cal_of_ev (by decide) (x_c1 rfl) (Nat.le_of_ble_eq_true rfl) hst ?_
  show Ev g _ _ _ _ _ _ 0 [some (x_r (16 * 32 + 0)), none, none] [] (al, ro, fl (ml M [32] [S])) _ _ _ _
  rw [G12_cloisterLine] at hG
  refine e_aloadn (pc := 0) (i := 0) dX12_cloisterLine_0 rfl rfl ?_
  obtain ⟨v1, S2, hq2, hG⟩ := x_bd2 hG
  refine e_invV (pc := 1) (K1 := 0) (S1 := 0) (K := 0) (S := 0) (dd2 := 2) (av := []) (st := []) (id := 16 * 32 + 0) dX12_cloisterLine_1 xmX12_105 rfl (Or.inl ⟨10, 27, TX12, (sa_32_0 hs), rfl, by decide⟩) (f_cal (M := M) (us2 := [32]) [0] hn rfl (And.intro rfl trivial) rfl rfl rfl (c_X12_here hst hs   hq2)) (by decide) (Nat.le_of_ble_eq_true rfl) (Or.inl rfl) ?_
  show Ev g _ _ _ _ _ _ 4 [some (x_r (16 * 32 + 0)), none, none] [x_i v1] (al, ro, fl (ml M [32] [S2])) _ _ _ _
  refine e_istoren (pc := 4) (i := 1) dX12_cloisterLine_4 rfl (by decide) rfl ?_
  show Ev g _ _ _ _ _ _ 5 [some (x_r (16 * 32 + 0)), some (x_i v1), none] [] (al, ro, fl (ml M [32] [S2])) _ _ _ _
  refine e_aloadn (pc := 5) (i := 0) dX12_cloisterLine_5 rfl rfl ?_
  refine e_ldcS (pc := 6) (i := 0) dX12_cloisterLine_6 (by decide +kernel) (by decide) ?_
  obtain ⟨v4, S5, hq5, hG⟩ := x_bd2 hG
  refine e_invV (pc := 8) (K1 := 0) (S1 := 0) (K := 0) (S := 0) (dd2 := 6) (av := [x_r (x_s0 + 0)]) (st := []) (id := 16 * 32 + 0) dX12_cloisterLine_8 xmX12_112 rfl (Or.inl ⟨10, 27, TX12, (sa_32_0 hs), rfl, by decide⟩) (f_cal (M := M) (us2 := [32]) [0] hn rfl (And.intro rfl trivial) rfl rfl rfl (c_X12_has hst hs  (by decide) hq5)) (by decide) (Nat.le_of_ble_eq_true rfl) (Or.inl rfl) ?_
  show Ev g _ _ _ _ _ _ 11 [some (x_r (16 * 32 + 0)), some (x_i v1), none] [x_i v4] (al, ro, fl (ml M [32] [S5])) _ _ _ _
  obtain ⟨S7, hr7, hG⟩ := x_bd1 hG
  have hjhr7 : Ev g yX12_cloisterLine cX12_cloisterLine 3 none [] 9 198 [some (x_r (16 * 32 + 0)), some (x_i v1), none] [] (al, ro, fl (ml M [32] [S7])) 0 0 (.inl none) (al, ro, fl (ml M [32] [t])) := by
    cases hG
    exact (e_return rfl dX12_cloisterLine_198)
  clear hG
  refine e_if_eq (pc := 11) (tgt := 22) dX12_cloisterLine_11 (by decide) (fun hb => ?_) (fun hb => ?_)
  · rw [if_pos hb] at hr7
    refine e_aloadn (pc := 22) (i := 0) dX12_cloisterLine_22 rfl rfl ?_
    refine e_ldcS (pc := 23) (i := 5) dX12_cloisterLine_23 (by decide +kernel) (by decide) ?_
    obtain ⟨v9, S10, hq10, hr7⟩ := x_bd2 hr7
    refine e_invV (pc := 25) (K1 := 0) (S1 := 0) (K := 0) (S := 0) (dd2 := 6) (av := [x_r (x_s0 + 5)]) (st := []) (id := 16 * 32 + 0) dX12_cloisterLine_25 xmX12_112 rfl (Or.inl ⟨10, 27, TX12, (sa_32_0 hs), rfl, by decide⟩) (f_cal (M := M) (us2 := [32]) [0] hn rfl (And.intro rfl trivial) rfl rfl rfl (c_X12_has hst hs  (by decide) hq10)) (by decide) (Nat.le_of_ble_eq_true rfl) (Or.inl rfl) ?_
    show Ev g _ _ _ _ _ _ 28 [some (x_r (16 * 32 + 0)), some (x_i v1), none] [x_i v9] (al, ro, fl (ml M [32] [S10])) _ _ _ _
    refine e_if_eq (pc := 28) (tgt := 43) dX12_cloisterLine_28 (by decide) (fun hb => ?_) (fun hb => ?_)
    · rw [if_pos hb] at hr7
      refine e_aloadn (pc := 43) (i := 0) dX12_cloisterLine_43 rfl rfl ?_
      refine e_ldcS (pc := 44) (i := 6) dX12_cloisterLine_44 (by decide +kernel) (by decide) ?_
      obtain ⟨v12, S13, hq13, hr7⟩ := x_bd2 hr7
      refine e_invV (pc := 46) (K1 := 0) (S1 := 0) (K := 0) (S := 0) (dd2 := 6) (av := [x_r (x_s0 + 6)]) (st := []) (id := 16 * 32 + 0) dX12_cloisterLine_46 xmX12_112 rfl (Or.inl ⟨10, 27, TX12, (sa_32_0 hs), rfl, by decide⟩) (f_cal (M := M) (us2 := [32]) [0] hn rfl (And.intro rfl trivial) rfl rfl rfl (c_X12_has hst hs  (by decide) hq13)) (by decide) (Nat.le_of_ble_eq_true rfl) (Or.inl rfl) ?_
      show Ev g _ _ _ _ _ _ 49 [some (x_r (16 * 32 + 0)), some (x_i v1), none] [x_i v12] (al, ro, fl (ml M [32] [S13])) _ _ _ _
      refine e_if_eq (pc := 49) (tgt := 77) dX12_cloisterLine_49 (by decide) (fun hb => ?_) (fun hb => ?_)
      · rw [if_pos hb] at hr7
        refine e_aloadn (pc := 77) (i := 0) dX12_cloisterLine_77 rfl rfl ?_
        refine e_ldcS (pc := 78) (i := 12) dX12_cloisterLine_78 (by decide +kernel) (by decide) ?_
        obtain ⟨v15, S16, hq16, hr7⟩ := x_bd2 hr7
        refine e_invV (pc := 80) (K1 := 0) (S1 := 0) (K := 0) (S := 0) (dd2 := 6) (av := [x_r (x_s0 + 12)]) (st := []) (id := 16 * 32 + 0) dX12_cloisterLine_80 xmX12_112 rfl (Or.inl ⟨10, 27, TX12, (sa_32_0 hs), rfl, by decide⟩) (f_cal (M := M) (us2 := [32]) [0] hn rfl (And.intro rfl trivial) rfl rfl rfl (c_X12_has hst hs  (by decide) hq16)) (by decide) (Nat.le_of_ble_eq_true rfl) (Or.inl rfl) ?_
        show Ev g _ _ _ _ _ _ 83 [some (x_r (16 * 32 + 0)), some (x_i v1), none] [x_i v15] (al, ro, fl (ml M [32] [S16])) _ _ _ _
        refine e_if_eq (pc := 83) (tgt := 98) dX12_cloisterLine_83 (by decide) (fun hb => ?_) (fun hb => ?_)
        · rw [if_pos hb] at hr7
          refine e_aloadn (pc := 98) (i := 0) dX12_cloisterLine_98 rfl rfl ?_
          refine e_ldcS (pc := 99) (i := 13) dX12_cloisterLine_99 (by decide +kernel) (by decide) ?_
          obtain ⟨v18, S19, hq19, hr7⟩ := x_bd2 hr7
          refine e_invV (pc := 101) (K1 := 0) (S1 := 0) (K := 0) (S := 0) (dd2 := 6) (av := [x_r (x_s0 + 13)]) (st := []) (id := 16 * 32 + 0) dX12_cloisterLine_101 xmX12_112 rfl (Or.inl ⟨10, 27, TX12, (sa_32_0 hs), rfl, by decide⟩) (f_cal (M := M) (us2 := [32]) [0] hn rfl (And.intro rfl trivial) rfl rfl rfl (c_X12_has hst hs  (by decide) hq19)) (by decide) (Nat.le_of_ble_eq_true rfl) (Or.inl rfl) ?_
          show Ev g _ _ _ _ _ _ 104 [some (x_r (16 * 32 + 0)), some (x_i v1), none] [x_i v18] (al, ro, fl (ml M [32] [S19])) _ _ _ _
          refine e_if_eq (pc := 104) (tgt := 119) dX12_cloisterLine_104 (by decide) (fun hb => ?_) (fun hb => ?_)
          · rw [if_pos hb] at hr7
            refine e_aloadn (pc := 119) (i := 0) dX12_cloisterLine_119 rfl rfl ?_
            refine e_ldcS (pc := 120) (i := 14) dX12_cloisterLine_120 (by decide +kernel) (by decide) ?_
            obtain ⟨v21, S22, hq22, hr7⟩ := x_bd2 hr7
            refine e_invV (pc := 122) (K1 := 0) (S1 := 0) (K := 0) (S := 0) (dd2 := 6) (av := [x_r (x_s0 + 14)]) (st := []) (id := 16 * 32 + 0) dX12_cloisterLine_122 xmX12_112 rfl (Or.inl ⟨10, 27, TX12, (sa_32_0 hs), rfl, by decide⟩) (f_cal (M := M) (us2 := [32]) [0] hn rfl (And.intro rfl trivial) rfl rfl rfl (c_X12_has hst hs  (by decide) hq22)) (by decide) (Nat.le_of_ble_eq_true rfl) (Or.inl rfl) ?_
            show Ev g _ _ _ _ _ _ 125 [some (x_r (16 * 32 + 0)), some (x_i v1), none] [x_i v21] (al, ro, fl (ml M [32] [S22])) _ _ _ _
            refine e_if_eq (pc := 125) (tgt := 149) dX12_cloisterLine_125 (by decide) (fun hb => ?_) (fun hb => ?_)
            · rw [if_pos hb] at hr7
              refine e_aloadn (pc := 149) (i := 0) dX12_cloisterLine_149 rfl rfl ?_
              refine e_ldcS (pc := 150) (i := 15) dX12_cloisterLine_150 (by decide +kernel) (by decide) ?_
              obtain ⟨v24, S25, hq25, hr7⟩ := x_bd2 hr7
              refine e_invV (pc := 152) (K1 := 0) (S1 := 0) (K := 0) (S := 0) (dd2 := 6) (av := [x_r (x_s0 + 15)]) (st := []) (id := 16 * 32 + 0) dX12_cloisterLine_152 xmX12_112 rfl (Or.inl ⟨10, 27, TX12, (sa_32_0 hs), rfl, by decide⟩) (f_cal (M := M) (us2 := [32]) [0] hn rfl (And.intro rfl trivial) rfl rfl rfl (c_X12_has hst hs  (by decide) hq25)) (by decide) (Nat.le_of_ble_eq_true rfl) (Or.inl rfl) ?_
              show Ev g _ _ _ _ _ _ 155 [some (x_r (16 * 32 + 0)), some (x_i v1), none] [x_i v24] (al, ro, fl (ml M [32] [S25])) _ _ _ _
              refine e_if_eq (pc := 155) (tgt := 169) dX12_cloisterLine_155 (by decide) (fun hb => ?_) (fun hb => ?_)
              · rw [if_pos hb] at hr7
                refine e_aloadn (pc := 169) (i := 0) dX12_cloisterLine_169 rfl rfl ?_
                refine e_ldcS (pc := 170) (i := 16) dX12_cloisterLine_170 (by decide +kernel) (by decide) ?_
                obtain ⟨v27, S28, hq28, hr7⟩ := x_bd2 hr7
                refine e_invV (pc := 172) (K1 := 0) (S1 := 0) (K := 0) (S := 0) (dd2 := 6) (av := [x_r (x_s0 + 16)]) (st := []) (id := 16 * 32 + 0) dX12_cloisterLine_172 xmX12_112 rfl (Or.inl ⟨10, 27, TX12, (sa_32_0 hs), rfl, by decide⟩) (f_cal (M := M) (us2 := [32]) [0] hn rfl (And.intro rfl trivial) rfl rfl rfl (c_X12_has hst hs  (by decide) hq28)) (by decide) (Nat.le_of_ble_eq_true rfl) (Or.inl rfl) ?_
                show Ev g _ _ _ _ _ _ 175 [some (x_r (16 * 32 + 0)), some (x_i v1), none] [x_i v27] (al, ro, fl (ml M [32] [S28])) _ _ _ _
                refine e_if_eq (pc := 175) (tgt := 190) dX12_cloisterLine_175 (by decide) (fun hb => ?_) (fun hb => ?_)
                · rw [if_pos hb] at hr7
                  refine e_aloadn (pc := 190) (i := 0) dX12_cloisterLine_190 rfl rfl ?_
                  refine e_aloadn (pc := 191) (i := 0) dX12_cloisterLine_191 rfl rfl ?_
                  refine f_geti (pc := 192) (k := 0) (u := 32) (q := 0) dX12_cloisterLine_192 xf12_82 (sa_32_0 hs) rfl hn rfl rfl (by decide) ?_
                  show Ev g _ _ _ _ _ _ 195 [some (x_r (16 * 32 + 0)), some (x_i v1), none] [x_i (S28 0 11), x_r (16 * 32 + 0)] (al, ro, fl (ml M [32] [S28])) _ _ _ _
                  obtain ⟨S30, hq30, hr7⟩ := x_bd1 hr7
                  refine e_invV (pc := 195) (K1 := 0) (S1 := 0) (K := 0) (S := 0) (dd2 := 0) (av := [x_i (S28 0 11)]) (st := []) (id := 16 * 32 + 0) dX12_cloisterLine_195 xmX12_108 rfl (Or.inl ⟨10, 27, TX12, (sa_32_0 hs), rfl, by decide⟩) (f_cal (M := M) (us2 := [32]) [0] hn rfl (And.intro rfl trivial) rfl rfl rfl (c_X12_wrong hst hs   hq30)) (by decide) (Nat.le_of_ble_eq_true rfl) (Or.inl rfl) ?_
                  show Ev g _ _ _ _ _ _ 198 [some (x_r (16 * 32 + 0)), some (x_i v1), none] [] (al, ro, fl (ml M [32] [S30])) _ _ _ _
                  cases hr7
                  exact hjhr7
                · rw [if_neg hb] at hr7
                  refine e_aloadn (pc := 178) (i := 0) dX12_cloisterLine_178 rfl rfl ?_
                  refine e_iconst (pc := 179) dX12_cloisterLine_179 (x_R rfl) ?_
                  refine e_iconst (pc := 180) dX12_cloisterLine_180 (x_R rfl) ?_
                  refine e_sipush (pc := 181) dX12_cloisterLine_181 (by decide +kernel) (x_R rfl) ?_
                  obtain ⟨S32, hq32, hr7⟩ := x_bd1 hr7
                  refine e_invV (pc := 184) (K1 := 0) (S1 := 0) (K := 0) (S := 0) (dd2 := 4) (av := [x_i 5, x_i 0, x_i 999]) (st := []) (id := 16 * 32 + 0) dX12_cloisterLine_184 xmX12_161 rfl (Or.inl ⟨10, 27, TX12, (sa_32_0 hs), rfl, by decide⟩) (f_cal (M := M) (us2 := [32]) [0] hn rfl (And.intro rfl trivial) rfl rfl rfl (c_X12_says hst hs   hq32)) (by decide) (Nat.le_of_ble_eq_true rfl) (Or.inl rfl) ?_
                  show Ev g _ _ _ _ _ _ 187 [some (x_r (16 * 32 + 0)), some (x_i v1), none] [] (al, ro, fl (ml M [32] [S32])) _ _ _ _
                  refine e_goto (pc := 187) (tgt := 198) dX12_cloisterLine_187 (by decide) ?_
                  cases hr7
                  exact hjhr7
              · rw [if_neg hb] at hr7
                refine e_aloadn (pc := 158) (i := 0) dX12_cloisterLine_158 rfl rfl ?_
                refine e_iconst (pc := 159) dX12_cloisterLine_159 (x_R rfl) ?_
                refine e_iconst (pc := 160) dX12_cloisterLine_160 (x_R rfl) ?_
                refine e_bipush (pc := 161) dX12_cloisterLine_161 (by decide +kernel) (x_R rfl) ?_
                obtain ⟨S34, hq34, hr7⟩ := x_bd1 hr7
                refine e_invV (pc := 163) (K1 := 0) (S1 := 0) (K := 0) (S := 0) (dd2 := 4) (av := [x_i 4, x_i 0, x_i 23]) (st := []) (id := 16 * 32 + 0) dX12_cloisterLine_163 xmX12_161 rfl (Or.inl ⟨10, 27, TX12, (sa_32_0 hs), rfl, by decide⟩) (f_cal (M := M) (us2 := [32]) [0] hn rfl (And.intro rfl trivial) rfl rfl rfl (c_X12_says hst hs   hq34)) (by decide) (Nat.le_of_ble_eq_true rfl) (Or.inl rfl) ?_
                show Ev g _ _ _ _ _ _ 166 [some (x_r (16 * 32 + 0)), some (x_i v1), none] [] (al, ro, fl (ml M [32] [S34])) _ _ _ _
                refine e_goto (pc := 166) (tgt := 198) dX12_cloisterLine_166 (by decide) ?_
                cases hr7
                exact hjhr7
            · rw [if_neg hb] at hr7
              refine e_aloadn (pc := 128) (i := 0) dX12_cloisterLine_128 rfl rfl ?_
              refine e_iconst (pc := 129) dX12_cloisterLine_129 (x_R rfl) ?_
              obtain ⟨v36, S37, hq37, hr7⟩ := x_bd2 hr7
              refine e_invV (pc := 130) (K1 := 0) (S1 := 0) (K := 0) (S := 0) (dd2 := 7) (av := [x_i 0]) (st := []) (id := 16 * 32 + 0) dX12_cloisterLine_130 xmX12_166 rfl (Or.inl ⟨10, 27, TX12, (sa_32_0 hs), rfl, by decide⟩) (f_cal (M := M) (us2 := [32]) [0] hn rfl (And.intro rfl trivial) rfl rfl rfl (c_X12_seasonName hst hs   hq37)) (by decide) (Nat.le_of_ble_eq_true rfl) (Or.inl rfl) ?_
              show Ev g _ _ _ _ _ _ 133 [some (x_r (16 * 32 + 0)), some (x_i v1), none] [x_i v36] (al, ro, fl (ml M [32] [S37])) _ _ _ _
              refine e_istoren (pc := 133) (i := 2) dX12_cloisterLine_133 rfl (by decide) rfl ?_
              show Ev g _ _ _ _ _ _ 134 [some (x_r (16 * 32 + 0)), some (x_i v1), some (x_i v36)] [] (al, ro, fl (ml M [32] [S37])) _ _ _ _
              refine e_aloadn (pc := 134) (i := 0) dX12_cloisterLine_134 rfl rfl ?_
              refine e_bipush (pc := 135) dX12_cloisterLine_135 (by decide +kernel) (x_R rfl) ?_
              refine e_iloadn (pc := 137) (i := 2) dX12_cloisterLine_137 rfl rfl ?_
              refine e_iadd (pc := 138) dX12_cloisterLine_138 ?_
              refine e_iconst (pc := 139) dX12_cloisterLine_139 (x_R rfl) ?_
              refine e_sipush (pc := 140) dX12_cloisterLine_140 (by decide +kernel) (x_R rfl) ?_
              obtain ⟨S39, hq39, hr7⟩ := x_bd1 hr7
              refine e_invV (pc := 143) (K1 := 0) (S1 := 0) (K := 0) (S := 0) (dd2 := 4) (av := [x_i (x_add 12 v36), x_i 0, x_i 999]) (st := []) (id := 16 * 32 + 0) dX12_cloisterLine_143 xmX12_161 rfl (Or.inl ⟨10, 27, TX12, (sa_32_0 hs), rfl, by decide⟩) (f_cal (M := M) (us2 := [32]) [0] hn rfl (And.intro rfl trivial) rfl rfl rfl (c_X12_says hst hs   hq39)) (by decide) (Nat.le_of_ble_eq_true rfl) (Or.inl rfl) ?_
              show Ev g _ _ _ _ _ _ 146 [some (x_r (16 * 32 + 0)), some (x_i v1), some (x_i v36)] [] (al, ro, fl (ml M [32] [S39])) _ _ _ _
              refine e_goto (pc := 146) (tgt := 198) dX12_cloisterLine_146 (by decide) ?_
              cases hr7
              refine e_drop (i := 2) ?_
              exact hjhr7
          · rw [if_neg hb] at hr7
            refine e_aloadn (pc := 107) (i := 0) dX12_cloisterLine_107 rfl rfl ?_
            refine e_bipush (pc := 108) dX12_cloisterLine_108 (by decide +kernel) (x_R rfl) ?_
            refine e_iconst (pc := 110) dX12_cloisterLine_110 (x_R rfl) ?_
            refine e_bipush (pc := 111) dX12_cloisterLine_111 (by decide +kernel) (x_R rfl) ?_
            obtain ⟨S41, hq41, hr7⟩ := x_bd1 hr7
            refine e_invV (pc := 113) (K1 := 0) (S1 := 0) (K := 0) (S := 0) (dd2 := 4) (av := [x_i 9, x_i 0, x_i 20]) (st := []) (id := 16 * 32 + 0) dX12_cloisterLine_113 xmX12_161 rfl (Or.inl ⟨10, 27, TX12, (sa_32_0 hs), rfl, by decide⟩) (f_cal (M := M) (us2 := [32]) [0] hn rfl (And.intro rfl trivial) rfl rfl rfl (c_X12_says hst hs   hq41)) (by decide) (Nat.le_of_ble_eq_true rfl) (Or.inl rfl) ?_
            show Ev g _ _ _ _ _ _ 116 [some (x_r (16 * 32 + 0)), some (x_i v1), none] [] (al, ro, fl (ml M [32] [S41])) _ _ _ _
            refine e_goto (pc := 116) (tgt := 198) dX12_cloisterLine_116 (by decide) ?_
            cases hr7
            exact hjhr7
        · rw [if_neg hb] at hr7
          refine e_aloadn (pc := 86) (i := 0) dX12_cloisterLine_86 rfl rfl ?_
          refine e_bipush (pc := 87) dX12_cloisterLine_87 (by decide +kernel) (x_R rfl) ?_
          refine e_iconst (pc := 89) dX12_cloisterLine_89 (x_R rfl) ?_
          refine e_bipush (pc := 90) dX12_cloisterLine_90 (by decide +kernel) (x_R rfl) ?_
          obtain ⟨S43, hq43, hr7⟩ := x_bd1 hr7
          refine e_invV (pc := 92) (K1 := 0) (S1 := 0) (K := 0) (S := 0) (dd2 := 4) (av := [x_i 8, x_i 0, x_i 100]) (st := []) (id := 16 * 32 + 0) dX12_cloisterLine_92 xmX12_161 rfl (Or.inl ⟨10, 27, TX12, (sa_32_0 hs), rfl, by decide⟩) (f_cal (M := M) (us2 := [32]) [0] hn rfl (And.intro rfl trivial) rfl rfl rfl (c_X12_says hst hs   hq43)) (by decide) (Nat.le_of_ble_eq_true rfl) (Or.inl rfl) ?_
          show Ev g _ _ _ _ _ _ 95 [some (x_r (16 * 32 + 0)), some (x_i v1), none] [] (al, ro, fl (ml M [32] [S43])) _ _ _ _
          refine e_goto (pc := 95) (tgt := 198) dX12_cloisterLine_95 (by decide) ?_
          cases hr7
          exact hjhr7
      · rw [if_neg hb] at hr7
        refine e_aloadn (pc := 52) (i := 0) dX12_cloisterLine_52 rfl rfl ?_
        refine e_iconst (pc := 53) dX12_cloisterLine_53 (x_R rfl) ?_
        obtain ⟨v45, S46, hq46, hr7⟩ := x_bd2 hr7
        refine e_invV (pc := 54) (K1 := 0) (S1 := 0) (K := 0) (S := 0) (dd2 := 7) (av := [x_i 1]) (st := []) (id := 16 * 32 + 0) dX12_cloisterLine_54 xmX12_166 rfl (Or.inl ⟨10, 27, TX12, (sa_32_0 hs), rfl, by decide⟩) (f_cal (M := M) (us2 := [32]) [0] hn rfl (And.intro rfl trivial) rfl rfl rfl (c_X12_seasonName hst hs   hq46)) (by decide) (Nat.le_of_ble_eq_true rfl) (Or.inl rfl) ?_
        show Ev g _ _ _ _ _ _ 57 [some (x_r (16 * 32 + 0)), some (x_i v1), none] [x_i v45] (al, ro, fl (ml M [32] [S46])) _ _ _ _
        refine e_istoren (pc := 57) (i := 2) dX12_cloisterLine_57 rfl (by decide) rfl ?_
        show Ev g _ _ _ _ _ _ 58 [some (x_r (16 * 32 + 0)), some (x_i v1), some (x_i v45)] [] (al, ro, fl (ml M [32] [S46])) _ _ _ _
        refine e_aloadn (pc := 58) (i := 0) dX12_cloisterLine_58 rfl rfl ?_
        refine f_geti (pc := 59) (k := 0) (u := 32) (q := 0) dX12_cloisterLine_59 xf12_25 (sa_32_0 hs) rfl hn rfl rfl (by decide) ?_
        show Ev g _ _ _ _ _ _ 62 [some (x_r (16 * 32 + 0)), some (x_i v1), some (x_i v45)] [x_i (S46 0 12)] (al, ro, fl (ml M [32] [S46])) _ _ _ _
        refine e_iconst (pc := 62) dX12_cloisterLine_62 (x_R rfl) ?_
        obtain ⟨S48, hr48, hr7⟩ := x_bd1 hr7
        have hjhr48 : Ev g yX12_cloisterLine cX12_cloisterLine 3 none [] 9 74 [some (x_r (16 * 32 + 0)), some (x_i v1), some (x_i v45)] [] (al, ro, fl (ml M [32] [S48])) 0 0 (.inl none) (al, ro, fl (ml M [32] [t])) := by
          refine e_goto (pc := 74) (tgt := 198) dX12_cloisterLine_74 (by decide) ?_
          cases hr7
          refine e_drop (i := 2) ?_
          exact hjhr7
        clear hr7
        refine e_icmp_ne (pc := 63) (tgt := 74) dX12_cloisterLine_63 (by decide) (fun hb => ?_) (fun hb => ?_)
        · rw [if_neg hb] at hr48
          cases hr48
          exact hjhr48
        · rw [if_pos hb] at hr48
          refine e_aloadn (pc := 66) (i := 0) dX12_cloisterLine_66 rfl rfl ?_
          refine f_getr (pc := 67) (u := 32) (q := 0) dX12_cloisterLine_67 xf12_7 (sa_32_0 hs) rfl (sr_32_0_1 hs) ?_
          refine e_bipush (pc := 70) dX12_cloisterLine_70 (by decide +kernel) (x_R rfl) ?_
          refine e_iloadn (pc := 72) (i := 2) dX12_cloisterLine_72 rfl rfl ?_
          refine f_iast (pc := 73) (k := 0) (u := 32) (q := 1) (len := 772) dX12_cloisterLine_73 (sa_32_1 hs) (by decide) hn rfl rfl rfl (by decide) ?_
          show Ev g _ _ _ _ _ _ 74 [some (x_r (16 * 32 + 0)), some (x_i v1), some (x_i v45)] [] (al, ro, fl (ml M [32] [(x_up S46 1 7 v45)])) _ _ _ _
          cases hr48
          exact hjhr48
    · rw [if_neg hb] at hr7
      refine e_aloadn (pc := 31) (i := 0) dX12_cloisterLine_31 rfl rfl ?_
      refine e_bipush (pc := 32) dX12_cloisterLine_32 (by decide +kernel) (x_R rfl) ?_
      refine e_iconst (pc := 34) dX12_cloisterLine_34 (x_R rfl) ?_
      refine e_bipush (pc := 35) dX12_cloisterLine_35 (by decide +kernel) (x_R rfl) ?_
      obtain ⟨S50, hq50, hr7⟩ := x_bd1 hr7
      refine e_invV (pc := 37) (K1 := 0) (S1 := 0) (K := 0) (S := 0) (dd2 := 4) (av := [x_i 6, x_i 0, x_i 15]) (st := []) (id := 16 * 32 + 0) dX12_cloisterLine_37 xmX12_161 rfl (Or.inl ⟨10, 27, TX12, (sa_32_0 hs), rfl, by decide⟩) (f_cal (M := M) (us2 := [32]) [0] hn rfl (And.intro rfl trivial) rfl rfl rfl (c_X12_says hst hs   hq50)) (by decide) (Nat.le_of_ble_eq_true rfl) (Or.inl rfl) ?_
      show Ev g _ _ _ _ _ _ 40 [some (x_r (16 * 32 + 0)), some (x_i v1), none] [] (al, ro, fl (ml M [32] [S50])) _ _ _ _
      refine e_goto (pc := 40) (tgt := 198) dX12_cloisterLine_40 (by decide) ?_
      cases hr7
      exact hjhr7
  · rw [if_neg hb] at hr7
    refine e_aloadn (pc := 14) (i := 0) dX12_cloisterLine_14 rfl rfl ?_
    refine e_iloadn (pc := 15) (i := 1) dX12_cloisterLine_15 rfl rfl ?_
    obtain ⟨S52, hq52, hr7⟩ := x_bd1 hr7
    refine e_invV (pc := 16) (K1 := 0) (S1 := 0) (K := 0) (S := 0) (dd2 := 8) (av := [x_i v1]) (st := []) (id := 16 * 32 + 0) dX12_cloisterLine_16 xmX12_156 rfl (Or.inl ⟨10, 27, TX12, (sa_32_0 hs), rfl, by decide⟩) (f_cal (M := M) (us2 := [32]) [0] hn rfl (And.intro rfl trivial) rfl rfl rfl (c_X12_monkLine hst hs   hq52)) (by decide) (Nat.le_of_ble_eq_true rfl) (Or.inl rfl) ?_
    show Ev g _ _ _ _ _ _ 19 [some (x_r (16 * 32 + 0)), some (x_i v1), none] [] (al, ro, fl (ml M [32] [S52])) _ _ _ _
    refine e_goto (pc := 19) (tgt := 198) dX12_cloisterLine_19 (by decide) ?_
    cases hr7
    exact hjhr7
def G12_begins (S : xU) : Option xU :=
  (some (x_up (x_up (x_up (x_up (x_up (x_up S 0 12 (-1)) 0 9 (-1)) 0 10 ((x_up (x_up S 0 12 (-1)) 0 9 (-1)) 0 8)) 0 8 0) 0 11 0) 0 13 0))
set_option maxRecDepth 100000 in
set_option maxHeartbeats 4000000 in
theorem c_X12_begins {g : xG} {al : List (Nat × Nat × Nat)} {ro : Nat → Nat → Option Nat} (hst : g.1.stackTraces = false) (hs : SH al ro) {M : Nat → xU} {S : xU} {t : xU} (hG : G12_begins S = some t) :
    Cal g yX12_begins cX12_begins 1 none 0 [x_r (16 * 32 + 0)] (al, ro, fl (ml M [32] [S])) 0 0 (.inl none) (al, ro, fl (ml M [32] [t])) := by
  have hn : ([32] : List Nat).Nodup := by decide
  refine cal_of_ev (by decide) (x_c1 rfl) (Nat.le_of_ble_eq_true rfl) hst ?_
  show Ev g _ _ _ _ _ _ 0 [some (x_r (16 * 32 + 0))] [] (al, ro, fl (ml M [32] [S])) _ _ _ _
  rw [G12_begins] at hG
  refine e_aloadn (pc := 0) (i := 0) dX12_begins_0 rfl rfl ?_
  refine e_iconst (pc := 1) dX12_begins_1 (x_R rfl) ?_
  refine f_puti (pc := 2) (k := 0) (u := 32) (q := 0) dX12_begins_2 xf12_25 xw10_12 (sa_32_0 hs) hn rfl rfl rfl (by decide) ?_
  show Ev g _ _ _ _ _ _ 5 [some (x_r (16 * 32 + 0))] [] (al, ro, fl (ml M [32] [(x_up S 0 12 (-1))])) _ _ _ _
  refine e_aloadn (pc := 5) (i := 0) dX12_begins_5 rfl rfl ?_
  refine e_iconst (pc := 6) dX12_begins_6 (x_R rfl) ?_
  refine f_puti (pc := 7) (k := 0) (u := 32) (q := 0) dX12_begins_7 xf12_79 xw10_9 (sa_32_0 hs) hn rfl rfl rfl (by decide) ?_
  show Ev g _ _ _ _ _ _ 10 [some (x_r (16 * 32 + 0))] [] (al, ro, fl (ml M [32] [(x_up (x_up S 0 12 (-1)) 0 9 (-1))])) _ _ _ _
  refine e_aloadn (pc := 10) (i := 0) dX12_begins_10 rfl rfl ?_
  refine e_aloadn (pc := 11) (i := 0) dX12_begins_11 rfl rfl ?_
  refine f_geti (pc := 12) (k := 0) (u := 32) (q := 0) dX12_begins_12 xf12_76 (sa_32_0 hs) rfl hn rfl rfl (by decide) ?_
  show Ev g _ _ _ _ _ _ 15 [some (x_r (16 * 32 + 0))] [x_i ((x_up (x_up S 0 12 (-1)) 0 9 (-1)) 0 8), x_r (16 * 32 + 0)] (al, ro, fl (ml M [32] [(x_up (x_up S 0 12 (-1)) 0 9 (-1))])) _ _ _ _
  refine f_puti (pc := 15) (k := 0) (u := 32) (q := 0) dX12_begins_15 xf12_85 xw10_10 (sa_32_0 hs) hn rfl rfl rfl (by decide) ?_
  show Ev g _ _ _ _ _ _ 18 [some (x_r (16 * 32 + 0))] [] (al, ro, fl (ml M [32] [(x_up (x_up (x_up S 0 12 (-1)) 0 9 (-1)) 0 10 ((x_up (x_up S 0 12 (-1)) 0 9 (-1)) 0 8))])) _ _ _ _
  refine e_aloadn (pc := 18) (i := 0) dX12_begins_18 rfl rfl ?_
  refine e_iconst (pc := 19) dX12_begins_19 (x_R rfl) ?_
  refine f_puti (pc := 20) (k := 0) (u := 32) (q := 0) dX12_begins_20 xf12_76 xw10_8 (sa_32_0 hs) hn rfl rfl rfl (by decide) ?_
  show Ev g _ _ _ _ _ _ 23 [some (x_r (16 * 32 + 0))] [] (al, ro, fl (ml M [32] [(x_up (x_up (x_up (x_up S 0 12 (-1)) 0 9 (-1)) 0 10 ((x_up (x_up S 0 12 (-1)) 0 9 (-1)) 0 8)) 0 8 0)])) _ _ _ _
  refine e_aloadn (pc := 23) (i := 0) dX12_begins_23 rfl rfl ?_
  refine e_iconst (pc := 24) dX12_begins_24 (x_R rfl) ?_
  refine f_puti (pc := 25) (k := 0) (u := 32) (q := 0) dX12_begins_25 xf12_82 xw10_11 (sa_32_0 hs) hn rfl rfl rfl (by decide) ?_
  show Ev g _ _ _ _ _ _ 28 [some (x_r (16 * 32 + 0))] [] (al, ro, fl (ml M [32] [(x_up (x_up (x_up (x_up (x_up S 0 12 (-1)) 0 9 (-1)) 0 10 ((x_up (x_up S 0 12 (-1)) 0 9 (-1)) 0 8)) 0 8 0) 0 11 0)])) _ _ _ _
  refine e_aloadn (pc := 28) (i := 0) dX12_begins_28 rfl rfl ?_
  refine e_iconst (pc := 29) dX12_begins_29 (x_R rfl) ?_
  refine f_puti (pc := 30) (k := 0) (u := 32) (q := 0) dX12_begins_30 xf12_180 xw10_13 (sa_32_0 hs) hn rfl rfl rfl (by decide) ?_
  show Ev g _ _ _ _ _ _ 33 [some (x_r (16 * 32 + 0))] [] (al, ro, fl (ml M [32] [(x_up (x_up (x_up (x_up (x_up (x_up S 0 12 (-1)) 0 9 (-1)) 0 10 ((x_up (x_up S 0 12 (-1)) 0 9 (-1)) 0 8)) 0 8 0) 0 11 0) 0 13 0)])) _ _ _ _
  cases hG
  exact (e_return rfl dX12_begins_33)
def G12_part (S : xU) : Option (Int × xU) :=
  (if (S 0 12) = (-1) then (x_b1 (G12_skip S) fun (S1 : xU) => (if (S1 0 10) ≤ (S1 0 11) then (x_b2 (G12_has 0 S1) fun (v3 : Int) (S4 : xU) => (x_b2 (if v3 = 0 then (x_b2 (G12_has 26 S4) fun (v9 : Int) (S10 : xU) => (if v9 = 0 then (x_b2 (G12_has 3 S10) fun (v12 : Int) (S13 : xU) => (if v12 = 0 then (x_b2 (G12_has 27 S13) fun (v15 : Int) (S16 : xU) => (if v15 = 0 then (x_b2 (G12_has 28 S16) fun (v18 : Int) (S19 : xU) => (if v18 = 0 then (x_b2 (G12_has 15 S19) fun (v21 : Int) (S22 : xU) => (if v21 = 0 then (x_b2 (G12_has 2 S22) fun (v24 : Int) (S25 : xU) => (if v24 = 0 then (some ((-1), S25)) else (some (6, S25)))) else (some (5, S22)))) else (some (4, S19)))) else (some (3, S16)))) else (some (2, S13)))) else (some (1, S10)))) else (some (0, S4))) fun (v6 : Int) (S7 : xU) => (if v6 = (-1) then (x_b1 (G12_wrong (S7 0 11) S7) fun (S27 : xU) => (some (0, S27))) else (x_gd ((0 : Int) ≤ v6 ∧ v6 < 7) (some ((S7 6 (v6).toNat), S7)))))) else (x_b1 (G12_letter (S1 0 11) S1) fun (v29 : Int) => (x_b1 (G12_isIn v29 48 57) fun (v31 : Int) => (if v31 = 0 then (x_b2 (G12_has 0 S1) fun (v33 : Int) (S34 : xU) => (x_b2 (if v33 = 0 then (x_b2 (G12_has 26 S34) fun (v39 : Int) (S40 : xU) => (if v39 = 0 then (x_b2 (G12_has 3 S40) fun (v42 : Int) (S43 : xU) => (if v42 = 0 then (x_b2 (G12_has 27 S43) fun (v45 : Int) (S46 : xU) => (if v45 = 0 then (x_b2 (G12_has 28 S46) fun (v48 : Int) (S49 : xU) => (if v48 = 0 then (x_b2 (G12_has 15 S49) fun (v51 : Int) (S52 : xU) => (if v51 = 0 then (x_b2 (G12_has 2 S52) fun (v54 : Int) (S55 : xU) => (if v54 = 0 then (some ((-1), S55)) else (some (6, S55)))) else (some (5, S52)))) else (some (4, S49)))) else (some (3, S46)))) else (some (2, S43)))) else (some (1, S40)))) else (some (0, S34))) fun (v36 : Int) (S37 : xU) => (if v36 = (-1) then (x_b1 (G12_wrong (S37 0 11) S37) fun (S57 : xU) => (some (0, S57))) else (x_gd ((0 : Int) ≤ v36 ∧ v36 < 7) (some ((S37 6 (v36).toNat), S37)))))) else (x_b2 (G12_figures 0 999 S1) fun (v59 : Int) (S60 : xU) => (some (v59, S60)))))))) else (some (0, S)))
set_option maxRecDepth 100000 in
set_option maxHeartbeats 4000000 in
theorem c_X12_part {g : xG} {al : List (Nat × Nat × Nat)} {ro : Nat → Nat → Option Nat} (hst : g.1.stackTraces = false) (hs : SH al ro) {M : Nat → xU} {S : xU} {t : (Int × xU)} (hG : G12_part S = some t) :
    Cal g yX12_part cX12_part 2 (some .int) 7 [x_r (16 * 32 + 0)] (al, ro, fl (ml M [32] [S])) 0 0 (.inl (some (x_i t.1))) (al, ro, fl (ml M [32] [t.2])) := by
  have hn : ([32] : List Nat).Nodup := by decide
  refine cal_of_ev (by decide) (x_c1 rfl) (Nat.le_of_ble_eq_true rfl) hst ?_
  show Ev g _ _ _ _ _ _ 0 [some (x_r (16 * 32 + 0)), none] [] (al, ro, fl (ml M [32] [S])) _ _ _ _
  rw [G12_part] at hG
  refine e_aloadn (pc := 0) (i := 0) dX12_part_0 rfl rfl ?_
  refine f_geti (pc := 1) (k := 0) (u := 32) (q := 0) dX12_part_1 xf12_25 (sa_32_0 hs) rfl hn rfl rfl (by decide) ?_
  show Ev g _ _ _ _ _ _ 4 [some (x_r (16 * 32 + 0)), none] [x_i (S 0 12)] (al, ro, fl (ml M [32] [S])) _ _ _ _
  refine e_iconst (pc := 4) dX12_part_4 (x_R rfl) ?_
  refine e_icmp_eq (pc := 5) (tgt := 10) dX12_part_5 (by decide) (fun hb => ?_) (fun hb => ?_)
  · rw [if_pos hb] at hG
    refine e_aloadn (pc := 10) (i := 0) dX12_part_10 rfl rfl ?_
    obtain ⟨S1, hq1, hG⟩ := x_bd1 hG
    refine e_invV (pc := 11) (K1 := 0) (S1 := 0) (K := 0) (S := 0) (dd2 := 1) (av := []) (st := []) (id := 16 * 32 + 0) dX12_part_11 xmX12_92 rfl (Or.inl ⟨10, 27, TX12, (sa_32_0 hs), rfl, by decide⟩) (f_cal (M := M) (us2 := [32]) [0] hn rfl (And.intro rfl trivial) rfl rfl rfl (c_X12_skip hst hs   hq1)) (by decide) (Nat.le_of_ble_eq_true rfl) (Or.inl rfl) ?_
    show Ev g _ _ _ _ _ _ 14 [some (x_r (16 * 32 + 0)), none] [] (al, ro, fl (ml M [32] [S1])) _ _ _ _
    refine e_aloadn (pc := 14) (i := 0) dX12_part_14 rfl rfl ?_
    refine f_geti (pc := 15) (k := 0) (u := 32) (q := 0) dX12_part_15 xf12_82 (sa_32_0 hs) rfl hn rfl rfl (by decide) ?_
    show Ev g _ _ _ _ _ _ 18 [some (x_r (16 * 32 + 0)), none] [x_i (S1 0 11)] (al, ro, fl (ml M [32] [S1])) _ _ _ _
    refine e_aloadn (pc := 18) (i := 0) dX12_part_18 rfl rfl ?_
    refine f_geti (pc := 19) (k := 0) (u := 32) (q := 0) dX12_part_19 xf12_85 (sa_32_0 hs) rfl hn rfl rfl (by decide) ?_
    show Ev g _ _ _ _ _ _ 22 [some (x_r (16 * 32 + 0)), none] [x_i (S1 0 10), x_i (S1 0 11)] (al, ro, fl (ml M [32] [S1])) _ _ _ _
    refine e_icmp_ge (pc := 22) (tgt := 52) dX12_part_22 (by decide) (fun hb => ?_) (fun hb => ?_)
    · rw [if_pos hb] at hG
      refine e_aloadn (pc := 52) (i := 0) dX12_part_52 rfl rfl ?_
      refine e_ldcS (pc := 53) (i := 0) dX12_part_53 (by decide +kernel) (by decide) ?_
      obtain ⟨v3, S4, hq4, hG⟩ := x_bd2 hG
      refine e_invV (pc := 55) (K1 := 0) (S1 := 0) (K := 0) (S := 0) (dd2 := 6) (av := [x_r (x_s0 + 0)]) (st := []) (id := 16 * 32 + 0) dX12_part_55 xmX12_112 rfl (Or.inl ⟨10, 27, TX12, (sa_32_0 hs), rfl, by decide⟩) (f_cal (M := M) (us2 := [32]) [0] hn rfl (And.intro rfl trivial) rfl rfl rfl (c_X12_has hst hs  (by decide) hq4)) (by decide) (Nat.le_of_ble_eq_true rfl) (Or.inl rfl) ?_
      show Ev g _ _ _ _ _ _ 58 [some (x_r (16 * 32 + 0)), none] [x_i v3] (al, ro, fl (ml M [32] [S4])) _ _ _ _
      obtain ⟨v6, S7, hr7, hG⟩ := x_bd2 hG
      have hjhr7 : Ev g yX12_part cX12_part 2 (some .int) [] 7 145 [some (x_r (16 * 32 + 0)), none] [x_i v6] (al, ro, fl (ml M [32] [S7])) 0 0 (.inl (some (x_i t.1))) (al, ro, fl (ml M [32] [t.2])) := by
        refine e_istoren (pc := 145) (i := 1) dX12_part_145 rfl (by decide) rfl ?_
        show Ev g _ _ _ _ _ _ 146 [some (x_r (16 * 32 + 0)), some (x_i v6)] [] (al, ro, fl (ml M [32] [S7])) _ _ _ _
        refine e_iloadn (pc := 146) (i := 1) dX12_part_146 rfl rfl ?_
        refine e_iconst (pc := 147) dX12_part_147 (x_R rfl) ?_
        refine e_icmp_ne (pc := 148) (tgt := 161) dX12_part_148 (by decide) (fun hb => ?_) (fun hb => ?_)
        · rw [if_neg hb] at hG
          refine e_aloadn (pc := 161) (i := 0) dX12_part_161 rfl rfl ?_
          refine f_getr (pc := 162) (u := 32) (q := 0) dX12_part_162 xf12_29 (sa_32_0 hs) rfl (sr_32_0_14 hs) ?_
          refine e_iloadn (pc := 165) (i := 1) dX12_part_165 rfl rfl ?_
          obtain ⟨hc0, hG⟩ := x_gd_some hG
          refine f_iald (pc := 166) (k := 0) (u := 32) (q := 6) (len := 7) dX12_part_166 (sa_32_6 hs) hc0 hn rfl rfl (by decide) ?_
          show Ev g _ _ _ _ _ _ 167 [some (x_r (16 * 32 + 0)), some (x_i v6)] [x_i (S7 6 (v6).toNat)] (al, ro, fl (ml M [32] [S7])) _ _ _ _
          cases hG
          exact (e_ireturn rfl dX12_part_167 rfl)
        · rw [if_pos hb] at hG
          refine e_aloadn (pc := 151) (i := 0) dX12_part_151 rfl rfl ?_
          refine e_aloadn (pc := 152) (i := 0) dX12_part_152 rfl rfl ?_
          refine f_geti (pc := 153) (k := 0) (u := 32) (q := 0) dX12_part_153 xf12_82 (sa_32_0 hs) rfl hn rfl rfl (by decide) ?_
          show Ev g _ _ _ _ _ _ 156 [some (x_r (16 * 32 + 0)), some (x_i v6)] [x_i (S7 0 11), x_r (16 * 32 + 0)] (al, ro, fl (ml M [32] [S7])) _ _ _ _
          obtain ⟨S27, hq27, hG⟩ := x_bd1 hG
          refine e_invV (pc := 156) (K1 := 0) (S1 := 0) (K := 0) (S := 0) (dd2 := 0) (av := [x_i (S7 0 11)]) (st := []) (id := 16 * 32 + 0) dX12_part_156 xmX12_108 rfl (Or.inl ⟨10, 27, TX12, (sa_32_0 hs), rfl, by decide⟩) (f_cal (M := M) (us2 := [32]) [0] hn rfl (And.intro rfl trivial) rfl rfl rfl (c_X12_wrong hst hs   hq27)) (by decide) (Nat.le_of_ble_eq_true rfl) (Or.inl rfl) ?_
          show Ev g _ _ _ _ _ _ 159 [some (x_r (16 * 32 + 0)), some (x_i v6)] [] (al, ro, fl (ml M [32] [S27])) _ _ _ _
          refine e_iconst (pc := 159) dX12_part_159 (x_R rfl) ?_
          cases hG
          exact (e_ireturn rfl dX12_part_160 rfl)
      clear hG
      refine e_if_eq (pc := 58) (tgt := 65) dX12_part_58 (by decide) (fun hb => ?_) (fun hb => ?_)
      · rw [if_pos hb] at hr7
        refine e_aloadn (pc := 65) (i := 0) dX12_part_65 rfl rfl ?_
        refine e_ldcS (pc := 66) (i := 26) dX12_part_66 (by decide +kernel) (by decide) ?_
        obtain ⟨v9, S10, hq10, hr7⟩ := x_bd2 hr7
        refine e_invV (pc := 68) (K1 := 0) (S1 := 0) (K := 0) (S := 0) (dd2 := 6) (av := [x_r (x_s0 + 26)]) (st := []) (id := 16 * 32 + 0) dX12_part_68 xmX12_112 rfl (Or.inl ⟨10, 27, TX12, (sa_32_0 hs), rfl, by decide⟩) (f_cal (M := M) (us2 := [32]) [0] hn rfl (And.intro rfl trivial) rfl rfl rfl (c_X12_has hst hs  (by decide) hq10)) (by decide) (Nat.le_of_ble_eq_true rfl) (Or.inl rfl) ?_
        show Ev g _ _ _ _ _ _ 71 [some (x_r (16 * 32 + 0)), none] [x_i v9] (al, ro, fl (ml M [32] [S10])) _ _ _ _
        refine e_if_eq (pc := 71) (tgt := 78) dX12_part_71 (by decide) (fun hb => ?_) (fun hb => ?_)
        · rw [if_pos hb] at hr7
          refine e_aloadn (pc := 78) (i := 0) dX12_part_78 rfl rfl ?_
          refine e_ldcS (pc := 79) (i := 3) dX12_part_79 (by decide +kernel) (by decide) ?_
          obtain ⟨v12, S13, hq13, hr7⟩ := x_bd2 hr7
          refine e_invV (pc := 81) (K1 := 0) (S1 := 0) (K := 0) (S := 0) (dd2 := 6) (av := [x_r (x_s0 + 3)]) (st := []) (id := 16 * 32 + 0) dX12_part_81 xmX12_112 rfl (Or.inl ⟨10, 27, TX12, (sa_32_0 hs), rfl, by decide⟩) (f_cal (M := M) (us2 := [32]) [0] hn rfl (And.intro rfl trivial) rfl rfl rfl (c_X12_has hst hs  (by decide) hq13)) (by decide) (Nat.le_of_ble_eq_true rfl) (Or.inl rfl) ?_
          show Ev g _ _ _ _ _ _ 84 [some (x_r (16 * 32 + 0)), none] [x_i v12] (al, ro, fl (ml M [32] [S13])) _ _ _ _
          refine e_if_eq (pc := 84) (tgt := 91) dX12_part_84 (by decide) (fun hb => ?_) (fun hb => ?_)
          · rw [if_pos hb] at hr7
            refine e_aloadn (pc := 91) (i := 0) dX12_part_91 rfl rfl ?_
            refine e_ldcS (pc := 92) (i := 27) dX12_part_92 (by decide +kernel) (by decide) ?_
            obtain ⟨v15, S16, hq16, hr7⟩ := x_bd2 hr7
            refine e_invV (pc := 94) (K1 := 0) (S1 := 0) (K := 0) (S := 0) (dd2 := 6) (av := [x_r (x_s0 + 27)]) (st := []) (id := 16 * 32 + 0) dX12_part_94 xmX12_112 rfl (Or.inl ⟨10, 27, TX12, (sa_32_0 hs), rfl, by decide⟩) (f_cal (M := M) (us2 := [32]) [0] hn rfl (And.intro rfl trivial) rfl rfl rfl (c_X12_has hst hs  (by decide) hq16)) (by decide) (Nat.le_of_ble_eq_true rfl) (Or.inl rfl) ?_
            show Ev g _ _ _ _ _ _ 97 [some (x_r (16 * 32 + 0)), none] [x_i v15] (al, ro, fl (ml M [32] [S16])) _ _ _ _
            refine e_if_eq (pc := 97) (tgt := 104) dX12_part_97 (by decide) (fun hb => ?_) (fun hb => ?_)
            · rw [if_pos hb] at hr7
              refine e_aloadn (pc := 104) (i := 0) dX12_part_104 rfl rfl ?_
              refine e_ldcS (pc := 105) (i := 28) dX12_part_105 (by decide +kernel) (by decide) ?_
              obtain ⟨v18, S19, hq19, hr7⟩ := x_bd2 hr7
              refine e_invV (pc := 107) (K1 := 0) (S1 := 0) (K := 0) (S := 0) (dd2 := 6) (av := [x_r (x_s0 + 28)]) (st := []) (id := 16 * 32 + 0) dX12_part_107 xmX12_112 rfl (Or.inl ⟨10, 27, TX12, (sa_32_0 hs), rfl, by decide⟩) (f_cal (M := M) (us2 := [32]) [0] hn rfl (And.intro rfl trivial) rfl rfl rfl (c_X12_has hst hs  (by decide) hq19)) (by decide) (Nat.le_of_ble_eq_true rfl) (Or.inl rfl) ?_
              show Ev g _ _ _ _ _ _ 110 [some (x_r (16 * 32 + 0)), none] [x_i v18] (al, ro, fl (ml M [32] [S19])) _ _ _ _
              refine e_if_eq (pc := 110) (tgt := 117) dX12_part_110 (by decide) (fun hb => ?_) (fun hb => ?_)
              · rw [if_pos hb] at hr7
                refine e_aloadn (pc := 117) (i := 0) dX12_part_117 rfl rfl ?_
                refine e_ldcS (pc := 118) (i := 15) dX12_part_118 (by decide +kernel) (by decide) ?_
                obtain ⟨v21, S22, hq22, hr7⟩ := x_bd2 hr7
                refine e_invV (pc := 120) (K1 := 0) (S1 := 0) (K := 0) (S := 0) (dd2 := 6) (av := [x_r (x_s0 + 15)]) (st := []) (id := 16 * 32 + 0) dX12_part_120 xmX12_112 rfl (Or.inl ⟨10, 27, TX12, (sa_32_0 hs), rfl, by decide⟩) (f_cal (M := M) (us2 := [32]) [0] hn rfl (And.intro rfl trivial) rfl rfl rfl (c_X12_has hst hs  (by decide) hq22)) (by decide) (Nat.le_of_ble_eq_true rfl) (Or.inl rfl) ?_
                show Ev g _ _ _ _ _ _ 123 [some (x_r (16 * 32 + 0)), none] [x_i v21] (al, ro, fl (ml M [32] [S22])) _ _ _ _
                refine e_if_eq (pc := 123) (tgt := 130) dX12_part_123 (by decide) (fun hb => ?_) (fun hb => ?_)
                · rw [if_pos hb] at hr7
                  refine e_aloadn (pc := 130) (i := 0) dX12_part_130 rfl rfl ?_
                  refine e_ldcS (pc := 131) (i := 2) dX12_part_131 (by decide +kernel) (by decide) ?_
                  obtain ⟨v24, S25, hq25, hr7⟩ := x_bd2 hr7
                  refine e_invV (pc := 133) (K1 := 0) (S1 := 0) (K := 0) (S := 0) (dd2 := 6) (av := [x_r (x_s0 + 2)]) (st := []) (id := 16 * 32 + 0) dX12_part_133 xmX12_112 rfl (Or.inl ⟨10, 27, TX12, (sa_32_0 hs), rfl, by decide⟩) (f_cal (M := M) (us2 := [32]) [0] hn rfl (And.intro rfl trivial) rfl rfl rfl (c_X12_has hst hs  (by decide) hq25)) (by decide) (Nat.le_of_ble_eq_true rfl) (Or.inl rfl) ?_
                  show Ev g _ _ _ _ _ _ 136 [some (x_r (16 * 32 + 0)), none] [x_i v24] (al, ro, fl (ml M [32] [S25])) _ _ _ _
                  refine e_if_eq (pc := 136) (tgt := 144) dX12_part_136 (by decide) (fun hb => ?_) (fun hb => ?_)
                  · rw [if_pos hb] at hr7
                    refine e_iconst (pc := 144) dX12_part_144 (x_R rfl) ?_
                    cases hr7
                    exact hjhr7
                  · rw [if_neg hb] at hr7
                    refine e_bipush (pc := 139) dX12_part_139 (by decide +kernel) (x_R rfl) ?_
                    refine e_goto (pc := 141) (tgt := 145) dX12_part_141 (by decide) ?_
                    cases hr7
                    exact hjhr7
                · rw [if_neg hb] at hr7
                  refine e_iconst (pc := 126) dX12_part_126 (x_R rfl) ?_
                  refine e_goto (pc := 127) (tgt := 145) dX12_part_127 (by decide) ?_
                  cases hr7
                  exact hjhr7
              · rw [if_neg hb] at hr7
                refine e_iconst (pc := 113) dX12_part_113 (x_R rfl) ?_
                refine e_goto (pc := 114) (tgt := 145) dX12_part_114 (by decide) ?_
                cases hr7
                exact hjhr7
            · rw [if_neg hb] at hr7
              refine e_iconst (pc := 100) dX12_part_100 (x_R rfl) ?_
              refine e_goto (pc := 101) (tgt := 145) dX12_part_101 (by decide) ?_
              cases hr7
              exact hjhr7
          · rw [if_neg hb] at hr7
            refine e_iconst (pc := 87) dX12_part_87 (x_R rfl) ?_
            refine e_goto (pc := 88) (tgt := 145) dX12_part_88 (by decide) ?_
            cases hr7
            exact hjhr7
        · rw [if_neg hb] at hr7
          refine e_iconst (pc := 74) dX12_part_74 (x_R rfl) ?_
          refine e_goto (pc := 75) (tgt := 145) dX12_part_75 (by decide) ?_
          cases hr7
          exact hjhr7
      · rw [if_neg hb] at hr7
        refine e_iconst (pc := 61) dX12_part_61 (x_R rfl) ?_
        refine e_goto (pc := 62) (tgt := 145) dX12_part_62 (by decide) ?_
        cases hr7
        exact hjhr7
    · rw [if_neg hb] at hG
      refine e_aloadn (pc := 25) (i := 0) dX12_part_25 rfl rfl ?_
      refine e_aloadn (pc := 26) (i := 0) dX12_part_26 rfl rfl ?_
      refine f_geti (pc := 27) (k := 0) (u := 32) (q := 0) dX12_part_27 xf12_82 (sa_32_0 hs) rfl hn rfl rfl (by decide) ?_
      show Ev g _ _ _ _ _ _ 30 [some (x_r (16 * 32 + 0)), none] [x_i (S1 0 11), x_r (16 * 32 + 0)] (al, ro, fl (ml M [32] [S1])) _ _ _ _
      obtain ⟨v29, hq29, hG⟩ := x_bd1 hG
      refine e_invV (pc := 30) (K1 := 0) (S1 := 0) (K := 0) (S := 0) (dd2 := 0) (av := [x_i (S1 0 11)]) (st := []) (id := 16 * 32 + 0) dX12_part_30 xmX12_88 rfl (Or.inl ⟨10, 27, TX12, (sa_32_0 hs), rfl, by decide⟩) (f_cal (M := M) (us2 := [32]) [0] hn rfl (And.intro rfl trivial) rfl rfl rfl (c_X12_letter hst hs   hq29)) (by decide) (Nat.le_of_ble_eq_true rfl) (Or.inl rfl) ?_
      show Ev g _ _ _ _ _ _ 33 [some (x_r (16 * 32 + 0)), none] [x_i v29] (al, ro, fl (ml M [32] [S1])) _ _ _ _
      refine e_bipush (pc := 33) dX12_part_33 (by decide +kernel) (x_R rfl) ?_
      refine e_bipush (pc := 35) dX12_part_35 (by decide +kernel) (x_R rfl) ?_
      obtain ⟨v31, hq31, hG⟩ := x_bd1 hG
      refine e_invS (pc := 37) (K1 := 0) (S1 := 0) (K := 0) (S := 0) (dd2 := 0) (av := [x_i v29, x_i 48, x_i 57]) (st := []) dX12_part_37 xmX12_61 rfl (f_cal (M := M) (us2 := []) [] hn rfl trivial rfl rfl rfl (c_X12_isIn hst hs   hq31)) (by decide) (Nat.le_of_ble_eq_true rfl) (Or.inl rfl) ?_
      show Ev g _ _ _ _ _ _ 40 [some (x_r (16 * 32 + 0)), none] [x_i v31] (al, ro, fl (ml M [32] [S1])) _ _ _ _
      refine e_if_eq (pc := 40) (tgt := 52) dX12_part_40 (by decide) (fun hb => ?_) (fun hb => ?_)
      · rw [if_pos hb] at hG
        refine e_aloadn (pc := 52) (i := 0) dX12_part_52 rfl rfl ?_
        refine e_ldcS (pc := 53) (i := 0) dX12_part_53 (by decide +kernel) (by decide) ?_
        obtain ⟨v33, S34, hq34, hG⟩ := x_bd2 hG
        refine e_invV (pc := 55) (K1 := 0) (S1 := 0) (K := 0) (S := 0) (dd2 := 6) (av := [x_r (x_s0 + 0)]) (st := []) (id := 16 * 32 + 0) dX12_part_55 xmX12_112 rfl (Or.inl ⟨10, 27, TX12, (sa_32_0 hs), rfl, by decide⟩) (f_cal (M := M) (us2 := [32]) [0] hn rfl (And.intro rfl trivial) rfl rfl rfl (c_X12_has hst hs  (by decide) hq34)) (by decide) (Nat.le_of_ble_eq_true rfl) (Or.inl rfl) ?_
        show Ev g _ _ _ _ _ _ 58 [some (x_r (16 * 32 + 0)), none] [x_i v33] (al, ro, fl (ml M [32] [S34])) _ _ _ _
        obtain ⟨v36, S37, hr37, hG⟩ := x_bd2 hG
        have hjhr37 : Ev g yX12_part cX12_part 2 (some .int) [] 7 145 [some (x_r (16 * 32 + 0)), none] [x_i v36] (al, ro, fl (ml M [32] [S37])) 0 0 (.inl (some (x_i t.1))) (al, ro, fl (ml M [32] [t.2])) := by
          refine e_istoren (pc := 145) (i := 1) dX12_part_145 rfl (by decide) rfl ?_
          show Ev g _ _ _ _ _ _ 146 [some (x_r (16 * 32 + 0)), some (x_i v36)] [] (al, ro, fl (ml M [32] [S37])) _ _ _ _
          refine e_iloadn (pc := 146) (i := 1) dX12_part_146 rfl rfl ?_
          refine e_iconst (pc := 147) dX12_part_147 (x_R rfl) ?_
          refine e_icmp_ne (pc := 148) (tgt := 161) dX12_part_148 (by decide) (fun hb => ?_) (fun hb => ?_)
          · rw [if_neg hb] at hG
            refine e_aloadn (pc := 161) (i := 0) dX12_part_161 rfl rfl ?_
            refine f_getr (pc := 162) (u := 32) (q := 0) dX12_part_162 xf12_29 (sa_32_0 hs) rfl (sr_32_0_14 hs) ?_
            refine e_iloadn (pc := 165) (i := 1) dX12_part_165 rfl rfl ?_
            obtain ⟨hc0, hG⟩ := x_gd_some hG
            refine f_iald (pc := 166) (k := 0) (u := 32) (q := 6) (len := 7) dX12_part_166 (sa_32_6 hs) hc0 hn rfl rfl (by decide) ?_
            show Ev g _ _ _ _ _ _ 167 [some (x_r (16 * 32 + 0)), some (x_i v36)] [x_i (S37 6 (v36).toNat)] (al, ro, fl (ml M [32] [S37])) _ _ _ _
            cases hG
            exact (e_ireturn rfl dX12_part_167 rfl)
          · rw [if_pos hb] at hG
            refine e_aloadn (pc := 151) (i := 0) dX12_part_151 rfl rfl ?_
            refine e_aloadn (pc := 152) (i := 0) dX12_part_152 rfl rfl ?_
            refine f_geti (pc := 153) (k := 0) (u := 32) (q := 0) dX12_part_153 xf12_82 (sa_32_0 hs) rfl hn rfl rfl (by decide) ?_
            show Ev g _ _ _ _ _ _ 156 [some (x_r (16 * 32 + 0)), some (x_i v36)] [x_i (S37 0 11), x_r (16 * 32 + 0)] (al, ro, fl (ml M [32] [S37])) _ _ _ _
            obtain ⟨S57, hq57, hG⟩ := x_bd1 hG
            refine e_invV (pc := 156) (K1 := 0) (S1 := 0) (K := 0) (S := 0) (dd2 := 0) (av := [x_i (S37 0 11)]) (st := []) (id := 16 * 32 + 0) dX12_part_156 xmX12_108 rfl (Or.inl ⟨10, 27, TX12, (sa_32_0 hs), rfl, by decide⟩) (f_cal (M := M) (us2 := [32]) [0] hn rfl (And.intro rfl trivial) rfl rfl rfl (c_X12_wrong hst hs   hq57)) (by decide) (Nat.le_of_ble_eq_true rfl) (Or.inl rfl) ?_
            show Ev g _ _ _ _ _ _ 159 [some (x_r (16 * 32 + 0)), some (x_i v36)] [] (al, ro, fl (ml M [32] [S57])) _ _ _ _
            refine e_iconst (pc := 159) dX12_part_159 (x_R rfl) ?_
            cases hG
            exact (e_ireturn rfl dX12_part_160 rfl)
        clear hG
        refine e_if_eq (pc := 58) (tgt := 65) dX12_part_58 (by decide) (fun hb => ?_) (fun hb => ?_)
        · rw [if_pos hb] at hr37
          refine e_aloadn (pc := 65) (i := 0) dX12_part_65 rfl rfl ?_
          refine e_ldcS (pc := 66) (i := 26) dX12_part_66 (by decide +kernel) (by decide) ?_
          obtain ⟨v39, S40, hq40, hr37⟩ := x_bd2 hr37
          refine e_invV (pc := 68) (K1 := 0) (S1 := 0) (K := 0) (S := 0) (dd2 := 6) (av := [x_r (x_s0 + 26)]) (st := []) (id := 16 * 32 + 0) dX12_part_68 xmX12_112 rfl (Or.inl ⟨10, 27, TX12, (sa_32_0 hs), rfl, by decide⟩) (f_cal (M := M) (us2 := [32]) [0] hn rfl (And.intro rfl trivial) rfl rfl rfl (c_X12_has hst hs  (by decide) hq40)) (by decide) (Nat.le_of_ble_eq_true rfl) (Or.inl rfl) ?_
          show Ev g _ _ _ _ _ _ 71 [some (x_r (16 * 32 + 0)), none] [x_i v39] (al, ro, fl (ml M [32] [S40])) _ _ _ _
          refine e_if_eq (pc := 71) (tgt := 78) dX12_part_71 (by decide) (fun hb => ?_) (fun hb => ?_)
          · rw [if_pos hb] at hr37
            refine e_aloadn (pc := 78) (i := 0) dX12_part_78 rfl rfl ?_
            refine e_ldcS (pc := 79) (i := 3) dX12_part_79 (by decide +kernel) (by decide) ?_
            obtain ⟨v42, S43, hq43, hr37⟩ := x_bd2 hr37
            refine e_invV (pc := 81) (K1 := 0) (S1 := 0) (K := 0) (S := 0) (dd2 := 6) (av := [x_r (x_s0 + 3)]) (st := []) (id := 16 * 32 + 0) dX12_part_81 xmX12_112 rfl (Or.inl ⟨10, 27, TX12, (sa_32_0 hs), rfl, by decide⟩) (f_cal (M := M) (us2 := [32]) [0] hn rfl (And.intro rfl trivial) rfl rfl rfl (c_X12_has hst hs  (by decide) hq43)) (by decide) (Nat.le_of_ble_eq_true rfl) (Or.inl rfl) ?_
            show Ev g _ _ _ _ _ _ 84 [some (x_r (16 * 32 + 0)), none] [x_i v42] (al, ro, fl (ml M [32] [S43])) _ _ _ _
            refine e_if_eq (pc := 84) (tgt := 91) dX12_part_84 (by decide) (fun hb => ?_) (fun hb => ?_)
            · rw [if_pos hb] at hr37
              refine e_aloadn (pc := 91) (i := 0) dX12_part_91 rfl rfl ?_
              refine e_ldcS (pc := 92) (i := 27) dX12_part_92 (by decide +kernel) (by decide) ?_
              obtain ⟨v45, S46, hq46, hr37⟩ := x_bd2 hr37
              refine e_invV (pc := 94) (K1 := 0) (S1 := 0) (K := 0) (S := 0) (dd2 := 6) (av := [x_r (x_s0 + 27)]) (st := []) (id := 16 * 32 + 0) dX12_part_94 xmX12_112 rfl (Or.inl ⟨10, 27, TX12, (sa_32_0 hs), rfl, by decide⟩) (f_cal (M := M) (us2 := [32]) [0] hn rfl (And.intro rfl trivial) rfl rfl rfl (c_X12_has hst hs  (by decide) hq46)) (by decide) (Nat.le_of_ble_eq_true rfl) (Or.inl rfl) ?_
              show Ev g _ _ _ _ _ _ 97 [some (x_r (16 * 32 + 0)), none] [x_i v45] (al, ro, fl (ml M [32] [S46])) _ _ _ _
              refine e_if_eq (pc := 97) (tgt := 104) dX12_part_97 (by decide) (fun hb => ?_) (fun hb => ?_)
              · rw [if_pos hb] at hr37
                refine e_aloadn (pc := 104) (i := 0) dX12_part_104 rfl rfl ?_
                refine e_ldcS (pc := 105) (i := 28) dX12_part_105 (by decide +kernel) (by decide) ?_
                obtain ⟨v48, S49, hq49, hr37⟩ := x_bd2 hr37
                refine e_invV (pc := 107) (K1 := 0) (S1 := 0) (K := 0) (S := 0) (dd2 := 6) (av := [x_r (x_s0 + 28)]) (st := []) (id := 16 * 32 + 0) dX12_part_107 xmX12_112 rfl (Or.inl ⟨10, 27, TX12, (sa_32_0 hs), rfl, by decide⟩) (f_cal (M := M) (us2 := [32]) [0] hn rfl (And.intro rfl trivial) rfl rfl rfl (c_X12_has hst hs  (by decide) hq49)) (by decide) (Nat.le_of_ble_eq_true rfl) (Or.inl rfl) ?_
                show Ev g _ _ _ _ _ _ 110 [some (x_r (16 * 32 + 0)), none] [x_i v48] (al, ro, fl (ml M [32] [S49])) _ _ _ _
                refine e_if_eq (pc := 110) (tgt := 117) dX12_part_110 (by decide) (fun hb => ?_) (fun hb => ?_)
                · rw [if_pos hb] at hr37
                  refine e_aloadn (pc := 117) (i := 0) dX12_part_117 rfl rfl ?_
                  refine e_ldcS (pc := 118) (i := 15) dX12_part_118 (by decide +kernel) (by decide) ?_
                  obtain ⟨v51, S52, hq52, hr37⟩ := x_bd2 hr37
                  refine e_invV (pc := 120) (K1 := 0) (S1 := 0) (K := 0) (S := 0) (dd2 := 6) (av := [x_r (x_s0 + 15)]) (st := []) (id := 16 * 32 + 0) dX12_part_120 xmX12_112 rfl (Or.inl ⟨10, 27, TX12, (sa_32_0 hs), rfl, by decide⟩) (f_cal (M := M) (us2 := [32]) [0] hn rfl (And.intro rfl trivial) rfl rfl rfl (c_X12_has hst hs  (by decide) hq52)) (by decide) (Nat.le_of_ble_eq_true rfl) (Or.inl rfl) ?_
                  show Ev g _ _ _ _ _ _ 123 [some (x_r (16 * 32 + 0)), none] [x_i v51] (al, ro, fl (ml M [32] [S52])) _ _ _ _
                  refine e_if_eq (pc := 123) (tgt := 130) dX12_part_123 (by decide) (fun hb => ?_) (fun hb => ?_)
                  · rw [if_pos hb] at hr37
                    refine e_aloadn (pc := 130) (i := 0) dX12_part_130 rfl rfl ?_
                    refine e_ldcS (pc := 131) (i := 2) dX12_part_131 (by decide +kernel) (by decide) ?_
                    obtain ⟨v54, S55, hq55, hr37⟩ := x_bd2 hr37
                    refine e_invV (pc := 133) (K1 := 0) (S1 := 0) (K := 0) (S := 0) (dd2 := 6) (av := [x_r (x_s0 + 2)]) (st := []) (id := 16 * 32 + 0) dX12_part_133 xmX12_112 rfl (Or.inl ⟨10, 27, TX12, (sa_32_0 hs), rfl, by decide⟩) (f_cal (M := M) (us2 := [32]) [0] hn rfl (And.intro rfl trivial) rfl rfl rfl (c_X12_has hst hs  (by decide) hq55)) (by decide) (Nat.le_of_ble_eq_true rfl) (Or.inl rfl) ?_
                    show Ev g _ _ _ _ _ _ 136 [some (x_r (16 * 32 + 0)), none] [x_i v54] (al, ro, fl (ml M [32] [S55])) _ _ _ _
                    refine e_if_eq (pc := 136) (tgt := 144) dX12_part_136 (by decide) (fun hb => ?_) (fun hb => ?_)
                    · rw [if_pos hb] at hr37
                      refine e_iconst (pc := 144) dX12_part_144 (x_R rfl) ?_
                      cases hr37
                      exact hjhr37
                    · rw [if_neg hb] at hr37
                      refine e_bipush (pc := 139) dX12_part_139 (by decide +kernel) (x_R rfl) ?_
                      refine e_goto (pc := 141) (tgt := 145) dX12_part_141 (by decide) ?_
                      cases hr37
                      exact hjhr37
                  · rw [if_neg hb] at hr37
                    refine e_iconst (pc := 126) dX12_part_126 (x_R rfl) ?_
                    refine e_goto (pc := 127) (tgt := 145) dX12_part_127 (by decide) ?_
                    cases hr37
                    exact hjhr37
                · rw [if_neg hb] at hr37
                  refine e_iconst (pc := 113) dX12_part_113 (x_R rfl) ?_
                  refine e_goto (pc := 114) (tgt := 145) dX12_part_114 (by decide) ?_
                  cases hr37
                  exact hjhr37
              · rw [if_neg hb] at hr37
                refine e_iconst (pc := 100) dX12_part_100 (x_R rfl) ?_
                refine e_goto (pc := 101) (tgt := 145) dX12_part_101 (by decide) ?_
                cases hr37
                exact hjhr37
            · rw [if_neg hb] at hr37
              refine e_iconst (pc := 87) dX12_part_87 (x_R rfl) ?_
              refine e_goto (pc := 88) (tgt := 145) dX12_part_88 (by decide) ?_
              cases hr37
              exact hjhr37
          · rw [if_neg hb] at hr37
            refine e_iconst (pc := 74) dX12_part_74 (x_R rfl) ?_
            refine e_goto (pc := 75) (tgt := 145) dX12_part_75 (by decide) ?_
            cases hr37
            exact hjhr37
        · rw [if_neg hb] at hr37
          refine e_iconst (pc := 61) dX12_part_61 (x_R rfl) ?_
          refine e_goto (pc := 62) (tgt := 145) dX12_part_62 (by decide) ?_
          cases hr37
          exact hjhr37
      · rw [if_neg hb] at hG
        refine e_aloadn (pc := 43) (i := 0) dX12_part_43 rfl rfl ?_
        refine e_iconst (pc := 44) dX12_part_44 (x_R rfl) ?_
        refine e_sipush (pc := 45) dX12_part_45 (by decide +kernel) (x_R rfl) ?_
        obtain ⟨v59, S60, hq60, hG⟩ := x_bd2 hG
        refine e_invV (pc := 48) (K1 := 0) (S1 := 0) (K := 0) (S := 0) (dd2 := 3) (av := [x_i 0, x_i 999]) (st := []) (id := 16 * 32 + 0) dX12_part_48 xmX12_116 rfl (Or.inl ⟨10, 27, TX12, (sa_32_0 hs), rfl, by decide⟩) (f_cal (M := M) (us2 := [32]) [0] hn rfl (And.intro rfl trivial) rfl rfl rfl (c_X12_figures hst hs   hq60)) (by decide) (Nat.le_of_ble_eq_true rfl) (Or.inl rfl) ?_
        show Ev g _ _ _ _ _ _ 51 [some (x_r (16 * 32 + 0)), none] [x_i v59] (al, ro, fl (ml M [32] [S60])) _ _ _ _
        cases hG
        exact (e_ireturn rfl dX12_part_51 rfl)
  · rw [if_neg hb] at hG
    refine e_iconst (pc := 8) dX12_part_8 (x_R rfl) ?_
    cases hG
    exact (e_ireturn rfl dX12_part_9 rfl)
def G12_sum_L5  : (Int × xU) → Option ((Int × xU) ⊕ (Int × xU))
  | (v4, S5) => (if (S5 0 12) = (-1) then (x_b2 (G12_isSign 43 S5) fun (v10 : Int) (S11 : xU) => (if v10 = 0 then (some (.inr (v4, S11))) else (x_b2 (G12_part (x_up S11 0 11 (x_add (S11 0 11) 1))) fun (v13 : Int) (S14 : xU) => (some (.inl ((x_add v4 v13), S14)))))) else (some (.inr (v4, S5))))
def G12_sum (S : xU) : Option (Int × xU) :=
  (x_b2 (G12_part S) fun (v1 : Int) (S2 : xU) => (x_b2 (whl xFU G12_sum_L5 (v1, S2)) fun (v6 : Int) (S7 : xU) => (some (v6, S7))))
set_option maxRecDepth 100000 in
set_option maxHeartbeats 4000000 in
theorem c_X12_sum {g : xG} {al : List (Nat × Nat × Nat)} {ro : Nat → Nat → Option Nat} (hst : g.1.stackTraces = false) (hs : SH al ro) {M : Nat → xU} {S : xU} {t : (Int × xU)} (hG : G12_sum S = some t) :
    Cal g yX12_sum cX12_sum 2 (some .int) 8 [x_r (16 * 32 + 0)] (al, ro, fl (ml M [32] [S])) 0 0 (.inl (some (x_i t.1))) (al, ro, fl (ml M [32] [t.2])) := by
  have hn : ([32] : List Nat).Nodup := by decide
  refine cal_of_ev (by decide) (x_c1 rfl) (Nat.le_of_ble_eq_true rfl) hst ?_
  show Ev g _ _ _ _ _ _ 0 [some (x_r (16 * 32 + 0)), none] [] (al, ro, fl (ml M [32] [S])) _ _ _ _
  rw [G12_sum] at hG
  refine e_aloadn (pc := 0) (i := 0) dX12_sum_0 rfl rfl ?_
  obtain ⟨v1, S2, hq2, hG⟩ := x_bd2 hG
  refine e_invV (pc := 1) (K1 := 0) (S1 := 0) (K := 0) (S := 0) (dd2 := 7) (av := []) (st := []) (id := 16 * 32 + 0) dX12_sum_1 xmX12_213 rfl (Or.inl ⟨10, 27, TX12, (sa_32_0 hs), rfl, by decide⟩) (f_cal (M := M) (us2 := [32]) [0] hn rfl (And.intro rfl trivial) rfl rfl rfl (c_X12_part hst hs   hq2)) (by decide) (Nat.le_of_ble_eq_true rfl) (Or.inl rfl) ?_
  show Ev g _ _ _ _ _ _ 4 [some (x_r (16 * 32 + 0)), none] [x_i v1] (al, ro, fl (ml M [32] [S2])) _ _ _ _
  refine e_istoren (pc := 4) (i := 1) dX12_sum_4 rfl (by decide) rfl ?_
  show Ev g _ _ _ _ _ _ 5 [some (x_r (16 * 32 + 0)), some (x_i v1)] [] (al, ro, fl (ml M [32] [S2])) _ _ _ _
  obtain ⟨v6, S7, hl8, hG⟩ := x_bd2 hG
  have hk8 : ∀ q : (Int × xU), q = (v6, S7) → Ev g yX12_sum cX12_sum 2 (some .int) [] 8 42 [some (x_r (16 * 32 + 0)), some (x_i q.1)] [] (al, ro, fl (ml M [32] [q.2])) 0 0 (.inl (some (x_i t.1))) (al, ro, fl (ml M [32] [t.2])) := by
    intro q hq
    cases hq
    refine e_iloadn (pc := 42) (i := 1) dX12_sum_42 rfl rfl ?_
    cases hG
    exact (e_ireturn rfl dX12_sum_43 rfl)
  clear hG
  refine e_whl G12_sum_L5 (fun z : (Int × xU) => Ev g yX12_sum cX12_sum 2 (some .int) [] 8 5 [some (x_r (16 * 32 + 0)), some (x_i z.1)] [] (al, ro, fl (ml M [32] [z.2])) 0 0 (.inl (some (x_i t.1))) (al, ro, fl (ml M [32] [t.2]))) (fun q => q = (v6, S7)) ?_ xFU (v1, S2) _ hl8 rfl
  intro z t8 hf8 hi8 hx8
  obtain ⟨v4, S5⟩ := z
  rw [G12_sum_L5] at hf8
  show Ev g _ _ _ _ _ _ 5 [some (x_r (16 * 32 + 0)), some (x_i v4)] [] (al, ro, fl (ml M [32] [S5])) _ _ _ _
  refine e_aloadn (pc := 5) (i := 0) dX12_sum_5 rfl rfl ?_
  refine f_geti (pc := 6) (k := 0) (u := 32) (q := 0) dX12_sum_6 xf12_25 (sa_32_0 hs) rfl hn rfl rfl (by decide) ?_
  show Ev g _ _ _ _ _ _ 9 [some (x_r (16 * 32 + 0)), some (x_i v4)] [x_i (S5 0 12)] (al, ro, fl (ml M [32] [S5])) _ _ _ _
  refine e_iconst (pc := 9) dX12_sum_9 (x_R rfl) ?_
  refine e_icmp_ne (pc := 10) (tgt := 42) dX12_sum_10 (by decide) (fun hb => ?_) (fun hb => ?_)
  · rw [if_neg hb] at hf8
    cases hf8
    exact hk8 _ (hx8 _ rfl)
  · rw [if_pos hb] at hf8
    refine e_aloadn (pc := 13) (i := 0) dX12_sum_13 rfl rfl ?_
    refine e_bipush (pc := 14) dX12_sum_14 (by decide +kernel) (x_R rfl) ?_
    obtain ⟨v10, S11, hq11, hf8⟩ := x_bd2 hf8
    refine e_invV (pc := 16) (K1 := 0) (S1 := 0) (K := 0) (S := 0) (dd2 := 2) (av := [x_i 43]) (st := []) (id := 16 * 32 + 0) dX12_sum_16 xmX12_189 rfl (Or.inl ⟨10, 27, TX12, (sa_32_0 hs), rfl, by decide⟩) (f_cal (M := M) (us2 := [32]) [0] hn rfl (And.intro rfl trivial) rfl rfl rfl (c_X12_isSign hst hs   hq11)) (by decide) (Nat.le_of_ble_eq_true rfl) (Or.inl rfl) ?_
    show Ev g _ _ _ _ _ _ 19 [some (x_r (16 * 32 + 0)), some (x_i v4)] [x_i v10] (al, ro, fl (ml M [32] [S11])) _ _ _ _
    refine e_if_eq (pc := 19) (tgt := 42) dX12_sum_19 (by decide) (fun hb => ?_) (fun hb => ?_)
    · rw [if_pos hb] at hf8
      cases hf8
      exact hk8 _ (hx8 _ rfl)
    · rw [if_neg hb] at hf8
      refine e_aloadn (pc := 22) (i := 0) dX12_sum_22 rfl rfl ?_
      refine e_dup (pc := 23) dX12_sum_23 rfl ?_
      refine f_geti (pc := 24) (k := 0) (u := 32) (q := 0) dX12_sum_24 xf12_82 (sa_32_0 hs) rfl hn rfl rfl (by decide) ?_
      show Ev g _ _ _ _ _ _ 27 [some (x_r (16 * 32 + 0)), some (x_i v4)] [x_i (S11 0 11), x_r (16 * 32 + 0)] (al, ro, fl (ml M [32] [S11])) _ _ _ _
      refine e_iconst (pc := 27) dX12_sum_27 (x_R rfl) ?_
      refine e_iadd (pc := 28) dX12_sum_28 ?_
      refine f_puti (pc := 29) (k := 0) (u := 32) (q := 0) dX12_sum_29 xf12_82 xw10_11 (sa_32_0 hs) hn rfl rfl rfl (by decide) ?_
      show Ev g _ _ _ _ _ _ 32 [some (x_r (16 * 32 + 0)), some (x_i v4)] [] (al, ro, fl (ml M [32] [(x_up S11 0 11 (x_add (S11 0 11) 1))])) _ _ _ _
      refine e_iloadn (pc := 32) (i := 1) dX12_sum_32 rfl rfl ?_
      refine e_aloadn (pc := 33) (i := 0) dX12_sum_33 rfl rfl ?_
      obtain ⟨v13, S14, hq14, hf8⟩ := x_bd2 hf8
      refine e_invV (pc := 34) (K1 := 0) (S1 := 0) (K := 0) (S := 0) (dd2 := 7) (av := []) (st := [x_i v4]) (id := 16 * 32 + 0) dX12_sum_34 xmX12_213 rfl (Or.inl ⟨10, 27, TX12, (sa_32_0 hs), rfl, by decide⟩) (f_cal (M := M) (us2 := [32]) [0] hn rfl (And.intro rfl trivial) rfl rfl rfl (c_X12_part hst hs   hq14)) (by decide) (Nat.le_of_ble_eq_true rfl) (Or.inl rfl) ?_
      show Ev g _ _ _ _ _ _ 37 [some (x_r (16 * 32 + 0)), some (x_i v4)] [x_i v13, x_i v4] (al, ro, fl (ml M [32] [S14])) _ _ _ _
      refine e_iadd (pc := 37) dX12_sum_37 ?_
      refine e_istoren (pc := 38) (i := 1) dX12_sum_38 rfl (by decide) rfl ?_
      show Ev g _ _ _ _ _ _ 39 [some (x_r (16 * 32 + 0)), some (x_i (x_add v4 v13))] [] (al, ro, fl (ml M [32] [S14])) _ _ _ _
      refine e_goto (pc := 39) (tgt := 5) dX12_sum_39 (by decide) ?_
      cases hf8
      exact hi8 _ rfl
def G12_plain (S : xU) : Option (Int × xU) :=
  (x_b2 (G12_has 24 S) fun (v1 : Int) (S2 : xU) => (if v1 = 0 then (x_b2 (G12_has 25 S2) fun (v4 : Int) (S5 : xU) => (if v4 = 0 then (x_b2 (G12_sum S5) fun (v7 : Int) (S8 : xU) => (if (S8 0 12) = (-1) then (x_b2 (G12_isSign 60 S8) fun (v10 : Int) (S11 : xU) => (if v10 = 0 then (x_b2 (G12_isSign 62 S11) fun (v18 : Int) (S19 : xU) => (if v18 = 0 then (x_b1 (G12_wrong (S19 0 11) S19) fun (S26 : xU) => (some (0, S26))) else (x_b2 (G12_sum (x_up S19 0 11 (x_add (S19 0 11) 1))) fun (v21 : Int) (S22 : xU) => (x_b1 (if v10 = 0 then (if v7 ≤ v21 then (some 0) else (some 1)) else (if v21 ≤ v7 then (some 0) else (some 1))) fun (v24 : Int) => (x_gd (v24 = 0 ∨ v24 = 1) (some (v24, S22))))))) else (x_b2 (G12_sum (x_up S11 0 11 (x_add (S11 0 11) 1))) fun (v13 : Int) (S14 : xU) => (x_b1 (if v10 = 0 then (if v7 ≤ v13 then (some 0) else (some 1)) else (if v13 ≤ v7 then (some 0) else (some 1))) fun (v16 : Int) => (x_gd (v16 = 0 ∨ v16 = 1) (some (v16, S14))))))) else (some (0, S8)))) else (x_gd ((S5 0 16) = 0 ∨ (S5 0 16) = 1) (some ((S5 0 16), S5))))) else (x_gd ((S2 0 15) = 0 ∨ (S2 0 15) = 1) (some ((S2 0 15), S2)))))
set_option maxRecDepth 100000 in
set_option maxHeartbeats 4000000 in
theorem c_X12_plain {g : xG} {al : List (Nat × Nat × Nat)} {ro : Nat → Nat → Option Nat} (hst : g.1.stackTraces = false) (hs : SH al ro) {M : Nat → xU} {S : xU} {t : (Int × xU)} (hG : G12_plain S = some t) :
    Cal g yX12_plain cX12_plain 4 (some .boolean) 9 [x_r (16 * 32 + 0)] (al, ro, fl (ml M [32] [S])) 0 0 (.inl (some (x_i t.1))) (al, ro, fl (ml M [32] [t.2])) := by
  have hn : ([32] : List Nat).Nodup := by decide
  refine cal_of_ev (by decide) (x_c1 rfl) (Nat.le_of_ble_eq_true rfl) hst ?_
  show Ev g _ _ _ _ _ _ 0 [some (x_r (16 * 32 + 0)), none, none, none] [] (al, ro, fl (ml M [32] [S])) _ _ _ _
  rw [G12_plain] at hG
  refine e_aloadn (pc := 0) (i := 0) dX12_plain_0 rfl rfl ?_
  refine e_ldcS (pc := 1) (i := 24) dX12_plain_1 (by decide +kernel) (by decide) ?_
  obtain ⟨v1, S2, hq2, hG⟩ := x_bd2 hG
  refine e_invV (pc := 3) (K1 := 0) (S1 := 0) (K := 0) (S := 0) (dd2 := 6) (av := [x_r (x_s0 + 24)]) (st := []) (id := 16 * 32 + 0) dX12_plain_3 xmX12_112 rfl (Or.inl ⟨10, 27, TX12, (sa_32_0 hs), rfl, by decide⟩) (f_cal (M := M) (us2 := [32]) [0] hn rfl (And.intro rfl trivial) rfl rfl rfl (c_X12_has hst hs  (by decide) hq2)) (by decide) (Nat.le_of_ble_eq_true rfl) (Or.inl rfl) ?_
  show Ev g _ _ _ _ _ _ 6 [some (x_r (16 * 32 + 0)), none, none, none] [x_i v1] (al, ro, fl (ml M [32] [S2])) _ _ _ _
  refine e_if_eq (pc := 6) (tgt := 14) dX12_plain_6 (by decide) (fun hb => ?_) (fun hb => ?_)
  · rw [if_pos hb] at hG
    refine e_aloadn (pc := 14) (i := 0) dX12_plain_14 rfl rfl ?_
    refine e_ldcS (pc := 15) (i := 25) dX12_plain_15 (by decide +kernel) (by decide) ?_
    obtain ⟨v4, S5, hq5, hG⟩ := x_bd2 hG
    refine e_invV (pc := 17) (K1 := 0) (S1 := 0) (K := 0) (S := 0) (dd2 := 6) (av := [x_r (x_s0 + 25)]) (st := []) (id := 16 * 32 + 0) dX12_plain_17 xmX12_112 rfl (Or.inl ⟨10, 27, TX12, (sa_32_0 hs), rfl, by decide⟩) (f_cal (M := M) (us2 := [32]) [0] hn rfl (And.intro rfl trivial) rfl rfl rfl (c_X12_has hst hs  (by decide) hq5)) (by decide) (Nat.le_of_ble_eq_true rfl) (Or.inl rfl) ?_
    show Ev g _ _ _ _ _ _ 20 [some (x_r (16 * 32 + 0)), none, none, none] [x_i v4] (al, ro, fl (ml M [32] [S5])) _ _ _ _
    refine e_if_eq (pc := 20) (tgt := 28) dX12_plain_20 (by decide) (fun hb => ?_) (fun hb => ?_)
    · rw [if_pos hb] at hG
      refine e_aloadn (pc := 28) (i := 0) dX12_plain_28 rfl rfl ?_
      obtain ⟨v7, S8, hq8, hG⟩ := x_bd2 hG
      refine e_invV (pc := 29) (K1 := 0) (S1 := 0) (K := 0) (S := 0) (dd2 := 8) (av := []) (st := []) (id := 16 * 32 + 0) dX12_plain_29 xmX12_227 rfl (Or.inl ⟨10, 27, TX12, (sa_32_0 hs), rfl, by decide⟩) (f_cal (M := M) (us2 := [32]) [0] hn rfl (And.intro rfl trivial) rfl rfl rfl (c_X12_sum hst hs   hq8)) (by decide) (Nat.le_of_ble_eq_true rfl) (Or.inl rfl) ?_
      show Ev g _ _ _ _ _ _ 32 [some (x_r (16 * 32 + 0)), none, none, none] [x_i v7] (al, ro, fl (ml M [32] [S8])) _ _ _ _
      refine e_istoren (pc := 32) (i := 1) dX12_plain_32 rfl (by decide) rfl ?_
      show Ev g _ _ _ _ _ _ 33 [some (x_r (16 * 32 + 0)), some (x_i v7), none, none] [] (al, ro, fl (ml M [32] [S8])) _ _ _ _
      refine e_aloadn (pc := 33) (i := 0) dX12_plain_33 rfl rfl ?_
      refine f_geti (pc := 34) (k := 0) (u := 32) (q := 0) dX12_plain_34 xf12_25 (sa_32_0 hs) rfl hn rfl rfl (by decide) ?_
      show Ev g _ _ _ _ _ _ 37 [some (x_r (16 * 32 + 0)), some (x_i v7), none, none] [x_i (S8 0 12)] (al, ro, fl (ml M [32] [S8])) _ _ _ _
      refine e_iconst (pc := 37) dX12_plain_37 (x_R rfl) ?_
      refine e_icmp_eq (pc := 38) (tgt := 43) dX12_plain_38 (by decide) (fun hb => ?_) (fun hb => ?_)
      · rw [if_pos hb] at hG
        refine e_aloadn (pc := 43) (i := 0) dX12_plain_43 rfl rfl ?_
        refine e_bipush (pc := 44) dX12_plain_44 (by decide +kernel) (x_R rfl) ?_
        obtain ⟨v10, S11, hq11, hG⟩ := x_bd2 hG
        refine e_invV (pc := 46) (K1 := 0) (S1 := 0) (K := 0) (S := 0) (dd2 := 2) (av := [x_i 60]) (st := []) (id := 16 * 32 + 0) dX12_plain_46 xmX12_189 rfl (Or.inl ⟨10, 27, TX12, (sa_32_0 hs), rfl, by decide⟩) (f_cal (M := M) (us2 := [32]) [0] hn rfl (And.intro rfl trivial) rfl rfl rfl (c_X12_isSign hst hs   hq11)) (by decide) (Nat.le_of_ble_eq_true rfl) (Or.inl rfl) ?_
        show Ev g _ _ _ _ _ _ 49 [some (x_r (16 * 32 + 0)), some (x_i v7), none, none] [x_i v10] (al, ro, fl (ml M [32] [S11])) _ _ _ _
        refine e_istoren (pc := 49) (i := 2) dX12_plain_49 rfl (by decide) rfl ?_
        show Ev g _ _ _ _ _ _ 50 [some (x_r (16 * 32 + 0)), some (x_i v7), some (x_i v10), none] [] (al, ro, fl (ml M [32] [S11])) _ _ _ _
        refine e_iloadn (pc := 50) (i := 2) dX12_plain_50 rfl rfl ?_
        refine e_if_ne (pc := 51) (tgt := 73) dX12_plain_51 (by decide) (fun hb => ?_) (fun hb => ?_)
        · rw [if_neg hb] at hG
          refine e_aloadn (pc := 73) (i := 0) dX12_plain_73 rfl rfl ?_
          refine e_dup (pc := 74) dX12_plain_74 rfl ?_
          refine f_geti (pc := 75) (k := 0) (u := 32) (q := 0) dX12_plain_75 xf12_82 (sa_32_0 hs) rfl hn rfl rfl (by decide) ?_
          show Ev g _ _ _ _ _ _ 78 [some (x_r (16 * 32 + 0)), some (x_i v7), some (x_i v10), none] [x_i (S11 0 11), x_r (16 * 32 + 0)] (al, ro, fl (ml M [32] [S11])) _ _ _ _
          refine e_iconst (pc := 78) dX12_plain_78 (x_R rfl) ?_
          refine e_iadd (pc := 79) dX12_plain_79 ?_
          refine f_puti (pc := 80) (k := 0) (u := 32) (q := 0) dX12_plain_80 xf12_82 xw10_11 (sa_32_0 hs) hn rfl rfl rfl (by decide) ?_
          show Ev g _ _ _ _ _ _ 83 [some (x_r (16 * 32 + 0)), some (x_i v7), some (x_i v10), none] [] (al, ro, fl (ml M [32] [(x_up S11 0 11 (x_add (S11 0 11) 1))])) _ _ _ _
          refine e_aloadn (pc := 83) (i := 0) dX12_plain_83 rfl rfl ?_
          obtain ⟨v13, S14, hq14, hG⟩ := x_bd2 hG
          refine e_invV (pc := 84) (K1 := 0) (S1 := 0) (K := 0) (S := 0) (dd2 := 8) (av := []) (st := []) (id := 16 * 32 + 0) dX12_plain_84 xmX12_227 rfl (Or.inl ⟨10, 27, TX12, (sa_32_0 hs), rfl, by decide⟩) (f_cal (M := M) (us2 := [32]) [0] hn rfl (And.intro rfl trivial) rfl rfl rfl (c_X12_sum hst hs   hq14)) (by decide) (Nat.le_of_ble_eq_true rfl) (Or.inl rfl) ?_
          show Ev g _ _ _ _ _ _ 87 [some (x_r (16 * 32 + 0)), some (x_i v7), some (x_i v10), none] [x_i v13] (al, ro, fl (ml M [32] [S14])) _ _ _ _
          refine e_istoren (pc := 87) (i := 3) dX12_plain_87 rfl (by decide) rfl ?_
          show Ev g _ _ _ _ _ _ 88 [some (x_r (16 * 32 + 0)), some (x_i v7), some (x_i v10), some (x_i v13)] [] (al, ro, fl (ml M [32] [S14])) _ _ _ _
          refine e_iloadn (pc := 88) (i := 2) dX12_plain_88 rfl rfl ?_
          obtain ⟨v16, hr16, hG⟩ := x_bd1 hG
          have hjhr16 : Ev g yX12_plain cX12_plain 4 (some .boolean) [] 9 115 [some (x_r (16 * 32 + 0)), some (x_i v7), some (x_i v10), some (x_i v13)] [x_i v16] (al, ro, fl (ml M [32] [S14])) 0 0 (.inl (some (x_i t.1))) (al, ro, fl (ml M [32] [t.2])) := by
            obtain ⟨hc0, hG⟩ := x_gd_some hG
            cases hG
            exact (e_ireturn rfl dX12_plain_115 (x_bool hc0).1)
          clear hG
          refine e_if_eq (pc := 89) (tgt := 105) dX12_plain_89 (by decide) (fun hb => ?_) (fun hb => ?_)
          · rw [if_pos hb] at hr16
            refine e_iloadn (pc := 105) (i := 1) dX12_plain_105 rfl rfl ?_
            refine e_iloadn (pc := 106) (i := 3) dX12_plain_106 rfl rfl ?_
            refine e_icmp_le (pc := 107) (tgt := 114) dX12_plain_107 (by decide) (fun hb => ?_) (fun hb => ?_)
            · rw [if_pos hb] at hr16
              refine e_iconst (pc := 114) dX12_plain_114 (x_R rfl) ?_
              cases hr16
              exact hjhr16
            · rw [if_neg hb] at hr16
              refine e_iconst (pc := 110) dX12_plain_110 (x_R rfl) ?_
              refine e_goto (pc := 111) (tgt := 115) dX12_plain_111 (by decide) ?_
              cases hr16
              exact hjhr16
          · rw [if_neg hb] at hr16
            refine e_iloadn (pc := 92) (i := 1) dX12_plain_92 rfl rfl ?_
            refine e_iloadn (pc := 93) (i := 3) dX12_plain_93 rfl rfl ?_
            refine e_icmp_ge (pc := 94) (tgt := 101) dX12_plain_94 (by decide) (fun hb => ?_) (fun hb => ?_)
            · rw [if_pos hb] at hr16
              refine e_iconst (pc := 101) dX12_plain_101 (x_R rfl) ?_
              refine e_goto (pc := 102) (tgt := 115) dX12_plain_102 (by decide) ?_
              cases hr16
              exact hjhr16
            · rw [if_neg hb] at hr16
              refine e_iconst (pc := 97) dX12_plain_97 (x_R rfl) ?_
              refine e_goto (pc := 98) (tgt := 115) dX12_plain_98 (by decide) ?_
              cases hr16
              exact hjhr16
        · rw [if_pos hb] at hG
          refine e_aloadn (pc := 54) (i := 0) dX12_plain_54 rfl rfl ?_
          refine e_bipush (pc := 55) dX12_plain_55 (by decide +kernel) (x_R rfl) ?_
          obtain ⟨v18, S19, hq19, hG⟩ := x_bd2 hG
          refine e_invV (pc := 57) (K1 := 0) (S1 := 0) (K := 0) (S := 0) (dd2 := 2) (av := [x_i 62]) (st := []) (id := 16 * 32 + 0) dX12_plain_57 xmX12_189 rfl (Or.inl ⟨10, 27, TX12, (sa_32_0 hs), rfl, by decide⟩) (f_cal (M := M) (us2 := [32]) [0] hn rfl (And.intro rfl trivial) rfl rfl rfl (c_X12_isSign hst hs   hq19)) (by decide) (Nat.le_of_ble_eq_true rfl) (Or.inl rfl) ?_
          show Ev g _ _ _ _ _ _ 60 [some (x_r (16 * 32 + 0)), some (x_i v7), some (x_i v10), none] [x_i v18] (al, ro, fl (ml M [32] [S19])) _ _ _ _
          refine e_if_ne (pc := 60) (tgt := 73) dX12_plain_60 (by decide) (fun hb => ?_) (fun hb => ?_)
          · rw [if_neg hb] at hG
            refine e_aloadn (pc := 73) (i := 0) dX12_plain_73 rfl rfl ?_
            refine e_dup (pc := 74) dX12_plain_74 rfl ?_
            refine f_geti (pc := 75) (k := 0) (u := 32) (q := 0) dX12_plain_75 xf12_82 (sa_32_0 hs) rfl hn rfl rfl (by decide) ?_
            show Ev g _ _ _ _ _ _ 78 [some (x_r (16 * 32 + 0)), some (x_i v7), some (x_i v10), none] [x_i (S19 0 11), x_r (16 * 32 + 0)] (al, ro, fl (ml M [32] [S19])) _ _ _ _
            refine e_iconst (pc := 78) dX12_plain_78 (x_R rfl) ?_
            refine e_iadd (pc := 79) dX12_plain_79 ?_
            refine f_puti (pc := 80) (k := 0) (u := 32) (q := 0) dX12_plain_80 xf12_82 xw10_11 (sa_32_0 hs) hn rfl rfl rfl (by decide) ?_
            show Ev g _ _ _ _ _ _ 83 [some (x_r (16 * 32 + 0)), some (x_i v7), some (x_i v10), none] [] (al, ro, fl (ml M [32] [(x_up S19 0 11 (x_add (S19 0 11) 1))])) _ _ _ _
            refine e_aloadn (pc := 83) (i := 0) dX12_plain_83 rfl rfl ?_
            obtain ⟨v21, S22, hq22, hG⟩ := x_bd2 hG
            refine e_invV (pc := 84) (K1 := 0) (S1 := 0) (K := 0) (S := 0) (dd2 := 8) (av := []) (st := []) (id := 16 * 32 + 0) dX12_plain_84 xmX12_227 rfl (Or.inl ⟨10, 27, TX12, (sa_32_0 hs), rfl, by decide⟩) (f_cal (M := M) (us2 := [32]) [0] hn rfl (And.intro rfl trivial) rfl rfl rfl (c_X12_sum hst hs   hq22)) (by decide) (Nat.le_of_ble_eq_true rfl) (Or.inl rfl) ?_
            show Ev g _ _ _ _ _ _ 87 [some (x_r (16 * 32 + 0)), some (x_i v7), some (x_i v10), none] [x_i v21] (al, ro, fl (ml M [32] [S22])) _ _ _ _
            refine e_istoren (pc := 87) (i := 3) dX12_plain_87 rfl (by decide) rfl ?_
            show Ev g _ _ _ _ _ _ 88 [some (x_r (16 * 32 + 0)), some (x_i v7), some (x_i v10), some (x_i v21)] [] (al, ro, fl (ml M [32] [S22])) _ _ _ _
            refine e_iloadn (pc := 88) (i := 2) dX12_plain_88 rfl rfl ?_
            obtain ⟨v24, hr24, hG⟩ := x_bd1 hG
            have hjhr24 : Ev g yX12_plain cX12_plain 4 (some .boolean) [] 9 115 [some (x_r (16 * 32 + 0)), some (x_i v7), some (x_i v10), some (x_i v21)] [x_i v24] (al, ro, fl (ml M [32] [S22])) 0 0 (.inl (some (x_i t.1))) (al, ro, fl (ml M [32] [t.2])) := by
              obtain ⟨hc0, hG⟩ := x_gd_some hG
              cases hG
              exact (e_ireturn rfl dX12_plain_115 (x_bool hc0).1)
            clear hG
            refine e_if_eq (pc := 89) (tgt := 105) dX12_plain_89 (by decide) (fun hb => ?_) (fun hb => ?_)
            · rw [if_pos hb] at hr24
              refine e_iloadn (pc := 105) (i := 1) dX12_plain_105 rfl rfl ?_
              refine e_iloadn (pc := 106) (i := 3) dX12_plain_106 rfl rfl ?_
              refine e_icmp_le (pc := 107) (tgt := 114) dX12_plain_107 (by decide) (fun hb => ?_) (fun hb => ?_)
              · rw [if_pos hb] at hr24
                refine e_iconst (pc := 114) dX12_plain_114 (x_R rfl) ?_
                cases hr24
                exact hjhr24
              · rw [if_neg hb] at hr24
                refine e_iconst (pc := 110) dX12_plain_110 (x_R rfl) ?_
                refine e_goto (pc := 111) (tgt := 115) dX12_plain_111 (by decide) ?_
                cases hr24
                exact hjhr24
            · rw [if_neg hb] at hr24
              refine e_iloadn (pc := 92) (i := 1) dX12_plain_92 rfl rfl ?_
              refine e_iloadn (pc := 93) (i := 3) dX12_plain_93 rfl rfl ?_
              refine e_icmp_ge (pc := 94) (tgt := 101) dX12_plain_94 (by decide) (fun hb => ?_) (fun hb => ?_)
              · rw [if_pos hb] at hr24
                refine e_iconst (pc := 101) dX12_plain_101 (x_R rfl) ?_
                refine e_goto (pc := 102) (tgt := 115) dX12_plain_102 (by decide) ?_
                cases hr24
                exact hjhr24
              · rw [if_neg hb] at hr24
                refine e_iconst (pc := 97) dX12_plain_97 (x_R rfl) ?_
                refine e_goto (pc := 98) (tgt := 115) dX12_plain_98 (by decide) ?_
                cases hr24
                exact hjhr24
          · rw [if_pos hb] at hG
            refine e_aloadn (pc := 63) (i := 0) dX12_plain_63 rfl rfl ?_
            refine e_aloadn (pc := 64) (i := 0) dX12_plain_64 rfl rfl ?_
            refine f_geti (pc := 65) (k := 0) (u := 32) (q := 0) dX12_plain_65 xf12_82 (sa_32_0 hs) rfl hn rfl rfl (by decide) ?_
            show Ev g _ _ _ _ _ _ 68 [some (x_r (16 * 32 + 0)), some (x_i v7), some (x_i v10), none] [x_i (S19 0 11), x_r (16 * 32 + 0)] (al, ro, fl (ml M [32] [S19])) _ _ _ _
            obtain ⟨S26, hq26, hG⟩ := x_bd1 hG
            refine e_invV (pc := 68) (K1 := 0) (S1 := 0) (K := 0) (S := 0) (dd2 := 0) (av := [x_i (S19 0 11)]) (st := []) (id := 16 * 32 + 0) dX12_plain_68 xmX12_108 rfl (Or.inl ⟨10, 27, TX12, (sa_32_0 hs), rfl, by decide⟩) (f_cal (M := M) (us2 := [32]) [0] hn rfl (And.intro rfl trivial) rfl rfl rfl (c_X12_wrong hst hs   hq26)) (by decide) (Nat.le_of_ble_eq_true rfl) (Or.inl rfl) ?_
            show Ev g _ _ _ _ _ _ 71 [some (x_r (16 * 32 + 0)), some (x_i v7), some (x_i v10), none] [] (al, ro, fl (ml M [32] [S26])) _ _ _ _
            refine e_iconst (pc := 71) dX12_plain_71 (x_R rfl) ?_
            cases hG
            exact (e_ireturn rfl dX12_plain_72 (x_bool (by decide)).1)
      · rw [if_neg hb] at hG
        refine e_iconst (pc := 41) dX12_plain_41 (x_R rfl) ?_
        cases hG
        exact (e_ireturn rfl dX12_plain_42 (x_bool (by decide)).1)
    · rw [if_neg hb] at hG
      refine e_aloadn (pc := 23) (i := 0) dX12_plain_23 rfl rfl ?_
      refine f_geti (pc := 24) (k := 0) (u := 32) (q := 0) dX12_plain_24 xf12_224 (sa_32_0 hs) rfl hn rfl rfl (by decide) ?_
      show Ev g _ _ _ _ _ _ 27 [some (x_r (16 * 32 + 0)), none, none, none] [x_i (S5 0 16)] (al, ro, fl (ml M [32] [S5])) _ _ _ _
      obtain ⟨hc0, hG⟩ := x_gd_some hG
      cases hG
      exact (e_ireturn rfl dX12_plain_27 (x_bool hc0).1)
  · rw [if_neg hb] at hG
    refine e_aloadn (pc := 9) (i := 0) dX12_plain_9 rfl rfl ?_
    refine f_geti (pc := 10) (k := 0) (u := 32) (q := 0) dX12_plain_10 xf12_218 (sa_32_0 hs) rfl hn rfl rfl (by decide) ?_
    show Ev g _ _ _ _ _ _ 13 [some (x_r (16 * 32 + 0)), none, none, none] [x_i (S2 0 15)] (al, ro, fl (ml M [32] [S2])) _ _ _ _
    obtain ⟨hc0, hG⟩ := x_gd_some hG
    cases hG
    exact (e_ireturn rfl dX12_plain_13 (x_bool hc0).1)
def G12_putsAside_L2  : (Int × xU) → Option ((Int × xU) ⊕ xU)
  | (v1, S2) => (if 372 ≤ v1 then (some (.inr S2)) else (x_gd ((0 : Int) ≤ v1 ∧ v1 < 772) (x_gd ((0 : Int) ≤ v1 ∧ v1 < 372) (some (.inl ((x_add v1 1), (x_up S2 3 (v1).toNat (S2 1 (v1).toNat))))))))
def G12_putsAside (S : xU) : Option xU :=
  (x_b1 (whl xFU G12_putsAside_L2 (0, S)) fun (S3 : xU) => (some S3))
set_option maxRecDepth 100000 in
set_option maxHeartbeats 4000000 in
theorem c_X12_putsAside {g : xG} {al : List (Nat × Nat × Nat)} {ro : Nat → Nat → Option Nat} (hst : g.1.stackTraces = false) (hs : SH al ro) {M : Nat → xU} {S : xU} {t : xU} (hG : G12_putsAside S = some t) :
    Cal g yX12_putsAside cX12_putsAside 2 none 0 [x_r (16 * 32 + 0)] (al, ro, fl (ml M [32] [S])) 0 0 (.inl none) (al, ro, fl (ml M [32] [t])) := by
  have hn : ([32] : List Nat).Nodup := by decide
  refine cal_of_ev (by decide) (x_c1 rfl) (Nat.le_of_ble_eq_true rfl) hst ?_
  show Ev g _ _ _ _ _ _ 0 [some (x_r (16 * 32 + 0)), none] [] (al, ro, fl (ml M [32] [S])) _ _ _ _
  rw [G12_putsAside] at hG
  refine e_iconst (pc := 0) dX12_putsAside_0 (x_R rfl) ?_
  refine e_istoren (pc := 1) (i := 1) dX12_putsAside_1 rfl (by decide) rfl ?_
  show Ev g _ _ _ _ _ _ 2 [some (x_r (16 * 32 + 0)), some (x_i 0)] [] (al, ro, fl (ml M [32] [S])) _ _ _ _
  obtain ⟨S3, hl4, hG⟩ := x_bd1 hG
  have hk4 : ∀ q : xU, q = S3 → Ev g yX12_putsAside cX12_putsAside 2 none [] 0 27 [some (x_r (16 * 32 + 0)), none] [] (al, ro, fl (ml M [32] [q])) 0 0 (.inl none) (al, ro, fl (ml M [32] [t])) := by
    intro q hq
    replace hq := hq.symm
    subst hq
    cases hG
    exact (e_return rfl dX12_putsAside_27)
  clear hG
  refine e_whl G12_putsAside_L2 (fun z : (Int × xU) => Ev g yX12_putsAside cX12_putsAside 2 none [] 0 2 [some (x_r (16 * 32 + 0)), some (x_i z.1)] [] (al, ro, fl (ml M [32] [z.2])) 0 0 (.inl none) (al, ro, fl (ml M [32] [t]))) (fun q => q = S3) ?_ xFU (0, S) _ hl4 rfl
  intro z t4 hf4 hi4 hx4
  obtain ⟨v1, S2⟩ := z
  rw [G12_putsAside_L2] at hf4
  show Ev g _ _ _ _ _ _ 2 [some (x_r (16 * 32 + 0)), some (x_i v1)] [] (al, ro, fl (ml M [32] [S2])) _ _ _ _
  refine e_iloadn (pc := 2) (i := 1) dX12_putsAside_2 rfl rfl ?_
  refine e_sipush (pc := 3) dX12_putsAside_3 (by decide +kernel) (x_R rfl) ?_
  refine e_icmp_ge (pc := 6) (tgt := 27) dX12_putsAside_6 (by decide) (fun hb => ?_) (fun hb => ?_)
  · rw [if_pos hb] at hf4
    cases hf4
    refine e_drop (i := 1) ?_
    exact hk4 _ (hx4 _ rfl)
  · rw [if_neg hb] at hf4
    refine e_aloadn (pc := 9) (i := 0) dX12_putsAside_9 rfl rfl ?_
    refine f_getr (pc := 10) (u := 32) (q := 0) dX12_putsAside_10 xf12_16 (sa_32_0 hs) rfl (sr_32_0_4 hs) ?_
    refine e_iloadn (pc := 13) (i := 1) dX12_putsAside_13 rfl rfl ?_
    refine e_aloadn (pc := 14) (i := 0) dX12_putsAside_14 rfl rfl ?_
    refine f_getr (pc := 15) (u := 32) (q := 0) dX12_putsAside_15 xf12_7 (sa_32_0 hs) rfl (sr_32_0_1 hs) ?_
    refine e_iloadn (pc := 18) (i := 1) dX12_putsAside_18 rfl rfl ?_
    obtain ⟨hc0, hf4⟩ := x_gd_some hf4
    refine f_iald (pc := 19) (k := 0) (u := 32) (q := 1) (len := 772) dX12_putsAside_19 (sa_32_1 hs) hc0 hn rfl rfl (by decide) ?_
    show Ev g _ _ _ _ _ _ 20 [some (x_r (16 * 32 + 0)), some (x_i v1)] [x_i (S2 1 (v1).toNat), x_i v1, x_r (16 * 32 + 3)] (al, ro, fl (ml M [32] [S2])) _ _ _ _
    obtain ⟨hc0, hf4⟩ := x_gd_some hf4
    refine f_iast (pc := 20) (k := 0) (u := 32) (q := 3) (len := 372) dX12_putsAside_20 (sa_32_3 hs) hc0 hn rfl rfl rfl (by decide) ?_
    show Ev g _ _ _ _ _ _ 21 [some (x_r (16 * 32 + 0)), some (x_i v1)] [] (al, ro, fl (ml M [32] [(x_up S2 3 (v1).toNat (S2 1 (v1).toNat))])) _ _ _ _
    refine e_iinc (pc := 21) dX12_putsAside_21 rfl (by decide) rfl ?_
    show Ev g _ _ _ _ _ _ 24 [some (x_r (16 * 32 + 0)), some (x_i (x_add v1 1))] [] (al, ro, fl (ml M [32] [(x_up S2 3 (v1).toNat (S2 1 (v1).toNat))])) _ _ _ _
    refine e_goto (pc := 24) (tgt := 2) dX12_putsAside_24 (by decide) ?_
    cases hf4
    exact hi4 _ rfl
def G12_comesBack_L2  : (Int × xU) → Option ((Int × xU) ⊕ xU)
  | (v1, S2) => (if 372 ≤ v1 then (some (.inr S2)) else (x_gd ((0 : Int) ≤ v1 ∧ v1 < 372) (x_gd ((0 : Int) ≤ v1 ∧ v1 < 772) (some (.inl ((x_add v1 1), (x_up S2 1 (v1).toNat (S2 3 (v1).toNat))))))))
def G12_comesBack (S : xU) : Option xU :=
  (x_b1 (whl xFU G12_comesBack_L2 (0, S)) fun (S3 : xU) => (some S3))
set_option maxRecDepth 100000 in
set_option maxHeartbeats 4000000 in
theorem c_X12_comesBack {g : xG} {al : List (Nat × Nat × Nat)} {ro : Nat → Nat → Option Nat} (hst : g.1.stackTraces = false) (hs : SH al ro) {M : Nat → xU} {S : xU} {t : xU} (hG : G12_comesBack S = some t) :
    Cal g yX12_comesBack cX12_comesBack 2 none 0 [x_r (16 * 32 + 0)] (al, ro, fl (ml M [32] [S])) 0 0 (.inl none) (al, ro, fl (ml M [32] [t])) := by
  have hn : ([32] : List Nat).Nodup := by decide
  refine cal_of_ev (by decide) (x_c1 rfl) (Nat.le_of_ble_eq_true rfl) hst ?_
  show Ev g _ _ _ _ _ _ 0 [some (x_r (16 * 32 + 0)), none] [] (al, ro, fl (ml M [32] [S])) _ _ _ _
  rw [G12_comesBack] at hG
  refine e_iconst (pc := 0) dX12_comesBack_0 (x_R rfl) ?_
  refine e_istoren (pc := 1) (i := 1) dX12_comesBack_1 rfl (by decide) rfl ?_
  show Ev g _ _ _ _ _ _ 2 [some (x_r (16 * 32 + 0)), some (x_i 0)] [] (al, ro, fl (ml M [32] [S])) _ _ _ _
  obtain ⟨S3, hl4, hG⟩ := x_bd1 hG
  have hk4 : ∀ q : xU, q = S3 → Ev g yX12_comesBack cX12_comesBack 2 none [] 0 27 [some (x_r (16 * 32 + 0)), none] [] (al, ro, fl (ml M [32] [q])) 0 0 (.inl none) (al, ro, fl (ml M [32] [t])) := by
    intro q hq
    replace hq := hq.symm
    subst hq
    cases hG
    exact (e_return rfl dX12_comesBack_27)
  clear hG
  refine e_whl G12_comesBack_L2 (fun z : (Int × xU) => Ev g yX12_comesBack cX12_comesBack 2 none [] 0 2 [some (x_r (16 * 32 + 0)), some (x_i z.1)] [] (al, ro, fl (ml M [32] [z.2])) 0 0 (.inl none) (al, ro, fl (ml M [32] [t]))) (fun q => q = S3) ?_ xFU (0, S) _ hl4 rfl
  intro z t4 hf4 hi4 hx4
  obtain ⟨v1, S2⟩ := z
  rw [G12_comesBack_L2] at hf4
  show Ev g _ _ _ _ _ _ 2 [some (x_r (16 * 32 + 0)), some (x_i v1)] [] (al, ro, fl (ml M [32] [S2])) _ _ _ _
  refine e_iloadn (pc := 2) (i := 1) dX12_comesBack_2 rfl rfl ?_
  refine e_sipush (pc := 3) dX12_comesBack_3 (by decide +kernel) (x_R rfl) ?_
  refine e_icmp_ge (pc := 6) (tgt := 27) dX12_comesBack_6 (by decide) (fun hb => ?_) (fun hb => ?_)
  · rw [if_pos hb] at hf4
    cases hf4
    refine e_drop (i := 1) ?_
    exact hk4 _ (hx4 _ rfl)
  · rw [if_neg hb] at hf4
    refine e_aloadn (pc := 9) (i := 0) dX12_comesBack_9 rfl rfl ?_
    refine f_getr (pc := 10) (u := 32) (q := 0) dX12_comesBack_10 xf12_7 (sa_32_0 hs) rfl (sr_32_0_1 hs) ?_
    refine e_iloadn (pc := 13) (i := 1) dX12_comesBack_13 rfl rfl ?_
    refine e_aloadn (pc := 14) (i := 0) dX12_comesBack_14 rfl rfl ?_
    refine f_getr (pc := 15) (u := 32) (q := 0) dX12_comesBack_15 xf12_16 (sa_32_0 hs) rfl (sr_32_0_4 hs) ?_
    refine e_iloadn (pc := 18) (i := 1) dX12_comesBack_18 rfl rfl ?_
    obtain ⟨hc0, hf4⟩ := x_gd_some hf4
    refine f_iald (pc := 19) (k := 0) (u := 32) (q := 3) (len := 372) dX12_comesBack_19 (sa_32_3 hs) hc0 hn rfl rfl (by decide) ?_
    show Ev g _ _ _ _ _ _ 20 [some (x_r (16 * 32 + 0)), some (x_i v1)] [x_i (S2 3 (v1).toNat), x_i v1, x_r (16 * 32 + 1)] (al, ro, fl (ml M [32] [S2])) _ _ _ _
    obtain ⟨hc0, hf4⟩ := x_gd_some hf4
    refine f_iast (pc := 20) (k := 0) (u := 32) (q := 1) (len := 772) dX12_comesBack_20 (sa_32_1 hs) hc0 hn rfl rfl rfl (by decide) ?_
    show Ev g _ _ _ _ _ _ 21 [some (x_r (16 * 32 + 0)), some (x_i v1)] [] (al, ro, fl (ml M [32] [(x_up S2 1 (v1).toNat (S2 3 (v1).toNat))])) _ _ _ _
    refine e_iinc (pc := 21) dX12_comesBack_21 rfl (by decide) rfl ?_
    show Ev g _ _ _ _ _ _ 24 [some (x_r (16 * 32 + 0)), some (x_i (x_add v1 1))] [] (al, ro, fl (ml M [32] [(x_up S2 1 (v1).toNat (S2 3 (v1).toNat))])) _ _ _ _
    refine e_goto (pc := 24) (tgt := 2) dX12_comesBack_24 (by decide) ?_
    cases hf4
    exact hi4 _ rfl
def G12_fault (S : xU) : Option (Int × xU) :=
  (some (((x_up S 0 0 0) 0 12), (x_up S 0 0 0)))
set_option maxRecDepth 100000 in
set_option maxHeartbeats 4000000 in
theorem c_X12_fault {g : xG} {al : List (Nat × Nat × Nat)} {ro : Nat → Nat → Option Nat} (hst : g.1.stackTraces = false) (hs : SH al ro) {M : Nat → xU} {S : xU} {t : (Int × xU)} (hG : G12_fault S = some t) :
    Cal g yX12_fault cX12_fault 1 (some .int) 0 [x_r (16 * 32 + 0)] (al, ro, fl (ml M [32] [S])) 0 0 (.inl (some (x_i t.1))) (al, ro, fl (ml M [32] [t.2])) := by
  have hn : ([32] : List Nat).Nodup := by decide
  refine cal_of_ev (by decide) (x_c1 rfl) (Nat.le_of_ble_eq_true rfl) hst ?_
  show Ev g _ _ _ _ _ _ 0 [some (x_r (16 * 32 + 0))] [] (al, ro, fl (ml M [32] [S])) _ _ _ _
  rw [G12_fault] at hG
  refine e_aloadn (pc := 0) (i := 0) dX12_fault_0 rfl rfl ?_
  refine e_iconst (pc := 1) dX12_fault_1 (x_R rfl) ?_
  refine f_puti (pc := 2) (k := 0) (u := 32) (q := 0) dX12_fault_2 xf12_58 xw10_0 (sa_32_0 hs) hn rfl rfl rfl (by decide) ?_
  show Ev g _ _ _ _ _ _ 5 [some (x_r (16 * 32 + 0))] [] (al, ro, fl (ml M [32] [(x_up S 0 0 0)])) _ _ _ _
  refine e_aloadn (pc := 5) (i := 0) dX12_fault_5 rfl rfl ?_
  refine f_geti (pc := 6) (k := 0) (u := 32) (q := 0) dX12_fault_6 xf12_25 (sa_32_0 hs) rfl hn rfl rfl (by decide) ?_
  show Ev g _ _ _ _ _ _ 9 [some (x_r (16 * 32 + 0))] [x_i ((x_up S 0 0 0) 0 12)] (al, ro, fl (ml M [32] [(x_up S 0 0 0)])) _ _ _ _
  cases hG
  exact (e_ireturn rfl dX12_fault_9 rfl)
def G12_draw (a : Int) (S : xU) : Option (Int × xU) :=
  (x_gd (a ≠ 0) (some ((x_rem (x_and (x_ush ((x_up S 1 11 (x_add (x_mul 1103515245 (S 1 11)) 12345)) 1 11) 16) 32767) a), (x_up S 1 11 (x_add (x_mul 1103515245 (S 1 11)) 12345)))))
set_option maxRecDepth 100000 in
set_option maxHeartbeats 4000000 in
theorem c_X12_draw {g : xG} {al : List (Nat × Nat × Nat)} {ro : Nat → Nat → Option Nat} (hst : g.1.stackTraces = false) (hs : SH al ro) {M : Nat → xU} {a : Int} {S : xU} {t : (Int × xU)} (hG : G12_draw a S = some t) :
    Cal g yX12_draw cX12_draw 2 (some .int) 0 [x_r (16 * 32 + 0), x_i a] (al, ro, fl (ml M [32] [S])) 0 0 (.inl (some (x_i t.1))) (al, ro, fl (ml M [32] [t.2])) := by
  have hn : ([32] : List Nat).Nodup := by decide
  refine cal_of_ev (by decide) (x_c1 rfl) (Nat.le_of_ble_eq_true rfl) hst ?_
  show Ev g _ _ _ _ _ _ 0 [some (x_r (16 * 32 + 0)), some (x_i a)] [] (al, ro, fl (ml M [32] [S])) _ _ _ _
  rw [G12_draw] at hG
  refine e_aloadn (pc := 0) (i := 0) dX12_draw_0 rfl rfl ?_
  refine f_getr (pc := 1) (u := 32) (q := 0) dX12_draw_1 xf12_7 (sa_32_0 hs) rfl (sr_32_0_1 hs) ?_
  refine e_bipush (pc := 4) dX12_draw_4 (by decide +kernel) (x_R rfl) ?_
  refine e_ldcw (pc := 6) dX12_draw_6 xkX12_269 (x_R rfl) ?_
  refine e_aloadn (pc := 9) (i := 0) dX12_draw_9 rfl rfl ?_
  refine f_getr (pc := 10) (u := 32) (q := 0) dX12_draw_10 xf12_7 (sa_32_0 hs) rfl (sr_32_0_1 hs) ?_
  refine e_bipush (pc := 13) dX12_draw_13 (by decide +kernel) (x_R rfl) ?_
  refine f_iald (pc := 15) (k := 0) (u := 32) (q := 1) (len := 772) dX12_draw_15 (sa_32_1 hs) (by decide) hn rfl rfl (by decide) ?_
  show Ev g _ _ _ _ _ _ 16 [some (x_r (16 * 32 + 0)), some (x_i a)] [x_i (S 1 11), x_i 1103515245, x_i 11, x_r (16 * 32 + 1)] (al, ro, fl (ml M [32] [S])) _ _ _ _
  refine e_imul (pc := 16) dX12_draw_16 ?_
  refine e_sipush (pc := 17) dX12_draw_17 (by decide +kernel) (x_R rfl) ?_
  refine e_iadd (pc := 20) dX12_draw_20 ?_
  refine f_iast (pc := 21) (k := 0) (u := 32) (q := 1) (len := 772) dX12_draw_21 (sa_32_1 hs) (by decide) hn rfl rfl rfl (by decide) ?_
  show Ev g _ _ _ _ _ _ 22 [some (x_r (16 * 32 + 0)), some (x_i a)] [] (al, ro, fl (ml M [32] [(x_up S 1 11 (x_add (x_mul 1103515245 (S 1 11)) 12345))])) _ _ _ _
  refine e_aloadn (pc := 22) (i := 0) dX12_draw_22 rfl rfl ?_
  refine f_getr (pc := 23) (u := 32) (q := 0) dX12_draw_23 xf12_7 (sa_32_0 hs) rfl (sr_32_0_1 hs) ?_
  refine e_bipush (pc := 26) dX12_draw_26 (by decide +kernel) (x_R rfl) ?_
  refine f_iald (pc := 28) (k := 0) (u := 32) (q := 1) (len := 772) dX12_draw_28 (sa_32_1 hs) (by decide) hn rfl rfl (by decide) ?_
  show Ev g _ _ _ _ _ _ 29 [some (x_r (16 * 32 + 0)), some (x_i a)] [x_i ((x_up S 1 11 (x_add (x_mul 1103515245 (S 1 11)) 12345)) 1 11)] (al, ro, fl (ml M [32] [(x_up S 1 11 (x_add (x_mul 1103515245 (S 1 11)) 12345))])) _ _ _ _
  refine e_bipush (pc := 29) dX12_draw_29 (by decide +kernel) (x_R rfl) ?_
  refine e_iushr (pc := 31) dX12_draw_31 ?_
  refine e_sipush (pc := 32) dX12_draw_32 (by decide +kernel) (x_R rfl) ?_
  refine e_iand (pc := 35) dX12_draw_35 ?_
  refine e_iloadn (pc := 36) (i := 1) dX12_draw_36 rfl rfl ?_
  obtain ⟨hc0, hG⟩ := x_gd_some hG
  refine e_irem (pc := 37) dX12_draw_37 hc0 ?_
  cases hG
  exact (e_ireturn rfl dX12_draw_38 rfl)
def G12_logs_L4  : (Int × xU) → Option ((Int × xU) ⊕ xU)
  | (v1, S2) => (if v1 < 5 then (some (.inr S2)) else (x_gd ((0 : Int) ≤ (x_sub (x_add 72 v1) 5) ∧ (x_sub (x_add 72 v1) 5) < 772) (x_gd ((0 : Int) ≤ (x_add 72 v1) ∧ (x_add 72 v1) < 772) (some (.inl ((x_add v1 (-1)), (x_up S2 1 ((x_add 72 v1)).toNat (S2 1 ((x_sub (x_add 72 v1) 5)).toNat))))))))
def G12_logs (a : Int) (b : Int) (S : xU) : Option xU :=
  (x_b1 (whl xFU G12_logs_L4 (299, S)) fun (S3 : xU) => (x_b1 (G12_of b 0 (x_up (x_up (x_up (x_up S3 1 72 (S3 1 5)) 1 73 ((x_up S3 1 72 (S3 1 5)) 1 4)) 1 74 a) 1 75 b)) fun (v6 : Int) => (x_b1 (G12_lesser 60 (x_add ((x_up (x_up (x_up (x_up (x_up S3 1 72 (S3 1 5)) 1 73 ((x_up S3 1 72 (S3 1 5)) 1 4)) 1 74 a) 1 75 b) 1 76 v6) 1 10) 1)) fun (v8 : Int) => (some (x_up (x_up (x_up (x_up (x_up (x_up S3 1 72 (S3 1 5)) 1 73 ((x_up S3 1 72 (S3 1 5)) 1 4)) 1 74 a) 1 75 b) 1 76 v6) 1 10 v8)))))
set_option maxRecDepth 100000 in
set_option maxHeartbeats 4000000 in
theorem c_X12_logs {g : xG} {al : List (Nat × Nat × Nat)} {ro : Nat → Nat → Option Nat} (hst : g.1.stackTraces = false) (hs : SH al ro) {M : Nat → xU} {a : Int} {b : Int} {S : xU} {t : xU} (hG : G12_logs a b S = some t) :
    Cal g yX12_logs cX12_logs 4 none 1 [x_r (16 * 32 + 0), x_i a, x_i b] (al, ro, fl (ml M [32] [S])) 0 0 (.inl none) (al, ro, fl (ml M [32] [t])) := by
  have hn : ([32] : List Nat).Nodup := by decide
  refine cal_of_ev (by decide) (x_c1 rfl) (Nat.le_of_ble_eq_true rfl) hst ?_
  show Ev g _ _ _ _ _ _ 0 [some (x_r (16 * 32 + 0)), some (x_i a), some (x_i b), none] [] (al, ro, fl (ml M [32] [S])) _ _ _ _
  rw [G12_logs] at hG
  refine e_sipush (pc := 0) dX12_logs_0 (by decide +kernel) (x_R rfl) ?_
  refine e_istoren (pc := 3) (i := 3) dX12_logs_3 rfl (by decide) rfl ?_
  show Ev g _ _ _ _ _ _ 4 [some (x_r (16 * 32 + 0)), some (x_i a), some (x_i b), some (x_i 299)] [] (al, ro, fl (ml M [32] [S])) _ _ _ _
  obtain ⟨S3, hl4, hG⟩ := x_bd1 hG
  have hk4 : ∀ q : xU, q = S3 → Ev g yX12_logs cX12_logs 4 none [] 1 35 [some (x_r (16 * 32 + 0)), some (x_i a), some (x_i b), none] [] (al, ro, fl (ml M [32] [q])) 0 0 (.inl none) (al, ro, fl (ml M [32] [t])) := by
    intro q hq
    replace hq := hq.symm
    subst hq
    refine e_aloadn (pc := 35) (i := 0) dX12_logs_35 rfl rfl ?_
    refine f_getr (pc := 36) (u := 32) (q := 0) dX12_logs_36 xf12_7 (sa_32_0 hs) rfl (sr_32_0_1 hs) ?_
    refine e_bipush (pc := 39) dX12_logs_39 (by decide +kernel) (x_R rfl) ?_
    refine e_aloadn (pc := 41) (i := 0) dX12_logs_41 rfl rfl ?_
    refine f_getr (pc := 42) (u := 32) (q := 0) dX12_logs_42 xf12_7 (sa_32_0 hs) rfl (sr_32_0_1 hs) ?_
    refine e_iconst (pc := 45) dX12_logs_45 (x_R rfl) ?_
    refine f_iald (pc := 46) (k := 0) (u := 32) (q := 1) (len := 772) dX12_logs_46 (sa_32_1 hs) (by decide) hn rfl rfl (by decide) ?_
    show Ev g _ _ _ _ _ _ 47 [some (x_r (16 * 32 + 0)), some (x_i a), some (x_i b), none] [x_i (S3 1 5), x_i 72, x_r (16 * 32 + 1)] (al, ro, fl (ml M [32] [S3])) _ _ _ _
    refine f_iast (pc := 47) (k := 0) (u := 32) (q := 1) (len := 772) dX12_logs_47 (sa_32_1 hs) (by decide) hn rfl rfl rfl (by decide) ?_
    show Ev g _ _ _ _ _ _ 48 [some (x_r (16 * 32 + 0)), some (x_i a), some (x_i b), none] [] (al, ro, fl (ml M [32] [(x_up S3 1 72 (S3 1 5))])) _ _ _ _
    refine e_aloadn (pc := 48) (i := 0) dX12_logs_48 rfl rfl ?_
    refine f_getr (pc := 49) (u := 32) (q := 0) dX12_logs_49 xf12_7 (sa_32_0 hs) rfl (sr_32_0_1 hs) ?_
    refine e_bipush (pc := 52) dX12_logs_52 (by decide +kernel) (x_R rfl) ?_
    refine e_aloadn (pc := 54) (i := 0) dX12_logs_54 rfl rfl ?_
    refine f_getr (pc := 55) (u := 32) (q := 0) dX12_logs_55 xf12_7 (sa_32_0 hs) rfl (sr_32_0_1 hs) ?_
    refine e_iconst (pc := 58) dX12_logs_58 (x_R rfl) ?_
    refine f_iald (pc := 59) (k := 0) (u := 32) (q := 1) (len := 772) dX12_logs_59 (sa_32_1 hs) (by decide) hn rfl rfl (by decide) ?_
    show Ev g _ _ _ _ _ _ 60 [some (x_r (16 * 32 + 0)), some (x_i a), some (x_i b), none] [x_i ((x_up S3 1 72 (S3 1 5)) 1 4), x_i 73, x_r (16 * 32 + 1)] (al, ro, fl (ml M [32] [(x_up S3 1 72 (S3 1 5))])) _ _ _ _
    refine f_iast (pc := 60) (k := 0) (u := 32) (q := 1) (len := 772) dX12_logs_60 (sa_32_1 hs) (by decide) hn rfl rfl rfl (by decide) ?_
    show Ev g _ _ _ _ _ _ 61 [some (x_r (16 * 32 + 0)), some (x_i a), some (x_i b), none] [] (al, ro, fl (ml M [32] [(x_up (x_up S3 1 72 (S3 1 5)) 1 73 ((x_up S3 1 72 (S3 1 5)) 1 4))])) _ _ _ _
    refine e_aloadn (pc := 61) (i := 0) dX12_logs_61 rfl rfl ?_
    refine f_getr (pc := 62) (u := 32) (q := 0) dX12_logs_62 xf12_7 (sa_32_0 hs) rfl (sr_32_0_1 hs) ?_
    refine e_bipush (pc := 65) dX12_logs_65 (by decide +kernel) (x_R rfl) ?_
    refine e_iloadn (pc := 67) (i := 1) dX12_logs_67 rfl rfl ?_
    refine f_iast (pc := 68) (k := 0) (u := 32) (q := 1) (len := 772) dX12_logs_68 (sa_32_1 hs) (by decide) hn rfl rfl rfl (by decide) ?_
    show Ev g _ _ _ _ _ _ 69 [some (x_r (16 * 32 + 0)), some (x_i a), some (x_i b), none] [] (al, ro, fl (ml M [32] [(x_up (x_up (x_up S3 1 72 (S3 1 5)) 1 73 ((x_up S3 1 72 (S3 1 5)) 1 4)) 1 74 a)])) _ _ _ _
    refine e_aloadn (pc := 69) (i := 0) dX12_logs_69 rfl rfl ?_
    refine f_getr (pc := 70) (u := 32) (q := 0) dX12_logs_70 xf12_7 (sa_32_0 hs) rfl (sr_32_0_1 hs) ?_
    refine e_bipush (pc := 73) dX12_logs_73 (by decide +kernel) (x_R rfl) ?_
    refine e_iloadn (pc := 75) (i := 2) dX12_logs_75 rfl rfl ?_
    refine f_iast (pc := 76) (k := 0) (u := 32) (q := 1) (len := 772) dX12_logs_76 (sa_32_1 hs) (by decide) hn rfl rfl rfl (by decide) ?_
    show Ev g _ _ _ _ _ _ 77 [some (x_r (16 * 32 + 0)), some (x_i a), some (x_i b), none] [] (al, ro, fl (ml M [32] [(x_up (x_up (x_up (x_up S3 1 72 (S3 1 5)) 1 73 ((x_up S3 1 72 (S3 1 5)) 1 4)) 1 74 a) 1 75 b)])) _ _ _ _
    refine e_aloadn (pc := 77) (i := 0) dX12_logs_77 rfl rfl ?_
    refine f_getr (pc := 78) (u := 32) (q := 0) dX12_logs_78 xf12_7 (sa_32_0 hs) rfl (sr_32_0_1 hs) ?_
    refine e_bipush (pc := 81) dX12_logs_81 (by decide +kernel) (x_R rfl) ?_
    refine e_aloadn (pc := 83) (i := 0) dX12_logs_83 rfl rfl ?_
    refine e_iloadn (pc := 84) (i := 2) dX12_logs_84 rfl rfl ?_
    refine e_iconst (pc := 85) dX12_logs_85 (x_R rfl) ?_
    obtain ⟨v6, hq6, hG⟩ := x_bd1 hG
    refine e_invV (pc := 86) (K1 := 0) (S1 := 0) (K := 0) (S := 0) (dd2 := 0) (av := [x_i b, x_i 0]) (st := [x_i 76, x_r (16 * 32 + 1)]) (id := 16 * 32 + 0) dX12_logs_86 xmX12_65 rfl (Or.inl ⟨10, 27, TX12, (sa_32_0 hs), rfl, by decide⟩) (f_cal (M := M) (us2 := [32]) [0] hn rfl (And.intro rfl trivial) rfl rfl rfl (c_X12_of hst hs   hq6)) (by decide) (Nat.le_of_ble_eq_true rfl) (Or.inl rfl) ?_
    show Ev g _ _ _ _ _ _ 89 [some (x_r (16 * 32 + 0)), some (x_i a), some (x_i b), none] [x_i v6, x_i 76, x_r (16 * 32 + 1)] (al, ro, fl (ml M [32] [(x_up (x_up (x_up (x_up S3 1 72 (S3 1 5)) 1 73 ((x_up S3 1 72 (S3 1 5)) 1 4)) 1 74 a) 1 75 b)])) _ _ _ _
    refine f_iast (pc := 89) (k := 0) (u := 32) (q := 1) (len := 772) dX12_logs_89 (sa_32_1 hs) (by decide) hn rfl rfl rfl (by decide) ?_
    show Ev g _ _ _ _ _ _ 90 [some (x_r (16 * 32 + 0)), some (x_i a), some (x_i b), none] [] (al, ro, fl (ml M [32] [(x_up (x_up (x_up (x_up (x_up S3 1 72 (S3 1 5)) 1 73 ((x_up S3 1 72 (S3 1 5)) 1 4)) 1 74 a) 1 75 b) 1 76 v6)])) _ _ _ _
    refine e_aloadn (pc := 90) (i := 0) dX12_logs_90 rfl rfl ?_
    refine f_getr (pc := 91) (u := 32) (q := 0) dX12_logs_91 xf12_7 (sa_32_0 hs) rfl (sr_32_0_1 hs) ?_
    refine e_bipush (pc := 94) dX12_logs_94 (by decide +kernel) (x_R rfl) ?_
    refine e_bipush (pc := 96) dX12_logs_96 (by decide +kernel) (x_R rfl) ?_
    refine e_aloadn (pc := 98) (i := 0) dX12_logs_98 rfl rfl ?_
    refine f_getr (pc := 99) (u := 32) (q := 0) dX12_logs_99 xf12_7 (sa_32_0 hs) rfl (sr_32_0_1 hs) ?_
    refine e_bipush (pc := 102) dX12_logs_102 (by decide +kernel) (x_R rfl) ?_
    refine f_iald (pc := 104) (k := 0) (u := 32) (q := 1) (len := 772) dX12_logs_104 (sa_32_1 hs) (by decide) hn rfl rfl (by decide) ?_
    show Ev g _ _ _ _ _ _ 105 [some (x_r (16 * 32 + 0)), some (x_i a), some (x_i b), none] [x_i ((x_up (x_up (x_up (x_up (x_up S3 1 72 (S3 1 5)) 1 73 ((x_up S3 1 72 (S3 1 5)) 1 4)) 1 74 a) 1 75 b) 1 76 v6) 1 10), x_i 60, x_i 10, x_r (16 * 32 + 1)] (al, ro, fl (ml M [32] [(x_up (x_up (x_up (x_up (x_up S3 1 72 (S3 1 5)) 1 73 ((x_up S3 1 72 (S3 1 5)) 1 4)) 1 74 a) 1 75 b) 1 76 v6)])) _ _ _ _
    refine e_iconst (pc := 105) dX12_logs_105 (x_R rfl) ?_
    refine e_iadd (pc := 106) dX12_logs_106 ?_
    obtain ⟨v8, hq8, hG⟩ := x_bd1 hG
    refine e_invS (pc := 107) (K1 := 0) (S1 := 0) (K := 0) (S := 0) (dd2 := 0) (av := [x_i 60, x_i (x_add ((x_up (x_up (x_up (x_up (x_up S3 1 72 (S3 1 5)) 1 73 ((x_up S3 1 72 (S3 1 5)) 1 4)) 1 74 a) 1 75 b) 1 76 v6) 1 10) 1)]) (st := [x_i 10, x_r (16 * 32 + 1)]) dX12_logs_107 xmX12_73 rfl (f_cal (M := M) (us2 := []) [] hn rfl trivial rfl rfl rfl (c_X12_lesser hst hs   hq8)) (by decide) (Nat.le_of_ble_eq_true rfl) (Or.inl rfl) ?_
    show Ev g _ _ _ _ _ _ 110 [some (x_r (16 * 32 + 0)), some (x_i a), some (x_i b), none] [x_i v8, x_i 10, x_r (16 * 32 + 1)] (al, ro, fl (ml M [32] [(x_up (x_up (x_up (x_up (x_up S3 1 72 (S3 1 5)) 1 73 ((x_up S3 1 72 (S3 1 5)) 1 4)) 1 74 a) 1 75 b) 1 76 v6)])) _ _ _ _
    refine f_iast (pc := 110) (k := 0) (u := 32) (q := 1) (len := 772) dX12_logs_110 (sa_32_1 hs) (by decide) hn rfl rfl rfl (by decide) ?_
    show Ev g _ _ _ _ _ _ 111 [some (x_r (16 * 32 + 0)), some (x_i a), some (x_i b), none] [] (al, ro, fl (ml M [32] [(x_up (x_up (x_up (x_up (x_up (x_up S3 1 72 (S3 1 5)) 1 73 ((x_up S3 1 72 (S3 1 5)) 1 4)) 1 74 a) 1 75 b) 1 76 v6) 1 10 v8)])) _ _ _ _
    cases hG
    exact (e_return rfl dX12_logs_111)
  clear hG
  refine e_whl G12_logs_L4 (fun z : (Int × xU) => Ev g yX12_logs cX12_logs 4 none [] 1 4 [some (x_r (16 * 32 + 0)), some (x_i a), some (x_i b), some (x_i z.1)] [] (al, ro, fl (ml M [32] [z.2])) 0 0 (.inl none) (al, ro, fl (ml M [32] [t]))) (fun q => q = S3) ?_ xFU (299, S) _ hl4 rfl
  intro z t4 hf4 hi4 hx4
  obtain ⟨v1, S2⟩ := z
  rw [G12_logs_L4] at hf4
  show Ev g _ _ _ _ _ _ 4 [some (x_r (16 * 32 + 0)), some (x_i a), some (x_i b), some (x_i v1)] [] (al, ro, fl (ml M [32] [S2])) _ _ _ _
  refine e_iloadn (pc := 4) (i := 3) dX12_logs_4 rfl rfl ?_
  refine e_iconst (pc := 5) dX12_logs_5 (x_R rfl) ?_
  refine e_icmp_lt (pc := 6) (tgt := 35) dX12_logs_6 (by decide) (fun hb => ?_) (fun hb => ?_)
  · rw [if_pos hb] at hf4
    cases hf4
    refine e_drop (i := 3) ?_
    exact hk4 _ (hx4 _ rfl)
  · rw [if_neg hb] at hf4
    refine e_aloadn (pc := 9) (i := 0) dX12_logs_9 rfl rfl ?_
    refine f_getr (pc := 10) (u := 32) (q := 0) dX12_logs_10 xf12_7 (sa_32_0 hs) rfl (sr_32_0_1 hs) ?_
    refine e_bipush (pc := 13) dX12_logs_13 (by decide +kernel) (x_R rfl) ?_
    refine e_iloadn (pc := 15) (i := 3) dX12_logs_15 rfl rfl ?_
    refine e_iadd (pc := 16) dX12_logs_16 ?_
    refine e_aloadn (pc := 17) (i := 0) dX12_logs_17 rfl rfl ?_
    refine f_getr (pc := 18) (u := 32) (q := 0) dX12_logs_18 xf12_7 (sa_32_0 hs) rfl (sr_32_0_1 hs) ?_
    refine e_bipush (pc := 21) dX12_logs_21 (by decide +kernel) (x_R rfl) ?_
    refine e_iloadn (pc := 23) (i := 3) dX12_logs_23 rfl rfl ?_
    refine e_iadd (pc := 24) dX12_logs_24 ?_
    refine e_iconst (pc := 25) dX12_logs_25 (x_R rfl) ?_
    refine e_isub (pc := 26) dX12_logs_26 ?_
    obtain ⟨hc0, hf4⟩ := x_gd_some hf4
    refine f_iald (pc := 27) (k := 0) (u := 32) (q := 1) (len := 772) dX12_logs_27 (sa_32_1 hs) hc0 hn rfl rfl (by decide) ?_
    show Ev g _ _ _ _ _ _ 28 [some (x_r (16 * 32 + 0)), some (x_i a), some (x_i b), some (x_i v1)] [x_i (S2 1 ((x_sub (x_add 72 v1) 5)).toNat), x_i (x_add 72 v1), x_r (16 * 32 + 1)] (al, ro, fl (ml M [32] [S2])) _ _ _ _
    obtain ⟨hc0, hf4⟩ := x_gd_some hf4
    refine f_iast (pc := 28) (k := 0) (u := 32) (q := 1) (len := 772) dX12_logs_28 (sa_32_1 hs) hc0 hn rfl rfl rfl (by decide) ?_
    show Ev g _ _ _ _ _ _ 29 [some (x_r (16 * 32 + 0)), some (x_i a), some (x_i b), some (x_i v1)] [] (al, ro, fl (ml M [32] [(x_up S2 1 ((x_add 72 v1)).toNat (S2 1 ((x_sub (x_add 72 v1) 5)).toNat))])) _ _ _ _
    refine e_iinc (pc := 29) dX12_logs_29 rfl (by decide) rfl ?_
    show Ev g _ _ _ _ _ _ 32 [some (x_r (16 * 32 + 0)), some (x_i a), some (x_i b), some (x_i (x_add v1 (-1)))] [] (al, ro, fl (ml M [32] [(x_up S2 1 ((x_add 72 v1)).toNat (S2 1 ((x_sub (x_add 72 v1) 5)).toNat))])) _ _ _ _
    refine e_goto (pc := 32) (tgt := 4) dX12_logs_32 (by decide) ?_
    cases hf4
    exact hi4 _ rfl
def G12_eats (a : Int) (S : xU) : Option xU :=
  (x_b1 (G12_isLost a S) fun (v1 : Int) => (if v1 = 0 then (x_b1 (G12_of a 0 S) fun (v3 : Int) => (x_gd ((0 : Int) ≤ (x_add 12 (x_div v3 4)) ∧ (x_add 12 (x_div v3 4)) < 772) (x_b1 (if (S 1 ((x_add 12 (x_div v3 4))).toNat) ≤ 0 then (x_b1 (G12_of a 6 S) fun (v7 : Int) => (x_b1 (G12_lesser 99 (x_add v7 1)) fun (v9 : Int) => (some v9))) else (some 0)) fun (v5 : Int) => (x_b1 (G12_lays a 6 v5 S) fun (S11 : xU) => (x_gd ((0 : Int) ≤ (x_add 12 (x_div v3 4)) ∧ (x_add 12 (x_div v3 4)) < 772) (x_b1 (G12_greater 0 (x_sub (S11 1 ((x_add 12 (x_div v3 4))).toNat) 1)) fun (v13 : Int) => (x_gd ((0 : Int) ≤ (x_add 12 (x_div v3 4)) ∧ (x_add 12 (x_div v3 4)) < 772) (some (x_up S11 1 ((x_add 12 (x_div v3 4))).toNat v13))))))))) else (some S)))
set_option maxRecDepth 100000 in
set_option maxHeartbeats 4000000 in
theorem c_X12_eats {g : xG} {al : List (Nat × Nat × Nat)} {ro : Nat → Nat → Option Nat} (hst : g.1.stackTraces = false) (hs : SH al ro) {M : Nat → xU} {a : Int} {S : xU} {t : xU} (hG : G12_eats a S = some t) :
    Cal g yX12_eats cX12_eats 3 none 2 [x_r (16 * 32 + 0), x_i a] (al, ro, fl (ml M [32] [S])) 0 0 (.inl none) (al, ro, fl (ml M [32] [t])) := by
  have hn : ([32] : List Nat).Nodup := by decide
  refine cal_of_ev (by decide) (x_c1 rfl) (Nat.le_of_ble_eq_true rfl) hst ?_
  show Ev g _ _ _ _ _ _ 0 [some (x_r (16 * 32 + 0)), some (x_i a), none] [] (al, ro, fl (ml M [32] [S])) _ _ _ _
  rw [G12_eats] at hG
  refine e_aloadn (pc := 0) (i := 0) dX12_eats_0 rfl rfl ?_
  refine e_iloadn (pc := 1) (i := 1) dX12_eats_1 rfl rfl ?_
  obtain ⟨v1, hq1, hG⟩ := x_bd1 hG
  refine e_invV (pc := 2) (K1 := 0) (S1 := 0) (K := 0) (S := 0) (dd2 := 1) (av := [x_i a]) (st := []) (id := 16 * 32 + 0) dX12_eats_2 xmX12_69 rfl (Or.inl ⟨10, 27, TX12, (sa_32_0 hs), rfl, by decide⟩) (f_cal (M := M) (us2 := [32]) [0] hn rfl (And.intro rfl trivial) rfl rfl rfl (c_X12_isLost hst hs   hq1)) (by decide) (Nat.le_of_ble_eq_true rfl) (Or.inl rfl) ?_
  show Ev g _ _ _ _ _ _ 5 [some (x_r (16 * 32 + 0)), some (x_i a), none] [x_i v1] (al, ro, fl (ml M [32] [S])) _ _ _ _
  refine e_if_eq (pc := 5) (tgt := 9) dX12_eats_5 (by decide) (fun hb => ?_) (fun hb => ?_)
  · rw [if_pos hb] at hG
    refine e_bipush (pc := 9) dX12_eats_9 (by decide +kernel) (x_R rfl) ?_
    refine e_aloadn (pc := 11) (i := 0) dX12_eats_11 rfl rfl ?_
    refine e_iloadn (pc := 12) (i := 1) dX12_eats_12 rfl rfl ?_
    refine e_iconst (pc := 13) dX12_eats_13 (x_R rfl) ?_
    obtain ⟨v3, hq3, hG⟩ := x_bd1 hG
    refine e_invV (pc := 14) (K1 := 0) (S1 := 0) (K := 0) (S := 0) (dd2 := 0) (av := [x_i a, x_i 0]) (st := [x_i 12]) (id := 16 * 32 + 0) dX12_eats_14 xmX12_65 rfl (Or.inl ⟨10, 27, TX12, (sa_32_0 hs), rfl, by decide⟩) (f_cal (M := M) (us2 := [32]) [0] hn rfl (And.intro rfl trivial) rfl rfl rfl (c_X12_of hst hs   hq3)) (by decide) (Nat.le_of_ble_eq_true rfl) (Or.inl rfl) ?_
    show Ev g _ _ _ _ _ _ 17 [some (x_r (16 * 32 + 0)), some (x_i a), none] [x_i v3, x_i 12] (al, ro, fl (ml M [32] [S])) _ _ _ _
    refine e_iconst (pc := 17) dX12_eats_17 (x_R rfl) ?_
    refine e_idiv (pc := 18) dX12_eats_18 (by decide) ?_
    refine e_iadd (pc := 19) dX12_eats_19 ?_
    refine e_istoren (pc := 20) (i := 2) dX12_eats_20 rfl (by decide) rfl ?_
    show Ev g _ _ _ _ _ _ 21 [some (x_r (16 * 32 + 0)), some (x_i a), some (x_i (x_add 12 (x_div v3 4)))] [] (al, ro, fl (ml M [32] [S])) _ _ _ _
    refine e_aloadn (pc := 21) (i := 0) dX12_eats_21 rfl rfl ?_
    refine e_iloadn (pc := 22) (i := 1) dX12_eats_22 rfl rfl ?_
    refine e_bipush (pc := 23) dX12_eats_23 (by decide +kernel) (x_R rfl) ?_
    refine e_aloadn (pc := 25) (i := 0) dX12_eats_25 rfl rfl ?_
    refine f_getr (pc := 26) (u := 32) (q := 0) dX12_eats_26 xf12_7 (sa_32_0 hs) rfl (sr_32_0_1 hs) ?_
    refine e_iloadn (pc := 29) (i := 2) dX12_eats_29 rfl rfl ?_
    obtain ⟨hc0, hG⟩ := x_gd_some hG
    refine f_iald (pc := 30) (k := 0) (u := 32) (q := 1) (len := 772) dX12_eats_30 (sa_32_1 hs) hc0 hn rfl rfl (by decide) ?_
    show Ev g _ _ _ _ _ _ 31 [some (x_r (16 * 32 + 0)), some (x_i a), some (x_i (x_add 12 (x_div v3 4)))] [x_i (S 1 ((x_add 12 (x_div v3 4))).toNat), x_i 6, x_i a, x_r (16 * 32 + 0)] (al, ro, fl (ml M [32] [S])) _ _ _ _
    obtain ⟨v5, hr5, hG⟩ := x_bd1 hG
    have hjhr5 : Ev g yX12_eats cX12_eats 3 none [] 2 52 [some (x_r (16 * 32 + 0)), some (x_i a), some (x_i (x_add 12 (x_div v3 4)))] [x_i v5, x_i 6, x_i a, x_r (16 * 32 + 0)] (al, ro, fl (ml M [32] [S])) 0 0 (.inl none) (al, ro, fl (ml M [32] [t])) := by
      obtain ⟨S11, hq11, hG⟩ := x_bd1 hG
      refine e_invV (pc := 52) (K1 := 0) (S1 := 0) (K := 0) (S := 0) (dd2 := 0) (av := [x_i a, x_i 6, x_i v5]) (st := []) (id := 16 * 32 + 0) dX12_eats_52 xmX12_140 rfl (Or.inl ⟨10, 27, TX12, (sa_32_0 hs), rfl, by decide⟩) (f_cal (M := M) (us2 := [32]) [0] hn rfl (And.intro rfl trivial) rfl rfl rfl (c_X12_lays hst hs   hq11)) (by decide) (Nat.le_of_ble_eq_true rfl) (Or.inl rfl) ?_
      show Ev g _ _ _ _ _ _ 55 [some (x_r (16 * 32 + 0)), some (x_i a), some (x_i (x_add 12 (x_div v3 4)))] [] (al, ro, fl (ml M [32] [S11])) _ _ _ _
      refine e_aloadn (pc := 55) (i := 0) dX12_eats_55 rfl rfl ?_
      refine f_getr (pc := 56) (u := 32) (q := 0) dX12_eats_56 xf12_7 (sa_32_0 hs) rfl (sr_32_0_1 hs) ?_
      refine e_iloadn (pc := 59) (i := 2) dX12_eats_59 rfl rfl ?_
      refine e_iconst (pc := 60) dX12_eats_60 (x_R rfl) ?_
      refine e_aloadn (pc := 61) (i := 0) dX12_eats_61 rfl rfl ?_
      refine f_getr (pc := 62) (u := 32) (q := 0) dX12_eats_62 xf12_7 (sa_32_0 hs) rfl (sr_32_0_1 hs) ?_
      refine e_iloadn (pc := 65) (i := 2) dX12_eats_65 rfl rfl ?_
      obtain ⟨hc0, hG⟩ := x_gd_some hG
      refine f_iald (pc := 66) (k := 0) (u := 32) (q := 1) (len := 772) dX12_eats_66 (sa_32_1 hs) hc0 hn rfl rfl (by decide) ?_
      show Ev g _ _ _ _ _ _ 67 [some (x_r (16 * 32 + 0)), some (x_i a), some (x_i (x_add 12 (x_div v3 4)))] [x_i (S11 1 ((x_add 12 (x_div v3 4))).toNat), x_i 0, x_i (x_add 12 (x_div v3 4)), x_r (16 * 32 + 1)] (al, ro, fl (ml M [32] [S11])) _ _ _ _
      refine e_iconst (pc := 67) dX12_eats_67 (x_R rfl) ?_
      refine e_isub (pc := 68) dX12_eats_68 ?_
      obtain ⟨v13, hq13, hG⟩ := x_bd1 hG
      refine e_invS (pc := 69) (K1 := 0) (S1 := 0) (K := 0) (S := 0) (dd2 := 0) (av := [x_i 0, x_i (x_sub (S11 1 ((x_add 12 (x_div v3 4))).toNat) 1)]) (st := [x_i (x_add 12 (x_div v3 4)), x_r (16 * 32 + 1)]) dX12_eats_69 xmX12_266 rfl (f_cal (M := M) (us2 := []) [] hn rfl trivial rfl rfl rfl (c_X12_greater hst hs   hq13)) (by decide) (Nat.le_of_ble_eq_true rfl) (Or.inl rfl) ?_
      show Ev g _ _ _ _ _ _ 72 [some (x_r (16 * 32 + 0)), some (x_i a), some (x_i (x_add 12 (x_div v3 4)))] [x_i v13, x_i (x_add 12 (x_div v3 4)), x_r (16 * 32 + 1)] (al, ro, fl (ml M [32] [S11])) _ _ _ _
      obtain ⟨hc0, hG⟩ := x_gd_some hG
      refine f_iast (pc := 72) (k := 0) (u := 32) (q := 1) (len := 772) dX12_eats_72 (sa_32_1 hs) hc0 hn rfl rfl rfl (by decide) ?_
      show Ev g _ _ _ _ _ _ 73 [some (x_r (16 * 32 + 0)), some (x_i a), some (x_i (x_add 12 (x_div v3 4)))] [] (al, ro, fl (ml M [32] [(x_up S11 1 ((x_add 12 (x_div v3 4))).toNat v13)])) _ _ _ _
      cases hG
      exact (e_return rfl dX12_eats_73)
    clear hG
    refine e_if_le (pc := 31) (tgt := 38) dX12_eats_31 (by decide) (fun hb => ?_) (fun hb => ?_)
    · rw [if_pos hb] at hr5
      refine e_bipush (pc := 38) dX12_eats_38 (by decide +kernel) (x_R rfl) ?_
      refine e_aloadn (pc := 40) (i := 0) dX12_eats_40 rfl rfl ?_
      refine e_iloadn (pc := 41) (i := 1) dX12_eats_41 rfl rfl ?_
      refine e_bipush (pc := 42) dX12_eats_42 (by decide +kernel) (x_R rfl) ?_
      obtain ⟨v7, hq7, hr5⟩ := x_bd1 hr5
      refine e_invV (pc := 44) (K1 := 0) (S1 := 0) (K := 0) (S := 0) (dd2 := 0) (av := [x_i a, x_i 6]) (st := [x_i 99, x_i 6, x_i a, x_r (16 * 32 + 0)]) (id := 16 * 32 + 0) dX12_eats_44 xmX12_65 rfl (Or.inl ⟨10, 27, TX12, (sa_32_0 hs), rfl, by decide⟩) (f_cal (M := M) (us2 := [32]) [0] hn rfl (And.intro rfl trivial) rfl rfl rfl (c_X12_of hst hs   hq7)) (by decide) (Nat.le_of_ble_eq_true rfl) (Or.inl rfl) ?_
      show Ev g _ _ _ _ _ _ 47 [some (x_r (16 * 32 + 0)), some (x_i a), some (x_i (x_add 12 (x_div v3 4)))] [x_i v7, x_i 99, x_i 6, x_i a, x_r (16 * 32 + 0)] (al, ro, fl (ml M [32] [S])) _ _ _ _
      refine e_iconst (pc := 47) dX12_eats_47 (x_R rfl) ?_
      refine e_iadd (pc := 48) dX12_eats_48 ?_
      obtain ⟨v9, hq9, hr5⟩ := x_bd1 hr5
      refine e_invS (pc := 49) (K1 := 0) (S1 := 0) (K := 0) (S := 0) (dd2 := 0) (av := [x_i 99, x_i (x_add v7 1)]) (st := [x_i 6, x_i a, x_r (16 * 32 + 0)]) dX12_eats_49 xmX12_73 rfl (f_cal (M := M) (us2 := []) [] hn rfl trivial rfl rfl rfl (c_X12_lesser hst hs   hq9)) (by decide) (Nat.le_of_ble_eq_true rfl) (Or.inl rfl) ?_
      show Ev g _ _ _ _ _ _ 52 [some (x_r (16 * 32 + 0)), some (x_i a), some (x_i (x_add 12 (x_div v3 4)))] [x_i v9, x_i 6, x_i a, x_r (16 * 32 + 0)] (al, ro, fl (ml M [32] [S])) _ _ _ _
      cases hr5
      exact hjhr5
    · rw [if_neg hb] at hr5
      refine e_iconst (pc := 34) dX12_eats_34 (x_R rfl) ?_
      refine e_goto (pc := 35) (tgt := 52) dX12_eats_35 (by decide) ?_
      cases hr5
      exact hjhr5
  · rw [if_neg hb] at hG
    cases hG
    exact (e_return rfl dX12_eats_8)
def G12_office_L4  : (Int × Int × xU) → Option ((Int × Int × xU) ⊕ (Int × xU))
  | (v1, v2, S3) => (if (S3 1 3) ≤ v2 then (some (.inr (v1, S3))) else (x_b1 (G12_inChoir v2 S3) fun (v8 : Int) => (x_b2 (if v8 = 0 then (x_b1 (G12_of v2 5 S3) fun (v13 : Int) => (x_b1 (G12_lesser 999 (x_add v13 1)) fun (v15 : Int) => (x_b1 (G12_lays v2 5 v15 S3) fun (S17 : xU) => (x_gd ((0 : Int) ≤ v2 ∧ v2 < 7) (x_gd ((0 : Int) ≤ v2 ∧ v2 < 7) (x_b1 (G12_logs 0 v2 (x_up S17 7 (v2).toNat (x_add (S17 7 (v2).toNat) 1))) fun (S19 : xU) => (some ((x_add v1 1), S19)))))))) else (some (v1, S3))) fun (v10 : Int) (S11 : xU) => (some (.inl (v10, (x_add v2 1), S11))))))
def G12_office (S : xU) : Option (Int × xU) :=
  (x_b2 (whl xFU G12_office_L4 (0, 0, S)) fun (v4 : Int) (S5 : xU) => (some (v4, S5)))
set_option maxRecDepth 100000 in
set_option maxHeartbeats 4000000 in
theorem c_X12_office {g : xG} {al : List (Nat × Nat × Nat)} {ro : Nat → Nat → Option Nat} (hst : g.1.stackTraces = false) (hs : SH al ro) {M : Nat → xU} {S : xU} {t : (Int × xU)} (hG : G12_office S = some t) :
    Cal g yX12_office cX12_office 3 (some .int) 3 [x_r (16 * 32 + 0)] (al, ro, fl (ml M [32] [S])) 0 0 (.inl (some (x_i t.1))) (al, ro, fl (ml M [32] [t.2])) := by
  have hn : ([32] : List Nat).Nodup := by decide
  refine cal_of_ev (by decide) (x_c1 rfl) (Nat.le_of_ble_eq_true rfl) hst ?_
  show Ev g _ _ _ _ _ _ 0 [some (x_r (16 * 32 + 0)), none, none] [] (al, ro, fl (ml M [32] [S])) _ _ _ _
  rw [G12_office] at hG
  refine e_iconst (pc := 0) dX12_office_0 (x_R rfl) ?_
  refine e_istoren (pc := 1) (i := 1) dX12_office_1 rfl (by decide) rfl ?_
  show Ev g _ _ _ _ _ _ 2 [some (x_r (16 * 32 + 0)), some (x_i 0), none] [] (al, ro, fl (ml M [32] [S])) _ _ _ _
  refine e_iconst (pc := 2) dX12_office_2 (x_R rfl) ?_
  refine e_istoren (pc := 3) (i := 2) dX12_office_3 rfl (by decide) rfl ?_
  show Ev g _ _ _ _ _ _ 4 [some (x_r (16 * 32 + 0)), some (x_i 0), some (x_i 0)] [] (al, ro, fl (ml M [32] [S])) _ _ _ _
  obtain ⟨v4, S5, hl6, hG⟩ := x_bd2 hG
  have hk6 : ∀ q : (Int × xU), q = (v4, S5) → Ev g yX12_office cX12_office 3 (some .int) [] 3 70 [some (x_r (16 * 32 + 0)), some (x_i q.1), none] [] (al, ro, fl (ml M [32] [q.2])) 0 0 (.inl (some (x_i t.1))) (al, ro, fl (ml M [32] [t.2])) := by
    intro q hq
    cases hq
    refine e_iloadn (pc := 70) (i := 1) dX12_office_70 rfl rfl ?_
    cases hG
    exact (e_ireturn rfl dX12_office_71 rfl)
  clear hG
  refine e_whl G12_office_L4 (fun z : (Int × Int × xU) => Ev g yX12_office cX12_office 3 (some .int) [] 3 4 [some (x_r (16 * 32 + 0)), some (x_i z.1), some (x_i z.2.1)] [] (al, ro, fl (ml M [32] [z.2.2])) 0 0 (.inl (some (x_i t.1))) (al, ro, fl (ml M [32] [t.2]))) (fun q => q = (v4, S5)) ?_ xFU (0, 0, S) _ hl6 rfl
  intro z t6 hf6 hi6 hx6
  obtain ⟨v1, v2, S3⟩ := z
  rw [G12_office_L4] at hf6
  show Ev g _ _ _ _ _ _ 4 [some (x_r (16 * 32 + 0)), some (x_i v1), some (x_i v2)] [] (al, ro, fl (ml M [32] [S3])) _ _ _ _
  refine e_iloadn (pc := 4) (i := 2) dX12_office_4 rfl rfl ?_
  refine e_aloadn (pc := 5) (i := 0) dX12_office_5 rfl rfl ?_
  refine f_getr (pc := 6) (u := 32) (q := 0) dX12_office_6 xf12_7 (sa_32_0 hs) rfl (sr_32_0_1 hs) ?_
  refine e_iconst (pc := 9) dX12_office_9 (x_R rfl) ?_
  refine f_iald (pc := 10) (k := 0) (u := 32) (q := 1) (len := 772) dX12_office_10 (sa_32_1 hs) (by decide) hn rfl rfl (by decide) ?_
  show Ev g _ _ _ _ _ _ 11 [some (x_r (16 * 32 + 0)), some (x_i v1), some (x_i v2)] [x_i (S3 1 3), x_i v2] (al, ro, fl (ml M [32] [S3])) _ _ _ _
  refine e_icmp_ge (pc := 11) (tgt := 70) dX12_office_11 (by decide) (fun hb => ?_) (fun hb => ?_)
  · rw [if_pos hb] at hf6
    cases hf6
    refine e_drop (i := 2) ?_
    exact hk6 _ (hx6 _ rfl)
  · rw [if_neg hb] at hf6
    refine e_aloadn (pc := 14) (i := 0) dX12_office_14 rfl rfl ?_
    refine e_iloadn (pc := 15) (i := 2) dX12_office_15 rfl rfl ?_
    obtain ⟨v8, hq8, hf6⟩ := x_bd1 hf6
    refine e_invV (pc := 16) (K1 := 0) (S1 := 0) (K := 0) (S := 0) (dd2 := 2) (av := [x_i v2]) (st := []) (id := 16 * 32 + 0) dX12_office_16 xmX12_277 rfl (Or.inl ⟨10, 27, TX12, (sa_32_0 hs), rfl, by decide⟩) (f_cal (M := M) (us2 := [32]) [0] hn rfl (And.intro rfl trivial) rfl rfl rfl (c_X12_inChoir hst hs   hq8)) (by decide) (Nat.le_of_ble_eq_true rfl) (Or.inl rfl) ?_
    show Ev g _ _ _ _ _ _ 19 [some (x_r (16 * 32 + 0)), some (x_i v1), some (x_i v2)] [x_i v8] (al, ro, fl (ml M [32] [S3])) _ _ _ _
    obtain ⟨v10, S11, hr11, hf6⟩ := x_bd2 hf6
    have hjhr11 : Ev g yX12_office cX12_office 3 (some .int) [] 3 64 [some (x_r (16 * 32 + 0)), some (x_i v10), some (x_i v2)] [] (al, ro, fl (ml M [32] [S11])) 0 0 (.inl (some (x_i t.1))) (al, ro, fl (ml M [32] [t.2])) := by
      refine e_iinc (pc := 64) dX12_office_64 rfl (by decide) rfl ?_
      show Ev g _ _ _ _ _ _ 67 [some (x_r (16 * 32 + 0)), some (x_i v10), some (x_i (x_add v2 1))] [] (al, ro, fl (ml M [32] [S11])) _ _ _ _
      refine e_goto (pc := 67) (tgt := 4) dX12_office_67 (by decide) ?_
      cases hf6
      exact hi6 _ rfl
    clear hf6
    refine e_if_eq (pc := 19) (tgt := 25) dX12_office_19 (by decide) (fun hb => ?_) (fun hb => ?_)
    · rw [if_pos hb] at hr11
      refine e_aloadn (pc := 25) (i := 0) dX12_office_25 rfl rfl ?_
      refine e_iloadn (pc := 26) (i := 2) dX12_office_26 rfl rfl ?_
      refine e_iconst (pc := 27) dX12_office_27 (x_R rfl) ?_
      refine e_sipush (pc := 28) dX12_office_28 (by decide +kernel) (x_R rfl) ?_
      refine e_aloadn (pc := 31) (i := 0) dX12_office_31 rfl rfl ?_
      refine e_iloadn (pc := 32) (i := 2) dX12_office_32 rfl rfl ?_
      refine e_iconst (pc := 33) dX12_office_33 (x_R rfl) ?_
      obtain ⟨v13, hq13, hr11⟩ := x_bd1 hr11
      refine e_invV (pc := 34) (K1 := 0) (S1 := 0) (K := 0) (S := 0) (dd2 := 0) (av := [x_i v2, x_i 5]) (st := [x_i 999, x_i 5, x_i v2, x_r (16 * 32 + 0)]) (id := 16 * 32 + 0) dX12_office_34 xmX12_65 rfl (Or.inl ⟨10, 27, TX12, (sa_32_0 hs), rfl, by decide⟩) (f_cal (M := M) (us2 := [32]) [0] hn rfl (And.intro rfl trivial) rfl rfl rfl (c_X12_of hst hs   hq13)) (by decide) (Nat.le_of_ble_eq_true rfl) (Or.inl rfl) ?_
      show Ev g _ _ _ _ _ _ 37 [some (x_r (16 * 32 + 0)), some (x_i v1), some (x_i v2)] [x_i v13, x_i 999, x_i 5, x_i v2, x_r (16 * 32 + 0)] (al, ro, fl (ml M [32] [S3])) _ _ _ _
      refine e_iconst (pc := 37) dX12_office_37 (x_R rfl) ?_
      refine e_iadd (pc := 38) dX12_office_38 ?_
      obtain ⟨v15, hq15, hr11⟩ := x_bd1 hr11
      refine e_invS (pc := 39) (K1 := 0) (S1 := 0) (K := 0) (S := 0) (dd2 := 0) (av := [x_i 999, x_i (x_add v13 1)]) (st := [x_i 5, x_i v2, x_r (16 * 32 + 0)]) dX12_office_39 xmX12_73 rfl (f_cal (M := M) (us2 := []) [] hn rfl trivial rfl rfl rfl (c_X12_lesser hst hs   hq15)) (by decide) (Nat.le_of_ble_eq_true rfl) (Or.inl rfl) ?_
      show Ev g _ _ _ _ _ _ 42 [some (x_r (16 * 32 + 0)), some (x_i v1), some (x_i v2)] [x_i v15, x_i 5, x_i v2, x_r (16 * 32 + 0)] (al, ro, fl (ml M [32] [S3])) _ _ _ _
      obtain ⟨S17, hq17, hr11⟩ := x_bd1 hr11
      refine e_invV (pc := 42) (K1 := 0) (S1 := 0) (K := 0) (S := 0) (dd2 := 0) (av := [x_i v2, x_i 5, x_i v15]) (st := []) (id := 16 * 32 + 0) dX12_office_42 xmX12_140 rfl (Or.inl ⟨10, 27, TX12, (sa_32_0 hs), rfl, by decide⟩) (f_cal (M := M) (us2 := [32]) [0] hn rfl (And.intro rfl trivial) rfl rfl rfl (c_X12_lays hst hs   hq17)) (by decide) (Nat.le_of_ble_eq_true rfl) (Or.inl rfl) ?_
      show Ev g _ _ _ _ _ _ 45 [some (x_r (16 * 32 + 0)), some (x_i v1), some (x_i v2)] [] (al, ro, fl (ml M [32] [S17])) _ _ _ _
      refine e_aloadn (pc := 45) (i := 0) dX12_office_45 rfl rfl ?_
      refine f_getr (pc := 46) (u := 32) (q := 0) dX12_office_46 xf12_32 (sa_32_0 hs) rfl (sr_32_0_19 hs) ?_
      refine e_iloadn (pc := 49) (i := 2) dX12_office_49 rfl rfl ?_
      refine e_dup2 (pc := 50) dX12_office_50 rfl rfl ?_
      obtain ⟨hc0, hr11⟩ := x_gd_some hr11
      refine f_iald (pc := 51) (k := 0) (u := 32) (q := 7) (len := 7) dX12_office_51 (sa_32_7 hs) hc0 hn rfl rfl (by decide) ?_
      show Ev g _ _ _ _ _ _ 52 [some (x_r (16 * 32 + 0)), some (x_i v1), some (x_i v2)] [x_i (S17 7 (v2).toNat), x_i v2, x_r (16 * 32 + 7)] (al, ro, fl (ml M [32] [S17])) _ _ _ _
      refine e_iconst (pc := 52) dX12_office_52 (x_R rfl) ?_
      refine e_iadd (pc := 53) dX12_office_53 ?_
      obtain ⟨hc0, hr11⟩ := x_gd_some hr11
      refine f_iast (pc := 54) (k := 0) (u := 32) (q := 7) (len := 7) dX12_office_54 (sa_32_7 hs) hc0 hn rfl rfl rfl (by decide) ?_
      show Ev g _ _ _ _ _ _ 55 [some (x_r (16 * 32 + 0)), some (x_i v1), some (x_i v2)] [] (al, ro, fl (ml M [32] [(x_up S17 7 (v2).toNat (x_add (S17 7 (v2).toNat) 1))])) _ _ _ _
      refine e_aloadn (pc := 55) (i := 0) dX12_office_55 rfl rfl ?_
      refine e_iconst (pc := 56) dX12_office_56 (x_R rfl) ?_
      refine e_iloadn (pc := 57) (i := 2) dX12_office_57 rfl rfl ?_
      obtain ⟨S19, hq19, hr11⟩ := x_bd1 hr11
      refine e_invV (pc := 58) (K1 := 0) (S1 := 0) (K := 0) (S := 0) (dd2 := 1) (av := [x_i 0, x_i v2]) (st := []) (id := 16 * 32 + 0) dX12_office_58 xmX12_273 rfl (Or.inl ⟨10, 27, TX12, (sa_32_0 hs), rfl, by decide⟩) (f_cal (M := M) (us2 := [32]) [0] hn rfl (And.intro rfl trivial) rfl rfl rfl (c_X12_logs hst hs   hq19)) (by decide) (Nat.le_of_ble_eq_true rfl) (Or.inl rfl) ?_
      show Ev g _ _ _ _ _ _ 61 [some (x_r (16 * 32 + 0)), some (x_i v1), some (x_i v2)] [] (al, ro, fl (ml M [32] [S19])) _ _ _ _
      refine e_iinc (pc := 61) dX12_office_61 rfl (by decide) rfl ?_
      show Ev g _ _ _ _ _ _ 64 [some (x_r (16 * 32 + 0)), some (x_i (x_add v1 1)), some (x_i v2)] [] (al, ro, fl (ml M [32] [S19])) _ _ _ _
      cases hr11
      exact hjhr11
    · rw [if_neg hb] at hr11
      refine e_goto (pc := 22) (tgt := 64) dX12_office_22 (by decide) ?_
      cases hr11
      exact hjhr11
def G12_lateOfAll_L4 (S : xU) : (Int × Int) → Option ((Int × Int) ⊕ Int)
  | (v1, v2) => (if (S 1 3) ≤ v2 then (some (.inr v1)) else (x_b1 (G12_of v2 5 S) fun (v6 : Int) => (some (.inl ((x_add v1 v6), (x_add v2 1))))))
def G12_lateOfAll (S : xU) : Option Int :=
  (x_b1 (whl xFU (G12_lateOfAll_L4 S) (0, 0)) fun (v3 : Int) => (some v3))
set_option maxRecDepth 100000 in
set_option maxHeartbeats 4000000 in
theorem c_X12_lateOfAll {g : xG} {al : List (Nat × Nat × Nat)} {ro : Nat → Nat → Option Nat} (hst : g.1.stackTraces = false) (hs : SH al ro) {M : Nat → xU} {S : xU} {t : Int} (hG : G12_lateOfAll S = some t) :
    Cal g yX12_lateOfAll cX12_lateOfAll 3 (some .int) 1 [x_r (16 * 32 + 0)] (al, ro, fl (ml M [32] [S])) 0 0 (.inl (some (x_i t))) (al, ro, fl (ml M [32] [S])) := by
  have hn : ([32] : List Nat).Nodup := by decide
  refine cal_of_ev (by decide) (x_c1 rfl) (Nat.le_of_ble_eq_true rfl) hst ?_
  show Ev g _ _ _ _ _ _ 0 [some (x_r (16 * 32 + 0)), none, none] [] (al, ro, fl (ml M [32] [S])) _ _ _ _
  rw [G12_lateOfAll] at hG
  refine e_iconst (pc := 0) dX12_lateOfAll_0 (x_R rfl) ?_
  refine e_istoren (pc := 1) (i := 1) dX12_lateOfAll_1 rfl (by decide) rfl ?_
  show Ev g _ _ _ _ _ _ 2 [some (x_r (16 * 32 + 0)), some (x_i 0), none] [] (al, ro, fl (ml M [32] [S])) _ _ _ _
  refine e_iconst (pc := 2) dX12_lateOfAll_2 (x_R rfl) ?_
  refine e_istoren (pc := 3) (i := 2) dX12_lateOfAll_3 rfl (by decide) rfl ?_
  show Ev g _ _ _ _ _ _ 4 [some (x_r (16 * 32 + 0)), some (x_i 0), some (x_i 0)] [] (al, ro, fl (ml M [32] [S])) _ _ _ _
  obtain ⟨v3, hl4, hG⟩ := x_bd1 hG
  have hk4 : ∀ q : Int, q = v3 → Ev g yX12_lateOfAll cX12_lateOfAll 3 (some .int) [] 1 29 [some (x_r (16 * 32 + 0)), some (x_i q), none] [] (al, ro, fl (ml M [32] [S])) 0 0 (.inl (some (x_i t))) (al, ro, fl (ml M [32] [S])) := by
    intro q hq
    replace hq := hq.symm
    subst hq
    refine e_iloadn (pc := 29) (i := 1) dX12_lateOfAll_29 rfl rfl ?_
    cases hG
    exact (e_ireturn rfl dX12_lateOfAll_30 rfl)
  clear hG
  refine e_whl (G12_lateOfAll_L4 S) (fun z : (Int × Int) => Ev g yX12_lateOfAll cX12_lateOfAll 3 (some .int) [] 1 4 [some (x_r (16 * 32 + 0)), some (x_i z.1), some (x_i z.2)] [] (al, ro, fl (ml M [32] [S])) 0 0 (.inl (some (x_i t))) (al, ro, fl (ml M [32] [S]))) (fun q => q = v3) ?_ xFU (0, 0) _ hl4 rfl
  intro z t4 hf4 hi4 hx4
  obtain ⟨v1, v2⟩ := z
  rw [G12_lateOfAll_L4] at hf4
  show Ev g _ _ _ _ _ _ 4 [some (x_r (16 * 32 + 0)), some (x_i v1), some (x_i v2)] [] (al, ro, fl (ml M [32] [S])) _ _ _ _
  refine e_iloadn (pc := 4) (i := 2) dX12_lateOfAll_4 rfl rfl ?_
  refine e_aloadn (pc := 5) (i := 0) dX12_lateOfAll_5 rfl rfl ?_
  refine f_getr (pc := 6) (u := 32) (q := 0) dX12_lateOfAll_6 xf12_7 (sa_32_0 hs) rfl (sr_32_0_1 hs) ?_
  refine e_iconst (pc := 9) dX12_lateOfAll_9 (x_R rfl) ?_
  refine f_iald (pc := 10) (k := 0) (u := 32) (q := 1) (len := 772) dX12_lateOfAll_10 (sa_32_1 hs) (by decide) hn rfl rfl (by decide) ?_
  show Ev g _ _ _ _ _ _ 11 [some (x_r (16 * 32 + 0)), some (x_i v1), some (x_i v2)] [x_i (S 1 3), x_i v2] (al, ro, fl (ml M [32] [S])) _ _ _ _
  refine e_icmp_ge (pc := 11) (tgt := 29) dX12_lateOfAll_11 (by decide) (fun hb => ?_) (fun hb => ?_)
  · rw [if_pos hb] at hf4
    cases hf4
    refine e_drop (i := 2) ?_
    exact hk4 _ (hx4 _ rfl)
  · rw [if_neg hb] at hf4
    refine e_iloadn (pc := 14) (i := 1) dX12_lateOfAll_14 rfl rfl ?_
    refine e_aloadn (pc := 15) (i := 0) dX12_lateOfAll_15 rfl rfl ?_
    refine e_iloadn (pc := 16) (i := 2) dX12_lateOfAll_16 rfl rfl ?_
    refine e_iconst (pc := 17) dX12_lateOfAll_17 (x_R rfl) ?_
    obtain ⟨v6, hq6, hf4⟩ := x_bd1 hf4
    refine e_invV (pc := 18) (K1 := 0) (S1 := 0) (K := 0) (S := 0) (dd2 := 0) (av := [x_i v2, x_i 5]) (st := [x_i v1]) (id := 16 * 32 + 0) dX12_lateOfAll_18 xmX12_65 rfl (Or.inl ⟨10, 27, TX12, (sa_32_0 hs), rfl, by decide⟩) (f_cal (M := M) (us2 := [32]) [0] hn rfl (And.intro rfl trivial) rfl rfl rfl (c_X12_of hst hs   hq6)) (by decide) (Nat.le_of_ble_eq_true rfl) (Or.inl rfl) ?_
    show Ev g _ _ _ _ _ _ 21 [some (x_r (16 * 32 + 0)), some (x_i v1), some (x_i v2)] [x_i v6, x_i v1] (al, ro, fl (ml M [32] [S])) _ _ _ _
    refine e_iadd (pc := 21) dX12_lateOfAll_21 ?_
    refine e_istoren (pc := 22) (i := 1) dX12_lateOfAll_22 rfl (by decide) rfl ?_
    show Ev g _ _ _ _ _ _ 23 [some (x_r (16 * 32 + 0)), some (x_i (x_add v1 v6)), some (x_i v2)] [] (al, ro, fl (ml M [32] [S])) _ _ _ _
    refine e_iinc (pc := 23) dX12_lateOfAll_23 rfl (by decide) rfl ?_
    show Ev g _ _ _ _ _ _ 26 [some (x_r (16 * 32 + 0)), some (x_i (x_add v1 v6)), some (x_i (x_add v2 1))] [] (al, ro, fl (ml M [32] [S])) _ _ _ _
    refine e_goto (pc := 26) (tgt := 4) dX12_lateOfAll_26 (by decide) ?_
    cases hf4
    exact hi4 _ rfl
def G12_store (a : Int) (S : xU) : Option (Int × xU) :=
  (x_b1 (G12_isWalk a) fun (v1 : Int) => (x_b1 (if v1 = 0 then (some 1) else (some 0)) fun (v3 : Int) => (x_b1 (if ((x_up S 0 0 v3) 0 0) ≤ 0 then (x_gd ((0 : Int) ≤ (x_add 12 a) ∧ (x_add 12 a) < 772) (some ((x_up S 0 0 v3) 1 ((x_add 12 a)).toNat))) else (some 0)) fun (v5 : Int) => (some (v5, (x_up S 0 0 v3))))))
set_option maxRecDepth 100000 in
set_option maxHeartbeats 4000000 in
theorem c_X12_store {g : xG} {al : List (Nat × Nat × Nat)} {ro : Nat → Nat → Option Nat} (hst : g.1.stackTraces = false) (hs : SH al ro) {M : Nat → xU} {a : Int} {S : xU} {t : (Int × xU)} (hG : G12_store a S = some t) :
    Cal g yX12_store cX12_store 2 (some .int) 2 [x_r (16 * 32 + 0), x_i a] (al, ro, fl (ml M [32] [S])) 0 0 (.inl (some (x_i t.1))) (al, ro, fl (ml M [32] [t.2])) := by
  have hn : ([32] : List Nat).Nodup := by decide
  refine cal_of_ev (by decide) (x_c1 rfl) (Nat.le_of_ble_eq_true rfl) hst ?_
  show Ev g _ _ _ _ _ _ 0 [some (x_r (16 * 32 + 0)), some (x_i a)] [] (al, ro, fl (ml M [32] [S])) _ _ _ _
  rw [G12_store] at hG
  refine e_aloadn (pc := 0) (i := 0) dX12_store_0 rfl rfl ?_
  refine e_iloadn (pc := 1) (i := 1) dX12_store_1 rfl rfl ?_
  obtain ⟨v1, hq1, hG⟩ := x_bd1 hG
  refine e_invS (pc := 2) (K1 := 0) (S1 := 0) (K := 0) (S := 0) (dd2 := 1) (av := [x_i a]) (st := [x_r (16 * 32 + 0)]) dX12_store_2 xmX12_301 rfl (f_cal (M := M) (us2 := []) [] hn rfl trivial rfl rfl rfl (c_X12_isWalk hst hs   hq1)) (by decide) (Nat.le_of_ble_eq_true rfl) (Or.inl rfl) ?_
  show Ev g _ _ _ _ _ _ 5 [some (x_r (16 * 32 + 0)), some (x_i a)] [x_i v1, x_r (16 * 32 + 0)] (al, ro, fl (ml M [32] [S])) _ _ _ _
  obtain ⟨v3, hr3, hG⟩ := x_bd1 hG
  have hjhr3 : Ev g yX12_store cX12_store 2 (some .int) [] 2 13 [some (x_r (16 * 32 + 0)), some (x_i a)] [x_i v3, x_r (16 * 32 + 0)] (al, ro, fl (ml M [32] [S])) 0 0 (.inl (some (x_i t.1))) (al, ro, fl (ml M [32] [t.2])) := by
    refine f_puti (pc := 13) (k := 0) (u := 32) (q := 0) dX12_store_13 xf12_58 xw10_0 (sa_32_0 hs) hn rfl rfl rfl (by decide) ?_
    show Ev g _ _ _ _ _ _ 16 [some (x_r (16 * 32 + 0)), some (x_i a)] [] (al, ro, fl (ml M [32] [(x_up S 0 0 v3)])) _ _ _ _
    refine e_aloadn (pc := 16) (i := 0) dX12_store_16 rfl rfl ?_
    refine f_geti (pc := 17) (k := 0) (u := 32) (q := 0) dX12_store_17 xf12_58 (sa_32_0 hs) rfl hn rfl rfl (by decide) ?_
    show Ev g _ _ _ _ _ _ 20 [some (x_r (16 * 32 + 0)), some (x_i a)] [x_i ((x_up S 0 0 v3) 0 0)] (al, ro, fl (ml M [32] [(x_up S 0 0 v3)])) _ _ _ _
    obtain ⟨v5, hr5, hG⟩ := x_bd1 hG
    have hjhr5 : Ev g yX12_store cX12_store 2 (some .int) [] 2 36 [some (x_r (16 * 32 + 0)), some (x_i a)] [x_i v5] (al, ro, fl (ml M [32] [(x_up S 0 0 v3)])) 0 0 (.inl (some (x_i t.1))) (al, ro, fl (ml M [32] [t.2])) := by
      cases hG
      exact (e_ireturn rfl dX12_store_36 rfl)
    clear hG
    refine e_if_le (pc := 20) (tgt := 27) dX12_store_20 (by decide) (fun hb => ?_) (fun hb => ?_)
    · rw [if_pos hb] at hr5
      refine e_aloadn (pc := 27) (i := 0) dX12_store_27 rfl rfl ?_
      refine f_getr (pc := 28) (u := 32) (q := 0) dX12_store_28 xf12_7 (sa_32_0 hs) rfl (sr_32_0_1 hs) ?_
      refine e_bipush (pc := 31) dX12_store_31 (by decide +kernel) (x_R rfl) ?_
      refine e_iloadn (pc := 33) (i := 1) dX12_store_33 rfl rfl ?_
      refine e_iadd (pc := 34) dX12_store_34 ?_
      obtain ⟨hc0, hr5⟩ := x_gd_some hr5
      refine f_iald (pc := 35) (k := 0) (u := 32) (q := 1) (len := 772) dX12_store_35 (sa_32_1 hs) hc0 hn rfl rfl (by decide) ?_
      show Ev g _ _ _ _ _ _ 36 [some (x_r (16 * 32 + 0)), some (x_i a)] [x_i ((x_up S 0 0 v3) 1 ((x_add 12 a)).toNat)] (al, ro, fl (ml M [32] [(x_up S 0 0 v3)])) _ _ _ _
      cases hr5
      exact hjhr5
    · rw [if_neg hb] at hr5
      refine e_iconst (pc := 23) dX12_store_23 (x_R rfl) ?_
      refine e_goto (pc := 24) (tgt := 36) dX12_store_24 (by decide) ?_
      cases hr5
      exact hjhr5
  clear hG
  refine e_if_ne (pc := 5) (tgt := 12) dX12_store_5 (by decide) (fun hb => ?_) (fun hb => ?_)
  · rw [if_neg hb] at hr3
    refine e_iconst (pc := 12) dX12_store_12 (x_R rfl) ?_
    cases hr3
    exact hjhr3
  · rw [if_pos hb] at hr3
    refine e_iconst (pc := 8) dX12_store_8 (x_R rfl) ?_
    refine e_goto (pc := 9) (tgt := 13) dX12_store_9 (by decide) ?_
    cases hr3
    exact hjhr3
def G12_season (a : Int) (S : xU) : Option (Int × xU) :=
  (x_b1 (G12_isFlag a) fun (v1 : Int) => (x_b1 (if v1 = 0 then (some 1) else (some 0)) fun (v3 : Int) => (x_b1 (if ((x_up S 0 0 v3) 0 0) ≤ 0 then (x_b1 (G12_seasonOf a (x_up S 0 0 v3)) fun (v7 : Int) => (some v7)) else (some 0)) fun (v5 : Int) => (some (v5, (x_up S 0 0 v3))))))
set_option maxRecDepth 100000 in
set_option maxHeartbeats 4000000 in
theorem c_X12_season {g : xG} {al : List (Nat × Nat × Nat)} {ro : Nat → Nat → Option Nat} (hst : g.1.stackTraces = false) (hs : SH al ro) {M : Nat → xU} {a : Int} {S : xU} {t : (Int × xU)} (hG : G12_season a S = some t) :
    Cal g yX12_season cX12_season 2 (some .int) 2 [x_r (16 * 32 + 0), x_i a] (al, ro, fl (ml M [32] [S])) 0 0 (.inl (some (x_i t.1))) (al, ro, fl (ml M [32] [t.2])) := by
  have hn : ([32] : List Nat).Nodup := by decide
  refine cal_of_ev (by decide) (x_c1 rfl) (Nat.le_of_ble_eq_true rfl) hst ?_
  show Ev g _ _ _ _ _ _ 0 [some (x_r (16 * 32 + 0)), some (x_i a)] [] (al, ro, fl (ml M [32] [S])) _ _ _ _
  rw [G12_season] at hG
  refine e_aloadn (pc := 0) (i := 0) dX12_season_0 rfl rfl ?_
  refine e_iloadn (pc := 1) (i := 1) dX12_season_1 rfl rfl ?_
  obtain ⟨v1, hq1, hG⟩ := x_bd1 hG
  refine e_invS (pc := 2) (K1 := 0) (S1 := 0) (K := 0) (S := 0) (dd2 := 1) (av := [x_i a]) (st := [x_r (16 * 32 + 0)]) dX12_season_2 xmX12_304 rfl (f_cal (M := M) (us2 := []) [] hn rfl trivial rfl rfl rfl (c_X12_isFlag hst hs   hq1)) (by decide) (Nat.le_of_ble_eq_true rfl) (Or.inl rfl) ?_
  show Ev g _ _ _ _ _ _ 5 [some (x_r (16 * 32 + 0)), some (x_i a)] [x_i v1, x_r (16 * 32 + 0)] (al, ro, fl (ml M [32] [S])) _ _ _ _
  obtain ⟨v3, hr3, hG⟩ := x_bd1 hG
  have hjhr3 : Ev g yX12_season cX12_season 2 (some .int) [] 2 13 [some (x_r (16 * 32 + 0)), some (x_i a)] [x_i v3, x_r (16 * 32 + 0)] (al, ro, fl (ml M [32] [S])) 0 0 (.inl (some (x_i t.1))) (al, ro, fl (ml M [32] [t.2])) := by
    refine f_puti (pc := 13) (k := 0) (u := 32) (q := 0) dX12_season_13 xf12_58 xw10_0 (sa_32_0 hs) hn rfl rfl rfl (by decide) ?_
    show Ev g _ _ _ _ _ _ 16 [some (x_r (16 * 32 + 0)), some (x_i a)] [] (al, ro, fl (ml M [32] [(x_up S 0 0 v3)])) _ _ _ _
    refine e_aloadn (pc := 16) (i := 0) dX12_season_16 rfl rfl ?_
    refine f_geti (pc := 17) (k := 0) (u := 32) (q := 0) dX12_season_17 xf12_58 (sa_32_0 hs) rfl hn rfl rfl (by decide) ?_
    show Ev g _ _ _ _ _ _ 20 [some (x_r (16 * 32 + 0)), some (x_i a)] [x_i ((x_up S 0 0 v3) 0 0)] (al, ro, fl (ml M [32] [(x_up S 0 0 v3)])) _ _ _ _
    obtain ⟨v5, hr5, hG⟩ := x_bd1 hG
    have hjhr5 : Ev g yX12_season cX12_season 2 (some .int) [] 2 32 [some (x_r (16 * 32 + 0)), some (x_i a)] [x_i v5] (al, ro, fl (ml M [32] [(x_up S 0 0 v3)])) 0 0 (.inl (some (x_i t.1))) (al, ro, fl (ml M [32] [t.2])) := by
      cases hG
      exact (e_ireturn rfl dX12_season_32 rfl)
    clear hG
    refine e_if_le (pc := 20) (tgt := 27) dX12_season_20 (by decide) (fun hb => ?_) (fun hb => ?_)
    · rw [if_pos hb] at hr5
      refine e_aloadn (pc := 27) (i := 0) dX12_season_27 rfl rfl ?_
      refine e_iloadn (pc := 28) (i := 1) dX12_season_28 rfl rfl ?_
      obtain ⟨v7, hq7, hr5⟩ := x_bd1 hr5
      refine e_invV (pc := 29) (K1 := 0) (S1 := 0) (K := 0) (S := 0) (dd2 := 0) (av := [x_i a]) (st := []) (id := 16 * 32 + 0) dX12_season_29 xmX12_263 rfl (Or.inl ⟨10, 27, TX12, (sa_32_0 hs), rfl, by decide⟩) (f_cal (M := M) (us2 := [32]) [0] hn rfl (And.intro rfl trivial) rfl rfl rfl (c_X12_seasonOf hst hs   hq7)) (by decide) (Nat.le_of_ble_eq_true rfl) (Or.inl rfl) ?_
      show Ev g _ _ _ _ _ _ 32 [some (x_r (16 * 32 + 0)), some (x_i a)] [x_i v7] (al, ro, fl (ml M [32] [(x_up S 0 0 v3)])) _ _ _ _
      cases hr5
      exact hjhr5
    · rw [if_neg hb] at hr5
      refine e_iconst (pc := 23) dX12_season_23 (x_R rfl) ?_
      refine e_goto (pc := 24) (tgt := 32) dX12_season_24 (by decide) ?_
      cases hr5
      exact hjhr5
  clear hG
  refine e_if_ne (pc := 5) (tgt := 12) dX12_season_5 (by decide) (fun hb => ?_) (fun hb => ?_)
  · rw [if_neg hb] at hr3
    refine e_iconst (pc := 12) dX12_season_12 (x_R rfl) ?_
    cases hr3
    exact hjhr3
  · rw [if_pos hb] at hr3
    refine e_iconst (pc := 8) dX12_season_8 (x_R rfl) ?_
    refine e_goto (pc := 9) (tgt := 13) dX12_season_9 (by decide) ?_
    cases hr3
    exact hjhr3
def G12_remembers_L11  : (Int × xU) → Option ((Int × xU) ⊕ xU)
  | (v3, S4) => (if 4092 ≤ v3 then (some (.inr S4)) else (x_gd ((0 : Int) ≤ (x_add v3 372) ∧ (x_add v3 372) < 4464) (x_gd ((0 : Int) ≤ v3 ∧ v3 < 4464) (some (.inl ((x_add v3 1), (x_up S4 4 (v3).toNat (S4 4 ((x_add v3 372)).toNat))))))))
def G12_remembers_L52  : (Int × xU) → Option ((Int × xU) ⊕ xU)
  | (v8, S9) => (if 372 ≤ v8 then (some (.inr S9)) else (x_gd ((0 : Int) ≤ v8 ∧ v8 < 772) (x_gd ((0 : Int) ≤ (x_add (x_mul 372 (S9 0 6)) v8) ∧ (x_add (x_mul 372 (S9 0 6)) v8) < 4464) (some (.inl ((x_add v8 1), (x_up S9 4 ((x_add (x_mul 372 (S9 0 6)) v8)).toNat (S9 1 (v8).toNat))))))))
def G12_remembers (S : xU) : Option xU :=
  (x_b1 (if (S 0 6) = 12 then (x_b1 (whl xFU G12_remembers_L11 (0, S)) fun (S5 : xU) => (some (x_up S5 0 6 (x_sub (S5 0 6) 1)))) else (some S)) fun (S1 : xU) => (x_b1 (whl xFU G12_remembers_L52 (0, S1)) fun (S10 : xU) => (some (x_up S10 0 6 (x_add (S10 0 6) 1)))))
set_option maxRecDepth 100000 in
set_option maxHeartbeats 4000000 in
theorem c_X12_remembers {g : xG} {al : List (Nat × Nat × Nat)} {ro : Nat → Nat → Option Nat} (hst : g.1.stackTraces = false) (hs : SH al ro) {M : Nat → xU} {S : xU} {t : xU} (hG : G12_remembers S = some t) :
    Cal g yX12_remembers cX12_remembers 2 none 0 [x_r (16 * 32 + 0)] (al, ro, fl (ml M [32] [S])) 0 0 (.inl none) (al, ro, fl (ml M [32] [t])) := by
  have hn : ([32] : List Nat).Nodup := by decide
  refine cal_of_ev (by decide) (x_c1 rfl) (Nat.le_of_ble_eq_true rfl) hst ?_
  show Ev g _ _ _ _ _ _ 0 [some (x_r (16 * 32 + 0)), none] [] (al, ro, fl (ml M [32] [S])) _ _ _ _
  rw [G12_remembers] at hG
  refine e_aloadn (pc := 0) (i := 0) dX12_remembers_0 rfl rfl ?_
  refine f_geti (pc := 1) (k := 0) (u := 32) (q := 0) dX12_remembers_1 xf12_204 (sa_32_0 hs) rfl hn rfl rfl (by decide) ?_
  show Ev g _ _ _ _ _ _ 4 [some (x_r (16 * 32 + 0)), none] [x_i (S 0 6)] (al, ro, fl (ml M [32] [S])) _ _ _ _
  refine e_bipush (pc := 4) dX12_remembers_4 (by decide +kernel) (x_R rfl) ?_
  obtain ⟨S1, hr1, hG⟩ := x_bd1 hG
  have hjhr1 : Ev g yX12_remembers cX12_remembers 2 none [] 0 50 [some (x_r (16 * 32 + 0)), none] [] (al, ro, fl (ml M [32] [S1])) 0 0 (.inl none) (al, ro, fl (ml M [32] [t])) := by
    refine e_iconst (pc := 50) dX12_remembers_50 (x_R rfl) ?_
    refine e_istoren (pc := 51) (i := 1) dX12_remembers_51 rfl (by decide) rfl ?_
    show Ev g _ _ _ _ _ _ 52 [some (x_r (16 * 32 + 0)), some (x_i 0)] [] (al, ro, fl (ml M [32] [S1])) _ _ _ _
    obtain ⟨S10, hl11, hG⟩ := x_bd1 hG
    have hk11 : ∀ q : xU, q = S10 → Ev g yX12_remembers cX12_remembers 2 none [] 0 86 [some (x_r (16 * 32 + 0)), none] [] (al, ro, fl (ml M [32] [q])) 0 0 (.inl none) (al, ro, fl (ml M [32] [t])) := by
      intro q hq
      replace hq := hq.symm
      subst hq
      refine e_aloadn (pc := 86) (i := 0) dX12_remembers_86 rfl rfl ?_
      refine e_dup (pc := 87) dX12_remembers_87 rfl ?_
      refine f_geti (pc := 88) (k := 0) (u := 32) (q := 0) dX12_remembers_88 xf12_204 (sa_32_0 hs) rfl hn rfl rfl (by decide) ?_
      show Ev g _ _ _ _ _ _ 91 [some (x_r (16 * 32 + 0)), none] [x_i (S10 0 6), x_r (16 * 32 + 0)] (al, ro, fl (ml M [32] [S10])) _ _ _ _
      refine e_iconst (pc := 91) dX12_remembers_91 (x_R rfl) ?_
      refine e_iadd (pc := 92) dX12_remembers_92 ?_
      refine f_puti (pc := 93) (k := 0) (u := 32) (q := 0) dX12_remembers_93 xf12_204 xw10_6 (sa_32_0 hs) hn rfl rfl rfl (by decide) ?_
      show Ev g _ _ _ _ _ _ 96 [some (x_r (16 * 32 + 0)), none] [] (al, ro, fl (ml M [32] [(x_up S10 0 6 (x_add (S10 0 6) 1))])) _ _ _ _
      cases hG
      exact (e_return rfl dX12_remembers_96)
    clear hG
    refine e_whl G12_remembers_L52 (fun z : (Int × xU) => Ev g yX12_remembers cX12_remembers 2 none [] 0 52 [some (x_r (16 * 32 + 0)), some (x_i z.1)] [] (al, ro, fl (ml M [32] [z.2])) 0 0 (.inl none) (al, ro, fl (ml M [32] [t]))) (fun q => q = S10) ?_ xFU (0, S1) _ hl11 rfl
    intro z t11 hf11 hi11 hx11
    obtain ⟨v8, S9⟩ := z
    rw [G12_remembers_L52] at hf11
    show Ev g _ _ _ _ _ _ 52 [some (x_r (16 * 32 + 0)), some (x_i v8)] [] (al, ro, fl (ml M [32] [S9])) _ _ _ _
    refine e_iloadn (pc := 52) (i := 1) dX12_remembers_52 rfl rfl ?_
    refine e_sipush (pc := 53) dX12_remembers_53 (by decide +kernel) (x_R rfl) ?_
    refine e_icmp_ge (pc := 56) (tgt := 86) dX12_remembers_56 (by decide) (fun hb => ?_) (fun hb => ?_)
    · rw [if_pos hb] at hf11
      cases hf11
      refine e_drop (i := 1) ?_
      exact hk11 _ (hx11 _ rfl)
    · rw [if_neg hb] at hf11
      refine e_aloadn (pc := 59) (i := 0) dX12_remembers_59 rfl rfl ?_
      refine f_getr (pc := 60) (u := 32) (q := 0) dX12_remembers_60 xf12_19 (sa_32_0 hs) rfl (sr_32_0_5 hs) ?_
      refine e_sipush (pc := 63) dX12_remembers_63 (by decide +kernel) (x_R rfl) ?_
      refine e_aloadn (pc := 66) (i := 0) dX12_remembers_66 rfl rfl ?_
      refine f_geti (pc := 67) (k := 0) (u := 32) (q := 0) dX12_remembers_67 xf12_204 (sa_32_0 hs) rfl hn rfl rfl (by decide) ?_
      show Ev g _ _ _ _ _ _ 70 [some (x_r (16 * 32 + 0)), some (x_i v8)] [x_i (S9 0 6), x_i 372, x_r (16 * 32 + 4)] (al, ro, fl (ml M [32] [S9])) _ _ _ _
      refine e_imul (pc := 70) dX12_remembers_70 ?_
      refine e_iloadn (pc := 71) (i := 1) dX12_remembers_71 rfl rfl ?_
      refine e_iadd (pc := 72) dX12_remembers_72 ?_
      refine e_aloadn (pc := 73) (i := 0) dX12_remembers_73 rfl rfl ?_
      refine f_getr (pc := 74) (u := 32) (q := 0) dX12_remembers_74 xf12_7 (sa_32_0 hs) rfl (sr_32_0_1 hs) ?_
      refine e_iloadn (pc := 77) (i := 1) dX12_remembers_77 rfl rfl ?_
      obtain ⟨hc0, hf11⟩ := x_gd_some hf11
      refine f_iald (pc := 78) (k := 0) (u := 32) (q := 1) (len := 772) dX12_remembers_78 (sa_32_1 hs) hc0 hn rfl rfl (by decide) ?_
      show Ev g _ _ _ _ _ _ 79 [some (x_r (16 * 32 + 0)), some (x_i v8)] [x_i (S9 1 (v8).toNat), x_i (x_add (x_mul 372 (S9 0 6)) v8), x_r (16 * 32 + 4)] (al, ro, fl (ml M [32] [S9])) _ _ _ _
      obtain ⟨hc0, hf11⟩ := x_gd_some hf11
      refine f_iast (pc := 79) (k := 0) (u := 32) (q := 4) (len := 4464) dX12_remembers_79 (sa_32_4 hs) hc0 hn rfl rfl rfl (by decide) ?_
      show Ev g _ _ _ _ _ _ 80 [some (x_r (16 * 32 + 0)), some (x_i v8)] [] (al, ro, fl (ml M [32] [(x_up S9 4 ((x_add (x_mul 372 (S9 0 6)) v8)).toNat (S9 1 (v8).toNat))])) _ _ _ _
      refine e_iinc (pc := 80) dX12_remembers_80 rfl (by decide) rfl ?_
      show Ev g _ _ _ _ _ _ 83 [some (x_r (16 * 32 + 0)), some (x_i (x_add v8 1))] [] (al, ro, fl (ml M [32] [(x_up S9 4 ((x_add (x_mul 372 (S9 0 6)) v8)).toNat (S9 1 (v8).toNat))])) _ _ _ _
      refine e_goto (pc := 83) (tgt := 52) dX12_remembers_83 (by decide) ?_
      cases hf11
      exact hi11 _ rfl
  clear hG
  refine e_icmp_ne (pc := 6) (tgt := 50) dX12_remembers_6 (by decide) (fun hb => ?_) (fun hb => ?_)
  · rw [if_neg hb] at hr1
    cases hr1
    exact hjhr1
  · rw [if_pos hb] at hr1
    refine e_iconst (pc := 9) dX12_remembers_9 (x_R rfl) ?_
    refine e_istoren (pc := 10) (i := 1) dX12_remembers_10 rfl (by decide) rfl ?_
    show Ev g _ _ _ _ _ _ 11 [some (x_r (16 * 32 + 0)), some (x_i 0)] [] (al, ro, fl (ml M [32] [S])) _ _ _ _
    obtain ⟨S5, hl6, hr1⟩ := x_bd1 hr1
    have hk6 : ∀ q : xU, q = S5 → Ev g yX12_remembers cX12_remembers 2 none [] 0 40 [some (x_r (16 * 32 + 0)), none] [] (al, ro, fl (ml M [32] [q])) 0 0 (.inl none) (al, ro, fl (ml M [32] [t])) := by
      intro q hq
      replace hq := hq.symm
      subst hq
      refine e_aloadn (pc := 40) (i := 0) dX12_remembers_40 rfl rfl ?_
      refine e_dup (pc := 41) dX12_remembers_41 rfl ?_
      refine f_geti (pc := 42) (k := 0) (u := 32) (q := 0) dX12_remembers_42 xf12_204 (sa_32_0 hs) rfl hn rfl rfl (by decide) ?_
      show Ev g _ _ _ _ _ _ 45 [some (x_r (16 * 32 + 0)), none] [x_i (S5 0 6), x_r (16 * 32 + 0)] (al, ro, fl (ml M [32] [S5])) _ _ _ _
      refine e_iconst (pc := 45) dX12_remembers_45 (x_R rfl) ?_
      refine e_isub (pc := 46) dX12_remembers_46 ?_
      refine f_puti (pc := 47) (k := 0) (u := 32) (q := 0) dX12_remembers_47 xf12_204 xw10_6 (sa_32_0 hs) hn rfl rfl rfl (by decide) ?_
      show Ev g _ _ _ _ _ _ 50 [some (x_r (16 * 32 + 0)), none] [] (al, ro, fl (ml M [32] [(x_up S5 0 6 (x_sub (S5 0 6) 1))])) _ _ _ _
      cases hr1
      exact hjhr1
    clear hr1
    refine e_whl G12_remembers_L11 (fun z : (Int × xU) => Ev g yX12_remembers cX12_remembers 2 none [] 0 11 [some (x_r (16 * 32 + 0)), some (x_i z.1)] [] (al, ro, fl (ml M [32] [z.2])) 0 0 (.inl none) (al, ro, fl (ml M [32] [t]))) (fun q => q = S5) ?_ xFU (0, S) _ hl6 rfl
    intro z t6 hf6 hi6 hx6
    obtain ⟨v3, S4⟩ := z
    rw [G12_remembers_L11] at hf6
    show Ev g _ _ _ _ _ _ 11 [some (x_r (16 * 32 + 0)), some (x_i v3)] [] (al, ro, fl (ml M [32] [S4])) _ _ _ _
    refine e_iloadn (pc := 11) (i := 1) dX12_remembers_11 rfl rfl ?_
    refine e_sipush (pc := 12) dX12_remembers_12 (by decide +kernel) (x_R rfl) ?_
    refine e_icmp_ge (pc := 15) (tgt := 40) dX12_remembers_15 (by decide) (fun hb => ?_) (fun hb => ?_)
    · rw [if_pos hb] at hf6
      cases hf6
      refine e_drop (i := 1) ?_
      exact hk6 _ (hx6 _ rfl)
    · rw [if_neg hb] at hf6
      refine e_aloadn (pc := 18) (i := 0) dX12_remembers_18 rfl rfl ?_
      refine f_getr (pc := 19) (u := 32) (q := 0) dX12_remembers_19 xf12_19 (sa_32_0 hs) rfl (sr_32_0_5 hs) ?_
      refine e_iloadn (pc := 22) (i := 1) dX12_remembers_22 rfl rfl ?_
      refine e_aloadn (pc := 23) (i := 0) dX12_remembers_23 rfl rfl ?_
      refine f_getr (pc := 24) (u := 32) (q := 0) dX12_remembers_24 xf12_19 (sa_32_0 hs) rfl (sr_32_0_5 hs) ?_
      refine e_iloadn (pc := 27) (i := 1) dX12_remembers_27 rfl rfl ?_
      refine e_sipush (pc := 28) dX12_remembers_28 (by decide +kernel) (x_R rfl) ?_
      refine e_iadd (pc := 31) dX12_remembers_31 ?_
      obtain ⟨hc0, hf6⟩ := x_gd_some hf6
      refine f_iald (pc := 32) (k := 0) (u := 32) (q := 4) (len := 4464) dX12_remembers_32 (sa_32_4 hs) hc0 hn rfl rfl (by decide) ?_
      show Ev g _ _ _ _ _ _ 33 [some (x_r (16 * 32 + 0)), some (x_i v3)] [x_i (S4 4 ((x_add v3 372)).toNat), x_i v3, x_r (16 * 32 + 4)] (al, ro, fl (ml M [32] [S4])) _ _ _ _
      obtain ⟨hc0, hf6⟩ := x_gd_some hf6
      refine f_iast (pc := 33) (k := 0) (u := 32) (q := 4) (len := 4464) dX12_remembers_33 (sa_32_4 hs) hc0 hn rfl rfl rfl (by decide) ?_
      show Ev g _ _ _ _ _ _ 34 [some (x_r (16 * 32 + 0)), some (x_i v3)] [] (al, ro, fl (ml M [32] [(x_up S4 4 (v3).toNat (S4 4 ((x_add v3 372)).toNat))])) _ _ _ _
      refine e_iinc (pc := 34) dX12_remembers_34 rfl (by decide) rfl ?_
      show Ev g _ _ _ _ _ _ 37 [some (x_r (16 * 32 + 0)), some (x_i (x_add v3 1))] [] (al, ro, fl (ml M [32] [(x_up S4 4 (v3).toNat (S4 4 ((x_add v3 372)).toNat))])) _ _ _ _
      refine e_goto (pc := 37) (tgt := 11) dX12_remembers_37 (by decide) ?_
      cases hf6
      exact hi6 _ rfl
def G12_sets (a : Int) (b : Int) (S : xU) : Option (Int × xU) :=
  (x_b1 (G12_remembers S) fun (S1 : xU) => (x_gd ((0 : Int) ≤ a ∧ a < 772) (x_gd ((0 : Int) ≤ a ∧ a < 772) (some ((S1 1 (a).toNat), (x_up S1 1 (a).toNat b))))))
set_option maxRecDepth 100000 in
set_option maxHeartbeats 4000000 in
theorem c_X12_sets {g : xG} {al : List (Nat × Nat × Nat)} {ro : Nat → Nat → Option Nat} (hst : g.1.stackTraces = false) (hs : SH al ro) {M : Nat → xU} {a : Int} {b : Int} {S : xU} {t : (Int × xU)} (hG : G12_sets a b S = some t) :
    Cal g yX12_sets cX12_sets 4 (some .int) 1 [x_r (16 * 32 + 0), x_i a, x_i b] (al, ro, fl (ml M [32] [S])) 0 0 (.inl (some (x_i t.1))) (al, ro, fl (ml M [32] [t.2])) := by
  have hn : ([32] : List Nat).Nodup := by decide
  refine cal_of_ev (by decide) (x_c1 rfl) (Nat.le_of_ble_eq_true rfl) hst ?_
  show Ev g _ _ _ _ _ _ 0 [some (x_r (16 * 32 + 0)), some (x_i a), some (x_i b), none] [] (al, ro, fl (ml M [32] [S])) _ _ _ _
  rw [G12_sets] at hG
  refine e_aloadn (pc := 0) (i := 0) dX12_sets_0 rfl rfl ?_
  obtain ⟨S1, hq1, hG⟩ := x_bd1 hG
  refine e_invV (pc := 1) (K1 := 0) (S1 := 0) (K := 0) (S := 0) (dd2 := 0) (av := []) (st := []) (id := 16 * 32 + 0) dX12_sets_1 xmX12_307 rfl (Or.inl ⟨10, 27, TX12, (sa_32_0 hs), rfl, by decide⟩) (f_cal (M := M) (us2 := [32]) [0] hn rfl (And.intro rfl trivial) rfl rfl rfl (c_X12_remembers hst hs   hq1)) (by decide) (Nat.le_of_ble_eq_true rfl) (Or.inl rfl) ?_
  show Ev g _ _ _ _ _ _ 4 [some (x_r (16 * 32 + 0)), some (x_i a), some (x_i b), none] [] (al, ro, fl (ml M [32] [S1])) _ _ _ _
  refine e_aloadn (pc := 4) (i := 0) dX12_sets_4 rfl rfl ?_
  refine f_getr (pc := 5) (u := 32) (q := 0) dX12_sets_5 xf12_7 (sa_32_0 hs) rfl (sr_32_0_1 hs) ?_
  refine e_iloadn (pc := 8) (i := 1) dX12_sets_8 rfl rfl ?_
  obtain ⟨hc0, hG⟩ := x_gd_some hG
  refine f_iald (pc := 9) (k := 0) (u := 32) (q := 1) (len := 772) dX12_sets_9 (sa_32_1 hs) hc0 hn rfl rfl (by decide) ?_
  show Ev g _ _ _ _ _ _ 10 [some (x_r (16 * 32 + 0)), some (x_i a), some (x_i b), none] [x_i (S1 1 (a).toNat)] (al, ro, fl (ml M [32] [S1])) _ _ _ _
  refine e_istoren (pc := 10) (i := 3) dX12_sets_10 rfl (by decide) rfl ?_
  show Ev g _ _ _ _ _ _ 11 [some (x_r (16 * 32 + 0)), some (x_i a), some (x_i b), some (x_i (S1 1 (a).toNat))] [] (al, ro, fl (ml M [32] [S1])) _ _ _ _
  refine e_aloadn (pc := 11) (i := 0) dX12_sets_11 rfl rfl ?_
  refine f_getr (pc := 12) (u := 32) (q := 0) dX12_sets_12 xf12_7 (sa_32_0 hs) rfl (sr_32_0_1 hs) ?_
  refine e_iloadn (pc := 15) (i := 1) dX12_sets_15 rfl rfl ?_
  refine e_iloadn (pc := 16) (i := 2) dX12_sets_16 rfl rfl ?_
  obtain ⟨hc0, hG⟩ := x_gd_some hG
  refine f_iast (pc := 17) (k := 0) (u := 32) (q := 1) (len := 772) dX12_sets_17 (sa_32_1 hs) hc0 hn rfl rfl rfl (by decide) ?_
  show Ev g _ _ _ _ _ _ 18 [some (x_r (16 * 32 + 0)), some (x_i a), some (x_i b), some (x_i (S1 1 (a).toNat))] [] (al, ro, fl (ml M [32] [(x_up S1 1 (a).toNat b)])) _ _ _ _
  refine e_iloadn (pc := 18) (i := 3) dX12_sets_18 rfl rfl ?_
  cases hG
  exact (e_ireturn rfl dX12_sets_19 rfl)
def G12_cross (a : Int) (S : xU) : Option (Int × xU) :=
  (x_b1 (G12_isMonk a S) fun (v1 : Int) => (x_b1 (if v1 = 0 then (some 1) else (some 0)) fun (v3 : Int) => (if ((x_up S 0 0 v3) 0 0) ≤ 0 then (x_b1 (G12_isLost a (x_up S 0 0 v3)) fun (v5 : Int) => (x_b1 (if v5 = 0 then (some 0) else (some 2)) fun (v7 : Int) => (if ((x_up (x_up S 0 0 v3) 0 0 v7) 0 0) ≤ 0 then (x_b2 (G12_sets (x_add (x_add 16 (x_mul 8 a)) 4) ((x_up (x_up S 0 0 v3) 0 0 v7) 1 9) (x_up (x_up S 0 0 v3) 0 0 v7)) fun (v9 : Int) (S10 : xU) => (x_b1 (G12_of a 0 S10) fun (v12 : Int) => (x_b1 (G12_lays a 0 (x_rem (x_add v12 8) 16) S10) fun (S14 : xU) => (x_b1 (G12_of a 0 S14) fun (v16 : Int) => (some (v16, S14)))))) else (some (0, (x_up (x_up S 0 0 v3) 0 0 v7)))))) else (some (0, (x_up S 0 0 v3))))))
set_option maxRecDepth 100000 in
set_option maxHeartbeats 4000000 in
theorem c_X12_cross {g : xG} {al : List (Nat × Nat × Nat)} {ro : Nat → Nat → Option Nat} (hst : g.1.stackTraces = false) (hs : SH al ro) {M : Nat → xU} {a : Int} {S : xU} {t : (Int × xU)} (hG : G12_cross a S = some t) :
    Cal g yX12_cross cX12_cross 3 (some .int) 2 [x_r (16 * 32 + 0), x_i a] (al, ro, fl (ml M [32] [S])) 0 0 (.inl (some (x_i t.1))) (al, ro, fl (ml M [32] [t.2])) := by
  have hn : ([32] : List Nat).Nodup := by decide
  refine cal_of_ev (by decide) (x_c1 rfl) (Nat.le_of_ble_eq_true rfl) hst ?_
  show Ev g _ _ _ _ _ _ 0 [some (x_r (16 * 32 + 0)), some (x_i a), none] [] (al, ro, fl (ml M [32] [S])) _ _ _ _
  rw [G12_cross] at hG
  refine e_aloadn (pc := 0) (i := 0) dX12_cross_0 rfl rfl ?_
  refine e_aloadn (pc := 1) (i := 0) dX12_cross_1 rfl rfl ?_
  refine e_iloadn (pc := 2) (i := 1) dX12_cross_2 rfl rfl ?_
  obtain ⟨v1, hq1, hG⟩ := x_bd1 hG
  refine e_invV (pc := 3) (K1 := 0) (S1 := 0) (K := 0) (S := 0) (dd2 := 1) (av := [x_i a]) (st := [x_r (16 * 32 + 0)]) (id := 16 * 32 + 0) dX12_cross_3 xmX12_295 rfl (Or.inl ⟨10, 27, TX12, (sa_32_0 hs), rfl, by decide⟩) (f_cal (M := M) (us2 := [32]) [0] hn rfl (And.intro rfl trivial) rfl rfl rfl (c_X12_isMonk hst hs   hq1)) (by decide) (Nat.le_of_ble_eq_true rfl) (Or.inl rfl) ?_
  show Ev g _ _ _ _ _ _ 6 [some (x_r (16 * 32 + 0)), some (x_i a), none] [x_i v1, x_r (16 * 32 + 0)] (al, ro, fl (ml M [32] [S])) _ _ _ _
  obtain ⟨v3, hr3, hG⟩ := x_bd1 hG
  have hjhr3 : Ev g yX12_cross cX12_cross 3 (some .int) [] 2 14 [some (x_r (16 * 32 + 0)), some (x_i a), none] [x_i v3, x_r (16 * 32 + 0)] (al, ro, fl (ml M [32] [S])) 0 0 (.inl (some (x_i t.1))) (al, ro, fl (ml M [32] [t.2])) := by
    refine f_puti (pc := 14) (k := 0) (u := 32) (q := 0) dX12_cross_14 xf12_58 xw10_0 (sa_32_0 hs) hn rfl rfl rfl (by decide) ?_
    show Ev g _ _ _ _ _ _ 17 [some (x_r (16 * 32 + 0)), some (x_i a), none] [] (al, ro, fl (ml M [32] [(x_up S 0 0 v3)])) _ _ _ _
    refine e_aloadn (pc := 17) (i := 0) dX12_cross_17 rfl rfl ?_
    refine f_geti (pc := 18) (k := 0) (u := 32) (q := 0) dX12_cross_18 xf12_58 (sa_32_0 hs) rfl hn rfl rfl (by decide) ?_
    show Ev g _ _ _ _ _ _ 21 [some (x_r (16 * 32 + 0)), some (x_i a), none] [x_i ((x_up S 0 0 v3) 0 0)] (al, ro, fl (ml M [32] [(x_up S 0 0 v3)])) _ _ _ _
    refine e_if_le (pc := 21) (tgt := 26) dX12_cross_21 (by decide) (fun hb => ?_) (fun hb => ?_)
    · rw [if_pos hb] at hG
      refine e_aloadn (pc := 26) (i := 0) dX12_cross_26 rfl rfl ?_
      refine e_aloadn (pc := 27) (i := 0) dX12_cross_27 rfl rfl ?_
      refine e_iloadn (pc := 28) (i := 1) dX12_cross_28 rfl rfl ?_
      obtain ⟨v5, hq5, hG⟩ := x_bd1 hG
      refine e_invV (pc := 29) (K1 := 0) (S1 := 0) (K := 0) (S := 0) (dd2 := 1) (av := [x_i a]) (st := [x_r (16 * 32 + 0)]) (id := 16 * 32 + 0) dX12_cross_29 xmX12_69 rfl (Or.inl ⟨10, 27, TX12, (sa_32_0 hs), rfl, by decide⟩) (f_cal (M := M) (us2 := [32]) [0] hn rfl (And.intro rfl trivial) rfl rfl rfl (c_X12_isLost hst hs   hq5)) (by decide) (Nat.le_of_ble_eq_true rfl) (Or.inl rfl) ?_
      show Ev g _ _ _ _ _ _ 32 [some (x_r (16 * 32 + 0)), some (x_i a), none] [x_i v5, x_r (16 * 32 + 0)] (al, ro, fl (ml M [32] [(x_up S 0 0 v3)])) _ _ _ _
      obtain ⟨v7, hr7, hG⟩ := x_bd1 hG
      have hjhr7 : Ev g yX12_cross cX12_cross 3 (some .int) [] 2 40 [some (x_r (16 * 32 + 0)), some (x_i a), none] [x_i v7, x_r (16 * 32 + 0)] (al, ro, fl (ml M [32] [(x_up S 0 0 v3)])) 0 0 (.inl (some (x_i t.1))) (al, ro, fl (ml M [32] [t.2])) := by
        refine f_puti (pc := 40) (k := 0) (u := 32) (q := 0) dX12_cross_40 xf12_58 xw10_0 (sa_32_0 hs) hn rfl rfl rfl (by decide) ?_
        show Ev g _ _ _ _ _ _ 43 [some (x_r (16 * 32 + 0)), some (x_i a), none] [] (al, ro, fl (ml M [32] [(x_up (x_up S 0 0 v3) 0 0 v7)])) _ _ _ _
        refine e_aloadn (pc := 43) (i := 0) dX12_cross_43 rfl rfl ?_
        refine f_geti (pc := 44) (k := 0) (u := 32) (q := 0) dX12_cross_44 xf12_58 (sa_32_0 hs) rfl hn rfl rfl (by decide) ?_
        show Ev g _ _ _ _ _ _ 47 [some (x_r (16 * 32 + 0)), some (x_i a), none] [x_i ((x_up (x_up S 0 0 v3) 0 0 v7) 0 0)] (al, ro, fl (ml M [32] [(x_up (x_up S 0 0 v3) 0 0 v7)])) _ _ _ _
        refine e_if_le (pc := 47) (tgt := 52) dX12_cross_47 (by decide) (fun hb => ?_) (fun hb => ?_)
        · rw [if_pos hb] at hG
          refine e_aloadn (pc := 52) (i := 0) dX12_cross_52 rfl rfl ?_
          refine e_bipush (pc := 53) dX12_cross_53 (by decide +kernel) (x_R rfl) ?_
          refine e_bipush (pc := 55) dX12_cross_55 (by decide +kernel) (x_R rfl) ?_
          refine e_iloadn (pc := 57) (i := 1) dX12_cross_57 rfl rfl ?_
          refine e_imul (pc := 58) dX12_cross_58 ?_
          refine e_iadd (pc := 59) dX12_cross_59 ?_
          refine e_iconst (pc := 60) dX12_cross_60 (x_R rfl) ?_
          refine e_iadd (pc := 61) dX12_cross_61 ?_
          refine e_aloadn (pc := 62) (i := 0) dX12_cross_62 rfl rfl ?_
          refine f_getr (pc := 63) (u := 32) (q := 0) dX12_cross_63 xf12_7 (sa_32_0 hs) rfl (sr_32_0_1 hs) ?_
          refine e_bipush (pc := 66) dX12_cross_66 (by decide +kernel) (x_R rfl) ?_
          refine f_iald (pc := 68) (k := 0) (u := 32) (q := 1) (len := 772) dX12_cross_68 (sa_32_1 hs) (by decide) hn rfl rfl (by decide) ?_
          show Ev g _ _ _ _ _ _ 69 [some (x_r (16 * 32 + 0)), some (x_i a), none] [x_i ((x_up (x_up S 0 0 v3) 0 0 v7) 1 9), x_i (x_add (x_add 16 (x_mul 8 a)) 4), x_r (16 * 32 + 0)] (al, ro, fl (ml M [32] [(x_up (x_up S 0 0 v3) 0 0 v7)])) _ _ _ _
          obtain ⟨v9, S10, hq10, hG⟩ := x_bd2 hG
          refine e_invV (pc := 69) (K1 := 0) (S1 := 0) (K := 0) (S := 0) (dd2 := 1) (av := [x_i (x_add (x_add 16 (x_mul 8 a)) 4), x_i ((x_up (x_up S 0 0 v3) 0 0 v7) 1 9)]) (st := []) (id := 16 * 32 + 0) dX12_cross_69 xmX12_314 rfl (Or.inl ⟨10, 27, TX12, (sa_32_0 hs), rfl, by decide⟩) (f_cal (M := M) (us2 := [32]) [0] hn rfl (And.intro rfl trivial) rfl rfl rfl (c_X12_sets hst hs   hq10)) (by decide) (Nat.le_of_ble_eq_true rfl) (Or.inl rfl) ?_
          show Ev g _ _ _ _ _ _ 72 [some (x_r (16 * 32 + 0)), some (x_i a), none] [x_i v9] (al, ro, fl (ml M [32] [S10])) _ _ _ _
          refine e_istoren (pc := 72) (i := 2) dX12_cross_72 rfl (by decide) rfl ?_
          show Ev g _ _ _ _ _ _ 73 [some (x_r (16 * 32 + 0)), some (x_i a), some (x_i v9)] [] (al, ro, fl (ml M [32] [S10])) _ _ _ _
          refine e_aloadn (pc := 73) (i := 0) dX12_cross_73 rfl rfl ?_
          refine e_iloadn (pc := 74) (i := 1) dX12_cross_74 rfl rfl ?_
          refine e_iconst (pc := 75) dX12_cross_75 (x_R rfl) ?_
          refine e_aloadn (pc := 76) (i := 0) dX12_cross_76 rfl rfl ?_
          refine e_iloadn (pc := 77) (i := 1) dX12_cross_77 rfl rfl ?_
          refine e_iconst (pc := 78) dX12_cross_78 (x_R rfl) ?_
          obtain ⟨v12, hq12, hG⟩ := x_bd1 hG
          refine e_invV (pc := 79) (K1 := 0) (S1 := 0) (K := 0) (S := 0) (dd2 := 0) (av := [x_i a, x_i 0]) (st := [x_i 0, x_i a, x_r (16 * 32 + 0)]) (id := 16 * 32 + 0) dX12_cross_79 xmX12_65 rfl (Or.inl ⟨10, 27, TX12, (sa_32_0 hs), rfl, by decide⟩) (f_cal (M := M) (us2 := [32]) [0] hn rfl (And.intro rfl trivial) rfl rfl rfl (c_X12_of hst hs   hq12)) (by decide) (Nat.le_of_ble_eq_true rfl) (Or.inl rfl) ?_
          show Ev g _ _ _ _ _ _ 82 [some (x_r (16 * 32 + 0)), some (x_i a), some (x_i v9)] [x_i v12, x_i 0, x_i a, x_r (16 * 32 + 0)] (al, ro, fl (ml M [32] [S10])) _ _ _ _
          refine e_bipush (pc := 82) dX12_cross_82 (by decide +kernel) (x_R rfl) ?_
          refine e_iadd (pc := 84) dX12_cross_84 ?_
          refine e_bipush (pc := 85) dX12_cross_85 (by decide +kernel) (x_R rfl) ?_
          refine e_irem (pc := 87) dX12_cross_87 (by decide) ?_
          obtain ⟨S14, hq14, hG⟩ := x_bd1 hG
          refine e_invV (pc := 88) (K1 := 0) (S1 := 0) (K := 0) (S := 0) (dd2 := 0) (av := [x_i a, x_i 0, x_i (x_rem (x_add v12 8) 16)]) (st := []) (id := 16 * 32 + 0) dX12_cross_88 xmX12_140 rfl (Or.inl ⟨10, 27, TX12, (sa_32_0 hs), rfl, by decide⟩) (f_cal (M := M) (us2 := [32]) [0] hn rfl (And.intro rfl trivial) rfl rfl rfl (c_X12_lays hst hs   hq14)) (by decide) (Nat.le_of_ble_eq_true rfl) (Or.inl rfl) ?_
          show Ev g _ _ _ _ _ _ 91 [some (x_r (16 * 32 + 0)), some (x_i a), some (x_i v9)] [] (al, ro, fl (ml M [32] [S14])) _ _ _ _
          refine e_aloadn (pc := 91) (i := 0) dX12_cross_91 rfl rfl ?_
          refine e_iloadn (pc := 92) (i := 1) dX12_cross_92 rfl rfl ?_
          refine e_iconst (pc := 93) dX12_cross_93 (x_R rfl) ?_
          obtain ⟨v16, hq16, hG⟩ := x_bd1 hG
          refine e_invV (pc := 94) (K1 := 0) (S1 := 0) (K := 0) (S := 0) (dd2 := 0) (av := [x_i a, x_i 0]) (st := []) (id := 16 * 32 + 0) dX12_cross_94 xmX12_65 rfl (Or.inl ⟨10, 27, TX12, (sa_32_0 hs), rfl, by decide⟩) (f_cal (M := M) (us2 := [32]) [0] hn rfl (And.intro rfl trivial) rfl rfl rfl (c_X12_of hst hs   hq16)) (by decide) (Nat.le_of_ble_eq_true rfl) (Or.inl rfl) ?_
          show Ev g _ _ _ _ _ _ 97 [some (x_r (16 * 32 + 0)), some (x_i a), some (x_i v9)] [x_i v16] (al, ro, fl (ml M [32] [S14])) _ _ _ _
          cases hG
          exact (e_ireturn rfl dX12_cross_97 rfl)
        · rw [if_neg hb] at hG
          refine e_iconst (pc := 50) dX12_cross_50 (x_R rfl) ?_
          cases hG
          exact (e_ireturn rfl dX12_cross_51 rfl)
      clear hG
      refine e_if_eq (pc := 32) (tgt := 39) dX12_cross_32 (by decide) (fun hb => ?_) (fun hb => ?_)
      · rw [if_pos hb] at hr7
        refine e_iconst (pc := 39) dX12_cross_39 (x_R rfl) ?_
        cases hr7
        exact hjhr7
      · rw [if_neg hb] at hr7
        refine e_iconst (pc := 35) dX12_cross_35 (x_R rfl) ?_
        refine e_goto (pc := 36) (tgt := 40) dX12_cross_36 (by decide) ?_
        cases hr7
        exact hjhr7
    · rw [if_neg hb] at hG
      refine e_iconst (pc := 24) dX12_cross_24 (x_R rfl) ?_
      cases hG
      exact (e_ireturn rfl dX12_cross_25 rfl)
  clear hG
  refine e_if_ne (pc := 6) (tgt := 13) dX12_cross_6 (by decide) (fun hb => ?_) (fun hb => ?_)
  · rw [if_neg hb] at hr3
    refine e_iconst (pc := 13) dX12_cross_13 (x_R rfl) ?_
    cases hr3
    exact hjhr3
  · rw [if_pos hb] at hr3
    refine e_iconst (pc := 9) dX12_cross_9 (x_R rfl) ?_
    refine e_goto (pc := 10) (tgt := 14) dX12_cross_10 (by decide) ?_
    cases hr3
    exact hjhr3
def G12_bell (a : Int) (S : xU) : Option (Int × xU) :=
  (x_b1 (G12_isFlag a) fun (v1 : Int) => (x_b1 (if v1 = 0 then (some 1) else (some 0)) fun (v3 : Int) => (x_b2 (if ((x_up S 0 0 v3) 0 0) ≤ 0 then (x_b2 (G12_sets 6 a (x_up S 0 0 v3)) fun (v8 : Int) (S9 : xU) => (some (v8, S9))) else (some (0, (x_up S 0 0 v3)))) fun (v5 : Int) (S6 : xU) => (some (v5, S6)))))
set_option maxRecDepth 100000 in
set_option maxHeartbeats 4000000 in
theorem c_X12_bell {g : xG} {al : List (Nat × Nat × Nat)} {ro : Nat → Nat → Option Nat} (hst : g.1.stackTraces = false) (hs : SH al ro) {M : Nat → xU} {a : Int} {S : xU} {t : (Int × xU)} (hG : G12_bell a S = some t) :
    Cal g yX12_bell cX12_bell 2 (some .int) 2 [x_r (16 * 32 + 0), x_i a] (al, ro, fl (ml M [32] [S])) 0 0 (.inl (some (x_i t.1))) (al, ro, fl (ml M [32] [t.2])) := by
  have hn : ([32] : List Nat).Nodup := by decide
  refine cal_of_ev (by decide) (x_c1 rfl) (Nat.le_of_ble_eq_true rfl) hst ?_
  show Ev g _ _ _ _ _ _ 0 [some (x_r (16 * 32 + 0)), some (x_i a)] [] (al, ro, fl (ml M [32] [S])) _ _ _ _
  rw [G12_bell] at hG
  refine e_aloadn (pc := 0) (i := 0) dX12_bell_0 rfl rfl ?_
  refine e_iloadn (pc := 1) (i := 1) dX12_bell_1 rfl rfl ?_
  obtain ⟨v1, hq1, hG⟩ := x_bd1 hG
  refine e_invS (pc := 2) (K1 := 0) (S1 := 0) (K := 0) (S := 0) (dd2 := 1) (av := [x_i a]) (st := [x_r (16 * 32 + 0)]) dX12_bell_2 xmX12_304 rfl (f_cal (M := M) (us2 := []) [] hn rfl trivial rfl rfl rfl (c_X12_isFlag hst hs   hq1)) (by decide) (Nat.le_of_ble_eq_true rfl) (Or.inl rfl) ?_
  show Ev g _ _ _ _ _ _ 5 [some (x_r (16 * 32 + 0)), some (x_i a)] [x_i v1, x_r (16 * 32 + 0)] (al, ro, fl (ml M [32] [S])) _ _ _ _
  obtain ⟨v3, hr3, hG⟩ := x_bd1 hG
  have hjhr3 : Ev g yX12_bell cX12_bell 2 (some .int) [] 2 13 [some (x_r (16 * 32 + 0)), some (x_i a)] [x_i v3, x_r (16 * 32 + 0)] (al, ro, fl (ml M [32] [S])) 0 0 (.inl (some (x_i t.1))) (al, ro, fl (ml M [32] [t.2])) := by
    refine f_puti (pc := 13) (k := 0) (u := 32) (q := 0) dX12_bell_13 xf12_58 xw10_0 (sa_32_0 hs) hn rfl rfl rfl (by decide) ?_
    show Ev g _ _ _ _ _ _ 16 [some (x_r (16 * 32 + 0)), some (x_i a)] [] (al, ro, fl (ml M [32] [(x_up S 0 0 v3)])) _ _ _ _
    refine e_aloadn (pc := 16) (i := 0) dX12_bell_16 rfl rfl ?_
    refine f_geti (pc := 17) (k := 0) (u := 32) (q := 0) dX12_bell_17 xf12_58 (sa_32_0 hs) rfl hn rfl rfl (by decide) ?_
    show Ev g _ _ _ _ _ _ 20 [some (x_r (16 * 32 + 0)), some (x_i a)] [x_i ((x_up S 0 0 v3) 0 0)] (al, ro, fl (ml M [32] [(x_up S 0 0 v3)])) _ _ _ _
    obtain ⟨v5, S6, hr6, hG⟩ := x_bd2 hG
    have hjhr6 : Ev g yX12_bell cX12_bell 2 (some .int) [] 2 34 [some (x_r (16 * 32 + 0)), some (x_i a)] [x_i v5] (al, ro, fl (ml M [32] [S6])) 0 0 (.inl (some (x_i t.1))) (al, ro, fl (ml M [32] [t.2])) := by
      cases hG
      exact (e_ireturn rfl dX12_bell_34 rfl)
    clear hG
    refine e_if_le (pc := 20) (tgt := 27) dX12_bell_20 (by decide) (fun hb => ?_) (fun hb => ?_)
    · rw [if_pos hb] at hr6
      refine e_aloadn (pc := 27) (i := 0) dX12_bell_27 rfl rfl ?_
      refine e_bipush (pc := 28) dX12_bell_28 (by decide +kernel) (x_R rfl) ?_
      refine e_iloadn (pc := 30) (i := 1) dX12_bell_30 rfl rfl ?_
      obtain ⟨v8, S9, hq9, hr6⟩ := x_bd2 hr6
      refine e_invV (pc := 31) (K1 := 0) (S1 := 0) (K := 0) (S := 0) (dd2 := 1) (av := [x_i 6, x_i a]) (st := []) (id := 16 * 32 + 0) dX12_bell_31 xmX12_314 rfl (Or.inl ⟨10, 27, TX12, (sa_32_0 hs), rfl, by decide⟩) (f_cal (M := M) (us2 := [32]) [0] hn rfl (And.intro rfl trivial) rfl rfl rfl (c_X12_sets hst hs   hq9)) (by decide) (Nat.le_of_ble_eq_true rfl) (Or.inl rfl) ?_
      show Ev g _ _ _ _ _ _ 34 [some (x_r (16 * 32 + 0)), some (x_i a)] [x_i v8] (al, ro, fl (ml M [32] [S9])) _ _ _ _
      cases hr6
      exact hjhr6
    · rw [if_neg hb] at hr6
      refine e_iconst (pc := 23) dX12_bell_23 (x_R rfl) ?_
      refine e_goto (pc := 24) (tgt := 34) dX12_bell_24 (by decide) ?_
      cases hr6
      exact hjhr6
  clear hG
  refine e_if_ne (pc := 5) (tgt := 12) dX12_bell_5 (by decide) (fun hb => ?_) (fun hb => ?_)
  · rw [if_neg hb] at hr3
    refine e_iconst (pc := 12) dX12_bell_12 (x_R rfl) ?_
    cases hr3
    exact hjhr3
  · rw [if_pos hb] at hr3
    refine e_iconst (pc := 8) dX12_bell_8 (x_R rfl) ?_
    refine e_goto (pc := 9) (tgt := 13) dX12_bell_9 (by decide) ?_
    cases hr3
    exact hjhr3
def G12_mood (a : Int) (S : xU) : Option (Int × xU) :=
  (x_b1 (G12_isIn a 0 4) fun (v1 : Int) => (x_b1 (if v1 = 0 then (some 1) else (some 0)) fun (v3 : Int) => (x_b2 (if ((x_up S 0 0 v3) 0 0) ≤ 0 then (x_b2 (G12_sets 7 a (x_up S 0 0 v3)) fun (v8 : Int) (S9 : xU) => (some (v8, S9))) else (some (0, (x_up S 0 0 v3)))) fun (v5 : Int) (S6 : xU) => (some (v5, S6)))))
set_option maxRecDepth 100000 in
set_option maxHeartbeats 4000000 in
theorem c_X12_mood {g : xG} {al : List (Nat × Nat × Nat)} {ro : Nat → Nat → Option Nat} (hst : g.1.stackTraces = false) (hs : SH al ro) {M : Nat → xU} {a : Int} {S : xU} {t : (Int × xU)} (hG : G12_mood a S = some t) :
    Cal g yX12_mood cX12_mood 2 (some .int) 2 [x_r (16 * 32 + 0), x_i a] (al, ro, fl (ml M [32] [S])) 0 0 (.inl (some (x_i t.1))) (al, ro, fl (ml M [32] [t.2])) := by
  have hn : ([32] : List Nat).Nodup := by decide
  refine cal_of_ev (by decide) (x_c1 rfl) (Nat.le_of_ble_eq_true rfl) hst ?_
  show Ev g _ _ _ _ _ _ 0 [some (x_r (16 * 32 + 0)), some (x_i a)] [] (al, ro, fl (ml M [32] [S])) _ _ _ _
  rw [G12_mood] at hG
  refine e_aloadn (pc := 0) (i := 0) dX12_mood_0 rfl rfl ?_
  refine e_iloadn (pc := 1) (i := 1) dX12_mood_1 rfl rfl ?_
  refine e_iconst (pc := 2) dX12_mood_2 (x_R rfl) ?_
  refine e_iconst (pc := 3) dX12_mood_3 (x_R rfl) ?_
  obtain ⟨v1, hq1, hG⟩ := x_bd1 hG
  refine e_invS (pc := 4) (K1 := 0) (S1 := 0) (K := 0) (S := 0) (dd2 := 0) (av := [x_i a, x_i 0, x_i 4]) (st := [x_r (16 * 32 + 0)]) dX12_mood_4 xmX12_61 rfl (f_cal (M := M) (us2 := []) [] hn rfl trivial rfl rfl rfl (c_X12_isIn hst hs   hq1)) (by decide) (Nat.le_of_ble_eq_true rfl) (Or.inl rfl) ?_
  show Ev g _ _ _ _ _ _ 7 [some (x_r (16 * 32 + 0)), some (x_i a)] [x_i v1, x_r (16 * 32 + 0)] (al, ro, fl (ml M [32] [S])) _ _ _ _
  obtain ⟨v3, hr3, hG⟩ := x_bd1 hG
  have hjhr3 : Ev g yX12_mood cX12_mood 2 (some .int) [] 2 15 [some (x_r (16 * 32 + 0)), some (x_i a)] [x_i v3, x_r (16 * 32 + 0)] (al, ro, fl (ml M [32] [S])) 0 0 (.inl (some (x_i t.1))) (al, ro, fl (ml M [32] [t.2])) := by
    refine f_puti (pc := 15) (k := 0) (u := 32) (q := 0) dX12_mood_15 xf12_58 xw10_0 (sa_32_0 hs) hn rfl rfl rfl (by decide) ?_
    show Ev g _ _ _ _ _ _ 18 [some (x_r (16 * 32 + 0)), some (x_i a)] [] (al, ro, fl (ml M [32] [(x_up S 0 0 v3)])) _ _ _ _
    refine e_aloadn (pc := 18) (i := 0) dX12_mood_18 rfl rfl ?_
    refine f_geti (pc := 19) (k := 0) (u := 32) (q := 0) dX12_mood_19 xf12_58 (sa_32_0 hs) rfl hn rfl rfl (by decide) ?_
    show Ev g _ _ _ _ _ _ 22 [some (x_r (16 * 32 + 0)), some (x_i a)] [x_i ((x_up S 0 0 v3) 0 0)] (al, ro, fl (ml M [32] [(x_up S 0 0 v3)])) _ _ _ _
    obtain ⟨v5, S6, hr6, hG⟩ := x_bd2 hG
    have hjhr6 : Ev g yX12_mood cX12_mood 2 (some .int) [] 2 36 [some (x_r (16 * 32 + 0)), some (x_i a)] [x_i v5] (al, ro, fl (ml M [32] [S6])) 0 0 (.inl (some (x_i t.1))) (al, ro, fl (ml M [32] [t.2])) := by
      cases hG
      exact (e_ireturn rfl dX12_mood_36 rfl)
    clear hG
    refine e_if_le (pc := 22) (tgt := 29) dX12_mood_22 (by decide) (fun hb => ?_) (fun hb => ?_)
    · rw [if_pos hb] at hr6
      refine e_aloadn (pc := 29) (i := 0) dX12_mood_29 rfl rfl ?_
      refine e_bipush (pc := 30) dX12_mood_30 (by decide +kernel) (x_R rfl) ?_
      refine e_iloadn (pc := 32) (i := 1) dX12_mood_32 rfl rfl ?_
      obtain ⟨v8, S9, hq9, hr6⟩ := x_bd2 hr6
      refine e_invV (pc := 33) (K1 := 0) (S1 := 0) (K := 0) (S := 0) (dd2 := 1) (av := [x_i 7, x_i a]) (st := []) (id := 16 * 32 + 0) dX12_mood_33 xmX12_314 rfl (Or.inl ⟨10, 27, TX12, (sa_32_0 hs), rfl, by decide⟩) (f_cal (M := M) (us2 := [32]) [0] hn rfl (And.intro rfl trivial) rfl rfl rfl (c_X12_sets hst hs   hq9)) (by decide) (Nat.le_of_ble_eq_true rfl) (Or.inl rfl) ?_
      show Ev g _ _ _ _ _ _ 36 [some (x_r (16 * 32 + 0)), some (x_i a)] [x_i v8] (al, ro, fl (ml M [32] [S9])) _ _ _ _
      cases hr6
      exact hjhr6
    · rw [if_neg hb] at hr6
      refine e_iconst (pc := 25) dX12_mood_25 (x_R rfl) ?_
      refine e_goto (pc := 26) (tgt := 36) dX12_mood_26 (by decide) ?_
      cases hr6
      exact hjhr6
  clear hG
  refine e_if_ne (pc := 7) (tgt := 14) dX12_mood_7 (by decide) (fun hb => ?_) (fun hb => ?_)
  · rw [if_neg hb] at hr3
    refine e_iconst (pc := 14) dX12_mood_14 (x_R rfl) ?_
    cases hr3
    exact hjhr3
  · rw [if_pos hb] at hr3
    refine e_iconst (pc := 10) dX12_mood_10 (x_R rfl) ?_
    refine e_goto (pc := 11) (tgt := 15) dX12_mood_11 (by decide) ?_
    cases hr3
    exact hjhr3
def G12_areTwo (a : Int) (b : Int) (S : xU) : Option xU :=
  (x_b1 (G12_isMonk a S) fun (v1 : Int) => (x_b1 (if v1 = 0 then (some 1) else (x_b1 (G12_isMonk b S) fun (v5 : Int) => (if v5 = 0 then (some 1) else (if a = b then (some 2) else (some 0))))) fun (v3 : Int) => (some (x_up S 0 0 v3))))
set_option maxRecDepth 100000 in
set_option maxHeartbeats 4000000 in
theorem c_X12_areTwo {g : xG} {al : List (Nat × Nat × Nat)} {ro : Nat → Nat → Option Nat} (hst : g.1.stackTraces = false) (hs : SH al ro) {M : Nat → xU} {a : Int} {b : Int} {S : xU} {t : xU} (hG : G12_areTwo a b S = some t) :
    Cal g yX12_areTwo cX12_areTwo 3 none 2 [x_r (16 * 32 + 0), x_i a, x_i b] (al, ro, fl (ml M [32] [S])) 0 0 (.inl none) (al, ro, fl (ml M [32] [t])) := by
  have hn : ([32] : List Nat).Nodup := by decide
  refine cal_of_ev (by decide) (x_c1 rfl) (Nat.le_of_ble_eq_true rfl) hst ?_
  show Ev g _ _ _ _ _ _ 0 [some (x_r (16 * 32 + 0)), some (x_i a), some (x_i b)] [] (al, ro, fl (ml M [32] [S])) _ _ _ _
  rw [G12_areTwo] at hG
  refine e_aloadn (pc := 0) (i := 0) dX12_areTwo_0 rfl rfl ?_
  refine e_aloadn (pc := 1) (i := 0) dX12_areTwo_1 rfl rfl ?_
  refine e_iloadn (pc := 2) (i := 1) dX12_areTwo_2 rfl rfl ?_
  obtain ⟨v1, hq1, hG⟩ := x_bd1 hG
  refine e_invV (pc := 3) (K1 := 0) (S1 := 0) (K := 0) (S := 0) (dd2 := 1) (av := [x_i a]) (st := [x_r (16 * 32 + 0)]) (id := 16 * 32 + 0) dX12_areTwo_3 xmX12_295 rfl (Or.inl ⟨10, 27, TX12, (sa_32_0 hs), rfl, by decide⟩) (f_cal (M := M) (us2 := [32]) [0] hn rfl (And.intro rfl trivial) rfl rfl rfl (c_X12_isMonk hst hs   hq1)) (by decide) (Nat.le_of_ble_eq_true rfl) (Or.inl rfl) ?_
  show Ev g _ _ _ _ _ _ 6 [some (x_r (16 * 32 + 0)), some (x_i a), some (x_i b)] [x_i v1, x_r (16 * 32 + 0)] (al, ro, fl (ml M [32] [S])) _ _ _ _
  obtain ⟨v3, hr3, hG⟩ := x_bd1 hG
  have hjhr3 : Ev g yX12_areTwo cX12_areTwo 3 none [] 2 31 [some (x_r (16 * 32 + 0)), some (x_i a), some (x_i b)] [x_i v3, x_r (16 * 32 + 0)] (al, ro, fl (ml M [32] [S])) 0 0 (.inl none) (al, ro, fl (ml M [32] [t])) := by
    refine f_puti (pc := 31) (k := 0) (u := 32) (q := 0) dX12_areTwo_31 xf12_58 xw10_0 (sa_32_0 hs) hn rfl rfl rfl (by decide) ?_
    show Ev g _ _ _ _ _ _ 34 [some (x_r (16 * 32 + 0)), some (x_i a), some (x_i b)] [] (al, ro, fl (ml M [32] [(x_up S 0 0 v3)])) _ _ _ _
    cases hG
    exact (e_return rfl dX12_areTwo_34)
  clear hG
  refine e_if_eq (pc := 6) (tgt := 17) dX12_areTwo_6 (by decide) (fun hb => ?_) (fun hb => ?_)
  · rw [if_pos hb] at hr3
    refine e_iconst (pc := 17) dX12_areTwo_17 (x_R rfl) ?_
    refine e_goto (pc := 18) (tgt := 31) dX12_areTwo_18 (by decide) ?_
    cases hr3
    exact hjhr3
  · rw [if_neg hb] at hr3
    refine e_aloadn (pc := 9) (i := 0) dX12_areTwo_9 rfl rfl ?_
    refine e_iloadn (pc := 10) (i := 2) dX12_areTwo_10 rfl rfl ?_
    obtain ⟨v5, hq5, hr3⟩ := x_bd1 hr3
    refine e_invV (pc := 11) (K1 := 0) (S1 := 0) (K := 0) (S := 0) (dd2 := 1) (av := [x_i b]) (st := [x_r (16 * 32 + 0)]) (id := 16 * 32 + 0) dX12_areTwo_11 xmX12_295 rfl (Or.inl ⟨10, 27, TX12, (sa_32_0 hs), rfl, by decide⟩) (f_cal (M := M) (us2 := [32]) [0] hn rfl (And.intro rfl trivial) rfl rfl rfl (c_X12_isMonk hst hs   hq5)) (by decide) (Nat.le_of_ble_eq_true rfl) (Or.inl rfl) ?_
    show Ev g _ _ _ _ _ _ 14 [some (x_r (16 * 32 + 0)), some (x_i a), some (x_i b)] [x_i v5, x_r (16 * 32 + 0)] (al, ro, fl (ml M [32] [S])) _ _ _ _
    refine e_if_ne (pc := 14) (tgt := 21) dX12_areTwo_14 (by decide) (fun hb => ?_) (fun hb => ?_)
    · rw [if_neg hb] at hr3
      refine e_iloadn (pc := 21) (i := 1) dX12_areTwo_21 rfl rfl ?_
      refine e_iloadn (pc := 22) (i := 2) dX12_areTwo_22 rfl rfl ?_
      refine e_icmp_ne (pc := 23) (tgt := 30) dX12_areTwo_23 (by decide) (fun hb => ?_) (fun hb => ?_)
      · rw [if_neg hb] at hr3
        refine e_iconst (pc := 30) dX12_areTwo_30 (x_R rfl) ?_
        cases hr3
        exact hjhr3
      · rw [if_pos hb] at hr3
        refine e_iconst (pc := 26) dX12_areTwo_26 (x_R rfl) ?_
        refine e_goto (pc := 27) (tgt := 31) dX12_areTwo_27 (by decide) ?_
        cases hr3
        exact hjhr3
    · rw [if_pos hb] at hr3
      refine e_iconst (pc := 17) dX12_areTwo_17 (x_R rfl) ?_
      refine e_goto (pc := 18) (tgt := 31) dX12_areTwo_18 (by decide) ?_
      cases hr3
      exact hjhr3
def G12_change (a : Int) (b : Int) (S : xU) : Option (Int × xU) :=
  (x_b1 (G12_areTwo a b S) fun (S1 : xU) => (if (S1 0 0) ≤ 0 then (x_b1 (G12_of b 2 S1) fun (v3 : Int) => (x_b2 (G12_sets (x_add (x_add 16 (x_mul 8 a)) 2) v3 S1) fun (v5 : Int) (S6 : xU) => (x_b1 (G12_lays b 2 v5 S6) fun (S8 : xU) => (x_b1 (G12_of a 2 S8) fun (v10 : Int) => (some (v10, S8)))))) else (some (0, S1))))
set_option maxRecDepth 100000 in
set_option maxHeartbeats 4000000 in
theorem c_X12_change {g : xG} {al : List (Nat × Nat × Nat)} {ro : Nat → Nat → Option Nat} (hst : g.1.stackTraces = false) (hs : SH al ro) {M : Nat → xU} {a : Int} {b : Int} {S : xU} {t : (Int × xU)} (hG : G12_change a b S = some t) :
    Cal g yX12_change cX12_change 4 (some .int) 3 [x_r (16 * 32 + 0), x_i a, x_i b] (al, ro, fl (ml M [32] [S])) 0 0 (.inl (some (x_i t.1))) (al, ro, fl (ml M [32] [t.2])) := by
  have hn : ([32] : List Nat).Nodup := by decide
  refine cal_of_ev (by decide) (x_c1 rfl) (Nat.le_of_ble_eq_true rfl) hst ?_
  show Ev g _ _ _ _ _ _ 0 [some (x_r (16 * 32 + 0)), some (x_i a), some (x_i b), none] [] (al, ro, fl (ml M [32] [S])) _ _ _ _
  rw [G12_change] at hG
  refine e_aloadn (pc := 0) (i := 0) dX12_change_0 rfl rfl ?_
  refine e_iloadn (pc := 1) (i := 1) dX12_change_1 rfl rfl ?_
  refine e_iloadn (pc := 2) (i := 2) dX12_change_2 rfl rfl ?_
  obtain ⟨S1, hq1, hG⟩ := x_bd1 hG
  refine e_invV (pc := 3) (K1 := 0) (S1 := 0) (K := 0) (S := 0) (dd2 := 2) (av := [x_i a, x_i b]) (st := []) (id := 16 * 32 + 0) dX12_change_3 xmX12_317 rfl (Or.inl ⟨10, 27, TX12, (sa_32_0 hs), rfl, by decide⟩) (f_cal (M := M) (us2 := [32]) [0] hn rfl (And.intro rfl trivial) rfl rfl rfl (c_X12_areTwo hst hs   hq1)) (by decide) (Nat.le_of_ble_eq_true rfl) (Or.inl rfl) ?_
  show Ev g _ _ _ _ _ _ 6 [some (x_r (16 * 32 + 0)), some (x_i a), some (x_i b), none] [] (al, ro, fl (ml M [32] [S1])) _ _ _ _
  refine e_aloadn (pc := 6) (i := 0) dX12_change_6 rfl rfl ?_
  refine f_geti (pc := 7) (k := 0) (u := 32) (q := 0) dX12_change_7 xf12_58 (sa_32_0 hs) rfl hn rfl rfl (by decide) ?_
  show Ev g _ _ _ _ _ _ 10 [some (x_r (16 * 32 + 0)), some (x_i a), some (x_i b), none] [x_i (S1 0 0)] (al, ro, fl (ml M [32] [S1])) _ _ _ _
  refine e_if_le (pc := 10) (tgt := 15) dX12_change_10 (by decide) (fun hb => ?_) (fun hb => ?_)
  · rw [if_pos hb] at hG
    refine e_aloadn (pc := 15) (i := 0) dX12_change_15 rfl rfl ?_
    refine e_bipush (pc := 16) dX12_change_16 (by decide +kernel) (x_R rfl) ?_
    refine e_bipush (pc := 18) dX12_change_18 (by decide +kernel) (x_R rfl) ?_
    refine e_iloadn (pc := 20) (i := 1) dX12_change_20 rfl rfl ?_
    refine e_imul (pc := 21) dX12_change_21 ?_
    refine e_iadd (pc := 22) dX12_change_22 ?_
    refine e_iconst (pc := 23) dX12_change_23 (x_R rfl) ?_
    refine e_iadd (pc := 24) dX12_change_24 ?_
    refine e_aloadn (pc := 25) (i := 0) dX12_change_25 rfl rfl ?_
    refine e_iloadn (pc := 26) (i := 2) dX12_change_26 rfl rfl ?_
    refine e_iconst (pc := 27) dX12_change_27 (x_R rfl) ?_
    obtain ⟨v3, hq3, hG⟩ := x_bd1 hG
    refine e_invV (pc := 28) (K1 := 0) (S1 := 0) (K := 0) (S := 0) (dd2 := 0) (av := [x_i b, x_i 2]) (st := [x_i (x_add (x_add 16 (x_mul 8 a)) 2), x_r (16 * 32 + 0)]) (id := 16 * 32 + 0) dX12_change_28 xmX12_65 rfl (Or.inl ⟨10, 27, TX12, (sa_32_0 hs), rfl, by decide⟩) (f_cal (M := M) (us2 := [32]) [0] hn rfl (And.intro rfl trivial) rfl rfl rfl (c_X12_of hst hs   hq3)) (by decide) (Nat.le_of_ble_eq_true rfl) (Or.inl rfl) ?_
    show Ev g _ _ _ _ _ _ 31 [some (x_r (16 * 32 + 0)), some (x_i a), some (x_i b), none] [x_i v3, x_i (x_add (x_add 16 (x_mul 8 a)) 2), x_r (16 * 32 + 0)] (al, ro, fl (ml M [32] [S1])) _ _ _ _
    obtain ⟨v5, S6, hq6, hG⟩ := x_bd2 hG
    refine e_invV (pc := 31) (K1 := 0) (S1 := 0) (K := 0) (S := 0) (dd2 := 1) (av := [x_i (x_add (x_add 16 (x_mul 8 a)) 2), x_i v3]) (st := []) (id := 16 * 32 + 0) dX12_change_31 xmX12_314 rfl (Or.inl ⟨10, 27, TX12, (sa_32_0 hs), rfl, by decide⟩) (f_cal (M := M) (us2 := [32]) [0] hn rfl (And.intro rfl trivial) rfl rfl rfl (c_X12_sets hst hs   hq6)) (by decide) (Nat.le_of_ble_eq_true rfl) (Or.inl rfl) ?_
    show Ev g _ _ _ _ _ _ 34 [some (x_r (16 * 32 + 0)), some (x_i a), some (x_i b), none] [x_i v5] (al, ro, fl (ml M [32] [S6])) _ _ _ _
    refine e_istoren (pc := 34) (i := 3) dX12_change_34 rfl (by decide) rfl ?_
    show Ev g _ _ _ _ _ _ 35 [some (x_r (16 * 32 + 0)), some (x_i a), some (x_i b), some (x_i v5)] [] (al, ro, fl (ml M [32] [S6])) _ _ _ _
    refine e_aloadn (pc := 35) (i := 0) dX12_change_35 rfl rfl ?_
    refine e_iloadn (pc := 36) (i := 2) dX12_change_36 rfl rfl ?_
    refine e_iconst (pc := 37) dX12_change_37 (x_R rfl) ?_
    refine e_iloadn (pc := 38) (i := 3) dX12_change_38 rfl rfl ?_
    obtain ⟨S8, hq8, hG⟩ := x_bd1 hG
    refine e_invV (pc := 39) (K1 := 0) (S1 := 0) (K := 0) (S := 0) (dd2 := 0) (av := [x_i b, x_i 2, x_i v5]) (st := []) (id := 16 * 32 + 0) dX12_change_39 xmX12_140 rfl (Or.inl ⟨10, 27, TX12, (sa_32_0 hs), rfl, by decide⟩) (f_cal (M := M) (us2 := [32]) [0] hn rfl (And.intro rfl trivial) rfl rfl rfl (c_X12_lays hst hs   hq8)) (by decide) (Nat.le_of_ble_eq_true rfl) (Or.inl rfl) ?_
    show Ev g _ _ _ _ _ _ 42 [some (x_r (16 * 32 + 0)), some (x_i a), some (x_i b), some (x_i v5)] [] (al, ro, fl (ml M [32] [S8])) _ _ _ _
    refine e_aloadn (pc := 42) (i := 0) dX12_change_42 rfl rfl ?_
    refine e_iloadn (pc := 43) (i := 1) dX12_change_43 rfl rfl ?_
    refine e_iconst (pc := 44) dX12_change_44 (x_R rfl) ?_
    obtain ⟨v10, hq10, hG⟩ := x_bd1 hG
    refine e_invV (pc := 45) (K1 := 0) (S1 := 0) (K := 0) (S := 0) (dd2 := 0) (av := [x_i a, x_i 2]) (st := []) (id := 16 * 32 + 0) dX12_change_45 xmX12_65 rfl (Or.inl ⟨10, 27, TX12, (sa_32_0 hs), rfl, by decide⟩) (f_cal (M := M) (us2 := [32]) [0] hn rfl (And.intro rfl trivial) rfl rfl rfl (c_X12_of hst hs   hq10)) (by decide) (Nat.le_of_ble_eq_true rfl) (Or.inl rfl) ?_
    show Ev g _ _ _ _ _ _ 48 [some (x_r (16 * 32 + 0)), some (x_i a), some (x_i b), some (x_i v5)] [x_i v10] (al, ro, fl (ml M [32] [S8])) _ _ _ _
    cases hG
    exact (e_ireturn rfl dX12_change_48 rfl)
  · rw [if_neg hb] at hG
    refine e_iconst (pc := 13) dX12_change_13 (x_R rfl) ?_
    cases hG
    exact (e_ireturn rfl dX12_change_14 rfl)
def G12_pace (a : Int) (b : Int) (S : xU) : Option (Int × xU) :=
  (x_b1 (G12_isMonk a S) fun (v1 : Int) => (x_b1 (if v1 = 0 then (some 1) else (x_b1 (G12_isIn b 0 8) fun (v5 : Int) => (if v5 = 0 then (some 2) else (some 0)))) fun (v3 : Int) => (x_b2 (if ((x_up S 0 0 v3) 0 0) ≤ 0 then (x_b2 (G12_sets (x_add (x_add 16 (x_mul 8 a)) 1) b (x_up S 0 0 v3)) fun (v10 : Int) (S11 : xU) => (some (v10, S11))) else (some (0, (x_up S 0 0 v3)))) fun (v7 : Int) (S8 : xU) => (some (v7, S8)))))
set_option maxRecDepth 100000 in
set_option maxHeartbeats 4000000 in
theorem c_X12_pace {g : xG} {al : List (Nat × Nat × Nat)} {ro : Nat → Nat → Option Nat} (hst : g.1.stackTraces = false) (hs : SH al ro) {M : Nat → xU} {a : Int} {b : Int} {S : xU} {t : (Int × xU)} (hG : G12_pace a b S = some t) :
    Cal g yX12_pace cX12_pace 3 (some .int) 2 [x_r (16 * 32 + 0), x_i a, x_i b] (al, ro, fl (ml M [32] [S])) 0 0 (.inl (some (x_i t.1))) (al, ro, fl (ml M [32] [t.2])) := by
  have hn : ([32] : List Nat).Nodup := by decide
  refine cal_of_ev (by decide) (x_c1 rfl) (Nat.le_of_ble_eq_true rfl) hst ?_
  show Ev g _ _ _ _ _ _ 0 [some (x_r (16 * 32 + 0)), some (x_i a), some (x_i b)] [] (al, ro, fl (ml M [32] [S])) _ _ _ _
  rw [G12_pace] at hG
  refine e_aloadn (pc := 0) (i := 0) dX12_pace_0 rfl rfl ?_
  refine e_aloadn (pc := 1) (i := 0) dX12_pace_1 rfl rfl ?_
  refine e_iloadn (pc := 2) (i := 1) dX12_pace_2 rfl rfl ?_
  obtain ⟨v1, hq1, hG⟩ := x_bd1 hG
  refine e_invV (pc := 3) (K1 := 0) (S1 := 0) (K := 0) (S := 0) (dd2 := 1) (av := [x_i a]) (st := [x_r (16 * 32 + 0)]) (id := 16 * 32 + 0) dX12_pace_3 xmX12_295 rfl (Or.inl ⟨10, 27, TX12, (sa_32_0 hs), rfl, by decide⟩) (f_cal (M := M) (us2 := [32]) [0] hn rfl (And.intro rfl trivial) rfl rfl rfl (c_X12_isMonk hst hs   hq1)) (by decide) (Nat.le_of_ble_eq_true rfl) (Or.inl rfl) ?_
  show Ev g _ _ _ _ _ _ 6 [some (x_r (16 * 32 + 0)), some (x_i a), some (x_i b)] [x_i v1, x_r (16 * 32 + 0)] (al, ro, fl (ml M [32] [S])) _ _ _ _
  obtain ⟨v3, hr3, hG⟩ := x_bd1 hG
  have hjhr3 : Ev g yX12_pace cX12_pace 3 (some .int) [] 2 28 [some (x_r (16 * 32 + 0)), some (x_i a), some (x_i b)] [x_i v3, x_r (16 * 32 + 0)] (al, ro, fl (ml M [32] [S])) 0 0 (.inl (some (x_i t.1))) (al, ro, fl (ml M [32] [t.2])) := by
    refine f_puti (pc := 28) (k := 0) (u := 32) (q := 0) dX12_pace_28 xf12_58 xw10_0 (sa_32_0 hs) hn rfl rfl rfl (by decide) ?_
    show Ev g _ _ _ _ _ _ 31 [some (x_r (16 * 32 + 0)), some (x_i a), some (x_i b)] [] (al, ro, fl (ml M [32] [(x_up S 0 0 v3)])) _ _ _ _
    refine e_aloadn (pc := 31) (i := 0) dX12_pace_31 rfl rfl ?_
    refine f_geti (pc := 32) (k := 0) (u := 32) (q := 0) dX12_pace_32 xf12_58 (sa_32_0 hs) rfl hn rfl rfl (by decide) ?_
    show Ev g _ _ _ _ _ _ 35 [some (x_r (16 * 32 + 0)), some (x_i a), some (x_i b)] [x_i ((x_up S 0 0 v3) 0 0)] (al, ro, fl (ml M [32] [(x_up S 0 0 v3)])) _ _ _ _
    obtain ⟨v7, S8, hr8, hG⟩ := x_bd2 hG
    have hjhr8 : Ev g yX12_pace cX12_pace 3 (some .int) [] 2 56 [some (x_r (16 * 32 + 0)), some (x_i a), some (x_i b)] [x_i v7] (al, ro, fl (ml M [32] [S8])) 0 0 (.inl (some (x_i t.1))) (al, ro, fl (ml M [32] [t.2])) := by
      cases hG
      exact (e_ireturn rfl dX12_pace_56 rfl)
    clear hG
    refine e_if_le (pc := 35) (tgt := 42) dX12_pace_35 (by decide) (fun hb => ?_) (fun hb => ?_)
    · rw [if_pos hb] at hr8
      refine e_aloadn (pc := 42) (i := 0) dX12_pace_42 rfl rfl ?_
      refine e_bipush (pc := 43) dX12_pace_43 (by decide +kernel) (x_R rfl) ?_
      refine e_bipush (pc := 45) dX12_pace_45 (by decide +kernel) (x_R rfl) ?_
      refine e_iloadn (pc := 47) (i := 1) dX12_pace_47 rfl rfl ?_
      refine e_imul (pc := 48) dX12_pace_48 ?_
      refine e_iadd (pc := 49) dX12_pace_49 ?_
      refine e_iconst (pc := 50) dX12_pace_50 (x_R rfl) ?_
      refine e_iadd (pc := 51) dX12_pace_51 ?_
      refine e_iloadn (pc := 52) (i := 2) dX12_pace_52 rfl rfl ?_
      obtain ⟨v10, S11, hq11, hr8⟩ := x_bd2 hr8
      refine e_invV (pc := 53) (K1 := 0) (S1 := 0) (K := 0) (S := 0) (dd2 := 1) (av := [x_i (x_add (x_add 16 (x_mul 8 a)) 1), x_i b]) (st := []) (id := 16 * 32 + 0) dX12_pace_53 xmX12_314 rfl (Or.inl ⟨10, 27, TX12, (sa_32_0 hs), rfl, by decide⟩) (f_cal (M := M) (us2 := [32]) [0] hn rfl (And.intro rfl trivial) rfl rfl rfl (c_X12_sets hst hs   hq11)) (by decide) (Nat.le_of_ble_eq_true rfl) (Or.inl rfl) ?_
      show Ev g _ _ _ _ _ _ 56 [some (x_r (16 * 32 + 0)), some (x_i a), some (x_i b)] [x_i v10] (al, ro, fl (ml M [32] [S11])) _ _ _ _
      cases hr8
      exact hjhr8
    · rw [if_neg hb] at hr8
      refine e_iconst (pc := 38) dX12_pace_38 (x_R rfl) ?_
      refine e_goto (pc := 39) (tgt := 56) dX12_pace_39 (by decide) ?_
      cases hr8
      exact hjhr8
  clear hG
  refine e_if_ne (pc := 6) (tgt := 13) dX12_pace_6 (by decide) (fun hb => ?_) (fun hb => ?_)
  · rw [if_neg hb] at hr3
    refine e_iloadn (pc := 13) (i := 2) dX12_pace_13 rfl rfl ?_
    refine e_iconst (pc := 14) dX12_pace_14 (x_R rfl) ?_
    refine e_bipush (pc := 15) dX12_pace_15 (by decide +kernel) (x_R rfl) ?_
    obtain ⟨v5, hq5, hr3⟩ := x_bd1 hr3
    refine e_invS (pc := 17) (K1 := 0) (S1 := 0) (K := 0) (S := 0) (dd2 := 0) (av := [x_i b, x_i 0, x_i 8]) (st := [x_r (16 * 32 + 0)]) dX12_pace_17 xmX12_61 rfl (f_cal (M := M) (us2 := []) [] hn rfl trivial rfl rfl rfl (c_X12_isIn hst hs   hq5)) (by decide) (Nat.le_of_ble_eq_true rfl) (Or.inl rfl) ?_
    show Ev g _ _ _ _ _ _ 20 [some (x_r (16 * 32 + 0)), some (x_i a), some (x_i b)] [x_i v5, x_r (16 * 32 + 0)] (al, ro, fl (ml M [32] [S])) _ _ _ _
    refine e_if_ne (pc := 20) (tgt := 27) dX12_pace_20 (by decide) (fun hb => ?_) (fun hb => ?_)
    · rw [if_neg hb] at hr3
      refine e_iconst (pc := 27) dX12_pace_27 (x_R rfl) ?_
      cases hr3
      exact hjhr3
    · rw [if_pos hb] at hr3
      refine e_iconst (pc := 23) dX12_pace_23 (x_R rfl) ?_
      refine e_goto (pc := 24) (tgt := 28) dX12_pace_24 (by decide) ?_
      cases hr3
      exact hjhr3
  · rw [if_pos hb] at hr3
    refine e_iconst (pc := 9) dX12_pace_9 (x_R rfl) ?_
    refine e_goto (pc := 10) (tgt := 28) dX12_pace_10 (by decide) ?_
    cases hr3
    exact hjhr3
def G12_fill (a : Int) (b : Int) (S : xU) : Option (Int × xU) :=
  (x_b1 (G12_isWalk a) fun (v1 : Int) => (x_b1 (if v1 = 0 then (some 1) else (x_b1 (G12_isIn b 1 99) fun (v5 : Int) => (if v5 = 0 then (some 2) else (some 0)))) fun (v3 : Int) => (if ((x_up S 0 0 v3) 0 0) ≤ 0 then (x_gd ((0 : Int) ≤ (x_add 12 a) ∧ (x_add 12 a) < 772) (x_b1 (G12_lesser 999 (x_add ((x_up S 0 0 v3) 1 ((x_add 12 a)).toNat) b)) fun (v7 : Int) => (x_b2 (G12_sets (x_add 12 a) v7 (x_up S 0 0 v3)) fun (v9 : Int) (S10 : xU) => (x_gd ((0 : Int) ≤ (x_add 12 a) ∧ (x_add 12 a) < 772) (some ((S10 1 ((x_add 12 a)).toNat), S10)))))) else (some (0, (x_up S 0 0 v3))))))
set_option maxRecDepth 100000 in
set_option maxHeartbeats 4000000 in
theorem c_X12_fill {g : xG} {al : List (Nat × Nat × Nat)} {ro : Nat → Nat → Option Nat} (hst : g.1.stackTraces = false) (hs : SH al ro) {M : Nat → xU} {a : Int} {b : Int} {S : xU} {t : (Int × xU)} (hG : G12_fill a b S = some t) :
    Cal g yX12_fill cX12_fill 4 (some .int) 2 [x_r (16 * 32 + 0), x_i a, x_i b] (al, ro, fl (ml M [32] [S])) 0 0 (.inl (some (x_i t.1))) (al, ro, fl (ml M [32] [t.2])) := by
  have hn : ([32] : List Nat).Nodup := by decide
  refine cal_of_ev (by decide) (x_c1 rfl) (Nat.le_of_ble_eq_true rfl) hst ?_
  show Ev g _ _ _ _ _ _ 0 [some (x_r (16 * 32 + 0)), some (x_i a), some (x_i b), none] [] (al, ro, fl (ml M [32] [S])) _ _ _ _
  rw [G12_fill] at hG
  refine e_aloadn (pc := 0) (i := 0) dX12_fill_0 rfl rfl ?_
  refine e_iloadn (pc := 1) (i := 1) dX12_fill_1 rfl rfl ?_
  obtain ⟨v1, hq1, hG⟩ := x_bd1 hG
  refine e_invS (pc := 2) (K1 := 0) (S1 := 0) (K := 0) (S := 0) (dd2 := 1) (av := [x_i a]) (st := [x_r (16 * 32 + 0)]) dX12_fill_2 xmX12_301 rfl (f_cal (M := M) (us2 := []) [] hn rfl trivial rfl rfl rfl (c_X12_isWalk hst hs   hq1)) (by decide) (Nat.le_of_ble_eq_true rfl) (Or.inl rfl) ?_
  show Ev g _ _ _ _ _ _ 5 [some (x_r (16 * 32 + 0)), some (x_i a), some (x_i b), none] [x_i v1, x_r (16 * 32 + 0)] (al, ro, fl (ml M [32] [S])) _ _ _ _
  obtain ⟨v3, hr3, hG⟩ := x_bd1 hG
  have hjhr3 : Ev g yX12_fill cX12_fill 4 (some .int) [] 2 27 [some (x_r (16 * 32 + 0)), some (x_i a), some (x_i b), none] [x_i v3, x_r (16 * 32 + 0)] (al, ro, fl (ml M [32] [S])) 0 0 (.inl (some (x_i t.1))) (al, ro, fl (ml M [32] [t.2])) := by
    refine f_puti (pc := 27) (k := 0) (u := 32) (q := 0) dX12_fill_27 xf12_58 xw10_0 (sa_32_0 hs) hn rfl rfl rfl (by decide) ?_
    show Ev g _ _ _ _ _ _ 30 [some (x_r (16 * 32 + 0)), some (x_i a), some (x_i b), none] [] (al, ro, fl (ml M [32] [(x_up S 0 0 v3)])) _ _ _ _
    refine e_aloadn (pc := 30) (i := 0) dX12_fill_30 rfl rfl ?_
    refine f_geti (pc := 31) (k := 0) (u := 32) (q := 0) dX12_fill_31 xf12_58 (sa_32_0 hs) rfl hn rfl rfl (by decide) ?_
    show Ev g _ _ _ _ _ _ 34 [some (x_r (16 * 32 + 0)), some (x_i a), some (x_i b), none] [x_i ((x_up S 0 0 v3) 0 0)] (al, ro, fl (ml M [32] [(x_up S 0 0 v3)])) _ _ _ _
    refine e_if_le (pc := 34) (tgt := 39) dX12_fill_34 (by decide) (fun hb => ?_) (fun hb => ?_)
    · rw [if_pos hb] at hG
      refine e_aloadn (pc := 39) (i := 0) dX12_fill_39 rfl rfl ?_
      refine e_bipush (pc := 40) dX12_fill_40 (by decide +kernel) (x_R rfl) ?_
      refine e_iloadn (pc := 42) (i := 1) dX12_fill_42 rfl rfl ?_
      refine e_iadd (pc := 43) dX12_fill_43 ?_
      refine e_sipush (pc := 44) dX12_fill_44 (by decide +kernel) (x_R rfl) ?_
      refine e_aloadn (pc := 47) (i := 0) dX12_fill_47 rfl rfl ?_
      refine f_getr (pc := 48) (u := 32) (q := 0) dX12_fill_48 xf12_7 (sa_32_0 hs) rfl (sr_32_0_1 hs) ?_
      refine e_bipush (pc := 51) dX12_fill_51 (by decide +kernel) (x_R rfl) ?_
      refine e_iloadn (pc := 53) (i := 1) dX12_fill_53 rfl rfl ?_
      refine e_iadd (pc := 54) dX12_fill_54 ?_
      obtain ⟨hc0, hG⟩ := x_gd_some hG
      refine f_iald (pc := 55) (k := 0) (u := 32) (q := 1) (len := 772) dX12_fill_55 (sa_32_1 hs) hc0 hn rfl rfl (by decide) ?_
      show Ev g _ _ _ _ _ _ 56 [some (x_r (16 * 32 + 0)), some (x_i a), some (x_i b), none] [x_i ((x_up S 0 0 v3) 1 ((x_add 12 a)).toNat), x_i 999, x_i (x_add 12 a), x_r (16 * 32 + 0)] (al, ro, fl (ml M [32] [(x_up S 0 0 v3)])) _ _ _ _
      refine e_iloadn (pc := 56) (i := 2) dX12_fill_56 rfl rfl ?_
      refine e_iadd (pc := 57) dX12_fill_57 ?_
      obtain ⟨v7, hq7, hG⟩ := x_bd1 hG
      refine e_invS (pc := 58) (K1 := 0) (S1 := 0) (K := 0) (S := 0) (dd2 := 0) (av := [x_i 999, x_i (x_add ((x_up S 0 0 v3) 1 ((x_add 12 a)).toNat) b)]) (st := [x_i (x_add 12 a), x_r (16 * 32 + 0)]) dX12_fill_58 xmX12_73 rfl (f_cal (M := M) (us2 := []) [] hn rfl trivial rfl rfl rfl (c_X12_lesser hst hs   hq7)) (by decide) (Nat.le_of_ble_eq_true rfl) (Or.inl rfl) ?_
      show Ev g _ _ _ _ _ _ 61 [some (x_r (16 * 32 + 0)), some (x_i a), some (x_i b), none] [x_i v7, x_i (x_add 12 a), x_r (16 * 32 + 0)] (al, ro, fl (ml M [32] [(x_up S 0 0 v3)])) _ _ _ _
      obtain ⟨v9, S10, hq10, hG⟩ := x_bd2 hG
      refine e_invV (pc := 61) (K1 := 0) (S1 := 0) (K := 0) (S := 0) (dd2 := 1) (av := [x_i (x_add 12 a), x_i v7]) (st := []) (id := 16 * 32 + 0) dX12_fill_61 xmX12_314 rfl (Or.inl ⟨10, 27, TX12, (sa_32_0 hs), rfl, by decide⟩) (f_cal (M := M) (us2 := [32]) [0] hn rfl (And.intro rfl trivial) rfl rfl rfl (c_X12_sets hst hs   hq10)) (by decide) (Nat.le_of_ble_eq_true rfl) (Or.inl rfl) ?_
      show Ev g _ _ _ _ _ _ 64 [some (x_r (16 * 32 + 0)), some (x_i a), some (x_i b), none] [x_i v9] (al, ro, fl (ml M [32] [S10])) _ _ _ _
      refine e_istoren (pc := 64) (i := 3) dX12_fill_64 rfl (by decide) rfl ?_
      show Ev g _ _ _ _ _ _ 65 [some (x_r (16 * 32 + 0)), some (x_i a), some (x_i b), some (x_i v9)] [] (al, ro, fl (ml M [32] [S10])) _ _ _ _
      refine e_aloadn (pc := 65) (i := 0) dX12_fill_65 rfl rfl ?_
      refine f_getr (pc := 66) (u := 32) (q := 0) dX12_fill_66 xf12_7 (sa_32_0 hs) rfl (sr_32_0_1 hs) ?_
      refine e_bipush (pc := 69) dX12_fill_69 (by decide +kernel) (x_R rfl) ?_
      refine e_iloadn (pc := 71) (i := 1) dX12_fill_71 rfl rfl ?_
      refine e_iadd (pc := 72) dX12_fill_72 ?_
      obtain ⟨hc0, hG⟩ := x_gd_some hG
      refine f_iald (pc := 73) (k := 0) (u := 32) (q := 1) (len := 772) dX12_fill_73 (sa_32_1 hs) hc0 hn rfl rfl (by decide) ?_
      show Ev g _ _ _ _ _ _ 74 [some (x_r (16 * 32 + 0)), some (x_i a), some (x_i b), some (x_i v9)] [x_i (S10 1 ((x_add 12 a)).toNat)] (al, ro, fl (ml M [32] [S10])) _ _ _ _
      cases hG
      exact (e_ireturn rfl dX12_fill_74 rfl)
    · rw [if_neg hb] at hG
      refine e_iconst (pc := 37) dX12_fill_37 (x_R rfl) ?_
      cases hG
      exact (e_ireturn rfl dX12_fill_38 rfl)
  clear hG
  refine e_if_ne (pc := 5) (tgt := 12) dX12_fill_5 (by decide) (fun hb => ?_) (fun hb => ?_)
  · rw [if_neg hb] at hr3
    refine e_iloadn (pc := 12) (i := 2) dX12_fill_12 rfl rfl ?_
    refine e_iconst (pc := 13) dX12_fill_13 (x_R rfl) ?_
    refine e_bipush (pc := 14) dX12_fill_14 (by decide +kernel) (x_R rfl) ?_
    obtain ⟨v5, hq5, hr3⟩ := x_bd1 hr3
    refine e_invS (pc := 16) (K1 := 0) (S1 := 0) (K := 0) (S := 0) (dd2 := 0) (av := [x_i b, x_i 1, x_i 99]) (st := [x_r (16 * 32 + 0)]) dX12_fill_16 xmX12_61 rfl (f_cal (M := M) (us2 := []) [] hn rfl trivial rfl rfl rfl (c_X12_isIn hst hs   hq5)) (by decide) (Nat.le_of_ble_eq_true rfl) (Or.inl rfl) ?_
    show Ev g _ _ _ _ _ _ 19 [some (x_r (16 * 32 + 0)), some (x_i a), some (x_i b), none] [x_i v5, x_r (16 * 32 + 0)] (al, ro, fl (ml M [32] [S])) _ _ _ _
    refine e_if_ne (pc := 19) (tgt := 26) dX12_fill_19 (by decide) (fun hb => ?_) (fun hb => ?_)
    · rw [if_neg hb] at hr3
      refine e_iconst (pc := 26) dX12_fill_26 (x_R rfl) ?_
      cases hr3
      exact hjhr3
    · rw [if_pos hb] at hr3
      refine e_iconst (pc := 22) dX12_fill_22 (x_R rfl) ?_
      refine e_goto (pc := 23) (tgt := 27) dX12_fill_23 (by decide) ?_
      cases hr3
      exact hjhr3
  · rw [if_pos hb] at hr3
    refine e_iconst (pc := 8) dX12_fill_8 (x_R rfl) ?_
    refine e_goto (pc := 9) (tgt := 27) dX12_fill_9 (by decide) ?_
    cases hr3
    exact hjhr3
def G12_find (a : Int) (S : xU) : Option (Int × xU) :=
  (x_b1 (G12_isMonk a S) fun (v1 : Int) => (x_b1 (if v1 = 0 then (some 1) else (some 0)) fun (v3 : Int) => (if ((x_up S 0 0 v3) 0 0) ≤ 0 then (x_b1 (G12_isLost a (x_up S 0 0 v3)) fun (v5 : Int) => (x_b1 (if v5 = 0 then (some 2) else (some 0)) fun (v7 : Int) => (x_b2 (if ((x_up (x_up S 0 0 v3) 0 0 v7) 0 0) ≤ 0 then (x_b2 (G12_sets (x_add (x_add 16 (x_mul 8 a)) 4) 0 (x_up (x_up S 0 0 v3) 0 0 v7)) fun (v12 : Int) (S13 : xU) => (some (v12, S13))) else (some (0, (x_up (x_up S 0 0 v3) 0 0 v7)))) fun (v9 : Int) (S10 : xU) => (some (v9, S10))))) else (some (0, (x_up S 0 0 v3))))))
set_option maxRecDepth 100000 in
set_option maxHeartbeats 4000000 in
theorem c_X12_find {g : xG} {al : List (Nat × Nat × Nat)} {ro : Nat → Nat → Option Nat} (hst : g.1.stackTraces = false) (hs : SH al ro) {M : Nat → xU} {a : Int} {S : xU} {t : (Int × xU)} (hG : G12_find a S = some t) :
    Cal g yX12_find cX12_find 2 (some .int) 2 [x_r (16 * 32 + 0), x_i a] (al, ro, fl (ml M [32] [S])) 0 0 (.inl (some (x_i t.1))) (al, ro, fl (ml M [32] [t.2])) := by
  have hn : ([32] : List Nat).Nodup := by decide
  refine cal_of_ev (by decide) (x_c1 rfl) (Nat.le_of_ble_eq_true rfl) hst ?_
  show Ev g _ _ _ _ _ _ 0 [some (x_r (16 * 32 + 0)), some (x_i a)] [] (al, ro, fl (ml M [32] [S])) _ _ _ _
  rw [G12_find] at hG
  refine e_aloadn (pc := 0) (i := 0) dX12_find_0 rfl rfl ?_
  refine e_aloadn (pc := 1) (i := 0) dX12_find_1 rfl rfl ?_
  refine e_iloadn (pc := 2) (i := 1) dX12_find_2 rfl rfl ?_
  obtain ⟨v1, hq1, hG⟩ := x_bd1 hG
  refine e_invV (pc := 3) (K1 := 0) (S1 := 0) (K := 0) (S := 0) (dd2 := 1) (av := [x_i a]) (st := [x_r (16 * 32 + 0)]) (id := 16 * 32 + 0) dX12_find_3 xmX12_295 rfl (Or.inl ⟨10, 27, TX12, (sa_32_0 hs), rfl, by decide⟩) (f_cal (M := M) (us2 := [32]) [0] hn rfl (And.intro rfl trivial) rfl rfl rfl (c_X12_isMonk hst hs   hq1)) (by decide) (Nat.le_of_ble_eq_true rfl) (Or.inl rfl) ?_
  show Ev g _ _ _ _ _ _ 6 [some (x_r (16 * 32 + 0)), some (x_i a)] [x_i v1, x_r (16 * 32 + 0)] (al, ro, fl (ml M [32] [S])) _ _ _ _
  obtain ⟨v3, hr3, hG⟩ := x_bd1 hG
  have hjhr3 : Ev g yX12_find cX12_find 2 (some .int) [] 2 14 [some (x_r (16 * 32 + 0)), some (x_i a)] [x_i v3, x_r (16 * 32 + 0)] (al, ro, fl (ml M [32] [S])) 0 0 (.inl (some (x_i t.1))) (al, ro, fl (ml M [32] [t.2])) := by
    refine f_puti (pc := 14) (k := 0) (u := 32) (q := 0) dX12_find_14 xf12_58 xw10_0 (sa_32_0 hs) hn rfl rfl rfl (by decide) ?_
    show Ev g _ _ _ _ _ _ 17 [some (x_r (16 * 32 + 0)), some (x_i a)] [] (al, ro, fl (ml M [32] [(x_up S 0 0 v3)])) _ _ _ _
    refine e_aloadn (pc := 17) (i := 0) dX12_find_17 rfl rfl ?_
    refine f_geti (pc := 18) (k := 0) (u := 32) (q := 0) dX12_find_18 xf12_58 (sa_32_0 hs) rfl hn rfl rfl (by decide) ?_
    show Ev g _ _ _ _ _ _ 21 [some (x_r (16 * 32 + 0)), some (x_i a)] [x_i ((x_up S 0 0 v3) 0 0)] (al, ro, fl (ml M [32] [(x_up S 0 0 v3)])) _ _ _ _
    refine e_if_le (pc := 21) (tgt := 26) dX12_find_21 (by decide) (fun hb => ?_) (fun hb => ?_)
    · rw [if_pos hb] at hG
      refine e_aloadn (pc := 26) (i := 0) dX12_find_26 rfl rfl ?_
      refine e_aloadn (pc := 27) (i := 0) dX12_find_27 rfl rfl ?_
      refine e_iloadn (pc := 28) (i := 1) dX12_find_28 rfl rfl ?_
      obtain ⟨v5, hq5, hG⟩ := x_bd1 hG
      refine e_invV (pc := 29) (K1 := 0) (S1 := 0) (K := 0) (S := 0) (dd2 := 1) (av := [x_i a]) (st := [x_r (16 * 32 + 0)]) (id := 16 * 32 + 0) dX12_find_29 xmX12_69 rfl (Or.inl ⟨10, 27, TX12, (sa_32_0 hs), rfl, by decide⟩) (f_cal (M := M) (us2 := [32]) [0] hn rfl (And.intro rfl trivial) rfl rfl rfl (c_X12_isLost hst hs   hq5)) (by decide) (Nat.le_of_ble_eq_true rfl) (Or.inl rfl) ?_
      show Ev g _ _ _ _ _ _ 32 [some (x_r (16 * 32 + 0)), some (x_i a)] [x_i v5, x_r (16 * 32 + 0)] (al, ro, fl (ml M [32] [(x_up S 0 0 v3)])) _ _ _ _
      obtain ⟨v7, hr7, hG⟩ := x_bd1 hG
      have hjhr7 : Ev g yX12_find cX12_find 2 (some .int) [] 2 40 [some (x_r (16 * 32 + 0)), some (x_i a)] [x_i v7, x_r (16 * 32 + 0)] (al, ro, fl (ml M [32] [(x_up S 0 0 v3)])) 0 0 (.inl (some (x_i t.1))) (al, ro, fl (ml M [32] [t.2])) := by
        refine f_puti (pc := 40) (k := 0) (u := 32) (q := 0) dX12_find_40 xf12_58 xw10_0 (sa_32_0 hs) hn rfl rfl rfl (by decide) ?_
        show Ev g _ _ _ _ _ _ 43 [some (x_r (16 * 32 + 0)), some (x_i a)] [] (al, ro, fl (ml M [32] [(x_up (x_up S 0 0 v3) 0 0 v7)])) _ _ _ _
        refine e_aloadn (pc := 43) (i := 0) dX12_find_43 rfl rfl ?_
        refine f_geti (pc := 44) (k := 0) (u := 32) (q := 0) dX12_find_44 xf12_58 (sa_32_0 hs) rfl hn rfl rfl (by decide) ?_
        show Ev g _ _ _ _ _ _ 47 [some (x_r (16 * 32 + 0)), some (x_i a)] [x_i ((x_up (x_up S 0 0 v3) 0 0 v7) 0 0)] (al, ro, fl (ml M [32] [(x_up (x_up S 0 0 v3) 0 0 v7)])) _ _ _ _
        obtain ⟨v9, S10, hr10, hG⟩ := x_bd2 hG
        have hjhr10 : Ev g yX12_find cX12_find 2 (some .int) [] 2 68 [some (x_r (16 * 32 + 0)), some (x_i a)] [x_i v9] (al, ro, fl (ml M [32] [S10])) 0 0 (.inl (some (x_i t.1))) (al, ro, fl (ml M [32] [t.2])) := by
          cases hG
          exact (e_ireturn rfl dX12_find_68 rfl)
        clear hG
        refine e_if_le (pc := 47) (tgt := 54) dX12_find_47 (by decide) (fun hb => ?_) (fun hb => ?_)
        · rw [if_pos hb] at hr10
          refine e_aloadn (pc := 54) (i := 0) dX12_find_54 rfl rfl ?_
          refine e_bipush (pc := 55) dX12_find_55 (by decide +kernel) (x_R rfl) ?_
          refine e_bipush (pc := 57) dX12_find_57 (by decide +kernel) (x_R rfl) ?_
          refine e_iloadn (pc := 59) (i := 1) dX12_find_59 rfl rfl ?_
          refine e_imul (pc := 60) dX12_find_60 ?_
          refine e_iadd (pc := 61) dX12_find_61 ?_
          refine e_iconst (pc := 62) dX12_find_62 (x_R rfl) ?_
          refine e_iadd (pc := 63) dX12_find_63 ?_
          refine e_iconst (pc := 64) dX12_find_64 (x_R rfl) ?_
          obtain ⟨v12, S13, hq13, hr10⟩ := x_bd2 hr10
          refine e_invV (pc := 65) (K1 := 0) (S1 := 0) (K := 0) (S := 0) (dd2 := 1) (av := [x_i (x_add (x_add 16 (x_mul 8 a)) 4), x_i 0]) (st := []) (id := 16 * 32 + 0) dX12_find_65 xmX12_314 rfl (Or.inl ⟨10, 27, TX12, (sa_32_0 hs), rfl, by decide⟩) (f_cal (M := M) (us2 := [32]) [0] hn rfl (And.intro rfl trivial) rfl rfl rfl (c_X12_sets hst hs   hq13)) (by decide) (Nat.le_of_ble_eq_true rfl) (Or.inl rfl) ?_
          show Ev g _ _ _ _ _ _ 68 [some (x_r (16 * 32 + 0)), some (x_i a)] [x_i v12] (al, ro, fl (ml M [32] [S13])) _ _ _ _
          cases hr10
          exact hjhr10
        · rw [if_neg hb] at hr10
          refine e_iconst (pc := 50) dX12_find_50 (x_R rfl) ?_
          refine e_goto (pc := 51) (tgt := 68) dX12_find_51 (by decide) ?_
          cases hr10
          exact hjhr10
      clear hG
      refine e_if_ne (pc := 32) (tgt := 39) dX12_find_32 (by decide) (fun hb => ?_) (fun hb => ?_)
      · rw [if_neg hb] at hr7
        refine e_iconst (pc := 39) dX12_find_39 (x_R rfl) ?_
        cases hr7
        exact hjhr7
      · rw [if_pos hb] at hr7
        refine e_iconst (pc := 35) dX12_find_35 (x_R rfl) ?_
        refine e_goto (pc := 36) (tgt := 40) dX12_find_36 (by decide) ?_
        cases hr7
        exact hjhr7
    · rw [if_neg hb] at hG
      refine e_iconst (pc := 24) dX12_find_24 (x_R rfl) ?_
      cases hG
      exact (e_ireturn rfl dX12_find_25 rfl)
  clear hG
  refine e_if_ne (pc := 6) (tgt := 13) dX12_find_6 (by decide) (fun hb => ?_) (fun hb => ?_)
  · rw [if_neg hb] at hr3
    refine e_iconst (pc := 13) dX12_find_13 (x_R rfl) ?_
    cases hr3
    exact hjhr3
  · rw [if_pos hb] at hr3
    refine e_iconst (pc := 9) dX12_find_9 (x_R rfl) ?_
    refine e_goto (pc := 10) (tgt := 14) dX12_find_10 (by decide) ?_
    cases hr3
    exact hjhr3
def G12_choir_L9 (S : xU) : (Int × Int) → Option ((Int × Int) ⊕ Int)
  | (v1, v2) => (if ((x_up S 0 0 0) 1 3) ≤ v2 then (some (.inr v1)) else (x_b1 (G12_inChoir v2 (x_up S 0 0 0)) fun (v6 : Int) => (x_b1 (if v6 = 0 then (some 0) else (some (x_shl 1 v2))) fun (v8 : Int) => (some (.inl ((x_or v1 v8), (x_add v2 1)))))))
def G12_choir (S : xU) : Option (Int × xU) :=
  (x_b1 (whl xFU (G12_choir_L9 S) (0, 0)) fun (v3 : Int) => (some (v3, (x_up S 0 0 0))))
set_option maxRecDepth 100000 in
set_option maxHeartbeats 4000000 in
theorem c_X12_choir {g : xG} {al : List (Nat × Nat × Nat)} {ro : Nat → Nat → Option Nat} (hst : g.1.stackTraces = false) (hs : SH al ro) {M : Nat → xU} {S : xU} {t : (Int × xU)} (hG : G12_choir S = some t) :
    Cal g yX12_choir cX12_choir 3 (some .int) 3 [x_r (16 * 32 + 0)] (al, ro, fl (ml M [32] [S])) 0 0 (.inl (some (x_i t.1))) (al, ro, fl (ml M [32] [t.2])) := by
  have hn : ([32] : List Nat).Nodup := by decide
  refine cal_of_ev (by decide) (x_c1 rfl) (Nat.le_of_ble_eq_true rfl) hst ?_
  show Ev g _ _ _ _ _ _ 0 [some (x_r (16 * 32 + 0)), none, none] [] (al, ro, fl (ml M [32] [S])) _ _ _ _
  rw [G12_choir] at hG
  refine e_aloadn (pc := 0) (i := 0) dX12_choir_0 rfl rfl ?_
  refine e_iconst (pc := 1) dX12_choir_1 (x_R rfl) ?_
  refine f_puti (pc := 2) (k := 0) (u := 32) (q := 0) dX12_choir_2 xf12_58 xw10_0 (sa_32_0 hs) hn rfl rfl rfl (by decide) ?_
  show Ev g _ _ _ _ _ _ 5 [some (x_r (16 * 32 + 0)), none, none] [] (al, ro, fl (ml M [32] [(x_up S 0 0 0)])) _ _ _ _
  refine e_iconst (pc := 5) dX12_choir_5 (x_R rfl) ?_
  refine e_istoren (pc := 6) (i := 1) dX12_choir_6 rfl (by decide) rfl ?_
  show Ev g _ _ _ _ _ _ 7 [some (x_r (16 * 32 + 0)), some (x_i 0), none] [] (al, ro, fl (ml M [32] [(x_up S 0 0 0)])) _ _ _ _
  refine e_iconst (pc := 7) dX12_choir_7 (x_R rfl) ?_
  refine e_istoren (pc := 8) (i := 2) dX12_choir_8 rfl (by decide) rfl ?_
  show Ev g _ _ _ _ _ _ 9 [some (x_r (16 * 32 + 0)), some (x_i 0), some (x_i 0)] [] (al, ro, fl (ml M [32] [(x_up S 0 0 0)])) _ _ _ _
  obtain ⟨v3, hl4, hG⟩ := x_bd1 hG
  have hk4 : ∀ q : Int, q = v3 → Ev g yX12_choir cX12_choir 3 (some .int) [] 3 43 [some (x_r (16 * 32 + 0)), some (x_i q), none] [] (al, ro, fl (ml M [32] [(x_up S 0 0 0)])) 0 0 (.inl (some (x_i t.1))) (al, ro, fl (ml M [32] [t.2])) := by
    intro q hq
    replace hq := hq.symm
    subst hq
    refine e_iloadn (pc := 43) (i := 1) dX12_choir_43 rfl rfl ?_
    cases hG
    exact (e_ireturn rfl dX12_choir_44 rfl)
  clear hG
  refine e_whl (G12_choir_L9 S) (fun z : (Int × Int) => Ev g yX12_choir cX12_choir 3 (some .int) [] 3 9 [some (x_r (16 * 32 + 0)), some (x_i z.1), some (x_i z.2)] [] (al, ro, fl (ml M [32] [(x_up S 0 0 0)])) 0 0 (.inl (some (x_i t.1))) (al, ro, fl (ml M [32] [t.2]))) (fun q => q = v3) ?_ xFU (0, 0) _ hl4 rfl
  intro z t4 hf4 hi4 hx4
  obtain ⟨v1, v2⟩ := z
  rw [G12_choir_L9] at hf4
  show Ev g _ _ _ _ _ _ 9 [some (x_r (16 * 32 + 0)), some (x_i v1), some (x_i v2)] [] (al, ro, fl (ml M [32] [(x_up S 0 0 0)])) _ _ _ _
  refine e_iloadn (pc := 9) (i := 2) dX12_choir_9 rfl rfl ?_
  refine e_aloadn (pc := 10) (i := 0) dX12_choir_10 rfl rfl ?_
  refine f_getr (pc := 11) (u := 32) (q := 0) dX12_choir_11 xf12_7 (sa_32_0 hs) rfl (sr_32_0_1 hs) ?_
  refine e_iconst (pc := 14) dX12_choir_14 (x_R rfl) ?_
  refine f_iald (pc := 15) (k := 0) (u := 32) (q := 1) (len := 772) dX12_choir_15 (sa_32_1 hs) (by decide) hn rfl rfl (by decide) ?_
  show Ev g _ _ _ _ _ _ 16 [some (x_r (16 * 32 + 0)), some (x_i v1), some (x_i v2)] [x_i ((x_up S 0 0 0) 1 3), x_i v2] (al, ro, fl (ml M [32] [(x_up S 0 0 0)])) _ _ _ _
  refine e_icmp_ge (pc := 16) (tgt := 43) dX12_choir_16 (by decide) (fun hb => ?_) (fun hb => ?_)
  · rw [if_pos hb] at hf4
    cases hf4
    refine e_drop (i := 2) ?_
    exact hk4 _ (hx4 _ rfl)
  · rw [if_neg hb] at hf4
    refine e_iloadn (pc := 19) (i := 1) dX12_choir_19 rfl rfl ?_
    refine e_aloadn (pc := 20) (i := 0) dX12_choir_20 rfl rfl ?_
    refine e_iloadn (pc := 21) (i := 2) dX12_choir_21 rfl rfl ?_
    obtain ⟨v6, hq6, hf4⟩ := x_bd1 hf4
    refine e_invV (pc := 22) (K1 := 0) (S1 := 0) (K := 0) (S := 0) (dd2 := 2) (av := [x_i v2]) (st := [x_i v1]) (id := 16 * 32 + 0) dX12_choir_22 xmX12_277 rfl (Or.inl ⟨10, 27, TX12, (sa_32_0 hs), rfl, by decide⟩) (f_cal (M := M) (us2 := [32]) [0] hn rfl (And.intro rfl trivial) rfl rfl rfl (c_X12_inChoir hst hs   hq6)) (by decide) (Nat.le_of_ble_eq_true rfl) (Or.inl rfl) ?_
    show Ev g _ _ _ _ _ _ 25 [some (x_r (16 * 32 + 0)), some (x_i v1), some (x_i v2)] [x_i v6, x_i v1] (al, ro, fl (ml M [32] [(x_up S 0 0 0)])) _ _ _ _
    obtain ⟨v8, hr8, hf4⟩ := x_bd1 hf4
    have hjhr8 : Ev g yX12_choir cX12_choir 3 (some .int) [] 3 35 [some (x_r (16 * 32 + 0)), some (x_i v1), some (x_i v2)] [x_i v8, x_i v1] (al, ro, fl (ml M [32] [(x_up S 0 0 0)])) 0 0 (.inl (some (x_i t.1))) (al, ro, fl (ml M [32] [t.2])) := by
      refine e_ior (pc := 35) dX12_choir_35 ?_
      refine e_istoren (pc := 36) (i := 1) dX12_choir_36 rfl (by decide) rfl ?_
      show Ev g _ _ _ _ _ _ 37 [some (x_r (16 * 32 + 0)), some (x_i (x_or v1 v8)), some (x_i v2)] [] (al, ro, fl (ml M [32] [(x_up S 0 0 0)])) _ _ _ _
      refine e_iinc (pc := 37) dX12_choir_37 rfl (by decide) rfl ?_
      show Ev g _ _ _ _ _ _ 40 [some (x_r (16 * 32 + 0)), some (x_i (x_or v1 v8)), some (x_i (x_add v2 1))] [] (al, ro, fl (ml M [32] [(x_up S 0 0 0)])) _ _ _ _
      refine e_goto (pc := 40) (tgt := 9) dX12_choir_40 (by decide) ?_
      cases hf4
      exact hi4 _ rfl
    clear hf4
    refine e_if_eq (pc := 25) (tgt := 34) dX12_choir_25 (by decide) (fun hb => ?_) (fun hb => ?_)
    · rw [if_pos hb] at hr8
      refine e_iconst (pc := 34) dX12_choir_34 (x_R rfl) ?_
      cases hr8
      exact hjhr8
    · rw [if_neg hb] at hr8
      refine e_iconst (pc := 28) dX12_choir_28 (x_R rfl) ?_
      refine e_iloadn (pc := 29) (i := 2) dX12_choir_29 rfl rfl ?_
      refine e_ishl (pc := 30) dX12_choir_30 ?_
      refine e_goto (pc := 31) (tgt := 35) dX12_choir_31 (by decide) ?_
      cases hr8
      exact hjhr8
def G12_farOf (a : Int) (b : Int) (S : xU) : Option Int :=
  (x_b1 (G12_steps a b) fun (v1 : Int) => (x_b1 (G12_greater 1 (S 1 9)) fun (v3 : Int) => (x_b1 (G12_steps (x_rem (x_add a 8) 16) b) fun (v5 : Int) => (x_b1 (G12_lesser v1 (x_add v3 v5)) fun (v7 : Int) => (some v7)))))
set_option maxRecDepth 100000 in
set_option maxHeartbeats 4000000 in
theorem c_X12_farOf {g : xG} {al : List (Nat × Nat × Nat)} {ro : Nat → Nat → Option Nat} (hst : g.1.stackTraces = false) (hs : SH al ro) {M : Nat → xU} {a : Int} {b : Int} {S : xU} {t : Int} (hG : G12_farOf a b S = some t) :
    Cal g yX12_farOf cX12_farOf 3 (some .int) 2 [x_r (16 * 32 + 0), x_i a, x_i b] (al, ro, fl (ml M [32] [S])) 0 0 (.inl (some (x_i t))) (al, ro, fl (ml M [32] [S])) := by
  have hn : ([32] : List Nat).Nodup := by decide
  refine cal_of_ev (by decide) (x_c1 rfl) (Nat.le_of_ble_eq_true rfl) hst ?_
  show Ev g _ _ _ _ _ _ 0 [some (x_r (16 * 32 + 0)), some (x_i a), some (x_i b)] [] (al, ro, fl (ml M [32] [S])) _ _ _ _
  rw [G12_farOf] at hG
  refine e_iloadn (pc := 0) (i := 1) dX12_farOf_0 rfl rfl ?_
  refine e_iloadn (pc := 1) (i := 2) dX12_farOf_1 rfl rfl ?_
  obtain ⟨v1, hq1, hG⟩ := x_bd1 hG
  refine e_invS (pc := 2) (K1 := 0) (S1 := 0) (K := 0) (S := 0) (dd2 := 1) (av := [x_i a, x_i b]) (st := []) dX12_farOf_2 xmX12_331 rfl (f_cal (M := M) (us2 := []) [] hn rfl trivial rfl rfl rfl (c_X12_steps hst hs   hq1)) (by decide) (Nat.le_of_ble_eq_true rfl) (Or.inl rfl) ?_
  show Ev g _ _ _ _ _ _ 5 [some (x_r (16 * 32 + 0)), some (x_i a), some (x_i b)] [x_i v1] (al, ro, fl (ml M [32] [S])) _ _ _ _
  refine e_iconst (pc := 5) dX12_farOf_5 (x_R rfl) ?_
  refine e_aloadn (pc := 6) (i := 0) dX12_farOf_6 rfl rfl ?_
  refine f_getr (pc := 7) (u := 32) (q := 0) dX12_farOf_7 xf12_7 (sa_32_0 hs) rfl (sr_32_0_1 hs) ?_
  refine e_bipush (pc := 10) dX12_farOf_10 (by decide +kernel) (x_R rfl) ?_
  refine f_iald (pc := 12) (k := 0) (u := 32) (q := 1) (len := 772) dX12_farOf_12 (sa_32_1 hs) (by decide) hn rfl rfl (by decide) ?_
  show Ev g _ _ _ _ _ _ 13 [some (x_r (16 * 32 + 0)), some (x_i a), some (x_i b)] [x_i (S 1 9), x_i 1, x_i v1] (al, ro, fl (ml M [32] [S])) _ _ _ _
  obtain ⟨v3, hq3, hG⟩ := x_bd1 hG
  refine e_invS (pc := 13) (K1 := 0) (S1 := 0) (K := 0) (S := 0) (dd2 := 0) (av := [x_i 1, x_i (S 1 9)]) (st := [x_i v1]) dX12_farOf_13 xmX12_266 rfl (f_cal (M := M) (us2 := []) [] hn rfl trivial rfl rfl rfl (c_X12_greater hst hs   hq3)) (by decide) (Nat.le_of_ble_eq_true rfl) (Or.inl rfl) ?_
  show Ev g _ _ _ _ _ _ 16 [some (x_r (16 * 32 + 0)), some (x_i a), some (x_i b)] [x_i v3, x_i v1] (al, ro, fl (ml M [32] [S])) _ _ _ _
  refine e_iloadn (pc := 16) (i := 1) dX12_farOf_16 rfl rfl ?_
  refine e_bipush (pc := 17) dX12_farOf_17 (by decide +kernel) (x_R rfl) ?_
  refine e_iadd (pc := 19) dX12_farOf_19 ?_
  refine e_bipush (pc := 20) dX12_farOf_20 (by decide +kernel) (x_R rfl) ?_
  refine e_irem (pc := 22) dX12_farOf_22 (by decide) ?_
  refine e_iloadn (pc := 23) (i := 2) dX12_farOf_23 rfl rfl ?_
  obtain ⟨v5, hq5, hG⟩ := x_bd1 hG
  refine e_invS (pc := 24) (K1 := 0) (S1 := 0) (K := 0) (S := 0) (dd2 := 1) (av := [x_i (x_rem (x_add a 8) 16), x_i b]) (st := [x_i v3, x_i v1]) dX12_farOf_24 xmX12_331 rfl (f_cal (M := M) (us2 := []) [] hn rfl trivial rfl rfl rfl (c_X12_steps hst hs   hq5)) (by decide) (Nat.le_of_ble_eq_true rfl) (Or.inl rfl) ?_
  show Ev g _ _ _ _ _ _ 27 [some (x_r (16 * 32 + 0)), some (x_i a), some (x_i b)] [x_i v5, x_i v3, x_i v1] (al, ro, fl (ml M [32] [S])) _ _ _ _
  refine e_iadd (pc := 27) dX12_farOf_27 ?_
  obtain ⟨v7, hq7, hG⟩ := x_bd1 hG
  refine e_invS (pc := 28) (K1 := 0) (S1 := 0) (K := 0) (S := 0) (dd2 := 0) (av := [x_i v1, x_i (x_add v3 v5)]) (st := []) dX12_farOf_28 xmX12_73 rfl (f_cal (M := M) (us2 := []) [] hn rfl trivial rfl rfl rfl (c_X12_lesser hst hs   hq7)) (by decide) (Nat.le_of_ble_eq_true rfl) (Or.inl rfl) ?_
  show Ev g _ _ _ _ _ _ 31 [some (x_r (16 * 32 + 0)), some (x_i a), some (x_i b)] [x_i v7] (al, ro, fl (ml M [32] [S])) _ _ _ _
  cases hG
  exact (e_ireturn rfl dX12_farOf_31 rfl)
def G12_far (a : Int) (b : Int) (S : xU) : Option (Int × xU) :=
  (x_b1 (G12_isFlag a) fun (v1 : Int) => (x_b1 (if v1 = 0 then (some 1) else (x_b1 (G12_isFlag b) fun (v5 : Int) => (if v5 = 0 then (some 1) else (some 0)))) fun (v3 : Int) => (x_b1 (if ((x_up S 0 0 v3) 0 0) ≤ 0 then (x_b1 (G12_farOf a b (x_up S 0 0 v3)) fun (v9 : Int) => (some v9)) else (some 0)) fun (v7 : Int) => (some (v7, (x_up S 0 0 v3))))))
set_option maxRecDepth 100000 in
set_option maxHeartbeats 4000000 in
theorem c_X12_far {g : xG} {al : List (Nat × Nat × Nat)} {ro : Nat → Nat → Option Nat} (hst : g.1.stackTraces = false) (hs : SH al ro) {M : Nat → xU} {a : Int} {b : Int} {S : xU} {t : (Int × xU)} (hG : G12_far a b S = some t) :
    Cal g yX12_far cX12_far 3 (some .int) 3 [x_r (16 * 32 + 0), x_i a, x_i b] (al, ro, fl (ml M [32] [S])) 0 0 (.inl (some (x_i t.1))) (al, ro, fl (ml M [32] [t.2])) := by
  have hn : ([32] : List Nat).Nodup := by decide
  refine cal_of_ev (by decide) (x_c1 rfl) (Nat.le_of_ble_eq_true rfl) hst ?_
  show Ev g _ _ _ _ _ _ 0 [some (x_r (16 * 32 + 0)), some (x_i a), some (x_i b)] [] (al, ro, fl (ml M [32] [S])) _ _ _ _
  rw [G12_far] at hG
  refine e_aloadn (pc := 0) (i := 0) dX12_far_0 rfl rfl ?_
  refine e_iloadn (pc := 1) (i := 1) dX12_far_1 rfl rfl ?_
  obtain ⟨v1, hq1, hG⟩ := x_bd1 hG
  refine e_invS (pc := 2) (K1 := 0) (S1 := 0) (K := 0) (S := 0) (dd2 := 1) (av := [x_i a]) (st := [x_r (16 * 32 + 0)]) dX12_far_2 xmX12_304 rfl (f_cal (M := M) (us2 := []) [] hn rfl trivial rfl rfl rfl (c_X12_isFlag hst hs   hq1)) (by decide) (Nat.le_of_ble_eq_true rfl) (Or.inl rfl) ?_
  show Ev g _ _ _ _ _ _ 5 [some (x_r (16 * 32 + 0)), some (x_i a), some (x_i b)] [x_i v1, x_r (16 * 32 + 0)] (al, ro, fl (ml M [32] [S])) _ _ _ _
  obtain ⟨v3, hr3, hG⟩ := x_bd1 hG
  have hjhr3 : Ev g yX12_far cX12_far 3 (some .int) [] 3 20 [some (x_r (16 * 32 + 0)), some (x_i a), some (x_i b)] [x_i v3, x_r (16 * 32 + 0)] (al, ro, fl (ml M [32] [S])) 0 0 (.inl (some (x_i t.1))) (al, ro, fl (ml M [32] [t.2])) := by
    refine f_puti (pc := 20) (k := 0) (u := 32) (q := 0) dX12_far_20 xf12_58 xw10_0 (sa_32_0 hs) hn rfl rfl rfl (by decide) ?_
    show Ev g _ _ _ _ _ _ 23 [some (x_r (16 * 32 + 0)), some (x_i a), some (x_i b)] [] (al, ro, fl (ml M [32] [(x_up S 0 0 v3)])) _ _ _ _
    refine e_aloadn (pc := 23) (i := 0) dX12_far_23 rfl rfl ?_
    refine f_geti (pc := 24) (k := 0) (u := 32) (q := 0) dX12_far_24 xf12_58 (sa_32_0 hs) rfl hn rfl rfl (by decide) ?_
    show Ev g _ _ _ _ _ _ 27 [some (x_r (16 * 32 + 0)), some (x_i a), some (x_i b)] [x_i ((x_up S 0 0 v3) 0 0)] (al, ro, fl (ml M [32] [(x_up S 0 0 v3)])) _ _ _ _
    obtain ⟨v7, hr7, hG⟩ := x_bd1 hG
    have hjhr7 : Ev g yX12_far cX12_far 3 (some .int) [] 3 40 [some (x_r (16 * 32 + 0)), some (x_i a), some (x_i b)] [x_i v7] (al, ro, fl (ml M [32] [(x_up S 0 0 v3)])) 0 0 (.inl (some (x_i t.1))) (al, ro, fl (ml M [32] [t.2])) := by
      cases hG
      exact (e_ireturn rfl dX12_far_40 rfl)
    clear hG
    refine e_if_le (pc := 27) (tgt := 34) dX12_far_27 (by decide) (fun hb => ?_) (fun hb => ?_)
    · rw [if_pos hb] at hr7
      refine e_aloadn (pc := 34) (i := 0) dX12_far_34 rfl rfl ?_
      refine e_iloadn (pc := 35) (i := 1) dX12_far_35 rfl rfl ?_
      refine e_iloadn (pc := 36) (i := 2) dX12_far_36 rfl rfl ?_
      obtain ⟨v9, hq9, hr7⟩ := x_bd1 hr7
      refine e_invV (pc := 37) (K1 := 0) (S1 := 0) (K := 0) (S := 0) (dd2 := 2) (av := [x_i a, x_i b]) (st := []) (id := 16 * 32 + 0) dX12_far_37 xmX12_334 rfl (Or.inl ⟨10, 27, TX12, (sa_32_0 hs), rfl, by decide⟩) (f_cal (M := M) (us2 := [32]) [0] hn rfl (And.intro rfl trivial) rfl rfl rfl (c_X12_farOf hst hs   hq9)) (by decide) (Nat.le_of_ble_eq_true rfl) (Or.inl rfl) ?_
      show Ev g _ _ _ _ _ _ 40 [some (x_r (16 * 32 + 0)), some (x_i a), some (x_i b)] [x_i v9] (al, ro, fl (ml M [32] [(x_up S 0 0 v3)])) _ _ _ _
      cases hr7
      exact hjhr7
    · rw [if_neg hb] at hr7
      refine e_iconst (pc := 30) dX12_far_30 (x_R rfl) ?_
      refine e_goto (pc := 31) (tgt := 40) dX12_far_31 (by decide) ?_
      cases hr7
      exact hjhr7
  clear hG
  refine e_if_eq (pc := 5) (tgt := 15) dX12_far_5 (by decide) (fun hb => ?_) (fun hb => ?_)
  · rw [if_pos hb] at hr3
    refine e_iconst (pc := 15) dX12_far_15 (x_R rfl) ?_
    refine e_goto (pc := 16) (tgt := 20) dX12_far_16 (by decide) ?_
    cases hr3
    exact hjhr3
  · rw [if_neg hb] at hr3
    refine e_iloadn (pc := 8) (i := 2) dX12_far_8 rfl rfl ?_
    obtain ⟨v5, hq5, hr3⟩ := x_bd1 hr3
    refine e_invS (pc := 9) (K1 := 0) (S1 := 0) (K := 0) (S := 0) (dd2 := 1) (av := [x_i b]) (st := [x_r (16 * 32 + 0)]) dX12_far_9 xmX12_304 rfl (f_cal (M := M) (us2 := []) [] hn rfl trivial rfl rfl rfl (c_X12_isFlag hst hs   hq5)) (by decide) (Nat.le_of_ble_eq_true rfl) (Or.inl rfl) ?_
    show Ev g _ _ _ _ _ _ 12 [some (x_r (16 * 32 + 0)), some (x_i a), some (x_i b)] [x_i v5, x_r (16 * 32 + 0)] (al, ro, fl (ml M [32] [S])) _ _ _ _
    refine e_if_ne (pc := 12) (tgt := 19) dX12_far_12 (by decide) (fun hb => ?_) (fun hb => ?_)
    · rw [if_neg hb] at hr3
      refine e_iconst (pc := 19) dX12_far_19 (x_R rfl) ?_
      cases hr3
      exact hjhr3
    · rw [if_pos hb] at hr3
      refine e_iconst (pc := 15) dX12_far_15 (x_R rfl) ?_
      refine e_goto (pc := 16) (tgt := 20) dX12_far_16 (by decide) ?_
      cases hr3
      exact hjhr3
def G12_areFlags_L17 (a : Int) (S : xU) : (Int × Int × Int) → Option ((Int × Int × Int) ⊕ Int)
  | (v3, v4, v5) => (if a ≤ v5 then (some (.inr v3)) else (if v3 = 0 then (some (.inr v3)) else (x_gd ((0 : Int) ≤ v5 ∧ v5 < 400) (x_b1 (if 16 ≤ (S 5 (v5).toNat) then (some 0) else (x_gd ((0 : Int) ≤ v5 ∧ v5 < 400) (x_b1 (G12_isOf v4 (S 5 (v5).toNat)) fun (v11 : Int) => (if v11 = 0 then (some 1) else (some 0))))) fun (v9 : Int) => (x_b1 (if v9 = 0 then (some 0) else (x_gd ((0 : Int) ≤ v5 ∧ v5 < 400) (some (x_shl 1 (S 5 (v5).toNat))))) fun (v13 : Int) => (some (.inl (v9, (x_or v4 v13), (x_add v5 1)))))))))
def G12_areFlags (a : Int) (S : xU) : Option Int :=
  (x_b1 (if 7 < a then (some 0) else (some 1)) fun (v1 : Int) => (x_b1 (whl xFU (G12_areFlags_L17 a S) (v1, 0, 0)) fun (v6 : Int) => (x_gd (v6 = 0 ∨ v6 = 1) (some v6))))
set_option maxRecDepth 100000 in
set_option maxHeartbeats 4000000 in
theorem c_X12_areFlags {g : xG} {al : List (Nat × Nat × Nat)} {ro : Nat → Nat → Option Nat} (hst : g.1.stackTraces = false) (hs : SH al ro) {M : Nat → xU} {a : Int} {S : xU} {t : Int} (hG : G12_areFlags a S = some t) :
    Cal g yX12_areFlags cX12_areFlags 5 (some .boolean) 1 [x_r (16 * 32 + 0), x_i a] (al, ro, fl (ml M [32] [S])) 0 0 (.inl (some (x_i t))) (al, ro, fl (ml M [32] [S])) := by
  have hn : ([32] : List Nat).Nodup := by decide
  refine cal_of_ev (by decide) (x_c1 rfl) (Nat.le_of_ble_eq_true rfl) hst ?_
  show Ev g _ _ _ _ _ _ 0 [some (x_r (16 * 32 + 0)), some (x_i a), none, none, none] [] (al, ro, fl (ml M [32] [S])) _ _ _ _
  rw [G12_areFlags] at hG
  refine e_iloadn (pc := 0) (i := 1) dX12_areFlags_0 rfl rfl ?_
  refine e_bipush (pc := 1) dX12_areFlags_1 (by decide +kernel) (x_R rfl) ?_
  obtain ⟨v1, hr1, hG⟩ := x_bd1 hG
  have hjhr1 : Ev g yX12_areFlags cX12_areFlags 5 (some .boolean) [] 1 11 [some (x_r (16 * 32 + 0)), some (x_i a), none, none, none] [x_i v1] (al, ro, fl (ml M [32] [S])) 0 0 (.inl (some (x_i t))) (al, ro, fl (ml M [32] [S])) := by
    refine e_istoren (pc := 11) (i := 2) dX12_areFlags_11 rfl (by decide) rfl ?_
    show Ev g _ _ _ _ _ _ 12 [some (x_r (16 * 32 + 0)), some (x_i a), some (x_i v1), none, none] [] (al, ro, fl (ml M [32] [S])) _ _ _ _
    refine e_iconst (pc := 12) dX12_areFlags_12 (x_R rfl) ?_
    refine e_istoren (pc := 13) (i := 3) dX12_areFlags_13 rfl (by decide) rfl ?_
    show Ev g _ _ _ _ _ _ 14 [some (x_r (16 * 32 + 0)), some (x_i a), some (x_i v1), some (x_i 0), none] [] (al, ro, fl (ml M [32] [S])) _ _ _ _
    refine e_iconst (pc := 14) dX12_areFlags_14 (x_R rfl) ?_
    refine e_istore (pc := 15) (i := 4) dX12_areFlags_15 (by decide) rfl ?_
    show Ev g _ _ _ _ _ _ 17 [some (x_r (16 * 32 + 0)), some (x_i a), some (x_i v1), some (x_i 0), some (x_i 0)] [] (al, ro, fl (ml M [32] [S])) _ _ _ _
    obtain ⟨v6, hl7, hG⟩ := x_bd1 hG
    have hk7 : ∀ q : Int, q = v6 → Ev g yX12_areFlags cX12_areFlags 5 (some .boolean) [] 1 85 [some (x_r (16 * 32 + 0)), some (x_i a), some (x_i q), none, none] [] (al, ro, fl (ml M [32] [S])) 0 0 (.inl (some (x_i t))) (al, ro, fl (ml M [32] [S])) := by
      intro q hq
      replace hq := hq.symm
      subst hq
      refine e_iloadn (pc := 85) (i := 2) dX12_areFlags_85 rfl rfl ?_
      obtain ⟨hc0, hG⟩ := x_gd_some hG
      cases hG
      exact (e_ireturn rfl dX12_areFlags_86 (x_bool hc0).1)
    clear hG
    refine e_whl (G12_areFlags_L17 a S) (fun z : (Int × Int × Int) => Ev g yX12_areFlags cX12_areFlags 5 (some .boolean) [] 1 17 [some (x_r (16 * 32 + 0)), some (x_i a), some (x_i z.1), some (x_i z.2.1), some (x_i z.2.2)] [] (al, ro, fl (ml M [32] [S])) 0 0 (.inl (some (x_i t))) (al, ro, fl (ml M [32] [S]))) (fun q => q = v6) ?_ xFU (v1, 0, 0) _ hl7 rfl
    intro z t7 hf7 hi7 hx7
    obtain ⟨v3, v4, v5⟩ := z
    rw [G12_areFlags_L17] at hf7
    show Ev g _ _ _ _ _ _ 17 [some (x_r (16 * 32 + 0)), some (x_i a), some (x_i v3), some (x_i v4), some (x_i v5)] [] (al, ro, fl (ml M [32] [S])) _ _ _ _
    refine e_iload (pc := 17) dX12_areFlags_17 rfl ?_
    refine e_iloadn (pc := 19) (i := 1) dX12_areFlags_19 rfl rfl ?_
    refine e_icmp_ge (pc := 20) (tgt := 85) dX12_areFlags_20 (by decide) (fun hb => ?_) (fun hb => ?_)
    · rw [if_pos hb] at hf7
      cases hf7
      refine e_drop (i := 3) ?_
      refine e_drop (i := 4) ?_
      exact hk7 _ (hx7 _ rfl)
    · rw [if_neg hb] at hf7
      refine e_iloadn (pc := 23) (i := 2) dX12_areFlags_23 rfl rfl ?_
      refine e_if_eq (pc := 24) (tgt := 85) dX12_areFlags_24 (by decide) (fun hb => ?_) (fun hb => ?_)
      · rw [if_pos hb] at hf7
        cases hf7
        refine e_drop (i := 3) ?_
        refine e_drop (i := 4) ?_
        exact hk7 _ (hx7 _ rfl)
      · rw [if_neg hb] at hf7
        refine e_aloadn (pc := 27) (i := 0) dX12_areFlags_27 rfl rfl ?_
        refine f_getr (pc := 28) (u := 32) (q := 0) dX12_areFlags_28 xf12_22 (sa_32_0 hs) rfl (sr_32_0_7 hs) ?_
        refine e_iload (pc := 31) dX12_areFlags_31 rfl ?_
        obtain ⟨hc0, hf7⟩ := x_gd_some hf7
        refine f_iald (pc := 33) (k := 0) (u := 32) (q := 5) (len := 400) dX12_areFlags_33 (sa_32_5 hs) hc0 hn rfl rfl (by decide) ?_
        show Ev g _ _ _ _ _ _ 34 [some (x_r (16 * 32 + 0)), some (x_i a), some (x_i v3), some (x_i v4), some (x_i v5)] [x_i (S 5 (v5).toNat)] (al, ro, fl (ml M [32] [S])) _ _ _ _
        refine e_bipush (pc := 34) dX12_areFlags_34 (by decide +kernel) (x_R rfl) ?_
        obtain ⟨v9, hr9, hf7⟩ := x_bd1 hf7
        have hjhr9 : Ev g yX12_areFlags cX12_areFlags 5 (some .boolean) [] 1 58 [some (x_r (16 * 32 + 0)), some (x_i a), some (x_i v3), some (x_i v4), some (x_i v5)] [x_i v9] (al, ro, fl (ml M [32] [S])) 0 0 (.inl (some (x_i t))) (al, ro, fl (ml M [32] [S])) := by
          refine e_istoren (pc := 58) (i := 2) dX12_areFlags_58 rfl (by decide) rfl ?_
          show Ev g _ _ _ _ _ _ 59 [some (x_r (16 * 32 + 0)), some (x_i a), some (x_i v9), some (x_i v4), some (x_i v5)] [] (al, ro, fl (ml M [32] [S])) _ _ _ _
          refine e_iloadn (pc := 59) (i := 3) dX12_areFlags_59 rfl rfl ?_
          refine e_iloadn (pc := 60) (i := 2) dX12_areFlags_60 rfl rfl ?_
          obtain ⟨v13, hr13, hf7⟩ := x_bd1 hf7
          have hjhr13 : Ev g yX12_areFlags cX12_areFlags 5 (some .boolean) [] 1 77 [some (x_r (16 * 32 + 0)), some (x_i a), some (x_i v9), some (x_i v4), some (x_i v5)] [x_i v13, x_i v4] (al, ro, fl (ml M [32] [S])) 0 0 (.inl (some (x_i t))) (al, ro, fl (ml M [32] [S])) := by
            refine e_ior (pc := 77) dX12_areFlags_77 ?_
            refine e_istoren (pc := 78) (i := 3) dX12_areFlags_78 rfl (by decide) rfl ?_
            show Ev g _ _ _ _ _ _ 79 [some (x_r (16 * 32 + 0)), some (x_i a), some (x_i v9), some (x_i (x_or v4 v13)), some (x_i v5)] [] (al, ro, fl (ml M [32] [S])) _ _ _ _
            refine e_iinc (pc := 79) dX12_areFlags_79 rfl (by decide) rfl ?_
            show Ev g _ _ _ _ _ _ 82 [some (x_r (16 * 32 + 0)), some (x_i a), some (x_i v9), some (x_i (x_or v4 v13)), some (x_i (x_add v5 1))] [] (al, ro, fl (ml M [32] [S])) _ _ _ _
            refine e_goto (pc := 82) (tgt := 17) dX12_areFlags_82 (by decide) ?_
            cases hf7
            exact hi7 _ rfl
          clear hf7
          refine e_if_eq (pc := 61) (tgt := 76) dX12_areFlags_61 (by decide) (fun hb => ?_) (fun hb => ?_)
          · rw [if_pos hb] at hr13
            refine e_iconst (pc := 76) dX12_areFlags_76 (x_R rfl) ?_
            cases hr13
            exact hjhr13
          · rw [if_neg hb] at hr13
            refine e_iconst (pc := 64) dX12_areFlags_64 (x_R rfl) ?_
            refine e_aloadn (pc := 65) (i := 0) dX12_areFlags_65 rfl rfl ?_
            refine f_getr (pc := 66) (u := 32) (q := 0) dX12_areFlags_66 xf12_22 (sa_32_0 hs) rfl (sr_32_0_7 hs) ?_
            refine e_iload (pc := 69) dX12_areFlags_69 rfl ?_
            obtain ⟨hc0, hr13⟩ := x_gd_some hr13
            refine f_iald (pc := 71) (k := 0) (u := 32) (q := 5) (len := 400) dX12_areFlags_71 (sa_32_5 hs) hc0 hn rfl rfl (by decide) ?_
            show Ev g _ _ _ _ _ _ 72 [some (x_r (16 * 32 + 0)), some (x_i a), some (x_i v9), some (x_i v4), some (x_i v5)] [x_i (S 5 (v5).toNat), x_i 1, x_i v4] (al, ro, fl (ml M [32] [S])) _ _ _ _
            refine e_ishl (pc := 72) dX12_areFlags_72 ?_
            refine e_goto (pc := 73) (tgt := 77) dX12_areFlags_73 (by decide) ?_
            cases hr13
            exact hjhr13
        clear hf7
        refine e_icmp_ge (pc := 36) (tgt := 57) dX12_areFlags_36 (by decide) (fun hb => ?_) (fun hb => ?_)
        · rw [if_pos hb] at hr9
          refine e_iconst (pc := 57) dX12_areFlags_57 (x_R rfl) ?_
          cases hr9
          exact hjhr9
        · rw [if_neg hb] at hr9
          refine e_iloadn (pc := 39) (i := 3) dX12_areFlags_39 rfl rfl ?_
          refine e_aloadn (pc := 40) (i := 0) dX12_areFlags_40 rfl rfl ?_
          refine f_getr (pc := 41) (u := 32) (q := 0) dX12_areFlags_41 xf12_22 (sa_32_0 hs) rfl (sr_32_0_7 hs) ?_
          refine e_iload (pc := 44) dX12_areFlags_44 rfl ?_
          obtain ⟨hc0, hr9⟩ := x_gd_some hr9
          refine f_iald (pc := 46) (k := 0) (u := 32) (q := 5) (len := 400) dX12_areFlags_46 (sa_32_5 hs) hc0 hn rfl rfl (by decide) ?_
          show Ev g _ _ _ _ _ _ 47 [some (x_r (16 * 32 + 0)), some (x_i a), some (x_i v3), some (x_i v4), some (x_i v5)] [x_i (S 5 (v5).toNat), x_i v4] (al, ro, fl (ml M [32] [S])) _ _ _ _
          obtain ⟨v11, hq11, hr9⟩ := x_bd1 hr9
          refine e_invS (pc := 47) (K1 := 0) (S1 := 0) (K := 0) (S := 0) (dd2 := 0) (av := [x_i v4, x_i (S 5 (v5).toNat)]) (st := []) dX12_areFlags_47 xmX12_119 rfl (f_cal (M := M) (us2 := []) [] hn rfl trivial rfl rfl rfl (c_X12_isOf hst hs   hq11)) (by decide) (Nat.le_of_ble_eq_true rfl) (Or.inl rfl) ?_
          show Ev g _ _ _ _ _ _ 50 [some (x_r (16 * 32 + 0)), some (x_i a), some (x_i v3), some (x_i v4), some (x_i v5)] [x_i v11] (al, ro, fl (ml M [32] [S])) _ _ _ _
          refine e_if_ne (pc := 50) (tgt := 57) dX12_areFlags_50 (by decide) (fun hb => ?_) (fun hb => ?_)
          · rw [if_neg hb] at hr9
            refine e_iconst (pc := 57) dX12_areFlags_57 (x_R rfl) ?_
            cases hr9
            exact hjhr9
          · rw [if_pos hb] at hr9
            refine e_iconst (pc := 53) dX12_areFlags_53 (x_R rfl) ?_
            refine e_goto (pc := 54) (tgt := 58) dX12_areFlags_54 (by decide) ?_
            cases hr9
            exact hjhr9
  clear hG
  refine e_icmp_gt (pc := 3) (tgt := 10) dX12_areFlags_3 (by decide) (fun hb => ?_) (fun hb => ?_)
  · rw [if_pos hb] at hr1
    refine e_iconst (pc := 10) dX12_areFlags_10 (x_R rfl) ?_
    cases hr1
    exact hjhr1
  · rw [if_neg hb] at hr1
    refine e_iconst (pc := 6) dX12_areFlags_6 (x_R rfl) ?_
    refine e_goto (pc := 7) (tgt := 11) dX12_areFlags_7 (by decide) ?_
    cases hr1
    exact hjhr1
def G12_roadsOf_L38 (a : Int) (v1 : Int) (v6 : Int) (S7 : xU) : (Int × Int) → Option ((Int × Int) ⊕ Int)
  | (v13, v14) => (if a ≤ v14 then (some (.inr v13)) else (x_b1 (G12_isOf v1 v14) fun (v18 : Int) => (x_b1 (if v18 = 0 then (x_gd ((0 : Int) ≤ v6 ∧ v6 < 400) (x_gd ((0 : Int) ≤ v14 ∧ v14 < 400) (x_b1 (G12_farOf (S7 5 (v6).toNat) (S7 5 (v14).toNat) S7) fun (v22 : Int) => (x_gd ((0 : Int) ≤ (x_add (x_mul 8 (x_or v1 (x_shl 1 v14))) v14) ∧ (x_add (x_mul 8 (x_or v1 (x_shl 1 v14))) v14) < 1024) (x_b1 (G12_lesser v13 (x_add v22 (S7 10 ((x_add (x_mul 8 (x_or v1 (x_shl 1 v14))) v14)).toNat))) fun (v24 : Int) => (some v24)))))) else (some v13)) fun (v20 : Int) => (some (.inl (v20, (x_add v14 1)))))))
def G12_roadsOf_L12 (a : Int) (v1 : Int) : (Int × xU) → Option ((Int × xU) ⊕ xU)
  | (v6, S7) => (if a ≤ v6 then (some (.inr S7)) else (x_b1 (if v1 = (x_sub (x_shl 1 a) 1) then (some 0) else (some 2000000000)) fun (v11 : Int) => (x_b1 (whl xFU (G12_roadsOf_L38 a v1 v6 S7) (v11, 0)) fun (v15 : Int) => (x_gd ((0 : Int) ≤ (x_add (x_mul 8 v1) v6) ∧ (x_add (x_mul 8 v1) v6) < 1024) (some (.inl ((x_add v6 1), (x_up S7 10 ((x_add (x_mul 8 v1) v6)).toNat v15))))))))
def G12_roadsOf_L6 (a : Int) : (Int × xU) → Option ((Int × xU) ⊕ xU)
  | (v1, S2) => (if v1 < 0 then (some (.inr S2)) else (x_b1 (whl xFU (G12_roadsOf_L12 a v1) (0, S2)) fun (S8 : xU) => (some (.inl ((x_add v1 (-1)), S8)))))
def G12_roadsOf (a : Int) (S : xU) : Option xU :=
  (x_b1 (whl xFU (G12_roadsOf_L6 a) ((x_sub (x_shl 1 a) 1), S)) fun (S3 : xU) => (some S3))
set_option maxRecDepth 100000 in
set_option maxHeartbeats 4000000 in
theorem c_X12_roadsOf {g : xG} {al : List (Nat × Nat × Nat)} {ro : Nat → Nat → Option Nat} (hst : g.1.stackTraces = false) (hs : SH al ro) {M : Nat → xU} {a : Int} {S : xU} {t : xU} (hG : G12_roadsOf a S = some t) :
    Cal g yX12_roadsOf cX12_roadsOf 6 none 3 [x_r (16 * 32 + 0), x_i a] (al, ro, fl (ml M [32] [S])) 0 0 (.inl none) (al, ro, fl (ml M [32] [t])) := by
  have hn : ([32] : List Nat).Nodup := by decide
  refine cal_of_ev (by decide) (x_c1 rfl) (Nat.le_of_ble_eq_true rfl) hst ?_
  show Ev g _ _ _ _ _ _ 0 [some (x_r (16 * 32 + 0)), some (x_i a), none, none, none, none] [] (al, ro, fl (ml M [32] [S])) _ _ _ _
  rw [G12_roadsOf] at hG
  refine e_iconst (pc := 0) dX12_roadsOf_0 (x_R rfl) ?_
  refine e_iloadn (pc := 1) (i := 1) dX12_roadsOf_1 rfl rfl ?_
  refine e_ishl (pc := 2) dX12_roadsOf_2 ?_
  refine e_iconst (pc := 3) dX12_roadsOf_3 (x_R rfl) ?_
  refine e_isub (pc := 4) dX12_roadsOf_4 ?_
  refine e_istoren (pc := 5) (i := 2) dX12_roadsOf_5 rfl (by decide) rfl ?_
  show Ev g _ _ _ _ _ _ 6 [some (x_r (16 * 32 + 0)), some (x_i a), some (x_i (x_sub (x_shl 1 a) 1)), none, none, none] [] (al, ro, fl (ml M [32] [S])) _ _ _ _
  obtain ⟨S3, hl4, hG⟩ := x_bd1 hG
  have hk4 : ∀ q : xU, q = S3 → Ev g yX12_roadsOf cX12_roadsOf 6 none [] 3 126 [some (x_r (16 * 32 + 0)), some (x_i a), none, none, none, none] [] (al, ro, fl (ml M [32] [q])) 0 0 (.inl none) (al, ro, fl (ml M [32] [t])) := by
    intro q hq
    replace hq := hq.symm
    subst hq
    cases hG
    exact (e_return rfl dX12_roadsOf_126)
  clear hG
  refine e_whl (G12_roadsOf_L6 a) (fun z : (Int × xU) => Ev g yX12_roadsOf cX12_roadsOf 6 none [] 3 6 [some (x_r (16 * 32 + 0)), some (x_i a), some (x_i z.1), none, none, none] [] (al, ro, fl (ml M [32] [z.2])) 0 0 (.inl none) (al, ro, fl (ml M [32] [t]))) (fun q => q = S3) ?_ xFU ((x_sub (x_shl 1 a) 1), S) _ hl4 rfl
  intro z t4 hf4 hi4 hx4
  obtain ⟨v1, S2⟩ := z
  rw [G12_roadsOf_L6] at hf4
  show Ev g _ _ _ _ _ _ 6 [some (x_r (16 * 32 + 0)), some (x_i a), some (x_i v1), none, none, none] [] (al, ro, fl (ml M [32] [S2])) _ _ _ _
  refine e_iloadn (pc := 6) (i := 2) dX12_roadsOf_6 rfl rfl ?_
  refine e_if_lt (pc := 7) (tgt := 126) dX12_roadsOf_7 (by decide) (fun hb => ?_) (fun hb => ?_)
  · rw [if_pos hb] at hf4
    cases hf4
    refine e_drop (i := 2) ?_
    exact hk4 _ (hx4 _ rfl)
  · rw [if_neg hb] at hf4
    refine e_iconst (pc := 10) dX12_roadsOf_10 (x_R rfl) ?_
    refine e_istoren (pc := 11) (i := 3) dX12_roadsOf_11 rfl (by decide) rfl ?_
    show Ev g _ _ _ _ _ _ 12 [some (x_r (16 * 32 + 0)), some (x_i a), some (x_i v1), some (x_i 0), none, none] [] (al, ro, fl (ml M [32] [S2])) _ _ _ _
    obtain ⟨S8, hl9, hf4⟩ := x_bd1 hf4
    have hk9 : ∀ q : xU, q = S8 → Ev g yX12_roadsOf cX12_roadsOf 6 none [] 3 120 [some (x_r (16 * 32 + 0)), some (x_i a), some (x_i v1), none, none, none] [] (al, ro, fl (ml M [32] [q])) 0 0 (.inl none) (al, ro, fl (ml M [32] [t])) := by
      intro q hq
      replace hq := hq.symm
      subst hq
      refine e_iinc (pc := 120) dX12_roadsOf_120 rfl (by decide) rfl ?_
      show Ev g _ _ _ _ _ _ 123 [some (x_r (16 * 32 + 0)), some (x_i a), some (x_i (x_add v1 (-1))), none, none, none] [] (al, ro, fl (ml M [32] [S8])) _ _ _ _
      refine e_goto (pc := 123) (tgt := 6) dX12_roadsOf_123 (by decide) ?_
      cases hf4
      exact hi4 _ rfl
    clear hf4
    refine e_whl (G12_roadsOf_L12 a v1) (fun z : (Int × xU) => Ev g yX12_roadsOf cX12_roadsOf 6 none [] 3 12 [some (x_r (16 * 32 + 0)), some (x_i a), some (x_i v1), some (x_i z.1), none, none] [] (al, ro, fl (ml M [32] [z.2])) 0 0 (.inl none) (al, ro, fl (ml M [32] [t]))) (fun q => q = S8) ?_ xFU (0, S2) _ hl9 rfl
    intro z t9 hf9 hi9 hx9
    obtain ⟨v6, S7⟩ := z
    rw [G12_roadsOf_L12] at hf9
    show Ev g _ _ _ _ _ _ 12 [some (x_r (16 * 32 + 0)), some (x_i a), some (x_i v1), some (x_i v6), none, none] [] (al, ro, fl (ml M [32] [S7])) _ _ _ _
    refine e_iloadn (pc := 12) (i := 3) dX12_roadsOf_12 rfl rfl ?_
    refine e_iloadn (pc := 13) (i := 1) dX12_roadsOf_13 rfl rfl ?_
    refine e_icmp_ge (pc := 14) (tgt := 120) dX12_roadsOf_14 (by decide) (fun hb => ?_) (fun hb => ?_)
    · rw [if_pos hb] at hf9
      cases hf9
      refine e_drop (i := 3) ?_
      exact hk9 _ (hx9 _ rfl)
    · rw [if_neg hb] at hf9
      refine e_iloadn (pc := 17) (i := 2) dX12_roadsOf_17 rfl rfl ?_
      refine e_iconst (pc := 18) dX12_roadsOf_18 (x_R rfl) ?_
      refine e_iloadn (pc := 19) (i := 1) dX12_roadsOf_19 rfl rfl ?_
      refine e_ishl (pc := 20) dX12_roadsOf_20 ?_
      refine e_iconst (pc := 21) dX12_roadsOf_21 (x_R rfl) ?_
      refine e_isub (pc := 22) dX12_roadsOf_22 ?_
      obtain ⟨v11, hr11, hf9⟩ := x_bd1 hf9
      have hjhr11 : Ev g yX12_roadsOf cX12_roadsOf 6 none [] 3 33 [some (x_r (16 * 32 + 0)), some (x_i a), some (x_i v1), some (x_i v6), none, none] [x_i v11] (al, ro, fl (ml M [32] [S7])) 0 0 (.inl none) (al, ro, fl (ml M [32] [t])) := by
        refine e_istore (pc := 33) (i := 4) dX12_roadsOf_33 (by decide) rfl ?_
        show Ev g _ _ _ _ _ _ 35 [some (x_r (16 * 32 + 0)), some (x_i a), some (x_i v1), some (x_i v6), some (x_i v11), none] [] (al, ro, fl (ml M [32] [S7])) _ _ _ _
        refine e_iconst (pc := 35) dX12_roadsOf_35 (x_R rfl) ?_
        refine e_istore (pc := 36) (i := 5) dX12_roadsOf_36 (by decide) rfl ?_
        show Ev g _ _ _ _ _ _ 38 [some (x_r (16 * 32 + 0)), some (x_i a), some (x_i v1), some (x_i v6), some (x_i v11), some (x_i 0)] [] (al, ro, fl (ml M [32] [S7])) _ _ _ _
        obtain ⟨v15, hl16, hf9⟩ := x_bd1 hf9
        have hk16 : ∀ q : Int, q = v15 → Ev g yX12_roadsOf cX12_roadsOf 6 none [] 3 101 [some (x_r (16 * 32 + 0)), some (x_i a), some (x_i v1), some (x_i v6), some (x_i q), none] [] (al, ro, fl (ml M [32] [S7])) 0 0 (.inl none) (al, ro, fl (ml M [32] [t])) := by
          intro q hq
          replace hq := hq.symm
          subst hq
          refine e_aloadn (pc := 101) (i := 0) dX12_roadsOf_101 rfl rfl ?_
          refine f_getr (pc := 102) (u := 32) (q := 0) dX12_roadsOf_102 xf12_42 (sa_32_0 hs) rfl (sr_32_0_22 hs) ?_
          refine e_bipush (pc := 105) dX12_roadsOf_105 (by decide +kernel) (x_R rfl) ?_
          refine e_iloadn (pc := 107) (i := 2) dX12_roadsOf_107 rfl rfl ?_
          refine e_imul (pc := 108) dX12_roadsOf_108 ?_
          refine e_iloadn (pc := 109) (i := 3) dX12_roadsOf_109 rfl rfl ?_
          refine e_iadd (pc := 110) dX12_roadsOf_110 ?_
          refine e_iload (pc := 111) dX12_roadsOf_111 rfl ?_
          obtain ⟨hc0, hf9⟩ := x_gd_some hf9
          refine f_iast (pc := 113) (k := 0) (u := 32) (q := 10) (len := 1024) dX12_roadsOf_113 (sa_32_10 hs) hc0 hn rfl rfl rfl (by decide) ?_
          show Ev g _ _ _ _ _ _ 114 [some (x_r (16 * 32 + 0)), some (x_i a), some (x_i v1), some (x_i v6), some (x_i v15), none] [] (al, ro, fl (ml M [32] [(x_up S7 10 ((x_add (x_mul 8 v1) v6)).toNat v15)])) _ _ _ _
          refine e_iinc (pc := 114) dX12_roadsOf_114 rfl (by decide) rfl ?_
          show Ev g _ _ _ _ _ _ 117 [some (x_r (16 * 32 + 0)), some (x_i a), some (x_i v1), some (x_i (x_add v6 1)), some (x_i v15), none] [] (al, ro, fl (ml M [32] [(x_up S7 10 ((x_add (x_mul 8 v1) v6)).toNat v15)])) _ _ _ _
          refine e_goto (pc := 117) (tgt := 12) dX12_roadsOf_117 (by decide) ?_
          cases hf9
          refine e_drop (i := 4) ?_
          exact hi9 _ rfl
        clear hf9
        refine e_whl (G12_roadsOf_L38 a v1 v6 S7) (fun z : (Int × Int) => Ev g yX12_roadsOf cX12_roadsOf 6 none [] 3 38 [some (x_r (16 * 32 + 0)), some (x_i a), some (x_i v1), some (x_i v6), some (x_i z.1), some (x_i z.2)] [] (al, ro, fl (ml M [32] [S7])) 0 0 (.inl none) (al, ro, fl (ml M [32] [t]))) (fun q => q = v15) ?_ xFU (v11, 0) _ hl16 rfl
        intro z t16 hf16 hi16 hx16
        obtain ⟨v13, v14⟩ := z
        rw [G12_roadsOf_L38] at hf16
        show Ev g _ _ _ _ _ _ 38 [some (x_r (16 * 32 + 0)), some (x_i a), some (x_i v1), some (x_i v6), some (x_i v13), some (x_i v14)] [] (al, ro, fl (ml M [32] [S7])) _ _ _ _
        refine e_iload (pc := 38) dX12_roadsOf_38 rfl ?_
        refine e_iloadn (pc := 40) (i := 1) dX12_roadsOf_40 rfl rfl ?_
        refine e_icmp_ge (pc := 41) (tgt := 101) dX12_roadsOf_41 (by decide) (fun hb => ?_) (fun hb => ?_)
        · rw [if_pos hb] at hf16
          cases hf16
          refine e_drop (i := 5) ?_
          exact hk16 _ (hx16 _ rfl)
        · rw [if_neg hb] at hf16
          refine e_iloadn (pc := 44) (i := 2) dX12_roadsOf_44 rfl rfl ?_
          refine e_iload (pc := 45) dX12_roadsOf_45 rfl ?_
          obtain ⟨v18, hq18, hf16⟩ := x_bd1 hf16
          refine e_invS (pc := 47) (K1 := 0) (S1 := 0) (K := 0) (S := 0) (dd2 := 0) (av := [x_i v1, x_i v14]) (st := []) dX12_roadsOf_47 xmX12_119 rfl (f_cal (M := M) (us2 := []) [] hn rfl trivial rfl rfl rfl (c_X12_isOf hst hs   hq18)) (by decide) (Nat.le_of_ble_eq_true rfl) (Or.inl rfl) ?_
          show Ev g _ _ _ _ _ _ 50 [some (x_r (16 * 32 + 0)), some (x_i a), some (x_i v1), some (x_i v6), some (x_i v13), some (x_i v14)] [x_i v18] (al, ro, fl (ml M [32] [S7])) _ _ _ _
          obtain ⟨v20, hr20, hf16⟩ := x_bd1 hf16
          have hjhr20 : Ev g yX12_roadsOf cX12_roadsOf 6 none [] 3 95 [some (x_r (16 * 32 + 0)), some (x_i a), some (x_i v1), some (x_i v6), some (x_i v20), some (x_i v14)] [] (al, ro, fl (ml M [32] [S7])) 0 0 (.inl none) (al, ro, fl (ml M [32] [t])) := by
            refine e_iinc (pc := 95) dX12_roadsOf_95 rfl (by decide) rfl ?_
            show Ev g _ _ _ _ _ _ 98 [some (x_r (16 * 32 + 0)), some (x_i a), some (x_i v1), some (x_i v6), some (x_i v20), some (x_i (x_add v14 1))] [] (al, ro, fl (ml M [32] [S7])) _ _ _ _
            refine e_goto (pc := 98) (tgt := 38) dX12_roadsOf_98 (by decide) ?_
            cases hf16
            exact hi16 _ rfl
          clear hf16
          refine e_if_ne (pc := 50) (tgt := 95) dX12_roadsOf_50 (by decide) (fun hb => ?_) (fun hb => ?_)
          · rw [if_neg hb] at hr20
            cases hr20
            exact hjhr20
          · rw [if_pos hb] at hr20
            refine e_iload (pc := 53) dX12_roadsOf_53 rfl ?_
            refine e_aloadn (pc := 55) (i := 0) dX12_roadsOf_55 rfl rfl ?_
            refine e_aloadn (pc := 56) (i := 0) dX12_roadsOf_56 rfl rfl ?_
            refine f_getr (pc := 57) (u := 32) (q := 0) dX12_roadsOf_57 xf12_22 (sa_32_0 hs) rfl (sr_32_0_7 hs) ?_
            refine e_iloadn (pc := 60) (i := 3) dX12_roadsOf_60 rfl rfl ?_
            obtain ⟨hc0, hr20⟩ := x_gd_some hr20
            refine f_iald (pc := 61) (k := 0) (u := 32) (q := 5) (len := 400) dX12_roadsOf_61 (sa_32_5 hs) hc0 hn rfl rfl (by decide) ?_
            show Ev g _ _ _ _ _ _ 62 [some (x_r (16 * 32 + 0)), some (x_i a), some (x_i v1), some (x_i v6), some (x_i v13), some (x_i v14)] [x_i (S7 5 (v6).toNat), x_r (16 * 32 + 0), x_i v13] (al, ro, fl (ml M [32] [S7])) _ _ _ _
            refine e_aloadn (pc := 62) (i := 0) dX12_roadsOf_62 rfl rfl ?_
            refine f_getr (pc := 63) (u := 32) (q := 0) dX12_roadsOf_63 xf12_22 (sa_32_0 hs) rfl (sr_32_0_7 hs) ?_
            refine e_iload (pc := 66) dX12_roadsOf_66 rfl ?_
            obtain ⟨hc0, hr20⟩ := x_gd_some hr20
            refine f_iald (pc := 68) (k := 0) (u := 32) (q := 5) (len := 400) dX12_roadsOf_68 (sa_32_5 hs) hc0 hn rfl rfl (by decide) ?_
            show Ev g _ _ _ _ _ _ 69 [some (x_r (16 * 32 + 0)), some (x_i a), some (x_i v1), some (x_i v6), some (x_i v13), some (x_i v14)] [x_i (S7 5 (v14).toNat), x_i (S7 5 (v6).toNat), x_r (16 * 32 + 0), x_i v13] (al, ro, fl (ml M [32] [S7])) _ _ _ _
            obtain ⟨v22, hq22, hr20⟩ := x_bd1 hr20
            refine e_invV (pc := 69) (K1 := 0) (S1 := 0) (K := 0) (S := 0) (dd2 := 2) (av := [x_i (S7 5 (v6).toNat), x_i (S7 5 (v14).toNat)]) (st := [x_i v13]) (id := 16 * 32 + 0) dX12_roadsOf_69 xmX12_334 rfl (Or.inl ⟨10, 27, TX12, (sa_32_0 hs), rfl, by decide⟩) (f_cal (M := M) (us2 := [32]) [0] hn rfl (And.intro rfl trivial) rfl rfl rfl (c_X12_farOf hst hs   hq22)) (by decide) (Nat.le_of_ble_eq_true rfl) (Or.inl rfl) ?_
            show Ev g _ _ _ _ _ _ 72 [some (x_r (16 * 32 + 0)), some (x_i a), some (x_i v1), some (x_i v6), some (x_i v13), some (x_i v14)] [x_i v22, x_i v13] (al, ro, fl (ml M [32] [S7])) _ _ _ _
            refine e_aloadn (pc := 72) (i := 0) dX12_roadsOf_72 rfl rfl ?_
            refine f_getr (pc := 73) (u := 32) (q := 0) dX12_roadsOf_73 xf12_42 (sa_32_0 hs) rfl (sr_32_0_22 hs) ?_
            refine e_bipush (pc := 76) dX12_roadsOf_76 (by decide +kernel) (x_R rfl) ?_
            refine e_iloadn (pc := 78) (i := 2) dX12_roadsOf_78 rfl rfl ?_
            refine e_iconst (pc := 79) dX12_roadsOf_79 (x_R rfl) ?_
            refine e_iload (pc := 80) dX12_roadsOf_80 rfl ?_
            refine e_ishl (pc := 82) dX12_roadsOf_82 ?_
            refine e_ior (pc := 83) dX12_roadsOf_83 ?_
            refine e_imul (pc := 84) dX12_roadsOf_84 ?_
            refine e_iload (pc := 85) dX12_roadsOf_85 rfl ?_
            refine e_iadd (pc := 87) dX12_roadsOf_87 ?_
            obtain ⟨hc0, hr20⟩ := x_gd_some hr20
            refine f_iald (pc := 88) (k := 0) (u := 32) (q := 10) (len := 1024) dX12_roadsOf_88 (sa_32_10 hs) hc0 hn rfl rfl (by decide) ?_
            show Ev g _ _ _ _ _ _ 89 [some (x_r (16 * 32 + 0)), some (x_i a), some (x_i v1), some (x_i v6), some (x_i v13), some (x_i v14)] [x_i (S7 10 ((x_add (x_mul 8 (x_or v1 (x_shl 1 v14))) v14)).toNat), x_i v22, x_i v13] (al, ro, fl (ml M [32] [S7])) _ _ _ _
            refine e_iadd (pc := 89) dX12_roadsOf_89 ?_
            obtain ⟨v24, hq24, hr20⟩ := x_bd1 hr20
            refine e_invS (pc := 90) (K1 := 0) (S1 := 0) (K := 0) (S := 0) (dd2 := 0) (av := [x_i v13, x_i (x_add v22 (S7 10 ((x_add (x_mul 8 (x_or v1 (x_shl 1 v14))) v14)).toNat))]) (st := []) dX12_roadsOf_90 xmX12_73 rfl (f_cal (M := M) (us2 := []) [] hn rfl trivial rfl rfl rfl (c_X12_lesser hst hs   hq24)) (by decide) (Nat.le_of_ble_eq_true rfl) (Or.inl rfl) ?_
            show Ev g _ _ _ _ _ _ 93 [some (x_r (16 * 32 + 0)), some (x_i a), some (x_i v1), some (x_i v6), some (x_i v13), some (x_i v14)] [x_i v24] (al, ro, fl (ml M [32] [S7])) _ _ _ _
            refine e_istore (pc := 93) (i := 4) dX12_roadsOf_93 (by decide) rfl ?_
            show Ev g _ _ _ _ _ _ 95 [some (x_r (16 * 32 + 0)), some (x_i a), some (x_i v1), some (x_i v6), some (x_i v24), some (x_i v14)] [] (al, ro, fl (ml M [32] [S7])) _ _ _ _
            cases hr20
            exact hjhr20
      clear hf9
      refine e_icmp_ne (pc := 23) (tgt := 30) dX12_roadsOf_23 (by decide) (fun hb => ?_) (fun hb => ?_)
      · rw [if_neg hb] at hr11
        refine e_ldcw (pc := 30) dX12_roadsOf_30 xkX12_327 (x_R rfl) ?_
        cases hr11
        exact hjhr11
      · rw [if_pos hb] at hr11
        refine e_iconst (pc := 26) dX12_roadsOf_26 (x_R rfl) ?_
        refine e_goto (pc := 27) (tgt := 33) dX12_roadsOf_27 (by decide) ?_
        cases hr11
        exact hjhr11
def G12_road_L78 (a : Int) (S : xU) (S7 : xU) : (Int × Int × Int) → Option ((Int × Int × Int) ⊕ (Int × Int))
  | (v9, v10, v11) => (if (S 0 8) ≤ v11 then (some (.inr (v9, v10))) else (x_gd ((0 : Int) ≤ v11 ∧ v11 < 400) (x_b1 (G12_farOf a (S7 5 (v11).toNat) S7) fun (v16 : Int) => (x_gd ((0 : Int) ≤ (x_add (x_mul 8 (x_shl 1 v11)) v11) ∧ (x_add (x_mul 8 (x_shl 1 v11)) v11) < 1024) (x_b1 (if v9 ≤ (x_add v16 (S7 10 ((x_add (x_mul 8 (x_shl 1 v11)) v11)).toNat)) then (some v10) else (some 16)) fun (v18 : Int) => (x_b1 (if v9 < (x_add v16 (S7 10 ((x_add (x_mul 8 (x_shl 1 v11)) v11)).toNat)) then (some v18) else (x_gd ((0 : Int) ≤ v11 ∧ v11 < 400) (x_b1 (G12_lesser v18 (S7 5 (v11).toNat)) fun (v22 : Int) => (some v22)))) fun (v20 : Int) => (x_b1 (G12_lesser v9 (x_add v16 (S7 10 ((x_add (x_mul 8 (x_shl 1 v11)) v11)).toNat))) fun (v24 : Int) => (some (.inl (v24, v20, (x_add v11 1)))))))))))
def G12_road (a : Int) (b : Int) (S : xU) : Option (Int × xU) :=
  (x_b1 (G12_isFlag a) fun (v1 : Int) => (x_b1 (if v1 = 0 then (some 1) else (x_b1 (G12_areFlags (S 0 8) (x_up S 0 8 0)) fun (v5 : Int) => (if v5 = 0 then (some 2) else (some 0)))) fun (v3 : Int) => (if ((x_up (x_up S 0 8 0) 0 0 v3) 0 0) ≤ 0 then (if (S 0 8) = 0 then (x_b1 (if b = 0 then (some 0) else (some (-1))) fun (v28 : Int) => (some (v28, (x_up (x_up S 0 8 0) 0 0 v3)))) else (x_b1 (G12_roadsOf (S 0 8) (x_up (x_up S 0 8 0) 0 0 v3)) fun (S7 : xU) => (x_b2 (whl xFU (G12_road_L78 a S S7) (2000000000, 16, 0)) fun (v12 : Int) (v13 : Int) => (x_b1 (if b = 0 then (some v12) else (some v13)) fun (v26 : Int) => (some (v26, S7)))))) else (some (0, (x_up (x_up S 0 8 0) 0 0 v3))))))
set_option maxRecDepth 100000 in
set_option maxHeartbeats 4000000 in
theorem c_X12_road {g : xG} {al : List (Nat × Nat × Nat)} {ro : Nat → Nat → Option Nat} (hst : g.1.stackTraces = false) (hs : SH al ro) {M : Nat → xU} {a : Int} {b : Int} {S : xU} {t : (Int × xU)} (hG : G12_road a b S = some t) :
    Cal g yX12_road cX12_road 8 (some .int) 4 [x_r (16 * 32 + 0), x_i a, x_i b] (al, ro, fl (ml M [32] [S])) 0 0 (.inl (some (x_i t.1))) (al, ro, fl (ml M [32] [t.2])) := by
  have hn : ([32] : List Nat).Nodup := by decide
  refine cal_of_ev (by decide) (x_c1 rfl) (Nat.le_of_ble_eq_true rfl) hst ?_
  show Ev g _ _ _ _ _ _ 0 [some (x_r (16 * 32 + 0)), some (x_i a), some (x_i b), none, none, none, none, none] [] (al, ro, fl (ml M [32] [S])) _ _ _ _
  rw [G12_road] at hG
  refine e_aloadn (pc := 0) (i := 0) dX12_road_0 rfl rfl ?_
  refine f_geti (pc := 1) (k := 0) (u := 32) (q := 0) dX12_road_1 xf12_76 (sa_32_0 hs) rfl hn rfl rfl (by decide) ?_
  show Ev g _ _ _ _ _ _ 4 [some (x_r (16 * 32 + 0)), some (x_i a), some (x_i b), none, none, none, none, none] [x_i (S 0 8)] (al, ro, fl (ml M [32] [S])) _ _ _ _
  refine e_istoren (pc := 4) (i := 3) dX12_road_4 rfl (by decide) rfl ?_
  show Ev g _ _ _ _ _ _ 5 [some (x_r (16 * 32 + 0)), some (x_i a), some (x_i b), some (x_i (S 0 8)), none, none, none, none] [] (al, ro, fl (ml M [32] [S])) _ _ _ _
  refine e_aloadn (pc := 5) (i := 0) dX12_road_5 rfl rfl ?_
  refine e_iconst (pc := 6) dX12_road_6 (x_R rfl) ?_
  refine f_puti (pc := 7) (k := 0) (u := 32) (q := 0) dX12_road_7 xf12_76 xw10_8 (sa_32_0 hs) hn rfl rfl rfl (by decide) ?_
  show Ev g _ _ _ _ _ _ 10 [some (x_r (16 * 32 + 0)), some (x_i a), some (x_i b), some (x_i (S 0 8)), none, none, none, none] [] (al, ro, fl (ml M [32] [(x_up S 0 8 0)])) _ _ _ _
  refine e_aloadn (pc := 10) (i := 0) dX12_road_10 rfl rfl ?_
  refine e_iloadn (pc := 11) (i := 1) dX12_road_11 rfl rfl ?_
  obtain ⟨v1, hq1, hG⟩ := x_bd1 hG
  refine e_invS (pc := 12) (K1 := 0) (S1 := 0) (K := 0) (S := 0) (dd2 := 1) (av := [x_i a]) (st := [x_r (16 * 32 + 0)]) dX12_road_12 xmX12_304 rfl (f_cal (M := M) (us2 := []) [] hn rfl trivial rfl rfl rfl (c_X12_isFlag hst hs   hq1)) (by decide) (Nat.le_of_ble_eq_true rfl) (Or.inl rfl) ?_
  show Ev g _ _ _ _ _ _ 15 [some (x_r (16 * 32 + 0)), some (x_i a), some (x_i b), some (x_i (S 0 8)), none, none, none, none] [x_i v1, x_r (16 * 32 + 0)] (al, ro, fl (ml M [32] [(x_up S 0 8 0)])) _ _ _ _
  obtain ⟨v3, hr3, hG⟩ := x_bd1 hG
  have hjhr3 : Ev g yX12_road cX12_road 8 (some .int) [] 4 35 [some (x_r (16 * 32 + 0)), some (x_i a), some (x_i b), some (x_i (S 0 8)), none, none, none, none] [x_i v3, x_r (16 * 32 + 0)] (al, ro, fl (ml M [32] [(x_up S 0 8 0)])) 0 0 (.inl (some (x_i t.1))) (al, ro, fl (ml M [32] [t.2])) := by
    refine f_puti (pc := 35) (k := 0) (u := 32) (q := 0) dX12_road_35 xf12_58 xw10_0 (sa_32_0 hs) hn rfl rfl rfl (by decide) ?_
    show Ev g _ _ _ _ _ _ 38 [some (x_r (16 * 32 + 0)), some (x_i a), some (x_i b), some (x_i (S 0 8)), none, none, none, none] [] (al, ro, fl (ml M [32] [(x_up (x_up S 0 8 0) 0 0 v3)])) _ _ _ _
    refine e_aloadn (pc := 38) (i := 0) dX12_road_38 rfl rfl ?_
    refine f_geti (pc := 39) (k := 0) (u := 32) (q := 0) dX12_road_39 xf12_58 (sa_32_0 hs) rfl hn rfl rfl (by decide) ?_
    show Ev g _ _ _ _ _ _ 42 [some (x_r (16 * 32 + 0)), some (x_i a), some (x_i b), some (x_i (S 0 8)), none, none, none, none] [x_i ((x_up (x_up S 0 8 0) 0 0 v3) 0 0)] (al, ro, fl (ml M [32] [(x_up (x_up S 0 8 0) 0 0 v3)])) _ _ _ _
    refine e_if_le (pc := 42) (tgt := 47) dX12_road_42 (by decide) (fun hb => ?_) (fun hb => ?_)
    · rw [if_pos hb] at hG
      refine e_iloadn (pc := 47) (i := 3) dX12_road_47 rfl rfl ?_
      refine e_if_ne (pc := 48) (tgt := 61) dX12_road_48 (by decide) (fun hb => ?_) (fun hb => ?_)
      · rw [if_neg hb] at hG
        refine e_aloadn (pc := 61) (i := 0) dX12_road_61 rfl rfl ?_
        refine e_iloadn (pc := 62) (i := 3) dX12_road_62 rfl rfl ?_
        obtain ⟨S7, hq7, hG⟩ := x_bd1 hG
        refine e_invV (pc := 63) (K1 := 0) (S1 := 0) (K := 0) (S := 0) (dd2 := 3) (av := [x_i (S 0 8)]) (st := []) (id := 16 * 32 + 0) dX12_road_63 xmX12_340 rfl (Or.inl ⟨10, 27, TX12, (sa_32_0 hs), rfl, by decide⟩) (f_cal (M := M) (us2 := [32]) [0] hn rfl (And.intro rfl trivial) rfl rfl rfl (c_X12_roadsOf hst hs   hq7)) (by decide) (Nat.le_of_ble_eq_true rfl) (Or.inl rfl) ?_
        show Ev g _ _ _ _ _ _ 66 [some (x_r (16 * 32 + 0)), some (x_i a), some (x_i b), some (x_i (S 0 8)), none, none, none, none] [] (al, ro, fl (ml M [32] [S7])) _ _ _ _
        refine e_ldcw (pc := 66) dX12_road_66 xkX12_327 (x_R rfl) ?_
        refine e_istore (pc := 69) (i := 4) dX12_road_69 (by decide) rfl ?_
        show Ev g _ _ _ _ _ _ 71 [some (x_r (16 * 32 + 0)), some (x_i a), some (x_i b), some (x_i (S 0 8)), some (x_i 2000000000), none, none, none] [] (al, ro, fl (ml M [32] [S7])) _ _ _ _
        refine e_bipush (pc := 71) dX12_road_71 (by decide +kernel) (x_R rfl) ?_
        refine e_istore (pc := 73) (i := 5) dX12_road_73 (by decide) rfl ?_
        show Ev g _ _ _ _ _ _ 75 [some (x_r (16 * 32 + 0)), some (x_i a), some (x_i b), some (x_i (S 0 8)), some (x_i 2000000000), some (x_i 16), none, none] [] (al, ro, fl (ml M [32] [S7])) _ _ _ _
        refine e_iconst (pc := 75) dX12_road_75 (x_R rfl) ?_
        refine e_istore (pc := 76) (i := 6) dX12_road_76 (by decide) rfl ?_
        show Ev g _ _ _ _ _ _ 78 [some (x_r (16 * 32 + 0)), some (x_i a), some (x_i b), some (x_i (S 0 8)), some (x_i 2000000000), some (x_i 16), some (x_i 0), none] [] (al, ro, fl (ml M [32] [S7])) _ _ _ _
        obtain ⟨v12, v13, hl14, hG⟩ := x_bd2 hG
        have hk14 : ∀ q : (Int × Int), q = (v12, v13) → Ev g yX12_road cX12_road 8 (some .int) [] 4 161 [some (x_r (16 * 32 + 0)), some (x_i a), some (x_i b), some (x_i (S 0 8)), some (x_i q.1), some (x_i q.2), none, none] [] (al, ro, fl (ml M [32] [S7])) 0 0 (.inl (some (x_i t.1))) (al, ro, fl (ml M [32] [t.2])) := by
          intro q hq
          cases hq
          refine e_iloadn (pc := 161) (i := 2) dX12_road_161 rfl rfl ?_
          obtain ⟨v26, hr26, hG⟩ := x_bd1 hG
          have hjhr26 : Ev g yX12_road cX12_road 8 (some .int) [] 4 172 [some (x_r (16 * 32 + 0)), some (x_i a), some (x_i b), some (x_i (S 0 8)), some (x_i v12), some (x_i v13), none, none] [x_i v26] (al, ro, fl (ml M [32] [S7])) 0 0 (.inl (some (x_i t.1))) (al, ro, fl (ml M [32] [t.2])) := by
            cases hG
            exact (e_ireturn rfl dX12_road_172 rfl)
          clear hG
          refine e_if_eq (pc := 162) (tgt := 170) dX12_road_162 (by decide) (fun hb => ?_) (fun hb => ?_)
          · rw [if_pos hb] at hr26
            refine e_iload (pc := 170) dX12_road_170 rfl ?_
            cases hr26
            exact hjhr26
          · rw [if_neg hb] at hr26
            refine e_iload (pc := 165) dX12_road_165 rfl ?_
            refine e_goto (pc := 167) (tgt := 172) dX12_road_167 (by decide) ?_
            cases hr26
            exact hjhr26
        clear hG
        refine e_whl (G12_road_L78 a S S7) (fun z : (Int × Int × Int) => Ev g yX12_road cX12_road 8 (some .int) [] 4 78 [some (x_r (16 * 32 + 0)), some (x_i a), some (x_i b), some (x_i (S 0 8)), some (x_i z.1), some (x_i z.2.1), some (x_i z.2.2), none] [] (al, ro, fl (ml M [32] [S7])) 0 0 (.inl (some (x_i t.1))) (al, ro, fl (ml M [32] [t.2]))) (fun q => q = (v12, v13)) ?_ xFU (2000000000, 16, 0) _ hl14 rfl
        intro z t14 hf14 hi14 hx14
        obtain ⟨v9, v10, v11⟩ := z
        rw [G12_road_L78] at hf14
        show Ev g _ _ _ _ _ _ 78 [some (x_r (16 * 32 + 0)), some (x_i a), some (x_i b), some (x_i (S 0 8)), some (x_i v9), some (x_i v10), some (x_i v11), none] [] (al, ro, fl (ml M [32] [S7])) _ _ _ _
        refine e_iload (pc := 78) dX12_road_78 rfl ?_
        refine e_iloadn (pc := 80) (i := 3) dX12_road_80 rfl rfl ?_
        refine e_icmp_ge (pc := 81) (tgt := 161) dX12_road_81 (by decide) (fun hb => ?_) (fun hb => ?_)
        · rw [if_pos hb] at hf14
          cases hf14
          refine e_drop (i := 6) ?_
          exact hk14 _ (hx14 _ rfl)
        · rw [if_neg hb] at hf14
          refine e_aloadn (pc := 84) (i := 0) dX12_road_84 rfl rfl ?_
          refine e_iloadn (pc := 85) (i := 1) dX12_road_85 rfl rfl ?_
          refine e_aloadn (pc := 86) (i := 0) dX12_road_86 rfl rfl ?_
          refine f_getr (pc := 87) (u := 32) (q := 0) dX12_road_87 xf12_22 (sa_32_0 hs) rfl (sr_32_0_7 hs) ?_
          refine e_iload (pc := 90) dX12_road_90 rfl ?_
          obtain ⟨hc0, hf14⟩ := x_gd_some hf14
          refine f_iald (pc := 92) (k := 0) (u := 32) (q := 5) (len := 400) dX12_road_92 (sa_32_5 hs) hc0 hn rfl rfl (by decide) ?_
          show Ev g _ _ _ _ _ _ 93 [some (x_r (16 * 32 + 0)), some (x_i a), some (x_i b), some (x_i (S 0 8)), some (x_i v9), some (x_i v10), some (x_i v11), none] [x_i (S7 5 (v11).toNat), x_i a, x_r (16 * 32 + 0)] (al, ro, fl (ml M [32] [S7])) _ _ _ _
          obtain ⟨v16, hq16, hf14⟩ := x_bd1 hf14
          refine e_invV (pc := 93) (K1 := 0) (S1 := 0) (K := 0) (S := 0) (dd2 := 2) (av := [x_i a, x_i (S7 5 (v11).toNat)]) (st := []) (id := 16 * 32 + 0) dX12_road_93 xmX12_334 rfl (Or.inl ⟨10, 27, TX12, (sa_32_0 hs), rfl, by decide⟩) (f_cal (M := M) (us2 := [32]) [0] hn rfl (And.intro rfl trivial) rfl rfl rfl (c_X12_farOf hst hs   hq16)) (by decide) (Nat.le_of_ble_eq_true rfl) (Or.inl rfl) ?_
          show Ev g _ _ _ _ _ _ 96 [some (x_r (16 * 32 + 0)), some (x_i a), some (x_i b), some (x_i (S 0 8)), some (x_i v9), some (x_i v10), some (x_i v11), none] [x_i v16] (al, ro, fl (ml M [32] [S7])) _ _ _ _
          refine e_aloadn (pc := 96) (i := 0) dX12_road_96 rfl rfl ?_
          refine f_getr (pc := 97) (u := 32) (q := 0) dX12_road_97 xf12_42 (sa_32_0 hs) rfl (sr_32_0_22 hs) ?_
          refine e_bipush (pc := 100) dX12_road_100 (by decide +kernel) (x_R rfl) ?_
          refine e_iconst (pc := 102) dX12_road_102 (x_R rfl) ?_
          refine e_iload (pc := 103) dX12_road_103 rfl ?_
          refine e_ishl (pc := 105) dX12_road_105 ?_
          refine e_imul (pc := 106) dX12_road_106 ?_
          refine e_iload (pc := 107) dX12_road_107 rfl ?_
          refine e_iadd (pc := 109) dX12_road_109 ?_
          obtain ⟨hc0, hf14⟩ := x_gd_some hf14
          refine f_iald (pc := 110) (k := 0) (u := 32) (q := 10) (len := 1024) dX12_road_110 (sa_32_10 hs) hc0 hn rfl rfl (by decide) ?_
          show Ev g _ _ _ _ _ _ 111 [some (x_r (16 * 32 + 0)), some (x_i a), some (x_i b), some (x_i (S 0 8)), some (x_i v9), some (x_i v10), some (x_i v11), none] [x_i (S7 10 ((x_add (x_mul 8 (x_shl 1 v11)) v11)).toNat), x_i v16] (al, ro, fl (ml M [32] [S7])) _ _ _ _
          refine e_iadd (pc := 111) dX12_road_111 ?_
          refine e_istore (pc := 112) (i := 7) dX12_road_112 (by decide) rfl ?_
          show Ev g _ _ _ _ _ _ 114 [some (x_r (16 * 32 + 0)), some (x_i a), some (x_i b), some (x_i (S 0 8)), some (x_i v9), some (x_i v10), some (x_i v11), some (x_i (x_add v16 (S7 10 ((x_add (x_mul 8 (x_shl 1 v11)) v11)).toNat)))] [] (al, ro, fl (ml M [32] [S7])) _ _ _ _
          refine e_iload (pc := 114) dX12_road_114 rfl ?_
          refine e_iload (pc := 116) dX12_road_116 rfl ?_
          obtain ⟨v18, hr18, hf14⟩ := x_bd1 hf14
          have hjhr18 : Ev g yX12_road cX12_road 8 (some .int) [] 4 125 [some (x_r (16 * 32 + 0)), some (x_i a), some (x_i b), some (x_i (S 0 8)), some (x_i v9), some (x_i v18), some (x_i v11), some (x_i (x_add v16 (S7 10 ((x_add (x_mul 8 (x_shl 1 v11)) v11)).toNat)))] [] (al, ro, fl (ml M [32] [S7])) 0 0 (.inl (some (x_i t.1))) (al, ro, fl (ml M [32] [t.2])) := by
            refine e_iload (pc := 125) dX12_road_125 rfl ?_
            refine e_iload (pc := 127) dX12_road_127 rfl ?_
            obtain ⟨v20, hr20, hf14⟩ := x_bd1 hf14
            have hjhr20 : Ev g yX12_road cX12_road 8 (some .int) [] 4 146 [some (x_r (16 * 32 + 0)), some (x_i a), some (x_i b), some (x_i (S 0 8)), some (x_i v9), some (x_i v20), some (x_i v11), some (x_i (x_add v16 (S7 10 ((x_add (x_mul 8 (x_shl 1 v11)) v11)).toNat)))] [] (al, ro, fl (ml M [32] [S7])) 0 0 (.inl (some (x_i t.1))) (al, ro, fl (ml M [32] [t.2])) := by
              refine e_iload (pc := 146) dX12_road_146 rfl ?_
              refine e_iload (pc := 148) dX12_road_148 rfl ?_
              obtain ⟨v24, hq24, hf14⟩ := x_bd1 hf14
              refine e_invS (pc := 150) (K1 := 0) (S1 := 0) (K := 0) (S := 0) (dd2 := 0) (av := [x_i v9, x_i (x_add v16 (S7 10 ((x_add (x_mul 8 (x_shl 1 v11)) v11)).toNat))]) (st := []) dX12_road_150 xmX12_73 rfl (f_cal (M := M) (us2 := []) [] hn rfl trivial rfl rfl rfl (c_X12_lesser hst hs   hq24)) (by decide) (Nat.le_of_ble_eq_true rfl) (Or.inl rfl) ?_
              show Ev g _ _ _ _ _ _ 153 [some (x_r (16 * 32 + 0)), some (x_i a), some (x_i b), some (x_i (S 0 8)), some (x_i v9), some (x_i v20), some (x_i v11), some (x_i (x_add v16 (S7 10 ((x_add (x_mul 8 (x_shl 1 v11)) v11)).toNat)))] [x_i v24] (al, ro, fl (ml M [32] [S7])) _ _ _ _
              refine e_istore (pc := 153) (i := 4) dX12_road_153 (by decide) rfl ?_
              show Ev g _ _ _ _ _ _ 155 [some (x_r (16 * 32 + 0)), some (x_i a), some (x_i b), some (x_i (S 0 8)), some (x_i v24), some (x_i v20), some (x_i v11), some (x_i (x_add v16 (S7 10 ((x_add (x_mul 8 (x_shl 1 v11)) v11)).toNat)))] [] (al, ro, fl (ml M [32] [S7])) _ _ _ _
              refine e_iinc (pc := 155) dX12_road_155 rfl (by decide) rfl ?_
              show Ev g _ _ _ _ _ _ 158 [some (x_r (16 * 32 + 0)), some (x_i a), some (x_i b), some (x_i (S 0 8)), some (x_i v24), some (x_i v20), some (x_i (x_add v11 1)), some (x_i (x_add v16 (S7 10 ((x_add (x_mul 8 (x_shl 1 v11)) v11)).toNat)))] [] (al, ro, fl (ml M [32] [S7])) _ _ _ _
              refine e_goto (pc := 158) (tgt := 78) dX12_road_158 (by decide) ?_
              cases hf14
              refine e_drop (i := 7) ?_
              exact hi14 _ rfl
            clear hf14
            refine e_icmp_gt (pc := 129) (tgt := 146) dX12_road_129 (by decide) (fun hb => ?_) (fun hb => ?_)
            · rw [if_pos hb] at hr20
              cases hr20
              exact hjhr20
            · rw [if_neg hb] at hr20
              refine e_iload (pc := 132) dX12_road_132 rfl ?_
              refine e_aloadn (pc := 134) (i := 0) dX12_road_134 rfl rfl ?_
              refine f_getr (pc := 135) (u := 32) (q := 0) dX12_road_135 xf12_22 (sa_32_0 hs) rfl (sr_32_0_7 hs) ?_
              refine e_iload (pc := 138) dX12_road_138 rfl ?_
              obtain ⟨hc0, hr20⟩ := x_gd_some hr20
              refine f_iald (pc := 140) (k := 0) (u := 32) (q := 5) (len := 400) dX12_road_140 (sa_32_5 hs) hc0 hn rfl rfl (by decide) ?_
              show Ev g _ _ _ _ _ _ 141 [some (x_r (16 * 32 + 0)), some (x_i a), some (x_i b), some (x_i (S 0 8)), some (x_i v9), some (x_i v18), some (x_i v11), some (x_i (x_add v16 (S7 10 ((x_add (x_mul 8 (x_shl 1 v11)) v11)).toNat)))] [x_i (S7 5 (v11).toNat), x_i v18] (al, ro, fl (ml M [32] [S7])) _ _ _ _
              obtain ⟨v22, hq22, hr20⟩ := x_bd1 hr20
              refine e_invS (pc := 141) (K1 := 0) (S1 := 0) (K := 0) (S := 0) (dd2 := 0) (av := [x_i v18, x_i (S7 5 (v11).toNat)]) (st := []) dX12_road_141 xmX12_73 rfl (f_cal (M := M) (us2 := []) [] hn rfl trivial rfl rfl rfl (c_X12_lesser hst hs   hq22)) (by decide) (Nat.le_of_ble_eq_true rfl) (Or.inl rfl) ?_
              show Ev g _ _ _ _ _ _ 144 [some (x_r (16 * 32 + 0)), some (x_i a), some (x_i b), some (x_i (S 0 8)), some (x_i v9), some (x_i v18), some (x_i v11), some (x_i (x_add v16 (S7 10 ((x_add (x_mul 8 (x_shl 1 v11)) v11)).toNat)))] [x_i v22] (al, ro, fl (ml M [32] [S7])) _ _ _ _
              refine e_istore (pc := 144) (i := 5) dX12_road_144 (by decide) rfl ?_
              show Ev g _ _ _ _ _ _ 146 [some (x_r (16 * 32 + 0)), some (x_i a), some (x_i b), some (x_i (S 0 8)), some (x_i v9), some (x_i v22), some (x_i v11), some (x_i (x_add v16 (S7 10 ((x_add (x_mul 8 (x_shl 1 v11)) v11)).toNat)))] [] (al, ro, fl (ml M [32] [S7])) _ _ _ _
              cases hr20
              exact hjhr20
          clear hf14
          refine e_icmp_ge (pc := 118) (tgt := 125) dX12_road_118 (by decide) (fun hb => ?_) (fun hb => ?_)
          · rw [if_pos hb] at hr18
            cases hr18
            exact hjhr18
          · rw [if_neg hb] at hr18
            refine e_bipush (pc := 121) dX12_road_121 (by decide +kernel) (x_R rfl) ?_
            refine e_istore (pc := 123) (i := 5) dX12_road_123 (by decide) rfl ?_
            show Ev g _ _ _ _ _ _ 125 [some (x_r (16 * 32 + 0)), some (x_i a), some (x_i b), some (x_i (S 0 8)), some (x_i v9), some (x_i 16), some (x_i v11), some (x_i (x_add v16 (S7 10 ((x_add (x_mul 8 (x_shl 1 v11)) v11)).toNat)))] [] (al, ro, fl (ml M [32] [S7])) _ _ _ _
            cases hr18
            exact hjhr18
      · rw [if_pos hb] at hG
        refine e_iloadn (pc := 51) (i := 2) dX12_road_51 rfl rfl ?_
        obtain ⟨v28, hr28, hG⟩ := x_bd1 hG
        have hjhr28 : Ev g yX12_road cX12_road 8 (some .int) [] 4 60 [some (x_r (16 * 32 + 0)), some (x_i a), some (x_i b), some (x_i (S 0 8)), none, none, none, none] [x_i v28] (al, ro, fl (ml M [32] [(x_up (x_up S 0 8 0) 0 0 v3)])) 0 0 (.inl (some (x_i t.1))) (al, ro, fl (ml M [32] [t.2])) := by
          cases hG
          exact (e_ireturn rfl dX12_road_60 rfl)
        clear hG
        refine e_if_eq (pc := 52) (tgt := 59) dX12_road_52 (by decide) (fun hb => ?_) (fun hb => ?_)
        · rw [if_pos hb] at hr28
          refine e_iconst (pc := 59) dX12_road_59 (x_R rfl) ?_
          cases hr28
          exact hjhr28
        · rw [if_neg hb] at hr28
          refine e_iconst (pc := 55) dX12_road_55 (x_R rfl) ?_
          refine e_goto (pc := 56) (tgt := 60) dX12_road_56 (by decide) ?_
          cases hr28
          exact hjhr28
    · rw [if_neg hb] at hG
      refine e_iconst (pc := 45) dX12_road_45 (x_R rfl) ?_
      cases hG
      exact (e_ireturn rfl dX12_road_46 rfl)
  clear hG
  refine e_if_ne (pc := 15) (tgt := 22) dX12_road_15 (by decide) (fun hb => ?_) (fun hb => ?_)
  · rw [if_neg hb] at hr3
    refine e_aloadn (pc := 22) (i := 0) dX12_road_22 rfl rfl ?_
    refine e_iloadn (pc := 23) (i := 3) dX12_road_23 rfl rfl ?_
    obtain ⟨v5, hq5, hr3⟩ := x_bd1 hr3
    refine e_invV (pc := 24) (K1 := 0) (S1 := 0) (K := 0) (S := 0) (dd2 := 1) (av := [x_i (S 0 8)]) (st := [x_r (16 * 32 + 0)]) (id := 16 * 32 + 0) dX12_road_24 xmX12_337 rfl (Or.inl ⟨10, 27, TX12, (sa_32_0 hs), rfl, by decide⟩) (f_cal (M := M) (us2 := [32]) [0] hn rfl (And.intro rfl trivial) rfl rfl rfl (c_X12_areFlags hst hs   hq5)) (by decide) (Nat.le_of_ble_eq_true rfl) (Or.inl rfl) ?_
    show Ev g _ _ _ _ _ _ 27 [some (x_r (16 * 32 + 0)), some (x_i a), some (x_i b), some (x_i (S 0 8)), none, none, none, none] [x_i v5, x_r (16 * 32 + 0)] (al, ro, fl (ml M [32] [(x_up S 0 8 0)])) _ _ _ _
    refine e_if_ne (pc := 27) (tgt := 34) dX12_road_27 (by decide) (fun hb => ?_) (fun hb => ?_)
    · rw [if_neg hb] at hr3
      refine e_iconst (pc := 34) dX12_road_34 (x_R rfl) ?_
      cases hr3
      exact hjhr3
    · rw [if_pos hb] at hr3
      refine e_iconst (pc := 30) dX12_road_30 (x_R rfl) ?_
      refine e_goto (pc := 31) (tgt := 35) dX12_road_31 (by decide) ?_
      cases hr3
      exact hjhr3
  · rw [if_pos hb] at hr3
    refine e_iconst (pc := 18) dX12_road_18 (x_R rfl) ?_
    refine e_goto (pc := 19) (tgt := 35) dX12_road_19 (by decide) ?_
    cases hr3
    exact hjhr3
def G12_seatsOf_L2  : (Int × xU) → Option ((Int × xU) ⊕ xU)
  | (v1, S2) => (if 4096 ≤ v1 then (some (.inr S2)) else (x_gd ((0 : Int) ≤ (x_add (x_mul 4096 (S2 1 3)) v1) ∧ (x_add (x_mul 4096 (S2 1 3)) v1) < 32768) (some (.inl ((x_add v1 1), (x_up S2 8 ((x_add (x_mul 4096 (S2 1 3)) v1)).toNat 0))))))
def G12_seatsOf_L85 (v6 : Int) (v11 : Int) (S12 : xU) (v16 : Int) : (Int × Int) → Option ((Int × Int) ⊕ Int)
  | (v18, v19) => (if 12 ≤ v19 then (some (.inr v18)) else (x_b1 (G12_isOf (x_and v16 (x_xor v11 (-1))) v19) fun (v23 : Int) => (x_b1 (if v23 = 0 then (some v18) else (x_gd ((0 : Int) ≤ (x_add (x_mul 4096 (x_add v6 1)) (x_or v11 (x_shl 1 v19))) ∧ (x_add (x_mul 4096 (x_add v6 1)) (x_or v11 (x_shl 1 v19))) < 32768) (x_b1 (G12_greater v18 (x_add 1 (S12 8 ((x_add (x_mul 4096 (x_add v6 1)) (x_or v11 (x_shl 1 v19)))).toNat))) fun (v27 : Int) => (some v27)))) fun (v25 : Int) => (some (.inl (v25, (x_add v19 1)))))))
def G12_seatsOf_L48 (v6 : Int) : (Int × xU) → Option ((Int × xU) ⊕ xU)
  | (v11, S12) => (if 4096 ≤ v11 then (some (.inr S12)) else (x_gd ((0 : Int) ≤ (x_add (x_mul 4096 (x_add v6 1)) v11) ∧ (x_add (x_mul 4096 (x_add v6 1)) v11) < 32768) (x_b1 (G12_of v6 3 S12) fun (v16 : Int) => (x_b1 (whl xFU (G12_seatsOf_L85 v6 v11 S12 v16) ((S12 8 ((x_add (x_mul 4096 (x_add v6 1)) v11)).toNat), 0)) fun (v20 : Int) => (x_gd ((0 : Int) ≤ (x_add (x_mul 4096 v6) v11) ∧ (x_add (x_mul 4096 v6) v11) < 32768) (some (.inl ((x_add v11 1), (x_up S12 8 ((x_add (x_mul 4096 v6) v11)).toNat v20)))))))))
def G12_seatsOf_L42  : (Int × xU) → Option ((Int × xU) ⊕ xU)
  | (v6, S7) => (if v6 < 0 then (some (.inr S7)) else (x_b1 (whl xFU (G12_seatsOf_L48 v6) (0, S7)) fun (S13 : xU) => (some (.inl ((x_add v6 (-1)), S13)))))
def G12_seatsOf (S : xU) : Option xU :=
  (x_b1 (whl xFU G12_seatsOf_L2 (0, S)) fun (S3 : xU) => (x_b1 (whl xFU G12_seatsOf_L42 ((x_sub (S3 1 3) 1), S3)) fun (S8 : xU) => (some S8)))
set_option maxRecDepth 100000 in
set_option maxHeartbeats 4000000 in
theorem c_X12_seatsOf {g : xG} {al : List (Nat × Nat × Nat)} {ro : Nat → Nat → Option Nat} (hst : g.1.stackTraces = false) (hs : SH al ro) {M : Nat → xU} {S : xU} {t : xU} (hG : G12_seatsOf S = some t) :
    Cal g yX12_seatsOf cX12_seatsOf 6 none 1 [x_r (16 * 32 + 0)] (al, ro, fl (ml M [32] [S])) 0 0 (.inl none) (al, ro, fl (ml M [32] [t])) := by
  have hn : ([32] : List Nat).Nodup := by decide
  refine cal_of_ev (by decide) (x_c1 rfl) (Nat.le_of_ble_eq_true rfl) hst ?_
  show Ev g _ _ _ _ _ _ 0 [some (x_r (16 * 32 + 0)), none, none, none, none, none] [] (al, ro, fl (ml M [32] [S])) _ _ _ _
  rw [G12_seatsOf] at hG
  refine e_iconst (pc := 0) dX12_seatsOf_0 (x_R rfl) ?_
  refine e_istoren (pc := 1) (i := 1) dX12_seatsOf_1 rfl (by decide) rfl ?_
  show Ev g _ _ _ _ _ _ 2 [some (x_r (16 * 32 + 0)), some (x_i 0), none, none, none, none] [] (al, ro, fl (ml M [32] [S])) _ _ _ _
  obtain ⟨S3, hl4, hG⟩ := x_bd1 hG
  have hk4 : ∀ q : xU, q = S3 → Ev g yX12_seatsOf cX12_seatsOf 6 none [] 1 33 [some (x_r (16 * 32 + 0)), none, none, none, none, none] [] (al, ro, fl (ml M [32] [q])) 0 0 (.inl none) (al, ro, fl (ml M [32] [t])) := by
    intro q hq
    replace hq := hq.symm
    subst hq
    refine e_aloadn (pc := 33) (i := 0) dX12_seatsOf_33 rfl rfl ?_
    refine f_getr (pc := 34) (u := 32) (q := 0) dX12_seatsOf_34 xf12_7 (sa_32_0 hs) rfl (sr_32_0_1 hs) ?_
    refine e_iconst (pc := 37) dX12_seatsOf_37 (x_R rfl) ?_
    refine f_iald (pc := 38) (k := 0) (u := 32) (q := 1) (len := 772) dX12_seatsOf_38 (sa_32_1 hs) (by decide) hn rfl rfl (by decide) ?_
    show Ev g _ _ _ _ _ _ 39 [some (x_r (16 * 32 + 0)), none, none, none, none, none] [x_i (S3 1 3)] (al, ro, fl (ml M [32] [S3])) _ _ _ _
    refine e_iconst (pc := 39) dX12_seatsOf_39 (x_R rfl) ?_
    refine e_isub (pc := 40) dX12_seatsOf_40 ?_
    refine e_istoren (pc := 41) (i := 1) dX12_seatsOf_41 rfl (by decide) rfl ?_
    show Ev g _ _ _ _ _ _ 42 [some (x_r (16 * 32 + 0)), some (x_i (x_sub (S3 1 3) 1)), none, none, none, none] [] (al, ro, fl (ml M [32] [S3])) _ _ _ _
    obtain ⟨S8, hl9, hG⟩ := x_bd1 hG
    have hk9 : ∀ q : xU, q = S8 → Ev g yX12_seatsOf cX12_seatsOf 6 none [] 1 159 [some (x_r (16 * 32 + 0)), none, none, none, none, none] [] (al, ro, fl (ml M [32] [q])) 0 0 (.inl none) (al, ro, fl (ml M [32] [t])) := by
      intro q hq
      replace hq := hq.symm
      subst hq
      cases hG
      exact (e_return rfl dX12_seatsOf_159)
    clear hG
    refine e_whl G12_seatsOf_L42 (fun z : (Int × xU) => Ev g yX12_seatsOf cX12_seatsOf 6 none [] 1 42 [some (x_r (16 * 32 + 0)), some (x_i z.1), none, none, none, none] [] (al, ro, fl (ml M [32] [z.2])) 0 0 (.inl none) (al, ro, fl (ml M [32] [t]))) (fun q => q = S8) ?_ xFU ((x_sub (S3 1 3) 1), S3) _ hl9 rfl
    intro z t9 hf9 hi9 hx9
    obtain ⟨v6, S7⟩ := z
    rw [G12_seatsOf_L42] at hf9
    show Ev g _ _ _ _ _ _ 42 [some (x_r (16 * 32 + 0)), some (x_i v6), none, none, none, none] [] (al, ro, fl (ml M [32] [S7])) _ _ _ _
    refine e_iloadn (pc := 42) (i := 1) dX12_seatsOf_42 rfl rfl ?_
    refine e_if_lt (pc := 43) (tgt := 159) dX12_seatsOf_43 (by decide) (fun hb => ?_) (fun hb => ?_)
    · rw [if_pos hb] at hf9
      cases hf9
      refine e_drop (i := 1) ?_
      exact hk9 _ (hx9 _ rfl)
    · rw [if_neg hb] at hf9
      refine e_iconst (pc := 46) dX12_seatsOf_46 (x_R rfl) ?_
      refine e_istoren (pc := 47) (i := 2) dX12_seatsOf_47 rfl (by decide) rfl ?_
      show Ev g _ _ _ _ _ _ 48 [some (x_r (16 * 32 + 0)), some (x_i v6), some (x_i 0), none, none, none] [] (al, ro, fl (ml M [32] [S7])) _ _ _ _
      obtain ⟨S13, hl14, hf9⟩ := x_bd1 hf9
      have hk14 : ∀ q : xU, q = S13 → Ev g yX12_seatsOf cX12_seatsOf 6 none [] 1 153 [some (x_r (16 * 32 + 0)), some (x_i v6), none, none, none, none] [] (al, ro, fl (ml M [32] [q])) 0 0 (.inl none) (al, ro, fl (ml M [32] [t])) := by
        intro q hq
        replace hq := hq.symm
        subst hq
        refine e_iinc (pc := 153) dX12_seatsOf_153 rfl (by decide) rfl ?_
        show Ev g _ _ _ _ _ _ 156 [some (x_r (16 * 32 + 0)), some (x_i (x_add v6 (-1))), none, none, none, none] [] (al, ro, fl (ml M [32] [S13])) _ _ _ _
        refine e_goto (pc := 156) (tgt := 42) dX12_seatsOf_156 (by decide) ?_
        cases hf9
        exact hi9 _ rfl
      clear hf9
      refine e_whl (G12_seatsOf_L48 v6) (fun z : (Int × xU) => Ev g yX12_seatsOf cX12_seatsOf 6 none [] 1 48 [some (x_r (16 * 32 + 0)), some (x_i v6), some (x_i z.1), none, none, none] [] (al, ro, fl (ml M [32] [z.2])) 0 0 (.inl none) (al, ro, fl (ml M [32] [t]))) (fun q => q = S13) ?_ xFU (0, S7) _ hl14 rfl
      intro z t14 hf14 hi14 hx14
      obtain ⟨v11, S12⟩ := z
      rw [G12_seatsOf_L48] at hf14
      show Ev g _ _ _ _ _ _ 48 [some (x_r (16 * 32 + 0)), some (x_i v6), some (x_i v11), none, none, none] [] (al, ro, fl (ml M [32] [S12])) _ _ _ _
      refine e_iloadn (pc := 48) (i := 2) dX12_seatsOf_48 rfl rfl ?_
      refine e_sipush (pc := 49) dX12_seatsOf_49 (by decide +kernel) (x_R rfl) ?_
      refine e_icmp_ge (pc := 52) (tgt := 153) dX12_seatsOf_52 (by decide) (fun hb => ?_) (fun hb => ?_)
      · rw [if_pos hb] at hf14
        cases hf14
        refine e_drop (i := 2) ?_
        exact hk14 _ (hx14 _ rfl)
      · rw [if_neg hb] at hf14
        refine e_aloadn (pc := 55) (i := 0) dX12_seatsOf_55 rfl rfl ?_
        refine f_getr (pc := 56) (u := 32) (q := 0) dX12_seatsOf_56 xf12_36 (sa_32_0 hs) rfl (sr_32_0_20 hs) ?_
        refine e_sipush (pc := 59) dX12_seatsOf_59 (by decide +kernel) (x_R rfl) ?_
        refine e_iloadn (pc := 62) (i := 1) dX12_seatsOf_62 rfl rfl ?_
        refine e_iconst (pc := 63) dX12_seatsOf_63 (x_R rfl) ?_
        refine e_iadd (pc := 64) dX12_seatsOf_64 ?_
        refine e_imul (pc := 65) dX12_seatsOf_65 ?_
        refine e_iloadn (pc := 66) (i := 2) dX12_seatsOf_66 rfl rfl ?_
        refine e_iadd (pc := 67) dX12_seatsOf_67 ?_
        obtain ⟨hc0, hf14⟩ := x_gd_some hf14
        refine f_iald (pc := 68) (k := 0) (u := 32) (q := 8) (len := 32768) dX12_seatsOf_68 (sa_32_8 hs) hc0 hn rfl rfl (by decide) ?_
        show Ev g _ _ _ _ _ _ 69 [some (x_r (16 * 32 + 0)), some (x_i v6), some (x_i v11), none, none, none] [x_i (S12 8 ((x_add (x_mul 4096 (x_add v6 1)) v11)).toNat)] (al, ro, fl (ml M [32] [S12])) _ _ _ _
        refine e_istoren (pc := 69) (i := 3) dX12_seatsOf_69 rfl (by decide) rfl ?_
        show Ev g _ _ _ _ _ _ 70 [some (x_r (16 * 32 + 0)), some (x_i v6), some (x_i v11), some (x_i (S12 8 ((x_add (x_mul 4096 (x_add v6 1)) v11)).toNat)), none, none] [] (al, ro, fl (ml M [32] [S12])) _ _ _ _
        refine e_aloadn (pc := 70) (i := 0) dX12_seatsOf_70 rfl rfl ?_
        refine e_iloadn (pc := 71) (i := 1) dX12_seatsOf_71 rfl rfl ?_
        refine e_iconst (pc := 72) dX12_seatsOf_72 (x_R rfl) ?_
        obtain ⟨v16, hq16, hf14⟩ := x_bd1 hf14
        refine e_invV (pc := 73) (K1 := 0) (S1 := 0) (K := 0) (S := 0) (dd2 := 0) (av := [x_i v6, x_i 3]) (st := []) (id := 16 * 32 + 0) dX12_seatsOf_73 xmX12_65 rfl (Or.inl ⟨10, 27, TX12, (sa_32_0 hs), rfl, by decide⟩) (f_cal (M := M) (us2 := [32]) [0] hn rfl (And.intro rfl trivial) rfl rfl rfl (c_X12_of hst hs   hq16)) (by decide) (Nat.le_of_ble_eq_true rfl) (Or.inl rfl) ?_
        show Ev g _ _ _ _ _ _ 76 [some (x_r (16 * 32 + 0)), some (x_i v6), some (x_i v11), some (x_i (S12 8 ((x_add (x_mul 4096 (x_add v6 1)) v11)).toNat)), none, none] [x_i v16] (al, ro, fl (ml M [32] [S12])) _ _ _ _
        refine e_iloadn (pc := 76) (i := 2) dX12_seatsOf_76 rfl rfl ?_
        refine e_iconst (pc := 77) dX12_seatsOf_77 (x_R rfl) ?_
        refine e_ixor (pc := 78) dX12_seatsOf_78 ?_
        refine e_iand (pc := 79) dX12_seatsOf_79 ?_
        refine e_istore (pc := 80) (i := 4) dX12_seatsOf_80 (by decide) rfl ?_
        show Ev g _ _ _ _ _ _ 82 [some (x_r (16 * 32 + 0)), some (x_i v6), some (x_i v11), some (x_i (S12 8 ((x_add (x_mul 4096 (x_add v6 1)) v11)).toNat)), some (x_i (x_and v16 (x_xor v11 (-1)))), none] [] (al, ro, fl (ml M [32] [S12])) _ _ _ _
        refine e_iconst (pc := 82) dX12_seatsOf_82 (x_R rfl) ?_
        refine e_istore (pc := 83) (i := 5) dX12_seatsOf_83 (by decide) rfl ?_
        show Ev g _ _ _ _ _ _ 85 [some (x_r (16 * 32 + 0)), some (x_i v6), some (x_i v11), some (x_i (S12 8 ((x_add (x_mul 4096 (x_add v6 1)) v11)).toNat)), some (x_i (x_and v16 (x_xor v11 (-1)))), some (x_i 0)] [] (al, ro, fl (ml M [32] [S12])) _ _ _ _
        obtain ⟨v20, hl21, hf14⟩ := x_bd1 hf14
        have hk21 : ∀ q : Int, q = v20 → Ev g yX12_seatsOf cX12_seatsOf 6 none [] 1 134 [some (x_r (16 * 32 + 0)), some (x_i v6), some (x_i v11), some (x_i q), some (x_i (x_and v16 (x_xor v11 (-1)))), none] [] (al, ro, fl (ml M [32] [S12])) 0 0 (.inl none) (al, ro, fl (ml M [32] [t])) := by
          intro q hq
          replace hq := hq.symm
          subst hq
          refine e_aloadn (pc := 134) (i := 0) dX12_seatsOf_134 rfl rfl ?_
          refine f_getr (pc := 135) (u := 32) (q := 0) dX12_seatsOf_135 xf12_36 (sa_32_0 hs) rfl (sr_32_0_20 hs) ?_
          refine e_sipush (pc := 138) dX12_seatsOf_138 (by decide +kernel) (x_R rfl) ?_
          refine e_iloadn (pc := 141) (i := 1) dX12_seatsOf_141 rfl rfl ?_
          refine e_imul (pc := 142) dX12_seatsOf_142 ?_
          refine e_iloadn (pc := 143) (i := 2) dX12_seatsOf_143 rfl rfl ?_
          refine e_iadd (pc := 144) dX12_seatsOf_144 ?_
          refine e_iloadn (pc := 145) (i := 3) dX12_seatsOf_145 rfl rfl ?_
          obtain ⟨hc0, hf14⟩ := x_gd_some hf14
          refine f_iast (pc := 146) (k := 0) (u := 32) (q := 8) (len := 32768) dX12_seatsOf_146 (sa_32_8 hs) hc0 hn rfl rfl rfl (by decide) ?_
          show Ev g _ _ _ _ _ _ 147 [some (x_r (16 * 32 + 0)), some (x_i v6), some (x_i v11), some (x_i v20), some (x_i (x_and v16 (x_xor v11 (-1)))), none] [] (al, ro, fl (ml M [32] [(x_up S12 8 ((x_add (x_mul 4096 v6) v11)).toNat v20)])) _ _ _ _
          refine e_iinc (pc := 147) dX12_seatsOf_147 rfl (by decide) rfl ?_
          show Ev g _ _ _ _ _ _ 150 [some (x_r (16 * 32 + 0)), some (x_i v6), some (x_i (x_add v11 1)), some (x_i v20), some (x_i (x_and v16 (x_xor v11 (-1)))), none] [] (al, ro, fl (ml M [32] [(x_up S12 8 ((x_add (x_mul 4096 v6) v11)).toNat v20)])) _ _ _ _
          refine e_goto (pc := 150) (tgt := 48) dX12_seatsOf_150 (by decide) ?_
          cases hf14
          refine e_drop (i := 3) ?_
          refine e_drop (i := 4) ?_
          exact hi14 _ rfl
        clear hf14
        refine e_whl (G12_seatsOf_L85 v6 v11 S12 v16) (fun z : (Int × Int) => Ev g yX12_seatsOf cX12_seatsOf 6 none [] 1 85 [some (x_r (16 * 32 + 0)), some (x_i v6), some (x_i v11), some (x_i z.1), some (x_i (x_and v16 (x_xor v11 (-1)))), some (x_i z.2)] [] (al, ro, fl (ml M [32] [S12])) 0 0 (.inl none) (al, ro, fl (ml M [32] [t]))) (fun q => q = v20) ?_ xFU ((S12 8 ((x_add (x_mul 4096 (x_add v6 1)) v11)).toNat), 0) _ hl21 rfl
        intro z t21 hf21 hi21 hx21
        obtain ⟨v18, v19⟩ := z
        rw [G12_seatsOf_L85] at hf21
        show Ev g _ _ _ _ _ _ 85 [some (x_r (16 * 32 + 0)), some (x_i v6), some (x_i v11), some (x_i v18), some (x_i (x_and v16 (x_xor v11 (-1)))), some (x_i v19)] [] (al, ro, fl (ml M [32] [S12])) _ _ _ _
        refine e_iload (pc := 85) dX12_seatsOf_85 rfl ?_
        refine e_bipush (pc := 87) dX12_seatsOf_87 (by decide +kernel) (x_R rfl) ?_
        refine e_icmp_ge (pc := 89) (tgt := 134) dX12_seatsOf_89 (by decide) (fun hb => ?_) (fun hb => ?_)
        · rw [if_pos hb] at hf21
          cases hf21
          refine e_drop (i := 5) ?_
          exact hk21 _ (hx21 _ rfl)
        · rw [if_neg hb] at hf21
          refine e_iload (pc := 92) dX12_seatsOf_92 rfl ?_
          refine e_iload (pc := 94) dX12_seatsOf_94 rfl ?_
          obtain ⟨v23, hq23, hf21⟩ := x_bd1 hf21
          refine e_invS (pc := 96) (K1 := 0) (S1 := 0) (K := 0) (S := 0) (dd2 := 0) (av := [x_i (x_and v16 (x_xor v11 (-1))), x_i v19]) (st := []) dX12_seatsOf_96 xmX12_119 rfl (f_cal (M := M) (us2 := []) [] hn rfl trivial rfl rfl rfl (c_X12_isOf hst hs   hq23)) (by decide) (Nat.le_of_ble_eq_true rfl) (Or.inl rfl) ?_
          show Ev g _ _ _ _ _ _ 99 [some (x_r (16 * 32 + 0)), some (x_i v6), some (x_i v11), some (x_i v18), some (x_i (x_and v16 (x_xor v11 (-1)))), some (x_i v19)] [x_i v23] (al, ro, fl (ml M [32] [S12])) _ _ _ _
          obtain ⟨v25, hr25, hf21⟩ := x_bd1 hf21
          have hjhr25 : Ev g yX12_seatsOf cX12_seatsOf 6 none [] 1 128 [some (x_r (16 * 32 + 0)), some (x_i v6), some (x_i v11), some (x_i v25), some (x_i (x_and v16 (x_xor v11 (-1)))), some (x_i v19)] [] (al, ro, fl (ml M [32] [S12])) 0 0 (.inl none) (al, ro, fl (ml M [32] [t])) := by
            refine e_iinc (pc := 128) dX12_seatsOf_128 rfl (by decide) rfl ?_
            show Ev g _ _ _ _ _ _ 131 [some (x_r (16 * 32 + 0)), some (x_i v6), some (x_i v11), some (x_i v25), some (x_i (x_and v16 (x_xor v11 (-1)))), some (x_i (x_add v19 1))] [] (al, ro, fl (ml M [32] [S12])) _ _ _ _
            refine e_goto (pc := 131) (tgt := 85) dX12_seatsOf_131 (by decide) ?_
            cases hf21
            exact hi21 _ rfl
          clear hf21
          refine e_if_eq (pc := 99) (tgt := 128) dX12_seatsOf_99 (by decide) (fun hb => ?_) (fun hb => ?_)
          · rw [if_pos hb] at hr25
            cases hr25
            exact hjhr25
          · rw [if_neg hb] at hr25
            refine e_iloadn (pc := 102) (i := 3) dX12_seatsOf_102 rfl rfl ?_
            refine e_iconst (pc := 103) dX12_seatsOf_103 (x_R rfl) ?_
            refine e_aloadn (pc := 104) (i := 0) dX12_seatsOf_104 rfl rfl ?_
            refine f_getr (pc := 105) (u := 32) (q := 0) dX12_seatsOf_105 xf12_36 (sa_32_0 hs) rfl (sr_32_0_20 hs) ?_
            refine e_sipush (pc := 108) dX12_seatsOf_108 (by decide +kernel) (x_R rfl) ?_
            refine e_iloadn (pc := 111) (i := 1) dX12_seatsOf_111 rfl rfl ?_
            refine e_iconst (pc := 112) dX12_seatsOf_112 (x_R rfl) ?_
            refine e_iadd (pc := 113) dX12_seatsOf_113 ?_
            refine e_imul (pc := 114) dX12_seatsOf_114 ?_
            refine e_iloadn (pc := 115) (i := 2) dX12_seatsOf_115 rfl rfl ?_
            refine e_iconst (pc := 116) dX12_seatsOf_116 (x_R rfl) ?_
            refine e_iload (pc := 117) dX12_seatsOf_117 rfl ?_
            refine e_ishl (pc := 119) dX12_seatsOf_119 ?_
            refine e_ior (pc := 120) dX12_seatsOf_120 ?_
            refine e_iadd (pc := 121) dX12_seatsOf_121 ?_
            obtain ⟨hc0, hr25⟩ := x_gd_some hr25
            refine f_iald (pc := 122) (k := 0) (u := 32) (q := 8) (len := 32768) dX12_seatsOf_122 (sa_32_8 hs) hc0 hn rfl rfl (by decide) ?_
            show Ev g _ _ _ _ _ _ 123 [some (x_r (16 * 32 + 0)), some (x_i v6), some (x_i v11), some (x_i v18), some (x_i (x_and v16 (x_xor v11 (-1)))), some (x_i v19)] [x_i (S12 8 ((x_add (x_mul 4096 (x_add v6 1)) (x_or v11 (x_shl 1 v19)))).toNat), x_i 1, x_i v18] (al, ro, fl (ml M [32] [S12])) _ _ _ _
            refine e_iadd (pc := 123) dX12_seatsOf_123 ?_
            obtain ⟨v27, hq27, hr25⟩ := x_bd1 hr25
            refine e_invS (pc := 124) (K1 := 0) (S1 := 0) (K := 0) (S := 0) (dd2 := 0) (av := [x_i v18, x_i (x_add 1 (S12 8 ((x_add (x_mul 4096 (x_add v6 1)) (x_or v11 (x_shl 1 v19)))).toNat))]) (st := []) dX12_seatsOf_124 xmX12_266 rfl (f_cal (M := M) (us2 := []) [] hn rfl trivial rfl rfl rfl (c_X12_greater hst hs   hq27)) (by decide) (Nat.le_of_ble_eq_true rfl) (Or.inl rfl) ?_
            show Ev g _ _ _ _ _ _ 127 [some (x_r (16 * 32 + 0)), some (x_i v6), some (x_i v11), some (x_i v18), some (x_i (x_and v16 (x_xor v11 (-1)))), some (x_i v19)] [x_i v27] (al, ro, fl (ml M [32] [S12])) _ _ _ _
            refine e_istoren (pc := 127) (i := 3) dX12_seatsOf_127 rfl (by decide) rfl ?_
            show Ev g _ _ _ _ _ _ 128 [some (x_r (16 * 32 + 0)), some (x_i v6), some (x_i v11), some (x_i v27), some (x_i (x_and v16 (x_xor v11 (-1)))), some (x_i v19)] [] (al, ro, fl (ml M [32] [S12])) _ _ _ _
            cases hr25
            exact hjhr25
  clear hG
  refine e_whl G12_seatsOf_L2 (fun z : (Int × xU) => Ev g yX12_seatsOf cX12_seatsOf 6 none [] 1 2 [some (x_r (16 * 32 + 0)), some (x_i z.1), none, none, none, none] [] (al, ro, fl (ml M [32] [z.2])) 0 0 (.inl none) (al, ro, fl (ml M [32] [t]))) (fun q => q = S3) ?_ xFU (0, S) _ hl4 rfl
  intro z t4 hf4 hi4 hx4
  obtain ⟨v1, S2⟩ := z
  rw [G12_seatsOf_L2] at hf4
  show Ev g _ _ _ _ _ _ 2 [some (x_r (16 * 32 + 0)), some (x_i v1), none, none, none, none] [] (al, ro, fl (ml M [32] [S2])) _ _ _ _
  refine e_iloadn (pc := 2) (i := 1) dX12_seatsOf_2 rfl rfl ?_
  refine e_sipush (pc := 3) dX12_seatsOf_3 (by decide +kernel) (x_R rfl) ?_
  refine e_icmp_ge (pc := 6) (tgt := 33) dX12_seatsOf_6 (by decide) (fun hb => ?_) (fun hb => ?_)
  · rw [if_pos hb] at hf4
    cases hf4
    refine e_drop (i := 1) ?_
    exact hk4 _ (hx4 _ rfl)
  · rw [if_neg hb] at hf4
    refine e_aloadn (pc := 9) (i := 0) dX12_seatsOf_9 rfl rfl ?_
    refine f_getr (pc := 10) (u := 32) (q := 0) dX12_seatsOf_10 xf12_36 (sa_32_0 hs) rfl (sr_32_0_20 hs) ?_
    refine e_sipush (pc := 13) dX12_seatsOf_13 (by decide +kernel) (x_R rfl) ?_
    refine e_aloadn (pc := 16) (i := 0) dX12_seatsOf_16 rfl rfl ?_
    refine f_getr (pc := 17) (u := 32) (q := 0) dX12_seatsOf_17 xf12_7 (sa_32_0 hs) rfl (sr_32_0_1 hs) ?_
    refine e_iconst (pc := 20) dX12_seatsOf_20 (x_R rfl) ?_
    refine f_iald (pc := 21) (k := 0) (u := 32) (q := 1) (len := 772) dX12_seatsOf_21 (sa_32_1 hs) (by decide) hn rfl rfl (by decide) ?_
    show Ev g _ _ _ _ _ _ 22 [some (x_r (16 * 32 + 0)), some (x_i v1), none, none, none, none] [x_i (S2 1 3), x_i 4096, x_r (16 * 32 + 8)] (al, ro, fl (ml M [32] [S2])) _ _ _ _
    refine e_imul (pc := 22) dX12_seatsOf_22 ?_
    refine e_iloadn (pc := 23) (i := 1) dX12_seatsOf_23 rfl rfl ?_
    refine e_iadd (pc := 24) dX12_seatsOf_24 ?_
    refine e_iconst (pc := 25) dX12_seatsOf_25 (x_R rfl) ?_
    obtain ⟨hc0, hf4⟩ := x_gd_some hf4
    refine f_iast (pc := 26) (k := 0) (u := 32) (q := 8) (len := 32768) dX12_seatsOf_26 (sa_32_8 hs) hc0 hn rfl rfl rfl (by decide) ?_
    show Ev g _ _ _ _ _ _ 27 [some (x_r (16 * 32 + 0)), some (x_i v1), none, none, none, none] [] (al, ro, fl (ml M [32] [(x_up S2 8 ((x_add (x_mul 4096 (S2 1 3)) v1)).toNat 0)])) _ _ _ _
    refine e_iinc (pc := 27) dX12_seatsOf_27 rfl (by decide) rfl ?_
    show Ev g _ _ _ _ _ _ 30 [some (x_r (16 * 32 + 0)), some (x_i (x_add v1 1)), none, none, none, none] [] (al, ro, fl (ml M [32] [(x_up S2 8 ((x_add (x_mul 4096 (S2 1 3)) v1)).toNat 0)])) _ _ _ _
    refine e_goto (pc := 30) (tgt := 2) dX12_seatsOf_30 (by decide) ?_
    cases hf4
    exact hi4 _ rfl
def G12_seats_L66 (S5 : xU) (v7 : Int) (v9 : Int) : (Int × Int) → Option ((Int × Int) ⊕ Int)
  | (v13, v14) => (if v14 < 0 then (some (.inr v13)) else (x_b1 (G12_of v9 3 S5) fun (v18 : Int) => (x_b1 (G12_isOf (x_and v18 (x_xor v7 (-1))) v14) fun (v20 : Int) => (x_b1 (if v20 = 0 then (some v13) else (x_gd ((0 : Int) ≤ (x_add (x_mul 4096 (x_add v9 1)) (x_or v7 (x_shl 1 v14))) ∧ (x_add (x_mul 4096 (x_add v9 1)) (x_or v7 (x_shl 1 v14))) < 32768) (x_gd ((0 : Int) ≤ (x_add (x_mul 4096 v9) v7) ∧ (x_add (x_mul 4096 v9) v7) < 32768) (if (x_add 1 (S5 8 ((x_add (x_mul 4096 (x_add v9 1)) (x_or v7 (x_shl 1 v14)))).toNat)) = (S5 8 ((x_add (x_mul 4096 v9) v7)).toNat) then (some v14) else (some v13))))) fun (v22 : Int) => (some (.inl (v22, (x_add v14 (-1)))))))))
def G12_seats_L54 (a : Int) (S5 : xU) : (Int × Int × Int) → Option ((Int × Int × Int) ⊕ Int)
  | (v7, v8, v9) => (if a < v9 then (some (.inr v8)) else (x_b1 (whl xFU (G12_seats_L66 S5 v7 v9) ((-1), 11)) fun (v15 : Int) => (x_b1 (if v15 = (-1) then (some 0) else (some (x_shl 1 v15))) fun (v24 : Int) => (some (.inl ((x_or v7 v24), v15, (x_add v9 1)))))))
def G12_seats (a : Int) (S : xU) : Option (Int × xU) :=
  (x_b1 (if a = (-1) then (some 0) else (x_b1 (G12_isMonk a S) fun (v3 : Int) => (if v3 = 0 then (some 1) else (some 0)))) fun (v1 : Int) => (if ((x_up S 0 0 v1) 0 0) ≤ 0 then (x_b1 (G12_seatsOf (x_up S 0 0 v1)) fun (S5 : xU) => (if a = (-1) then (some ((S5 8 0), S5)) else (x_b1 (whl xFU (G12_seats_L54 a S5) (0, (-1), 0)) fun (v10 : Int) => (some (v10, S5))))) else (some (0, (x_up S 0 0 v1)))))
set_option maxRecDepth 100000 in
set_option maxHeartbeats 4000000 in
theorem c_X12_seats {g : xG} {al : List (Nat × Nat × Nat)} {ro : Nat → Nat → Option Nat} (hst : g.1.stackTraces = false) (hs : SH al ro) {M : Nat → xU} {a : Int} {S : xU} {t : (Int × xU)} (hG : G12_seats a S = some t) :
    Cal g yX12_seats cX12_seats 6 (some .int) 2 [x_r (16 * 32 + 0), x_i a] (al, ro, fl (ml M [32] [S])) 0 0 (.inl (some (x_i t.1))) (al, ro, fl (ml M [32] [t.2])) := by
  have hn : ([32] : List Nat).Nodup := by decide
  refine cal_of_ev (by decide) (x_c1 rfl) (Nat.le_of_ble_eq_true rfl) hst ?_
  show Ev g _ _ _ _ _ _ 0 [some (x_r (16 * 32 + 0)), some (x_i a), none, none, none, none] [] (al, ro, fl (ml M [32] [S])) _ _ _ _
  rw [G12_seats] at hG
  refine e_aloadn (pc := 0) (i := 0) dX12_seats_0 rfl rfl ?_
  refine e_iloadn (pc := 1) (i := 1) dX12_seats_1 rfl rfl ?_
  refine e_iconst (pc := 2) dX12_seats_2 (x_R rfl) ?_
  obtain ⟨v1, hr1, hG⟩ := x_bd1 hG
  have hjhr1 : Ev g yX12_seats cX12_seats 6 (some .int) [] 2 19 [some (x_r (16 * 32 + 0)), some (x_i a), none, none, none, none] [x_i v1, x_r (16 * 32 + 0)] (al, ro, fl (ml M [32] [S])) 0 0 (.inl (some (x_i t.1))) (al, ro, fl (ml M [32] [t.2])) := by
    refine f_puti (pc := 19) (k := 0) (u := 32) (q := 0) dX12_seats_19 xf12_58 xw10_0 (sa_32_0 hs) hn rfl rfl rfl (by decide) ?_
    show Ev g _ _ _ _ _ _ 22 [some (x_r (16 * 32 + 0)), some (x_i a), none, none, none, none] [] (al, ro, fl (ml M [32] [(x_up S 0 0 v1)])) _ _ _ _
    refine e_aloadn (pc := 22) (i := 0) dX12_seats_22 rfl rfl ?_
    refine f_geti (pc := 23) (k := 0) (u := 32) (q := 0) dX12_seats_23 xf12_58 (sa_32_0 hs) rfl hn rfl rfl (by decide) ?_
    show Ev g _ _ _ _ _ _ 26 [some (x_r (16 * 32 + 0)), some (x_i a), none, none, none, none] [x_i ((x_up S 0 0 v1) 0 0)] (al, ro, fl (ml M [32] [(x_up S 0 0 v1)])) _ _ _ _
    refine e_if_le (pc := 26) (tgt := 31) dX12_seats_26 (by decide) (fun hb => ?_) (fun hb => ?_)
    · rw [if_pos hb] at hG
      refine e_aloadn (pc := 31) (i := 0) dX12_seats_31 rfl rfl ?_
      obtain ⟨S5, hq5, hG⟩ := x_bd1 hG
      refine e_invV (pc := 32) (K1 := 0) (S1 := 0) (K := 0) (S := 0) (dd2 := 1) (av := []) (st := []) (id := 16 * 32 + 0) dX12_seats_32 xmX12_343 rfl (Or.inl ⟨10, 27, TX12, (sa_32_0 hs), rfl, by decide⟩) (f_cal (M := M) (us2 := [32]) [0] hn rfl (And.intro rfl trivial) rfl rfl rfl (c_X12_seatsOf hst hs   hq5)) (by decide) (Nat.le_of_ble_eq_true rfl) (Or.inl rfl) ?_
      show Ev g _ _ _ _ _ _ 35 [some (x_r (16 * 32 + 0)), some (x_i a), none, none, none, none] [] (al, ro, fl (ml M [32] [S5])) _ _ _ _
      refine e_iloadn (pc := 35) (i := 1) dX12_seats_35 rfl rfl ?_
      refine e_iconst (pc := 36) dX12_seats_36 (x_R rfl) ?_
      refine e_icmp_ne (pc := 37) (tgt := 47) dX12_seats_37 (by decide) (fun hb => ?_) (fun hb => ?_)
      · rw [if_neg hb] at hG
        refine e_iconst (pc := 47) dX12_seats_47 (x_R rfl) ?_
        refine e_istoren (pc := 48) (i := 2) dX12_seats_48 rfl (by decide) rfl ?_
        show Ev g _ _ _ _ _ _ 49 [some (x_r (16 * 32 + 0)), some (x_i a), some (x_i 0), none, none, none] [] (al, ro, fl (ml M [32] [S5])) _ _ _ _
        refine e_iconst (pc := 49) dX12_seats_49 (x_R rfl) ?_
        refine e_istoren (pc := 50) (i := 3) dX12_seats_50 rfl (by decide) rfl ?_
        show Ev g _ _ _ _ _ _ 51 [some (x_r (16 * 32 + 0)), some (x_i a), some (x_i 0), some (x_i (-1)), none, none] [] (al, ro, fl (ml M [32] [S5])) _ _ _ _
        refine e_iconst (pc := 51) dX12_seats_51 (x_R rfl) ?_
        refine e_istore (pc := 52) (i := 4) dX12_seats_52 (by decide) rfl ?_
        show Ev g _ _ _ _ _ _ 54 [some (x_r (16 * 32 + 0)), some (x_i a), some (x_i 0), some (x_i (-1)), some (x_i 0), none] [] (al, ro, fl (ml M [32] [S5])) _ _ _ _
        obtain ⟨v10, hl11, hG⟩ := x_bd1 hG
        have hk11 : ∀ q : Int, q = v10 → Ev g yX12_seats cX12_seats 6 (some .int) [] 2 158 [some (x_r (16 * 32 + 0)), some (x_i a), none, some (x_i q), none, none] [] (al, ro, fl (ml M [32] [S5])) 0 0 (.inl (some (x_i t.1))) (al, ro, fl (ml M [32] [t.2])) := by
          intro q hq
          replace hq := hq.symm
          subst hq
          refine e_iloadn (pc := 158) (i := 3) dX12_seats_158 rfl rfl ?_
          cases hG
          exact (e_ireturn rfl dX12_seats_159 rfl)
        clear hG
        refine e_whl (G12_seats_L54 a S5) (fun z : (Int × Int × Int) => Ev g yX12_seats cX12_seats 6 (some .int) [] 2 54 [some (x_r (16 * 32 + 0)), some (x_i a), some (x_i z.1), some (x_i z.2.1), some (x_i z.2.2), none] [] (al, ro, fl (ml M [32] [S5])) 0 0 (.inl (some (x_i t.1))) (al, ro, fl (ml M [32] [t.2]))) (fun q => q = v10) ?_ xFU (0, (-1), 0) _ hl11 rfl
        intro z t11 hf11 hi11 hx11
        obtain ⟨v7, v8, v9⟩ := z
        rw [G12_seats_L54] at hf11
        show Ev g _ _ _ _ _ _ 54 [some (x_r (16 * 32 + 0)), some (x_i a), some (x_i v7), some (x_i v8), some (x_i v9), none] [] (al, ro, fl (ml M [32] [S5])) _ _ _ _
        refine e_iload (pc := 54) dX12_seats_54 rfl ?_
        refine e_iloadn (pc := 56) (i := 1) dX12_seats_56 rfl rfl ?_
        refine e_icmp_gt (pc := 57) (tgt := 158) dX12_seats_57 (by decide) (fun hb => ?_) (fun hb => ?_)
        · rw [if_pos hb] at hf11
          cases hf11
          refine e_drop (i := 2) ?_
          refine e_drop (i := 4) ?_
          exact hk11 _ (hx11 _ rfl)
        · rw [if_neg hb] at hf11
          refine e_iconst (pc := 60) dX12_seats_60 (x_R rfl) ?_
          refine e_istoren (pc := 61) (i := 3) dX12_seats_61 rfl (by decide) rfl ?_
          show Ev g _ _ _ _ _ _ 62 [some (x_r (16 * 32 + 0)), some (x_i a), some (x_i v7), some (x_i (-1)), some (x_i v9), none] [] (al, ro, fl (ml M [32] [S5])) _ _ _ _
          refine e_bipush (pc := 62) dX12_seats_62 (by decide +kernel) (x_R rfl) ?_
          refine e_istore (pc := 64) (i := 5) dX12_seats_64 (by decide) rfl ?_
          show Ev g _ _ _ _ _ _ 66 [some (x_r (16 * 32 + 0)), some (x_i a), some (x_i v7), some (x_i (-1)), some (x_i v9), some (x_i 11)] [] (al, ro, fl (ml M [32] [S5])) _ _ _ _
          obtain ⟨v15, hl16, hf11⟩ := x_bd1 hf11
          have hk16 : ∀ q : Int, q = v15 → Ev g yX12_seats cX12_seats 6 (some .int) [] 2 137 [some (x_r (16 * 32 + 0)), some (x_i a), some (x_i v7), some (x_i q), some (x_i v9), none] [] (al, ro, fl (ml M [32] [S5])) 0 0 (.inl (some (x_i t.1))) (al, ro, fl (ml M [32] [t.2])) := by
            intro q hq
            replace hq := hq.symm
            subst hq
            refine e_iloadn (pc := 137) (i := 2) dX12_seats_137 rfl rfl ?_
            refine e_iloadn (pc := 138) (i := 3) dX12_seats_138 rfl rfl ?_
            refine e_iconst (pc := 139) dX12_seats_139 (x_R rfl) ?_
            obtain ⟨v24, hr24, hf11⟩ := x_bd1 hf11
            have hjhr24 : Ev g yX12_seats cX12_seats 6 (some .int) [] 2 150 [some (x_r (16 * 32 + 0)), some (x_i a), some (x_i v7), some (x_i v15), some (x_i v9), none] [x_i v24, x_i v7] (al, ro, fl (ml M [32] [S5])) 0 0 (.inl (some (x_i t.1))) (al, ro, fl (ml M [32] [t.2])) := by
              refine e_ior (pc := 150) dX12_seats_150 ?_
              refine e_istoren (pc := 151) (i := 2) dX12_seats_151 rfl (by decide) rfl ?_
              show Ev g _ _ _ _ _ _ 152 [some (x_r (16 * 32 + 0)), some (x_i a), some (x_i (x_or v7 v24)), some (x_i v15), some (x_i v9), none] [] (al, ro, fl (ml M [32] [S5])) _ _ _ _
              refine e_iinc (pc := 152) dX12_seats_152 rfl (by decide) rfl ?_
              show Ev g _ _ _ _ _ _ 155 [some (x_r (16 * 32 + 0)), some (x_i a), some (x_i (x_or v7 v24)), some (x_i v15), some (x_i (x_add v9 1)), none] [] (al, ro, fl (ml M [32] [S5])) _ _ _ _
              refine e_goto (pc := 155) (tgt := 54) dX12_seats_155 (by decide) ?_
              cases hf11
              exact hi11 _ rfl
            clear hf11
            refine e_icmp_ne (pc := 140) (tgt := 147) dX12_seats_140 (by decide) (fun hb => ?_) (fun hb => ?_)
            · rw [if_neg hb] at hr24
              refine e_iconst (pc := 147) dX12_seats_147 (x_R rfl) ?_
              refine e_iloadn (pc := 148) (i := 3) dX12_seats_148 rfl rfl ?_
              refine e_ishl (pc := 149) dX12_seats_149 ?_
              cases hr24
              exact hjhr24
            · rw [if_pos hb] at hr24
              refine e_iconst (pc := 143) dX12_seats_143 (x_R rfl) ?_
              refine e_goto (pc := 144) (tgt := 150) dX12_seats_144 (by decide) ?_
              cases hr24
              exact hjhr24
          clear hf11
          refine e_whl (G12_seats_L66 S5 v7 v9) (fun z : (Int × Int) => Ev g yX12_seats cX12_seats 6 (some .int) [] 2 66 [some (x_r (16 * 32 + 0)), some (x_i a), some (x_i v7), some (x_i z.1), some (x_i v9), some (x_i z.2)] [] (al, ro, fl (ml M [32] [S5])) 0 0 (.inl (some (x_i t.1))) (al, ro, fl (ml M [32] [t.2]))) (fun q => q = v15) ?_ xFU ((-1), 11) _ hl16 rfl
          intro z t16 hf16 hi16 hx16
          obtain ⟨v13, v14⟩ := z
          rw [G12_seats_L66] at hf16
          show Ev g _ _ _ _ _ _ 66 [some (x_r (16 * 32 + 0)), some (x_i a), some (x_i v7), some (x_i v13), some (x_i v9), some (x_i v14)] [] (al, ro, fl (ml M [32] [S5])) _ _ _ _
          refine e_iload (pc := 66) dX12_seats_66 rfl ?_
          refine e_if_lt (pc := 68) (tgt := 137) dX12_seats_68 (by decide) (fun hb => ?_) (fun hb => ?_)
          · rw [if_pos hb] at hf16
            cases hf16
            refine e_drop (i := 5) ?_
            exact hk16 _ (hx16 _ rfl)
          · rw [if_neg hb] at hf16
            refine e_aloadn (pc := 71) (i := 0) dX12_seats_71 rfl rfl ?_
            refine e_iload (pc := 72) dX12_seats_72 rfl ?_
            refine e_iconst (pc := 74) dX12_seats_74 (x_R rfl) ?_
            obtain ⟨v18, hq18, hf16⟩ := x_bd1 hf16
            refine e_invV (pc := 75) (K1 := 0) (S1 := 0) (K := 0) (S := 0) (dd2 := 0) (av := [x_i v9, x_i 3]) (st := []) (id := 16 * 32 + 0) dX12_seats_75 xmX12_65 rfl (Or.inl ⟨10, 27, TX12, (sa_32_0 hs), rfl, by decide⟩) (f_cal (M := M) (us2 := [32]) [0] hn rfl (And.intro rfl trivial) rfl rfl rfl (c_X12_of hst hs   hq18)) (by decide) (Nat.le_of_ble_eq_true rfl) (Or.inl rfl) ?_
            show Ev g _ _ _ _ _ _ 78 [some (x_r (16 * 32 + 0)), some (x_i a), some (x_i v7), some (x_i v13), some (x_i v9), some (x_i v14)] [x_i v18] (al, ro, fl (ml M [32] [S5])) _ _ _ _
            refine e_iloadn (pc := 78) (i := 2) dX12_seats_78 rfl rfl ?_
            refine e_iconst (pc := 79) dX12_seats_79 (x_R rfl) ?_
            refine e_ixor (pc := 80) dX12_seats_80 ?_
            refine e_iand (pc := 81) dX12_seats_81 ?_
            refine e_iload (pc := 82) dX12_seats_82 rfl ?_
            obtain ⟨v20, hq20, hf16⟩ := x_bd1 hf16
            refine e_invS (pc := 84) (K1 := 0) (S1 := 0) (K := 0) (S := 0) (dd2 := 0) (av := [x_i (x_and v18 (x_xor v7 (-1))), x_i v14]) (st := []) dX12_seats_84 xmX12_119 rfl (f_cal (M := M) (us2 := []) [] hn rfl trivial rfl rfl rfl (c_X12_isOf hst hs   hq20)) (by decide) (Nat.le_of_ble_eq_true rfl) (Or.inl rfl) ?_
            show Ev g _ _ _ _ _ _ 87 [some (x_r (16 * 32 + 0)), some (x_i a), some (x_i v7), some (x_i v13), some (x_i v9), some (x_i v14)] [x_i v20] (al, ro, fl (ml M [32] [S5])) _ _ _ _
            obtain ⟨v22, hr22, hf16⟩ := x_bd1 hf16
            have hjhr22 : Ev g yX12_seats cX12_seats 6 (some .int) [] 2 131 [some (x_r (16 * 32 + 0)), some (x_i a), some (x_i v7), some (x_i v22), some (x_i v9), some (x_i v14)] [] (al, ro, fl (ml M [32] [S5])) 0 0 (.inl (some (x_i t.1))) (al, ro, fl (ml M [32] [t.2])) := by
              refine e_iinc (pc := 131) dX12_seats_131 rfl (by decide) rfl ?_
              show Ev g _ _ _ _ _ _ 134 [some (x_r (16 * 32 + 0)), some (x_i a), some (x_i v7), some (x_i v22), some (x_i v9), some (x_i (x_add v14 (-1)))] [] (al, ro, fl (ml M [32] [S5])) _ _ _ _
              refine e_goto (pc := 134) (tgt := 66) dX12_seats_134 (by decide) ?_
              cases hf16
              exact hi16 _ rfl
            clear hf16
            refine e_if_eq (pc := 87) (tgt := 131) dX12_seats_87 (by decide) (fun hb => ?_) (fun hb => ?_)
            · rw [if_pos hb] at hr22
              cases hr22
              exact hjhr22
            · rw [if_neg hb] at hr22
              refine e_iconst (pc := 90) dX12_seats_90 (x_R rfl) ?_
              refine e_aloadn (pc := 91) (i := 0) dX12_seats_91 rfl rfl ?_
              refine f_getr (pc := 92) (u := 32) (q := 0) dX12_seats_92 xf12_36 (sa_32_0 hs) rfl (sr_32_0_20 hs) ?_
              refine e_sipush (pc := 95) dX12_seats_95 (by decide +kernel) (x_R rfl) ?_
              refine e_iload (pc := 98) dX12_seats_98 rfl ?_
              refine e_iconst (pc := 100) dX12_seats_100 (x_R rfl) ?_
              refine e_iadd (pc := 101) dX12_seats_101 ?_
              refine e_imul (pc := 102) dX12_seats_102 ?_
              refine e_iloadn (pc := 103) (i := 2) dX12_seats_103 rfl rfl ?_
              refine e_iconst (pc := 104) dX12_seats_104 (x_R rfl) ?_
              refine e_iload (pc := 105) dX12_seats_105 rfl ?_
              refine e_ishl (pc := 107) dX12_seats_107 ?_
              refine e_ior (pc := 108) dX12_seats_108 ?_
              refine e_iadd (pc := 109) dX12_seats_109 ?_
              obtain ⟨hc0, hr22⟩ := x_gd_some hr22
              refine f_iald (pc := 110) (k := 0) (u := 32) (q := 8) (len := 32768) dX12_seats_110 (sa_32_8 hs) hc0 hn rfl rfl (by decide) ?_
              show Ev g _ _ _ _ _ _ 111 [some (x_r (16 * 32 + 0)), some (x_i a), some (x_i v7), some (x_i v13), some (x_i v9), some (x_i v14)] [x_i (S5 8 ((x_add (x_mul 4096 (x_add v9 1)) (x_or v7 (x_shl 1 v14)))).toNat), x_i 1] (al, ro, fl (ml M [32] [S5])) _ _ _ _
              refine e_iadd (pc := 111) dX12_seats_111 ?_
              refine e_aloadn (pc := 112) (i := 0) dX12_seats_112 rfl rfl ?_
              refine f_getr (pc := 113) (u := 32) (q := 0) dX12_seats_113 xf12_36 (sa_32_0 hs) rfl (sr_32_0_20 hs) ?_
              refine e_sipush (pc := 116) dX12_seats_116 (by decide +kernel) (x_R rfl) ?_
              refine e_iload (pc := 119) dX12_seats_119 rfl ?_
              refine e_imul (pc := 121) dX12_seats_121 ?_
              refine e_iloadn (pc := 122) (i := 2) dX12_seats_122 rfl rfl ?_
              refine e_iadd (pc := 123) dX12_seats_123 ?_
              obtain ⟨hc0, hr22⟩ := x_gd_some hr22
              refine f_iald (pc := 124) (k := 0) (u := 32) (q := 8) (len := 32768) dX12_seats_124 (sa_32_8 hs) hc0 hn rfl rfl (by decide) ?_
              show Ev g _ _ _ _ _ _ 125 [some (x_r (16 * 32 + 0)), some (x_i a), some (x_i v7), some (x_i v13), some (x_i v9), some (x_i v14)] [x_i (S5 8 ((x_add (x_mul 4096 v9) v7)).toNat), x_i (x_add 1 (S5 8 ((x_add (x_mul 4096 (x_add v9 1)) (x_or v7 (x_shl 1 v14)))).toNat))] (al, ro, fl (ml M [32] [S5])) _ _ _ _
              refine e_icmp_ne (pc := 125) (tgt := 131) dX12_seats_125 (by decide) (fun hb => ?_) (fun hb => ?_)
              · rw [if_neg hb] at hr22
                cases hr22
                exact hjhr22
              · rw [if_pos hb] at hr22
                refine e_iload (pc := 128) dX12_seats_128 rfl ?_
                refine e_istoren (pc := 130) (i := 3) dX12_seats_130 rfl (by decide) rfl ?_
                show Ev g _ _ _ _ _ _ 131 [some (x_r (16 * 32 + 0)), some (x_i a), some (x_i v7), some (x_i v14), some (x_i v9), some (x_i v14)] [] (al, ro, fl (ml M [32] [S5])) _ _ _ _
                cases hr22
                exact hjhr22
      · rw [if_pos hb] at hG
        refine e_aloadn (pc := 40) (i := 0) dX12_seats_40 rfl rfl ?_
        refine f_getr (pc := 41) (u := 32) (q := 0) dX12_seats_41 xf12_36 (sa_32_0 hs) rfl (sr_32_0_20 hs) ?_
        refine e_iconst (pc := 44) dX12_seats_44 (x_R rfl) ?_
        refine f_iald (pc := 45) (k := 0) (u := 32) (q := 8) (len := 32768) dX12_seats_45 (sa_32_8 hs) (by decide) hn rfl rfl (by decide) ?_
        show Ev g _ _ _ _ _ _ 46 [some (x_r (16 * 32 + 0)), some (x_i a), none, none, none, none] [x_i (S5 8 0)] (al, ro, fl (ml M [32] [S5])) _ _ _ _
        cases hG
        exact (e_ireturn rfl dX12_seats_46 rfl)
    · rw [if_neg hb] at hG
      refine e_iconst (pc := 29) dX12_seats_29 (x_R rfl) ?_
      cases hG
      exact (e_ireturn rfl dX12_seats_30 rfl)
  clear hG
  refine e_icmp_eq (pc := 3) (tgt := 18) dX12_seats_3 (by decide) (fun hb => ?_) (fun hb => ?_)
  · rw [if_pos hb] at hr1
    refine e_iconst (pc := 18) dX12_seats_18 (x_R rfl) ?_
    cases hr1
    exact hjhr1
  · rw [if_neg hb] at hr1
    refine e_aloadn (pc := 6) (i := 0) dX12_seats_6 rfl rfl ?_
    refine e_iloadn (pc := 7) (i := 1) dX12_seats_7 rfl rfl ?_
    obtain ⟨v3, hq3, hr1⟩ := x_bd1 hr1
    refine e_invV (pc := 8) (K1 := 0) (S1 := 0) (K := 0) (S := 0) (dd2 := 1) (av := [x_i a]) (st := [x_r (16 * 32 + 0)]) (id := 16 * 32 + 0) dX12_seats_8 xmX12_295 rfl (Or.inl ⟨10, 27, TX12, (sa_32_0 hs), rfl, by decide⟩) (f_cal (M := M) (us2 := [32]) [0] hn rfl (And.intro rfl trivial) rfl rfl rfl (c_X12_isMonk hst hs   hq3)) (by decide) (Nat.le_of_ble_eq_true rfl) (Or.inl rfl) ?_
    show Ev g _ _ _ _ _ _ 11 [some (x_r (16 * 32 + 0)), some (x_i a), none, none, none, none] [x_i v3, x_r (16 * 32 + 0)] (al, ro, fl (ml M [32] [S])) _ _ _ _
    refine e_if_ne (pc := 11) (tgt := 18) dX12_seats_11 (by decide) (fun hb => ?_) (fun hb => ?_)
    · rw [if_neg hb] at hr1
      refine e_iconst (pc := 18) dX12_seats_18 (x_R rfl) ?_
      cases hr1
      exact hjhr1
    · rw [if_pos hb] at hr1
      refine e_iconst (pc := 14) dX12_seats_14 (x_R rfl) ?_
      refine e_goto (pc := 15) (tgt := 19) dX12_seats_15 (by decide) ?_
      cases hr1
      exact hjhr1
def G12_likesOf_L4 (a : Int) (S : xU) : (Int × Int) → Option ((Int × Int) ⊕ Int)
  | (v1, v2) => (if (S 1 3) ≤ v2 then (some (.inr v1)) else (x_b1 (G12_isOf a v2) fun (v6 : Int) => (x_b1 (if v6 = 0 then (some 0) else (x_b1 (G12_of v2 3 S) fun (v10 : Int) => (some v10))) fun (v8 : Int) => (some (.inl ((x_or v1 v8), (x_add v2 1)))))))
def G12_likesOf (a : Int) (S : xU) : Option Int :=
  (x_b1 (whl xFU (G12_likesOf_L4 a S) (0, 0)) fun (v3 : Int) => (some v3))
set_option maxRecDepth 100000 in
set_option maxHeartbeats 4000000 in
theorem c_X12_likesOf {g : xG} {al : List (Nat × Nat × Nat)} {ro : Nat → Nat → Option Nat} (hst : g.1.stackTraces = false) (hs : SH al ro) {M : Nat → xU} {a : Int} {S : xU} {t : Int} (hG : G12_likesOf a S = some t) :
    Cal g yX12_likesOf cX12_likesOf 4 (some .int) 1 [x_r (16 * 32 + 0), x_i a] (al, ro, fl (ml M [32] [S])) 0 0 (.inl (some (x_i t))) (al, ro, fl (ml M [32] [S])) := by
  have hn : ([32] : List Nat).Nodup := by decide
  refine cal_of_ev (by decide) (x_c1 rfl) (Nat.le_of_ble_eq_true rfl) hst ?_
  show Ev g _ _ _ _ _ _ 0 [some (x_r (16 * 32 + 0)), some (x_i a), none, none] [] (al, ro, fl (ml M [32] [S])) _ _ _ _
  rw [G12_likesOf] at hG
  refine e_iconst (pc := 0) dX12_likesOf_0 (x_R rfl) ?_
  refine e_istoren (pc := 1) (i := 2) dX12_likesOf_1 rfl (by decide) rfl ?_
  show Ev g _ _ _ _ _ _ 2 [some (x_r (16 * 32 + 0)), some (x_i a), some (x_i 0), none] [] (al, ro, fl (ml M [32] [S])) _ _ _ _
  refine e_iconst (pc := 2) dX12_likesOf_2 (x_R rfl) ?_
  refine e_istoren (pc := 3) (i := 3) dX12_likesOf_3 rfl (by decide) rfl ?_
  show Ev g _ _ _ _ _ _ 4 [some (x_r (16 * 32 + 0)), some (x_i a), some (x_i 0), some (x_i 0)] [] (al, ro, fl (ml M [32] [S])) _ _ _ _
  obtain ⟨v3, hl4, hG⟩ := x_bd1 hG
  have hk4 : ∀ q : Int, q = v3 → Ev g yX12_likesOf cX12_likesOf 4 (some .int) [] 1 41 [some (x_r (16 * 32 + 0)), some (x_i a), some (x_i q), none] [] (al, ro, fl (ml M [32] [S])) 0 0 (.inl (some (x_i t))) (al, ro, fl (ml M [32] [S])) := by
    intro q hq
    replace hq := hq.symm
    subst hq
    refine e_iloadn (pc := 41) (i := 2) dX12_likesOf_41 rfl rfl ?_
    cases hG
    exact (e_ireturn rfl dX12_likesOf_42 rfl)
  clear hG
  refine e_whl (G12_likesOf_L4 a S) (fun z : (Int × Int) => Ev g yX12_likesOf cX12_likesOf 4 (some .int) [] 1 4 [some (x_r (16 * 32 + 0)), some (x_i a), some (x_i z.1), some (x_i z.2)] [] (al, ro, fl (ml M [32] [S])) 0 0 (.inl (some (x_i t))) (al, ro, fl (ml M [32] [S]))) (fun q => q = v3) ?_ xFU (0, 0) _ hl4 rfl
  intro z t4 hf4 hi4 hx4
  obtain ⟨v1, v2⟩ := z
  rw [G12_likesOf_L4] at hf4
  show Ev g _ _ _ _ _ _ 4 [some (x_r (16 * 32 + 0)), some (x_i a), some (x_i v1), some (x_i v2)] [] (al, ro, fl (ml M [32] [S])) _ _ _ _
  refine e_iloadn (pc := 4) (i := 3) dX12_likesOf_4 rfl rfl ?_
  refine e_aloadn (pc := 5) (i := 0) dX12_likesOf_5 rfl rfl ?_
  refine f_getr (pc := 6) (u := 32) (q := 0) dX12_likesOf_6 xf12_7 (sa_32_0 hs) rfl (sr_32_0_1 hs) ?_
  refine e_iconst (pc := 9) dX12_likesOf_9 (x_R rfl) ?_
  refine f_iald (pc := 10) (k := 0) (u := 32) (q := 1) (len := 772) dX12_likesOf_10 (sa_32_1 hs) (by decide) hn rfl rfl (by decide) ?_
  show Ev g _ _ _ _ _ _ 11 [some (x_r (16 * 32 + 0)), some (x_i a), some (x_i v1), some (x_i v2)] [x_i (S 1 3), x_i v2] (al, ro, fl (ml M [32] [S])) _ _ _ _
  refine e_icmp_ge (pc := 11) (tgt := 41) dX12_likesOf_11 (by decide) (fun hb => ?_) (fun hb => ?_)
  · rw [if_pos hb] at hf4
    cases hf4
    refine e_drop (i := 3) ?_
    exact hk4 _ (hx4 _ rfl)
  · rw [if_neg hb] at hf4
    refine e_iloadn (pc := 14) (i := 2) dX12_likesOf_14 rfl rfl ?_
    refine e_iloadn (pc := 15) (i := 1) dX12_likesOf_15 rfl rfl ?_
    refine e_iloadn (pc := 16) (i := 3) dX12_likesOf_16 rfl rfl ?_
    obtain ⟨v6, hq6, hf4⟩ := x_bd1 hf4
    refine e_invS (pc := 17) (K1 := 0) (S1 := 0) (K := 0) (S := 0) (dd2 := 0) (av := [x_i a, x_i v2]) (st := [x_i v1]) dX12_likesOf_17 xmX12_119 rfl (f_cal (M := M) (us2 := []) [] hn rfl trivial rfl rfl rfl (c_X12_isOf hst hs   hq6)) (by decide) (Nat.le_of_ble_eq_true rfl) (Or.inl rfl) ?_
    show Ev g _ _ _ _ _ _ 20 [some (x_r (16 * 32 + 0)), some (x_i a), some (x_i v1), some (x_i v2)] [x_i v6, x_i v1] (al, ro, fl (ml M [32] [S])) _ _ _ _
    obtain ⟨v8, hr8, hf4⟩ := x_bd1 hf4
    have hjhr8 : Ev g yX12_likesOf cX12_likesOf 4 (some .int) [] 1 33 [some (x_r (16 * 32 + 0)), some (x_i a), some (x_i v1), some (x_i v2)] [x_i v8, x_i v1] (al, ro, fl (ml M [32] [S])) 0 0 (.inl (some (x_i t))) (al, ro, fl (ml M [32] [S])) := by
      refine e_ior (pc := 33) dX12_likesOf_33 ?_
      refine e_istoren (pc := 34) (i := 2) dX12_likesOf_34 rfl (by decide) rfl ?_
      show Ev g _ _ _ _ _ _ 35 [some (x_r (16 * 32 + 0)), some (x_i a), some (x_i (x_or v1 v8)), some (x_i v2)] [] (al, ro, fl (ml M [32] [S])) _ _ _ _
      refine e_iinc (pc := 35) dX12_likesOf_35 rfl (by decide) rfl ?_
      show Ev g _ _ _ _ _ _ 38 [some (x_r (16 * 32 + 0)), some (x_i a), some (x_i (x_or v1 v8)), some (x_i (x_add v2 1))] [] (al, ro, fl (ml M [32] [S])) _ _ _ _
      refine e_goto (pc := 38) (tgt := 4) dX12_likesOf_38 (by decide) ?_
      cases hf4
      exact hi4 _ rfl
    clear hf4
    refine e_if_eq (pc := 20) (tgt := 32) dX12_likesOf_20 (by decide) (fun hb => ?_) (fun hb => ?_)
    · rw [if_pos hb] at hr8
      refine e_iconst (pc := 32) dX12_likesOf_32 (x_R rfl) ?_
      cases hr8
      exact hjhr8
    · rw [if_neg hb] at hr8
      refine e_aloadn (pc := 23) (i := 0) dX12_likesOf_23 rfl rfl ?_
      refine e_iloadn (pc := 24) (i := 3) dX12_likesOf_24 rfl rfl ?_
      refine e_iconst (pc := 25) dX12_likesOf_25 (x_R rfl) ?_
      obtain ⟨v10, hq10, hr8⟩ := x_bd1 hr8
      refine e_invV (pc := 26) (K1 := 0) (S1 := 0) (K := 0) (S := 0) (dd2 := 0) (av := [x_i v2, x_i 3]) (st := [x_i v1]) (id := 16 * 32 + 0) dX12_likesOf_26 xmX12_65 rfl (Or.inl ⟨10, 27, TX12, (sa_32_0 hs), rfl, by decide⟩) (f_cal (M := M) (us2 := [32]) [0] hn rfl (And.intro rfl trivial) rfl rfl rfl (c_X12_of hst hs   hq10)) (by decide) (Nat.le_of_ble_eq_true rfl) (Or.inl rfl) ?_
      show Ev g _ _ _ _ _ _ 29 [some (x_r (16 * 32 + 0)), some (x_i a), some (x_i v1), some (x_i v2)] [x_i v10, x_i v1] (al, ro, fl (ml M [32] [S])) _ _ _ _
      refine e_goto (pc := 29) (tgt := 33) dX12_likesOf_29 (by decide) ?_
      cases hr8
      exact hjhr8
def G12_shown_L9 (S : xU) : (Int × Int) → Option ((Int × Int) ⊕ Int)
  | (v1, v2) => (x_b1 (G12_all (x_up S 0 0 0)) fun (v6 : Int) => (if v6 < v2 then (some (.inr v1)) else (x_b1 (G12_likesOf v2 (x_up S 0 0 0)) fun (v8 : Int) => (x_b1 (G12_bits v8) fun (v10 : Int) => (x_b1 (G12_bits v2) fun (v12 : Int) => (x_b1 (if v12 ≤ v10 then (some v1) else (if v1 = 0 then (some v2) else (x_b1 (G12_bits v2) fun (v16 : Int) => (x_b1 (G12_bits v1) fun (v18 : Int) => (if v18 ≤ v16 then (some v1) else (some v2)))))) fun (v14 : Int) => (some (.inl (v14, (x_add v2 1))))))))))
def G12_shown (S : xU) : Option (Int × xU) :=
  (x_b1 (whl xFU (G12_shown_L9 S) (0, 1)) fun (v3 : Int) => (some (v3, (x_up S 0 0 0))))
set_option maxRecDepth 100000 in
set_option maxHeartbeats 4000000 in
theorem c_X12_shown {g : xG} {al : List (Nat × Nat × Nat)} {ro : Nat → Nat → Option Nat} (hst : g.1.stackTraces = false) (hs : SH al ro) {M : Nat → xU} {S : xU} {t : (Int × xU)} (hG : G12_shown S = some t) :
    Cal g yX12_shown cX12_shown 3 (some .int) 2 [x_r (16 * 32 + 0)] (al, ro, fl (ml M [32] [S])) 0 0 (.inl (some (x_i t.1))) (al, ro, fl (ml M [32] [t.2])) := by
  have hn : ([32] : List Nat).Nodup := by decide
  refine cal_of_ev (by decide) (x_c1 rfl) (Nat.le_of_ble_eq_true rfl) hst ?_
  show Ev g _ _ _ _ _ _ 0 [some (x_r (16 * 32 + 0)), none, none] [] (al, ro, fl (ml M [32] [S])) _ _ _ _
  rw [G12_shown] at hG
  refine e_aloadn (pc := 0) (i := 0) dX12_shown_0 rfl rfl ?_
  refine e_iconst (pc := 1) dX12_shown_1 (x_R rfl) ?_
  refine f_puti (pc := 2) (k := 0) (u := 32) (q := 0) dX12_shown_2 xf12_58 xw10_0 (sa_32_0 hs) hn rfl rfl rfl (by decide) ?_
  show Ev g _ _ _ _ _ _ 5 [some (x_r (16 * 32 + 0)), none, none] [] (al, ro, fl (ml M [32] [(x_up S 0 0 0)])) _ _ _ _
  refine e_iconst (pc := 5) dX12_shown_5 (x_R rfl) ?_
  refine e_istoren (pc := 6) (i := 1) dX12_shown_6 rfl (by decide) rfl ?_
  show Ev g _ _ _ _ _ _ 7 [some (x_r (16 * 32 + 0)), some (x_i 0), none] [] (al, ro, fl (ml M [32] [(x_up S 0 0 0)])) _ _ _ _
  refine e_iconst (pc := 7) dX12_shown_7 (x_R rfl) ?_
  refine e_istoren (pc := 8) (i := 2) dX12_shown_8 rfl (by decide) rfl ?_
  show Ev g _ _ _ _ _ _ 9 [some (x_r (16 * 32 + 0)), some (x_i 0), some (x_i 1)] [] (al, ro, fl (ml M [32] [(x_up S 0 0 0)])) _ _ _ _
  obtain ⟨v3, hl4, hG⟩ := x_bd1 hG
  have hk4 : ∀ q : Int, q = v3 → Ev g yX12_shown cX12_shown 3 (some .int) [] 2 55 [some (x_r (16 * 32 + 0)), some (x_i q), none] [] (al, ro, fl (ml M [32] [(x_up S 0 0 0)])) 0 0 (.inl (some (x_i t.1))) (al, ro, fl (ml M [32] [t.2])) := by
    intro q hq
    replace hq := hq.symm
    subst hq
    refine e_iloadn (pc := 55) (i := 1) dX12_shown_55 rfl rfl ?_
    cases hG
    exact (e_ireturn rfl dX12_shown_56 rfl)
  clear hG
  refine e_whl (G12_shown_L9 S) (fun z : (Int × Int) => Ev g yX12_shown cX12_shown 3 (some .int) [] 2 9 [some (x_r (16 * 32 + 0)), some (x_i z.1), some (x_i z.2)] [] (al, ro, fl (ml M [32] [(x_up S 0 0 0)])) 0 0 (.inl (some (x_i t.1))) (al, ro, fl (ml M [32] [t.2]))) (fun q => q = v3) ?_ xFU (0, 1) _ hl4 rfl
  intro z t4 hf4 hi4 hx4
  obtain ⟨v1, v2⟩ := z
  rw [G12_shown_L9] at hf4
  show Ev g _ _ _ _ _ _ 9 [some (x_r (16 * 32 + 0)), some (x_i v1), some (x_i v2)] [] (al, ro, fl (ml M [32] [(x_up S 0 0 0)])) _ _ _ _
  refine e_iloadn (pc := 9) (i := 2) dX12_shown_9 rfl rfl ?_
  refine e_aloadn (pc := 10) (i := 0) dX12_shown_10 rfl rfl ?_
  obtain ⟨v6, hq6, hf4⟩ := x_bd1 hf4
  refine e_invV (pc := 11) (K1 := 0) (S1 := 0) (K := 0) (S := 0) (dd2 := 0) (av := []) (st := [x_i v2]) (id := 16 * 32 + 0) dX12_shown_11 xmX12_346 rfl (Or.inl ⟨10, 27, TX12, (sa_32_0 hs), rfl, by decide⟩) (f_cal (M := M) (us2 := [32]) [0] hn rfl (And.intro rfl trivial) rfl rfl rfl (c_X12_all hst hs   hq6)) (by decide) (Nat.le_of_ble_eq_true rfl) (Or.inl rfl) ?_
  show Ev g _ _ _ _ _ _ 14 [some (x_r (16 * 32 + 0)), some (x_i v1), some (x_i v2)] [x_i v6, x_i v2] (al, ro, fl (ml M [32] [(x_up S 0 0 0)])) _ _ _ _
  refine e_icmp_gt (pc := 14) (tgt := 55) dX12_shown_14 (by decide) (fun hb => ?_) (fun hb => ?_)
  · rw [if_pos hb] at hf4
    cases hf4
    refine e_drop (i := 2) ?_
    exact hk4 _ (hx4 _ rfl)
  · rw [if_neg hb] at hf4
    refine e_aloadn (pc := 17) (i := 0) dX12_shown_17 rfl rfl ?_
    refine e_iloadn (pc := 18) (i := 2) dX12_shown_18 rfl rfl ?_
    obtain ⟨v8, hq8, hf4⟩ := x_bd1 hf4
    refine e_invV (pc := 19) (K1 := 0) (S1 := 0) (K := 0) (S := 0) (dd2 := 1) (av := [x_i v2]) (st := []) (id := 16 * 32 + 0) dX12_shown_19 xmX12_349 rfl (Or.inl ⟨10, 27, TX12, (sa_32_0 hs), rfl, by decide⟩) (f_cal (M := M) (us2 := [32]) [0] hn rfl (And.intro rfl trivial) rfl rfl rfl (c_X12_likesOf hst hs   hq8)) (by decide) (Nat.le_of_ble_eq_true rfl) (Or.inl rfl) ?_
    show Ev g _ _ _ _ _ _ 22 [some (x_r (16 * 32 + 0)), some (x_i v1), some (x_i v2)] [x_i v8] (al, ro, fl (ml M [32] [(x_up S 0 0 0)])) _ _ _ _
    obtain ⟨v10, hq10, hf4⟩ := x_bd1 hf4
    refine e_invS (pc := 22) (K1 := 0) (S1 := 0) (K := 0) (S := 0) (dd2 := 0) (av := [x_i v8]) (st := []) dX12_shown_22 xmX12_352 rfl (f_cal (M := M) (us2 := []) [] hn rfl trivial rfl rfl rfl (c_X12_bits hst hs   hq10)) (by decide) (Nat.le_of_ble_eq_true rfl) (Or.inl rfl) ?_
    show Ev g _ _ _ _ _ _ 25 [some (x_r (16 * 32 + 0)), some (x_i v1), some (x_i v2)] [x_i v10] (al, ro, fl (ml M [32] [(x_up S 0 0 0)])) _ _ _ _
    refine e_iloadn (pc := 25) (i := 2) dX12_shown_25 rfl rfl ?_
    obtain ⟨v12, hq12, hf4⟩ := x_bd1 hf4
    refine e_invS (pc := 26) (K1 := 0) (S1 := 0) (K := 0) (S := 0) (dd2 := 0) (av := [x_i v2]) (st := [x_i v10]) dX12_shown_26 xmX12_352 rfl (f_cal (M := M) (us2 := []) [] hn rfl trivial rfl rfl rfl (c_X12_bits hst hs   hq12)) (by decide) (Nat.le_of_ble_eq_true rfl) (Or.inl rfl) ?_
    show Ev g _ _ _ _ _ _ 29 [some (x_r (16 * 32 + 0)), some (x_i v1), some (x_i v2)] [x_i v12, x_i v10] (al, ro, fl (ml M [32] [(x_up S 0 0 0)])) _ _ _ _
    obtain ⟨v14, hr14, hf4⟩ := x_bd1 hf4
    have hjhr14 : Ev g yX12_shown cX12_shown 3 (some .int) [] 2 49 [some (x_r (16 * 32 + 0)), some (x_i v14), some (x_i v2)] [] (al, ro, fl (ml M [32] [(x_up S 0 0 0)])) 0 0 (.inl (some (x_i t.1))) (al, ro, fl (ml M [32] [t.2])) := by
      refine e_iinc (pc := 49) dX12_shown_49 rfl (by decide) rfl ?_
      show Ev g _ _ _ _ _ _ 52 [some (x_r (16 * 32 + 0)), some (x_i v14), some (x_i (x_add v2 1))] [] (al, ro, fl (ml M [32] [(x_up S 0 0 0)])) _ _ _ _
      refine e_goto (pc := 52) (tgt := 9) dX12_shown_52 (by decide) ?_
      cases hf4
      exact hi4 _ rfl
    clear hf4
    refine e_icmp_ge (pc := 29) (tgt := 49) dX12_shown_29 (by decide) (fun hb => ?_) (fun hb => ?_)
    · rw [if_pos hb] at hr14
      cases hr14
      exact hjhr14
    · rw [if_neg hb] at hr14
      refine e_iloadn (pc := 32) (i := 1) dX12_shown_32 rfl rfl ?_
      refine e_if_eq (pc := 33) (tgt := 47) dX12_shown_33 (by decide) (fun hb => ?_) (fun hb => ?_)
      · rw [if_pos hb] at hr14
        refine e_iloadn (pc := 47) (i := 2) dX12_shown_47 rfl rfl ?_
        refine e_istoren (pc := 48) (i := 1) dX12_shown_48 rfl (by decide) rfl ?_
        show Ev g _ _ _ _ _ _ 49 [some (x_r (16 * 32 + 0)), some (x_i v2), some (x_i v2)] [] (al, ro, fl (ml M [32] [(x_up S 0 0 0)])) _ _ _ _
        cases hr14
        exact hjhr14
      · rw [if_neg hb] at hr14
        refine e_iloadn (pc := 36) (i := 2) dX12_shown_36 rfl rfl ?_
        obtain ⟨v16, hq16, hr14⟩ := x_bd1 hr14
        refine e_invS (pc := 37) (K1 := 0) (S1 := 0) (K := 0) (S := 0) (dd2 := 0) (av := [x_i v2]) (st := []) dX12_shown_37 xmX12_352 rfl (f_cal (M := M) (us2 := []) [] hn rfl trivial rfl rfl rfl (c_X12_bits hst hs   hq16)) (by decide) (Nat.le_of_ble_eq_true rfl) (Or.inl rfl) ?_
        show Ev g _ _ _ _ _ _ 40 [some (x_r (16 * 32 + 0)), some (x_i v1), some (x_i v2)] [x_i v16] (al, ro, fl (ml M [32] [(x_up S 0 0 0)])) _ _ _ _
        refine e_iloadn (pc := 40) (i := 1) dX12_shown_40 rfl rfl ?_
        obtain ⟨v18, hq18, hr14⟩ := x_bd1 hr14
        refine e_invS (pc := 41) (K1 := 0) (S1 := 0) (K := 0) (S := 0) (dd2 := 0) (av := [x_i v1]) (st := [x_i v16]) dX12_shown_41 xmX12_352 rfl (f_cal (M := M) (us2 := []) [] hn rfl trivial rfl rfl rfl (c_X12_bits hst hs   hq18)) (by decide) (Nat.le_of_ble_eq_true rfl) (Or.inl rfl) ?_
        show Ev g _ _ _ _ _ _ 44 [some (x_r (16 * 32 + 0)), some (x_i v1), some (x_i v2)] [x_i v18, x_i v16] (al, ro, fl (ml M [32] [(x_up S 0 0 0)])) _ _ _ _
        refine e_icmp_ge (pc := 44) (tgt := 49) dX12_shown_44 (by decide) (fun hb => ?_) (fun hb => ?_)
        · rw [if_pos hb] at hr14
          cases hr14
          exact hjhr14
        · rw [if_neg hb] at hr14
          refine e_iloadn (pc := 47) (i := 2) dX12_shown_47 rfl rfl ?_
          refine e_istoren (pc := 48) (i := 1) dX12_shown_48 rfl (by decide) rfl ?_
          show Ev g _ _ _ _ _ _ 49 [some (x_r (16 * 32 + 0)), some (x_i v2), some (x_i v2)] [] (al, ro, fl (ml M [32] [(x_up S 0 0 0)])) _ _ _ _
          cases hr14
          exact hjhr14
def G12_serves_L32 (a : Int) (S : xU) (v3 : Int) : (Int × Int) → Option ((Int × Int) ⊕ Int)
  | (v5, v6) => (if ((x_up S 0 0 v3) 1 3) ≤ v6 then (some (.inr v5)) else (x_b1 (G12_of v6 3 (x_up S 0 0 v3)) fun (v10 : Int) => (x_b1 (G12_isOf v10 a) fun (v12 : Int) => (x_b1 (if v12 = 0 then (some 0) else (some (x_shl 1 v6))) fun (v14 : Int) => (some (.inl ((x_or v5 v14), (x_add v6 1))))))))
def G12_serves (a : Int) (S : xU) : Option (Int × xU) :=
  (x_b1 (G12_isIn a 0 11) fun (v1 : Int) => (x_b1 (if v1 = 0 then (some 1) else (some 0)) fun (v3 : Int) => (if ((x_up S 0 0 v3) 0 0) ≤ 0 then (x_b1 (whl xFU (G12_serves_L32 a S v3) (0, 0)) fun (v7 : Int) => (some (v7, (x_up S 0 0 v3)))) else (some (0, (x_up S 0 0 v3))))))
set_option maxRecDepth 100000 in
set_option maxHeartbeats 4000000 in
theorem c_X12_serves {g : xG} {al : List (Nat × Nat × Nat)} {ro : Nat → Nat → Option Nat} (hst : g.1.stackTraces = false) (hs : SH al ro) {M : Nat → xU} {a : Int} {S : xU} {t : (Int × xU)} (hG : G12_serves a S = some t) :
    Cal g yX12_serves cX12_serves 4 (some .int) 1 [x_r (16 * 32 + 0), x_i a] (al, ro, fl (ml M [32] [S])) 0 0 (.inl (some (x_i t.1))) (al, ro, fl (ml M [32] [t.2])) := by
  have hn : ([32] : List Nat).Nodup := by decide
  refine cal_of_ev (by decide) (x_c1 rfl) (Nat.le_of_ble_eq_true rfl) hst ?_
  show Ev g _ _ _ _ _ _ 0 [some (x_r (16 * 32 + 0)), some (x_i a), none, none] [] (al, ro, fl (ml M [32] [S])) _ _ _ _
  rw [G12_serves] at hG
  refine e_aloadn (pc := 0) (i := 0) dX12_serves_0 rfl rfl ?_
  refine e_iloadn (pc := 1) (i := 1) dX12_serves_1 rfl rfl ?_
  refine e_iconst (pc := 2) dX12_serves_2 (x_R rfl) ?_
  refine e_bipush (pc := 3) dX12_serves_3 (by decide +kernel) (x_R rfl) ?_
  obtain ⟨v1, hq1, hG⟩ := x_bd1 hG
  refine e_invS (pc := 5) (K1 := 0) (S1 := 0) (K := 0) (S := 0) (dd2 := 0) (av := [x_i a, x_i 0, x_i 11]) (st := [x_r (16 * 32 + 0)]) dX12_serves_5 xmX12_61 rfl (f_cal (M := M) (us2 := []) [] hn rfl trivial rfl rfl rfl (c_X12_isIn hst hs   hq1)) (by decide) (Nat.le_of_ble_eq_true rfl) (Or.inl rfl) ?_
  show Ev g _ _ _ _ _ _ 8 [some (x_r (16 * 32 + 0)), some (x_i a), none, none] [x_i v1, x_r (16 * 32 + 0)] (al, ro, fl (ml M [32] [S])) _ _ _ _
  obtain ⟨v3, hr3, hG⟩ := x_bd1 hG
  have hjhr3 : Ev g yX12_serves cX12_serves 4 (some .int) [] 1 16 [some (x_r (16 * 32 + 0)), some (x_i a), none, none] [x_i v3, x_r (16 * 32 + 0)] (al, ro, fl (ml M [32] [S])) 0 0 (.inl (some (x_i t.1))) (al, ro, fl (ml M [32] [t.2])) := by
    refine f_puti (pc := 16) (k := 0) (u := 32) (q := 0) dX12_serves_16 xf12_58 xw10_0 (sa_32_0 hs) hn rfl rfl rfl (by decide) ?_
    show Ev g _ _ _ _ _ _ 19 [some (x_r (16 * 32 + 0)), some (x_i a), none, none] [] (al, ro, fl (ml M [32] [(x_up S 0 0 v3)])) _ _ _ _
    refine e_aloadn (pc := 19) (i := 0) dX12_serves_19 rfl rfl ?_
    refine f_geti (pc := 20) (k := 0) (u := 32) (q := 0) dX12_serves_20 xf12_58 (sa_32_0 hs) rfl hn rfl rfl (by decide) ?_
    show Ev g _ _ _ _ _ _ 23 [some (x_r (16 * 32 + 0)), some (x_i a), none, none] [x_i ((x_up S 0 0 v3) 0 0)] (al, ro, fl (ml M [32] [(x_up S 0 0 v3)])) _ _ _ _
    refine e_if_le (pc := 23) (tgt := 28) dX12_serves_23 (by decide) (fun hb => ?_) (fun hb => ?_)
    · rw [if_pos hb] at hG
      refine e_iconst (pc := 28) dX12_serves_28 (x_R rfl) ?_
      refine e_istoren (pc := 29) (i := 2) dX12_serves_29 rfl (by decide) rfl ?_
      show Ev g _ _ _ _ _ _ 30 [some (x_r (16 * 32 + 0)), some (x_i a), some (x_i 0), none] [] (al, ro, fl (ml M [32] [(x_up S 0 0 v3)])) _ _ _ _
      refine e_iconst (pc := 30) dX12_serves_30 (x_R rfl) ?_
      refine e_istoren (pc := 31) (i := 3) dX12_serves_31 rfl (by decide) rfl ?_
      show Ev g _ _ _ _ _ _ 32 [some (x_r (16 * 32 + 0)), some (x_i a), some (x_i 0), some (x_i 0)] [] (al, ro, fl (ml M [32] [(x_up S 0 0 v3)])) _ _ _ _
      obtain ⟨v7, hl8, hG⟩ := x_bd1 hG
      have hk8 : ∀ q : Int, q = v7 → Ev g yX12_serves cX12_serves 4 (some .int) [] 1 71 [some (x_r (16 * 32 + 0)), some (x_i a), some (x_i q), none] [] (al, ro, fl (ml M [32] [(x_up S 0 0 v3)])) 0 0 (.inl (some (x_i t.1))) (al, ro, fl (ml M [32] [t.2])) := by
        intro q hq
        replace hq := hq.symm
        subst hq
        refine e_iloadn (pc := 71) (i := 2) dX12_serves_71 rfl rfl ?_
        cases hG
        exact (e_ireturn rfl dX12_serves_72 rfl)
      clear hG
      refine e_whl (G12_serves_L32 a S v3) (fun z : (Int × Int) => Ev g yX12_serves cX12_serves 4 (some .int) [] 1 32 [some (x_r (16 * 32 + 0)), some (x_i a), some (x_i z.1), some (x_i z.2)] [] (al, ro, fl (ml M [32] [(x_up S 0 0 v3)])) 0 0 (.inl (some (x_i t.1))) (al, ro, fl (ml M [32] [t.2]))) (fun q => q = v7) ?_ xFU (0, 0) _ hl8 rfl
      intro z t8 hf8 hi8 hx8
      obtain ⟨v5, v6⟩ := z
      rw [G12_serves_L32] at hf8
      show Ev g _ _ _ _ _ _ 32 [some (x_r (16 * 32 + 0)), some (x_i a), some (x_i v5), some (x_i v6)] [] (al, ro, fl (ml M [32] [(x_up S 0 0 v3)])) _ _ _ _
      refine e_iloadn (pc := 32) (i := 3) dX12_serves_32 rfl rfl ?_
      refine e_aloadn (pc := 33) (i := 0) dX12_serves_33 rfl rfl ?_
      refine f_getr (pc := 34) (u := 32) (q := 0) dX12_serves_34 xf12_7 (sa_32_0 hs) rfl (sr_32_0_1 hs) ?_
      refine e_iconst (pc := 37) dX12_serves_37 (x_R rfl) ?_
      refine f_iald (pc := 38) (k := 0) (u := 32) (q := 1) (len := 772) dX12_serves_38 (sa_32_1 hs) (by decide) hn rfl rfl (by decide) ?_
      show Ev g _ _ _ _ _ _ 39 [some (x_r (16 * 32 + 0)), some (x_i a), some (x_i v5), some (x_i v6)] [x_i ((x_up S 0 0 v3) 1 3), x_i v6] (al, ro, fl (ml M [32] [(x_up S 0 0 v3)])) _ _ _ _
      refine e_icmp_ge (pc := 39) (tgt := 71) dX12_serves_39 (by decide) (fun hb => ?_) (fun hb => ?_)
      · rw [if_pos hb] at hf8
        cases hf8
        refine e_drop (i := 3) ?_
        exact hk8 _ (hx8 _ rfl)
      · rw [if_neg hb] at hf8
        refine e_iloadn (pc := 42) (i := 2) dX12_serves_42 rfl rfl ?_
        refine e_aloadn (pc := 43) (i := 0) dX12_serves_43 rfl rfl ?_
        refine e_iloadn (pc := 44) (i := 3) dX12_serves_44 rfl rfl ?_
        refine e_iconst (pc := 45) dX12_serves_45 (x_R rfl) ?_
        obtain ⟨v10, hq10, hf8⟩ := x_bd1 hf8
        refine e_invV (pc := 46) (K1 := 0) (S1 := 0) (K := 0) (S := 0) (dd2 := 0) (av := [x_i v6, x_i 3]) (st := [x_i v5]) (id := 16 * 32 + 0) dX12_serves_46 xmX12_65 rfl (Or.inl ⟨10, 27, TX12, (sa_32_0 hs), rfl, by decide⟩) (f_cal (M := M) (us2 := [32]) [0] hn rfl (And.intro rfl trivial) rfl rfl rfl (c_X12_of hst hs   hq10)) (by decide) (Nat.le_of_ble_eq_true rfl) (Or.inl rfl) ?_
        show Ev g _ _ _ _ _ _ 49 [some (x_r (16 * 32 + 0)), some (x_i a), some (x_i v5), some (x_i v6)] [x_i v10, x_i v5] (al, ro, fl (ml M [32] [(x_up S 0 0 v3)])) _ _ _ _
        refine e_iloadn (pc := 49) (i := 1) dX12_serves_49 rfl rfl ?_
        obtain ⟨v12, hq12, hf8⟩ := x_bd1 hf8
        refine e_invS (pc := 50) (K1 := 0) (S1 := 0) (K := 0) (S := 0) (dd2 := 0) (av := [x_i v10, x_i a]) (st := [x_i v5]) dX12_serves_50 xmX12_119 rfl (f_cal (M := M) (us2 := []) [] hn rfl trivial rfl rfl rfl (c_X12_isOf hst hs   hq12)) (by decide) (Nat.le_of_ble_eq_true rfl) (Or.inl rfl) ?_
        show Ev g _ _ _ _ _ _ 53 [some (x_r (16 * 32 + 0)), some (x_i a), some (x_i v5), some (x_i v6)] [x_i v12, x_i v5] (al, ro, fl (ml M [32] [(x_up S 0 0 v3)])) _ _ _ _
        obtain ⟨v14, hr14, hf8⟩ := x_bd1 hf8
        have hjhr14 : Ev g yX12_serves cX12_serves 4 (some .int) [] 1 63 [some (x_r (16 * 32 + 0)), some (x_i a), some (x_i v5), some (x_i v6)] [x_i v14, x_i v5] (al, ro, fl (ml M [32] [(x_up S 0 0 v3)])) 0 0 (.inl (some (x_i t.1))) (al, ro, fl (ml M [32] [t.2])) := by
          refine e_ior (pc := 63) dX12_serves_63 ?_
          refine e_istoren (pc := 64) (i := 2) dX12_serves_64 rfl (by decide) rfl ?_
          show Ev g _ _ _ _ _ _ 65 [some (x_r (16 * 32 + 0)), some (x_i a), some (x_i (x_or v5 v14)), some (x_i v6)] [] (al, ro, fl (ml M [32] [(x_up S 0 0 v3)])) _ _ _ _
          refine e_iinc (pc := 65) dX12_serves_65 rfl (by decide) rfl ?_
          show Ev g _ _ _ _ _ _ 68 [some (x_r (16 * 32 + 0)), some (x_i a), some (x_i (x_or v5 v14)), some (x_i (x_add v6 1))] [] (al, ro, fl (ml M [32] [(x_up S 0 0 v3)])) _ _ _ _
          refine e_goto (pc := 68) (tgt := 32) dX12_serves_68 (by decide) ?_
          cases hf8
          exact hi8 _ rfl
        clear hf8
        refine e_if_eq (pc := 53) (tgt := 62) dX12_serves_53 (by decide) (fun hb => ?_) (fun hb => ?_)
        · rw [if_pos hb] at hr14
          refine e_iconst (pc := 62) dX12_serves_62 (x_R rfl) ?_
          cases hr14
          exact hjhr14
        · rw [if_neg hb] at hr14
          refine e_iconst (pc := 56) dX12_serves_56 (x_R rfl) ?_
          refine e_iloadn (pc := 57) (i := 3) dX12_serves_57 rfl rfl ?_
          refine e_ishl (pc := 58) dX12_serves_58 ?_
          refine e_goto (pc := 59) (tgt := 63) dX12_serves_59 (by decide) ?_
          cases hr14
          exact hjhr14
    · rw [if_neg hb] at hG
      refine e_iconst (pc := 26) dX12_serves_26 (x_R rfl) ?_
      cases hG
      exact (e_ireturn rfl dX12_serves_27 rfl)
  clear hG
  refine e_if_ne (pc := 8) (tgt := 15) dX12_serves_8 (by decide) (fun hb => ?_) (fun hb => ?_)
  · rw [if_neg hb] at hr3
    refine e_iconst (pc := 15) dX12_serves_15 (x_R rfl) ?_
    cases hr3
    exact hjhr3
  · rw [if_pos hb] at hr3
    refine e_iconst (pc := 11) dX12_serves_11 (x_R rfl) ?_
    refine e_goto (pc := 12) (tgt := 16) dX12_serves_12 (by decide) ?_
    cases hr3
    exact hjhr3
def G12_pains (a : Int) (b : Int) (S : xU) : Option Int :=
  (x_b1 (G12_of a 2 S) fun (v1 : Int) => (x_b1 (G12_of a 3 S) fun (v3 : Int) => (x_b1 (G12_isOf v3 b) fun (v5 : Int) => (x_b1 (if v5 = 0 then (some 100) else (some 0)) fun (v7 : Int) => (x_b1 (G12_lesser (x_rem (x_add (x_sub b v1) 12) 12) (x_sub 12 (x_rem (x_add (x_sub b v1) 12) 12))) fun (v9 : Int) => (some (x_add v7 v9)))))))
set_option maxRecDepth 100000 in
set_option maxHeartbeats 4000000 in
theorem c_X12_pains {g : xG} {al : List (Nat × Nat × Nat)} {ro : Nat → Nat → Option Nat} (hst : g.1.stackTraces = false) (hs : SH al ro) {M : Nat → xU} {a : Int} {b : Int} {S : xU} {t : Int} (hG : G12_pains a b S = some t) :
    Cal g yX12_pains cX12_pains 4 (some .int) 1 [x_r (16 * 32 + 0), x_i a, x_i b] (al, ro, fl (ml M [32] [S])) 0 0 (.inl (some (x_i t))) (al, ro, fl (ml M [32] [S])) := by
  have hn : ([32] : List Nat).Nodup := by decide
  refine cal_of_ev (by decide) (x_c1 rfl) (Nat.le_of_ble_eq_true rfl) hst ?_
  show Ev g _ _ _ _ _ _ 0 [some (x_r (16 * 32 + 0)), some (x_i a), some (x_i b), none] [] (al, ro, fl (ml M [32] [S])) _ _ _ _
  rw [G12_pains] at hG
  refine e_iloadn (pc := 0) (i := 2) dX12_pains_0 rfl rfl ?_
  refine e_aloadn (pc := 1) (i := 0) dX12_pains_1 rfl rfl ?_
  refine e_iloadn (pc := 2) (i := 1) dX12_pains_2 rfl rfl ?_
  refine e_iconst (pc := 3) dX12_pains_3 (x_R rfl) ?_
  obtain ⟨v1, hq1, hG⟩ := x_bd1 hG
  refine e_invV (pc := 4) (K1 := 0) (S1 := 0) (K := 0) (S := 0) (dd2 := 0) (av := [x_i a, x_i 2]) (st := [x_i b]) (id := 16 * 32 + 0) dX12_pains_4 xmX12_65 rfl (Or.inl ⟨10, 27, TX12, (sa_32_0 hs), rfl, by decide⟩) (f_cal (M := M) (us2 := [32]) [0] hn rfl (And.intro rfl trivial) rfl rfl rfl (c_X12_of hst hs   hq1)) (by decide) (Nat.le_of_ble_eq_true rfl) (Or.inl rfl) ?_
  show Ev g _ _ _ _ _ _ 7 [some (x_r (16 * 32 + 0)), some (x_i a), some (x_i b), none] [x_i v1, x_i b] (al, ro, fl (ml M [32] [S])) _ _ _ _
  refine e_isub (pc := 7) dX12_pains_7 ?_
  refine e_bipush (pc := 8) dX12_pains_8 (by decide +kernel) (x_R rfl) ?_
  refine e_iadd (pc := 10) dX12_pains_10 ?_
  refine e_bipush (pc := 11) dX12_pains_11 (by decide +kernel) (x_R rfl) ?_
  refine e_irem (pc := 13) dX12_pains_13 (by decide) ?_
  refine e_istoren (pc := 14) (i := 3) dX12_pains_14 rfl (by decide) rfl ?_
  show Ev g _ _ _ _ _ _ 15 [some (x_r (16 * 32 + 0)), some (x_i a), some (x_i b), some (x_i (x_rem (x_add (x_sub b v1) 12) 12))] [] (al, ro, fl (ml M [32] [S])) _ _ _ _
  refine e_aloadn (pc := 15) (i := 0) dX12_pains_15 rfl rfl ?_
  refine e_iloadn (pc := 16) (i := 1) dX12_pains_16 rfl rfl ?_
  refine e_iconst (pc := 17) dX12_pains_17 (x_R rfl) ?_
  obtain ⟨v3, hq3, hG⟩ := x_bd1 hG
  refine e_invV (pc := 18) (K1 := 0) (S1 := 0) (K := 0) (S := 0) (dd2 := 0) (av := [x_i a, x_i 3]) (st := []) (id := 16 * 32 + 0) dX12_pains_18 xmX12_65 rfl (Or.inl ⟨10, 27, TX12, (sa_32_0 hs), rfl, by decide⟩) (f_cal (M := M) (us2 := [32]) [0] hn rfl (And.intro rfl trivial) rfl rfl rfl (c_X12_of hst hs   hq3)) (by decide) (Nat.le_of_ble_eq_true rfl) (Or.inl rfl) ?_
  show Ev g _ _ _ _ _ _ 21 [some (x_r (16 * 32 + 0)), some (x_i a), some (x_i b), some (x_i (x_rem (x_add (x_sub b v1) 12) 12))] [x_i v3] (al, ro, fl (ml M [32] [S])) _ _ _ _
  refine e_iloadn (pc := 21) (i := 2) dX12_pains_21 rfl rfl ?_
  obtain ⟨v5, hq5, hG⟩ := x_bd1 hG
  refine e_invS (pc := 22) (K1 := 0) (S1 := 0) (K := 0) (S := 0) (dd2 := 0) (av := [x_i v3, x_i b]) (st := []) dX12_pains_22 xmX12_119 rfl (f_cal (M := M) (us2 := []) [] hn rfl trivial rfl rfl rfl (c_X12_isOf hst hs   hq5)) (by decide) (Nat.le_of_ble_eq_true rfl) (Or.inl rfl) ?_
  show Ev g _ _ _ _ _ _ 25 [some (x_r (16 * 32 + 0)), some (x_i a), some (x_i b), some (x_i (x_rem (x_add (x_sub b v1) 12) 12))] [x_i v5] (al, ro, fl (ml M [32] [S])) _ _ _ _
  obtain ⟨v7, hr7, hG⟩ := x_bd1 hG
  have hjhr7 : Ev g yX12_pains cX12_pains 4 (some .int) [] 1 34 [some (x_r (16 * 32 + 0)), some (x_i a), some (x_i b), some (x_i (x_rem (x_add (x_sub b v1) 12) 12))] [x_i v7] (al, ro, fl (ml M [32] [S])) 0 0 (.inl (some (x_i t))) (al, ro, fl (ml M [32] [S])) := by
    refine e_iloadn (pc := 34) (i := 3) dX12_pains_34 rfl rfl ?_
    refine e_bipush (pc := 35) dX12_pains_35 (by decide +kernel) (x_R rfl) ?_
    refine e_iloadn (pc := 37) (i := 3) dX12_pains_37 rfl rfl ?_
    refine e_isub (pc := 38) dX12_pains_38 ?_
    obtain ⟨v9, hq9, hG⟩ := x_bd1 hG
    refine e_invS (pc := 39) (K1 := 0) (S1 := 0) (K := 0) (S := 0) (dd2 := 0) (av := [x_i (x_rem (x_add (x_sub b v1) 12) 12), x_i (x_sub 12 (x_rem (x_add (x_sub b v1) 12) 12))]) (st := [x_i v7]) dX12_pains_39 xmX12_73 rfl (f_cal (M := M) (us2 := []) [] hn rfl trivial rfl rfl rfl (c_X12_lesser hst hs   hq9)) (by decide) (Nat.le_of_ble_eq_true rfl) (Or.inl rfl) ?_
    show Ev g _ _ _ _ _ _ 42 [some (x_r (16 * 32 + 0)), some (x_i a), some (x_i b), some (x_i (x_rem (x_add (x_sub b v1) 12) 12))] [x_i v9, x_i v7] (al, ro, fl (ml M [32] [S])) _ _ _ _
    refine e_iadd (pc := 42) dX12_pains_42 ?_
    cases hG
    exact (e_ireturn rfl dX12_pains_43 rfl)
  clear hG
  refine e_if_eq (pc := 25) (tgt := 32) dX12_pains_25 (by decide) (fun hb => ?_) (fun hb => ?_)
  · rw [if_pos hb] at hr7
    refine e_bipush (pc := 32) dX12_pains_32 (by decide +kernel) (x_R rfl) ?_
    cases hr7
    exact hjhr7
  · rw [if_neg hb] at hr7
    refine e_iconst (pc := 28) dX12_pains_28 (x_R rfl) ?_
    refine e_goto (pc := 29) (tgt := 34) dX12_pains_29 (by decide) ?_
    cases hr7
    exact hjhr7
def G12_pointsTo_L5 (a : Int) (b : Int) (S : xU) : (Int × Int) → Option ((Int × Int) ⊕ Int)
  | (v1, v2) => (if (S 1 3) ≤ v2 then (some (.inr v1)) else (x_b1 (G12_isOf b v2) fun (v6 : Int) => (x_b1 (if v6 = 0 then (some v1) else (if v1 = (-1) then (some v2) else (x_b1 (G12_of v2 2 S) fun (v10 : Int) => (x_b1 (G12_pains a v10 S) fun (v12 : Int) => (x_b1 (G12_of v1 2 S) fun (v14 : Int) => (x_b1 (G12_pains a v14 S) fun (v16 : Int) => (if v16 ≤ v12 then (some v1) else (some v2)))))))) fun (v8 : Int) => (some (.inl (v8, (x_add v2 1)))))))
def G12_pointsTo (a : Int) (b : Int) (S : xU) : Option Int :=
  (x_b1 (whl xFU (G12_pointsTo_L5 a b S) ((-1), 0)) fun (v3 : Int) => (some v3))
set_option maxRecDepth 100000 in
set_option maxHeartbeats 4000000 in
theorem c_X12_pointsTo {g : xG} {al : List (Nat × Nat × Nat)} {ro : Nat → Nat → Option Nat} (hst : g.1.stackTraces = false) (hs : SH al ro) {M : Nat → xU} {a : Int} {b : Int} {S : xU} {t : Int} (hG : G12_pointsTo a b S = some t) :
    Cal g yX12_pointsTo cX12_pointsTo 5 (some .int) 2 [x_r (16 * 32 + 0), x_i a, x_i b] (al, ro, fl (ml M [32] [S])) 0 0 (.inl (some (x_i t))) (al, ro, fl (ml M [32] [S])) := by
  have hn : ([32] : List Nat).Nodup := by decide
  refine cal_of_ev (by decide) (x_c1 rfl) (Nat.le_of_ble_eq_true rfl) hst ?_
  show Ev g _ _ _ _ _ _ 0 [some (x_r (16 * 32 + 0)), some (x_i a), some (x_i b), none, none] [] (al, ro, fl (ml M [32] [S])) _ _ _ _
  rw [G12_pointsTo] at hG
  refine e_iconst (pc := 0) dX12_pointsTo_0 (x_R rfl) ?_
  refine e_istoren (pc := 1) (i := 3) dX12_pointsTo_1 rfl (by decide) rfl ?_
  show Ev g _ _ _ _ _ _ 2 [some (x_r (16 * 32 + 0)), some (x_i a), some (x_i b), some (x_i (-1)), none] [] (al, ro, fl (ml M [32] [S])) _ _ _ _
  refine e_iconst (pc := 2) dX12_pointsTo_2 (x_R rfl) ?_
  refine e_istore (pc := 3) (i := 4) dX12_pointsTo_3 (by decide) rfl ?_
  show Ev g _ _ _ _ _ _ 5 [some (x_r (16 * 32 + 0)), some (x_i a), some (x_i b), some (x_i (-1)), some (x_i 0)] [] (al, ro, fl (ml M [32] [S])) _ _ _ _
  obtain ⟨v3, hl4, hG⟩ := x_bd1 hG
  have hk4 : ∀ q : Int, q = v3 → Ev g yX12_pointsTo cX12_pointsTo 5 (some .int) [] 2 65 [some (x_r (16 * 32 + 0)), some (x_i a), some (x_i b), some (x_i q), none] [] (al, ro, fl (ml M [32] [S])) 0 0 (.inl (some (x_i t))) (al, ro, fl (ml M [32] [S])) := by
    intro q hq
    replace hq := hq.symm
    subst hq
    refine e_iloadn (pc := 65) (i := 3) dX12_pointsTo_65 rfl rfl ?_
    cases hG
    exact (e_ireturn rfl dX12_pointsTo_66 rfl)
  clear hG
  refine e_whl (G12_pointsTo_L5 a b S) (fun z : (Int × Int) => Ev g yX12_pointsTo cX12_pointsTo 5 (some .int) [] 2 5 [some (x_r (16 * 32 + 0)), some (x_i a), some (x_i b), some (x_i z.1), some (x_i z.2)] [] (al, ro, fl (ml M [32] [S])) 0 0 (.inl (some (x_i t))) (al, ro, fl (ml M [32] [S]))) (fun q => q = v3) ?_ xFU ((-1), 0) _ hl4 rfl
  intro z t4 hf4 hi4 hx4
  obtain ⟨v1, v2⟩ := z
  rw [G12_pointsTo_L5] at hf4
  show Ev g _ _ _ _ _ _ 5 [some (x_r (16 * 32 + 0)), some (x_i a), some (x_i b), some (x_i v1), some (x_i v2)] [] (al, ro, fl (ml M [32] [S])) _ _ _ _
  refine e_iload (pc := 5) dX12_pointsTo_5 rfl ?_
  refine e_aloadn (pc := 7) (i := 0) dX12_pointsTo_7 rfl rfl ?_
  refine f_getr (pc := 8) (u := 32) (q := 0) dX12_pointsTo_8 xf12_7 (sa_32_0 hs) rfl (sr_32_0_1 hs) ?_
  refine e_iconst (pc := 11) dX12_pointsTo_11 (x_R rfl) ?_
  refine f_iald (pc := 12) (k := 0) (u := 32) (q := 1) (len := 772) dX12_pointsTo_12 (sa_32_1 hs) (by decide) hn rfl rfl (by decide) ?_
  show Ev g _ _ _ _ _ _ 13 [some (x_r (16 * 32 + 0)), some (x_i a), some (x_i b), some (x_i v1), some (x_i v2)] [x_i (S 1 3), x_i v2] (al, ro, fl (ml M [32] [S])) _ _ _ _
  refine e_icmp_ge (pc := 13) (tgt := 65) dX12_pointsTo_13 (by decide) (fun hb => ?_) (fun hb => ?_)
  · rw [if_pos hb] at hf4
    cases hf4
    refine e_drop (i := 4) ?_
    exact hk4 _ (hx4 _ rfl)
  · rw [if_neg hb] at hf4
    refine e_iloadn (pc := 16) (i := 2) dX12_pointsTo_16 rfl rfl ?_
    refine e_iload (pc := 17) dX12_pointsTo_17 rfl ?_
    obtain ⟨v6, hq6, hf4⟩ := x_bd1 hf4
    refine e_invS (pc := 19) (K1 := 0) (S1 := 0) (K := 0) (S := 0) (dd2 := 0) (av := [x_i b, x_i v2]) (st := []) dX12_pointsTo_19 xmX12_119 rfl (f_cal (M := M) (us2 := []) [] hn rfl trivial rfl rfl rfl (c_X12_isOf hst hs   hq6)) (by decide) (Nat.le_of_ble_eq_true rfl) (Or.inl rfl) ?_
    show Ev g _ _ _ _ _ _ 22 [some (x_r (16 * 32 + 0)), some (x_i a), some (x_i b), some (x_i v1), some (x_i v2)] [x_i v6] (al, ro, fl (ml M [32] [S])) _ _ _ _
    obtain ⟨v8, hr8, hf4⟩ := x_bd1 hf4
    have hjhr8 : Ev g yX12_pointsTo cX12_pointsTo 5 (some .int) [] 2 59 [some (x_r (16 * 32 + 0)), some (x_i a), some (x_i b), some (x_i v8), some (x_i v2)] [] (al, ro, fl (ml M [32] [S])) 0 0 (.inl (some (x_i t))) (al, ro, fl (ml M [32] [S])) := by
      refine e_iinc (pc := 59) dX12_pointsTo_59 rfl (by decide) rfl ?_
      show Ev g _ _ _ _ _ _ 62 [some (x_r (16 * 32 + 0)), some (x_i a), some (x_i b), some (x_i v8), some (x_i (x_add v2 1))] [] (al, ro, fl (ml M [32] [S])) _ _ _ _
      refine e_goto (pc := 62) (tgt := 5) dX12_pointsTo_62 (by decide) ?_
      cases hf4
      exact hi4 _ rfl
    clear hf4
    refine e_if_eq (pc := 22) (tgt := 59) dX12_pointsTo_22 (by decide) (fun hb => ?_) (fun hb => ?_)
    · rw [if_pos hb] at hr8
      cases hr8
      exact hjhr8
    · rw [if_neg hb] at hr8
      refine e_iloadn (pc := 25) (i := 3) dX12_pointsTo_25 rfl rfl ?_
      refine e_iconst (pc := 26) dX12_pointsTo_26 (x_R rfl) ?_
      refine e_icmp_eq (pc := 27) (tgt := 56) dX12_pointsTo_27 (by decide) (fun hb => ?_) (fun hb => ?_)
      · rw [if_pos hb] at hr8
        refine e_iload (pc := 56) dX12_pointsTo_56 rfl ?_
        refine e_istoren (pc := 58) (i := 3) dX12_pointsTo_58 rfl (by decide) rfl ?_
        show Ev g _ _ _ _ _ _ 59 [some (x_r (16 * 32 + 0)), some (x_i a), some (x_i b), some (x_i v2), some (x_i v2)] [] (al, ro, fl (ml M [32] [S])) _ _ _ _
        cases hr8
        exact hjhr8
      · rw [if_neg hb] at hr8
        refine e_aloadn (pc := 30) (i := 0) dX12_pointsTo_30 rfl rfl ?_
        refine e_iloadn (pc := 31) (i := 1) dX12_pointsTo_31 rfl rfl ?_
        refine e_aloadn (pc := 32) (i := 0) dX12_pointsTo_32 rfl rfl ?_
        refine e_iload (pc := 33) dX12_pointsTo_33 rfl ?_
        refine e_iconst (pc := 35) dX12_pointsTo_35 (x_R rfl) ?_
        obtain ⟨v10, hq10, hr8⟩ := x_bd1 hr8
        refine e_invV (pc := 36) (K1 := 0) (S1 := 0) (K := 0) (S := 0) (dd2 := 0) (av := [x_i v2, x_i 2]) (st := [x_i a, x_r (16 * 32 + 0)]) (id := 16 * 32 + 0) dX12_pointsTo_36 xmX12_65 rfl (Or.inl ⟨10, 27, TX12, (sa_32_0 hs), rfl, by decide⟩) (f_cal (M := M) (us2 := [32]) [0] hn rfl (And.intro rfl trivial) rfl rfl rfl (c_X12_of hst hs   hq10)) (by decide) (Nat.le_of_ble_eq_true rfl) (Or.inl rfl) ?_
        show Ev g _ _ _ _ _ _ 39 [some (x_r (16 * 32 + 0)), some (x_i a), some (x_i b), some (x_i v1), some (x_i v2)] [x_i v10, x_i a, x_r (16 * 32 + 0)] (al, ro, fl (ml M [32] [S])) _ _ _ _
        obtain ⟨v12, hq12, hr8⟩ := x_bd1 hr8
        refine e_invV (pc := 39) (K1 := 0) (S1 := 0) (K := 0) (S := 0) (dd2 := 1) (av := [x_i a, x_i v10]) (st := []) (id := 16 * 32 + 0) dX12_pointsTo_39 xmX12_355 rfl (Or.inl ⟨10, 27, TX12, (sa_32_0 hs), rfl, by decide⟩) (f_cal (M := M) (us2 := [32]) [0] hn rfl (And.intro rfl trivial) rfl rfl rfl (c_X12_pains hst hs   hq12)) (by decide) (Nat.le_of_ble_eq_true rfl) (Or.inl rfl) ?_
        show Ev g _ _ _ _ _ _ 42 [some (x_r (16 * 32 + 0)), some (x_i a), some (x_i b), some (x_i v1), some (x_i v2)] [x_i v12] (al, ro, fl (ml M [32] [S])) _ _ _ _
        refine e_aloadn (pc := 42) (i := 0) dX12_pointsTo_42 rfl rfl ?_
        refine e_iloadn (pc := 43) (i := 1) dX12_pointsTo_43 rfl rfl ?_
        refine e_aloadn (pc := 44) (i := 0) dX12_pointsTo_44 rfl rfl ?_
        refine e_iloadn (pc := 45) (i := 3) dX12_pointsTo_45 rfl rfl ?_
        refine e_iconst (pc := 46) dX12_pointsTo_46 (x_R rfl) ?_
        obtain ⟨v14, hq14, hr8⟩ := x_bd1 hr8
        refine e_invV (pc := 47) (K1 := 0) (S1 := 0) (K := 0) (S := 0) (dd2 := 0) (av := [x_i v1, x_i 2]) (st := [x_i a, x_r (16 * 32 + 0), x_i v12]) (id := 16 * 32 + 0) dX12_pointsTo_47 xmX12_65 rfl (Or.inl ⟨10, 27, TX12, (sa_32_0 hs), rfl, by decide⟩) (f_cal (M := M) (us2 := [32]) [0] hn rfl (And.intro rfl trivial) rfl rfl rfl (c_X12_of hst hs   hq14)) (by decide) (Nat.le_of_ble_eq_true rfl) (Or.inl rfl) ?_
        show Ev g _ _ _ _ _ _ 50 [some (x_r (16 * 32 + 0)), some (x_i a), some (x_i b), some (x_i v1), some (x_i v2)] [x_i v14, x_i a, x_r (16 * 32 + 0), x_i v12] (al, ro, fl (ml M [32] [S])) _ _ _ _
        obtain ⟨v16, hq16, hr8⟩ := x_bd1 hr8
        refine e_invV (pc := 50) (K1 := 0) (S1 := 0) (K := 0) (S := 0) (dd2 := 1) (av := [x_i a, x_i v14]) (st := [x_i v12]) (id := 16 * 32 + 0) dX12_pointsTo_50 xmX12_355 rfl (Or.inl ⟨10, 27, TX12, (sa_32_0 hs), rfl, by decide⟩) (f_cal (M := M) (us2 := [32]) [0] hn rfl (And.intro rfl trivial) rfl rfl rfl (c_X12_pains hst hs   hq16)) (by decide) (Nat.le_of_ble_eq_true rfl) (Or.inl rfl) ?_
        show Ev g _ _ _ _ _ _ 53 [some (x_r (16 * 32 + 0)), some (x_i a), some (x_i b), some (x_i v1), some (x_i v2)] [x_i v16, x_i v12] (al, ro, fl (ml M [32] [S])) _ _ _ _
        refine e_icmp_ge (pc := 53) (tgt := 59) dX12_pointsTo_53 (by decide) (fun hb => ?_) (fun hb => ?_)
        · rw [if_pos hb] at hr8
          cases hr8
          exact hjhr8
        · rw [if_neg hb] at hr8
          refine e_iload (pc := 56) dX12_pointsTo_56 rfl ?_
          refine e_istoren (pc := 58) (i := 3) dX12_pointsTo_58 rfl (by decide) rfl ?_
          show Ev g _ _ _ _ _ _ 59 [some (x_r (16 * 32 + 0)), some (x_i a), some (x_i b), some (x_i v2), some (x_i v2)] [] (al, ro, fl (ml M [32] [S])) _ _ _ _
          cases hr8
          exact hjhr8
def G12_ringOf_L10 (a : Int) (b : Int) (S : xU) : (Int × Int) → Option ((Int × Int) ⊕ (Int × Int))
  | (v3, v4) => (if v3 = a then (some (.inr (v3, v4))) else (if 7 < v4 then (some (.inr (v3, v4))) else (x_b1 (G12_pointsTo v3 b S) fun (v9 : Int) => (some (.inl (v9, (x_add v4 1)))))))
def G12_ringOf (a : Int) (b : Int) (S : xU) : Option Int :=
  (x_b1 (G12_pointsTo a b S) fun (v1 : Int) => (x_b2 (whl xFU (G12_ringOf_L10 a b S) (v1, 1)) fun (v5 : Int) (v6 : Int) => (x_b1 (if v5 = a then (some v6) else (some (-1))) fun (v11 : Int) => (some v11))))
set_option maxRecDepth 100000 in
set_option maxHeartbeats 4000000 in
theorem c_X12_ringOf {g : xG} {al : List (Nat × Nat × Nat)} {ro : Nat → Nat → Option Nat} (hst : g.1.stackTraces = false) (hs : SH al ro) {M : Nat → xU} {a : Int} {b : Int} {S : xU} {t : Int} (hG : G12_ringOf a b S = some t) :
    Cal g yX12_ringOf cX12_ringOf 5 (some .int) 3 [x_r (16 * 32 + 0), x_i a, x_i b] (al, ro, fl (ml M [32] [S])) 0 0 (.inl (some (x_i t))) (al, ro, fl (ml M [32] [S])) := by
  have hn : ([32] : List Nat).Nodup := by decide
  refine cal_of_ev (by decide) (x_c1 rfl) (Nat.le_of_ble_eq_true rfl) hst ?_
  show Ev g _ _ _ _ _ _ 0 [some (x_r (16 * 32 + 0)), some (x_i a), some (x_i b), none, none] [] (al, ro, fl (ml M [32] [S])) _ _ _ _
  rw [G12_ringOf] at hG
  refine e_aloadn (pc := 0) (i := 0) dX12_ringOf_0 rfl rfl ?_
  refine e_iloadn (pc := 1) (i := 1) dX12_ringOf_1 rfl rfl ?_
  refine e_iloadn (pc := 2) (i := 2) dX12_ringOf_2 rfl rfl ?_
  obtain ⟨v1, hq1, hG⟩ := x_bd1 hG
  refine e_invV (pc := 3) (K1 := 0) (S1 := 0) (K := 0) (S := 0) (dd2 := 2) (av := [x_i a, x_i b]) (st := []) (id := 16 * 32 + 0) dX12_ringOf_3 xmX12_358 rfl (Or.inl ⟨10, 27, TX12, (sa_32_0 hs), rfl, by decide⟩) (f_cal (M := M) (us2 := [32]) [0] hn rfl (And.intro rfl trivial) rfl rfl rfl (c_X12_pointsTo hst hs   hq1)) (by decide) (Nat.le_of_ble_eq_true rfl) (Or.inl rfl) ?_
  show Ev g _ _ _ _ _ _ 6 [some (x_r (16 * 32 + 0)), some (x_i a), some (x_i b), none, none] [x_i v1] (al, ro, fl (ml M [32] [S])) _ _ _ _
  refine e_istoren (pc := 6) (i := 3) dX12_ringOf_6 rfl (by decide) rfl ?_
  show Ev g _ _ _ _ _ _ 7 [some (x_r (16 * 32 + 0)), some (x_i a), some (x_i b), some (x_i v1), none] [] (al, ro, fl (ml M [32] [S])) _ _ _ _
  refine e_iconst (pc := 7) dX12_ringOf_7 (x_R rfl) ?_
  refine e_istore (pc := 8) (i := 4) dX12_ringOf_8 (by decide) rfl ?_
  show Ev g _ _ _ _ _ _ 10 [some (x_r (16 * 32 + 0)), some (x_i a), some (x_i b), some (x_i v1), some (x_i 1)] [] (al, ro, fl (ml M [32] [S])) _ _ _ _
  obtain ⟨v5, v6, hl7, hG⟩ := x_bd2 hG
  have hk7 : ∀ q : (Int × Int), q = (v5, v6) → Ev g yX12_ringOf cX12_ringOf 5 (some .int) [] 3 35 [some (x_r (16 * 32 + 0)), some (x_i a), some (x_i b), some (x_i q.1), some (x_i q.2)] [] (al, ro, fl (ml M [32] [S])) 0 0 (.inl (some (x_i t))) (al, ro, fl (ml M [32] [S])) := by
    intro q hq
    cases hq
    refine e_iloadn (pc := 35) (i := 3) dX12_ringOf_35 rfl rfl ?_
    refine e_iloadn (pc := 36) (i := 1) dX12_ringOf_36 rfl rfl ?_
    obtain ⟨v11, hr11, hG⟩ := x_bd1 hG
    have hjhr11 : Ev g yX12_ringOf cX12_ringOf 5 (some .int) [] 3 46 [some (x_r (16 * 32 + 0)), some (x_i a), some (x_i b), some (x_i v5), some (x_i v6)] [x_i v11] (al, ro, fl (ml M [32] [S])) 0 0 (.inl (some (x_i t))) (al, ro, fl (ml M [32] [S])) := by
      cases hG
      exact (e_ireturn rfl dX12_ringOf_46 rfl)
    clear hG
    refine e_icmp_ne (pc := 37) (tgt := 45) dX12_ringOf_37 (by decide) (fun hb => ?_) (fun hb => ?_)
    · rw [if_neg hb] at hr11
      refine e_iconst (pc := 45) dX12_ringOf_45 (x_R rfl) ?_
      cases hr11
      exact hjhr11
    · rw [if_pos hb] at hr11
      refine e_iload (pc := 40) dX12_ringOf_40 rfl ?_
      refine e_goto (pc := 42) (tgt := 46) dX12_ringOf_42 (by decide) ?_
      cases hr11
      exact hjhr11
  clear hG
  refine e_whl (G12_ringOf_L10 a b S) (fun z : (Int × Int) => Ev g yX12_ringOf cX12_ringOf 5 (some .int) [] 3 10 [some (x_r (16 * 32 + 0)), some (x_i a), some (x_i b), some (x_i z.1), some (x_i z.2)] [] (al, ro, fl (ml M [32] [S])) 0 0 (.inl (some (x_i t))) (al, ro, fl (ml M [32] [S]))) (fun q => q = (v5, v6)) ?_ xFU (v1, 1) _ hl7 rfl
  intro z t7 hf7 hi7 hx7
  obtain ⟨v3, v4⟩ := z
  rw [G12_ringOf_L10] at hf7
  show Ev g _ _ _ _ _ _ 10 [some (x_r (16 * 32 + 0)), some (x_i a), some (x_i b), some (x_i v3), some (x_i v4)] [] (al, ro, fl (ml M [32] [S])) _ _ _ _
  refine e_iloadn (pc := 10) (i := 3) dX12_ringOf_10 rfl rfl ?_
  refine e_iloadn (pc := 11) (i := 1) dX12_ringOf_11 rfl rfl ?_
  refine e_icmp_eq (pc := 12) (tgt := 35) dX12_ringOf_12 (by decide) (fun hb => ?_) (fun hb => ?_)
  · rw [if_pos hb] at hf7
    cases hf7
    exact hk7 _ (hx7 _ rfl)
  · rw [if_neg hb] at hf7
    refine e_iload (pc := 15) dX12_ringOf_15 rfl ?_
    refine e_bipush (pc := 17) dX12_ringOf_17 (by decide +kernel) (x_R rfl) ?_
    refine e_icmp_gt (pc := 19) (tgt := 35) dX12_ringOf_19 (by decide) (fun hb => ?_) (fun hb => ?_)
    · rw [if_pos hb] at hf7
      cases hf7
      exact hk7 _ (hx7 _ rfl)
    · rw [if_neg hb] at hf7
      refine e_aloadn (pc := 22) (i := 0) dX12_ringOf_22 rfl rfl ?_
      refine e_iloadn (pc := 23) (i := 3) dX12_ringOf_23 rfl rfl ?_
      refine e_iloadn (pc := 24) (i := 2) dX12_ringOf_24 rfl rfl ?_
      obtain ⟨v9, hq9, hf7⟩ := x_bd1 hf7
      refine e_invV (pc := 25) (K1 := 0) (S1 := 0) (K := 0) (S := 0) (dd2 := 2) (av := [x_i v3, x_i b]) (st := []) (id := 16 * 32 + 0) dX12_ringOf_25 xmX12_358 rfl (Or.inl ⟨10, 27, TX12, (sa_32_0 hs), rfl, by decide⟩) (f_cal (M := M) (us2 := [32]) [0] hn rfl (And.intro rfl trivial) rfl rfl rfl (c_X12_pointsTo hst hs   hq9)) (by decide) (Nat.le_of_ble_eq_true rfl) (Or.inl rfl) ?_
      show Ev g _ _ _ _ _ _ 28 [some (x_r (16 * 32 + 0)), some (x_i a), some (x_i b), some (x_i v3), some (x_i v4)] [x_i v9] (al, ro, fl (ml M [32] [S])) _ _ _ _
      refine e_istoren (pc := 28) (i := 3) dX12_ringOf_28 rfl (by decide) rfl ?_
      show Ev g _ _ _ _ _ _ 29 [some (x_r (16 * 32 + 0)), some (x_i a), some (x_i b), some (x_i v9), some (x_i v4)] [] (al, ro, fl (ml M [32] [S])) _ _ _ _
      refine e_iinc (pc := 29) dX12_ringOf_29 rfl (by decide) rfl ?_
      show Ev g _ _ _ _ _ _ 32 [some (x_r (16 * 32 + 0)), some (x_i a), some (x_i b), some (x_i v9), some (x_i (x_add v4 1))] [] (al, ro, fl (ml M [32] [S])) _ _ _ _
      refine e_goto (pc := 32) (tgt := 10) dX12_ringOf_32 (by decide) ?_
      cases hf7
      exact hi7 _ rfl
def G12_trades_L13 (v3 : Int) : (Int × Int × xU) → Option ((Int × Int × xU) ⊕ (Int × xU))
  | (v8, v9, S10) => (if (S10 1 3) ≤ v9 then (some (.inr (v8, S10))) else (x_b1 (G12_isOf v3 v9) fun (v15 : Int) => (x_b1 (if v15 = 0 then (some (-1)) else (x_b1 (G12_ringOf v9 v3 S10) fun (v19 : Int) => (some v19))) fun (v17 : Int) => (x_b2 (if v17 = (-1) then (some (v8, S10)) else (x_b1 (G12_pointsTo v9 v3 S10) fun (v24 : Int) => (x_gd ((0 : Int) ≤ v9 ∧ v9 < 7) (x_gd ((0 : Int) ≤ v9 ∧ v9 < 7) (some ((x_or v8 (x_shl 1 v9)), (x_up (x_up S10 12 (v9).toNat v24) 13 (v9).toNat v17))))))) fun (v21 : Int) (S22 : xU) => (some (.inl (v21, (x_add v9 1), S22)))))))
def G12_trades_L5  : (Int × xU) → Option ((Int × xU) ⊕ xU)
  | (v3, S4) => (if v3 = 0 then (some (.inr S4)) else (x_b2 (whl xFU (G12_trades_L13 v3) (0, 0, S4)) fun (v11 : Int) (S12 : xU) => (some (.inl ((x_and v3 (x_xor v11 (-1))), S12)))))
def G12_trades (S : xU) : Option xU :=
  (x_b1 (G12_all S) fun (v1 : Int) => (x_b1 (whl xFU G12_trades_L5 (v1, S)) fun (S5 : xU) => (some S5)))
set_option maxRecDepth 100000 in
set_option maxHeartbeats 4000000 in
theorem c_X12_trades {g : xG} {al : List (Nat × Nat × Nat)} {ro : Nat → Nat → Option Nat} (hst : g.1.stackTraces = false) (hs : SH al ro) {M : Nat → xU} {S : xU} {t : xU} (hG : G12_trades S = some t) :
    Cal g yX12_trades cX12_trades 5 none 4 [x_r (16 * 32 + 0)] (al, ro, fl (ml M [32] [S])) 0 0 (.inl none) (al, ro, fl (ml M [32] [t])) := by
  have hn : ([32] : List Nat).Nodup := by decide
  refine cal_of_ev (by decide) (x_c1 rfl) (Nat.le_of_ble_eq_true rfl) hst ?_
  show Ev g _ _ _ _ _ _ 0 [some (x_r (16 * 32 + 0)), none, none, none, none] [] (al, ro, fl (ml M [32] [S])) _ _ _ _
  rw [G12_trades] at hG
  refine e_aloadn (pc := 0) (i := 0) dX12_trades_0 rfl rfl ?_
  obtain ⟨v1, hq1, hG⟩ := x_bd1 hG
  refine e_invV (pc := 1) (K1 := 0) (S1 := 0) (K := 0) (S := 0) (dd2 := 0) (av := []) (st := []) (id := 16 * 32 + 0) dX12_trades_1 xmX12_346 rfl (Or.inl ⟨10, 27, TX12, (sa_32_0 hs), rfl, by decide⟩) (f_cal (M := M) (us2 := [32]) [0] hn rfl (And.intro rfl trivial) rfl rfl rfl (c_X12_all hst hs   hq1)) (by decide) (Nat.le_of_ble_eq_true rfl) (Or.inl rfl) ?_
  show Ev g _ _ _ _ _ _ 4 [some (x_r (16 * 32 + 0)), none, none, none, none] [x_i v1] (al, ro, fl (ml M [32] [S])) _ _ _ _
  refine e_istoren (pc := 4) (i := 1) dX12_trades_4 rfl (by decide) rfl ?_
  show Ev g _ _ _ _ _ _ 5 [some (x_r (16 * 32 + 0)), some (x_i v1), none, none, none] [] (al, ro, fl (ml M [32] [S])) _ _ _ _
  obtain ⟨S5, hl6, hG⟩ := x_bd1 hG
  have hk6 : ∀ q : xU, q = S5 → Ev g yX12_trades cX12_trades 5 none [] 4 93 [some (x_r (16 * 32 + 0)), none, none, none, none] [] (al, ro, fl (ml M [32] [q])) 0 0 (.inl none) (al, ro, fl (ml M [32] [t])) := by
    intro q hq
    replace hq := hq.symm
    subst hq
    cases hG
    exact (e_return rfl dX12_trades_93)
  clear hG
  refine e_whl G12_trades_L5 (fun z : (Int × xU) => Ev g yX12_trades cX12_trades 5 none [] 4 5 [some (x_r (16 * 32 + 0)), some (x_i z.1), none, none, none] [] (al, ro, fl (ml M [32] [z.2])) 0 0 (.inl none) (al, ro, fl (ml M [32] [t]))) (fun q => q = S5) ?_ xFU (v1, S) _ hl6 rfl
  intro z t6 hf6 hi6 hx6
  obtain ⟨v3, S4⟩ := z
  rw [G12_trades_L5] at hf6
  show Ev g _ _ _ _ _ _ 5 [some (x_r (16 * 32 + 0)), some (x_i v3), none, none, none] [] (al, ro, fl (ml M [32] [S4])) _ _ _ _
  refine e_iloadn (pc := 5) (i := 1) dX12_trades_5 rfl rfl ?_
  refine e_if_eq (pc := 6) (tgt := 93) dX12_trades_6 (by decide) (fun hb => ?_) (fun hb => ?_)
  · rw [if_pos hb] at hf6
    cases hf6
    refine e_drop (i := 1) ?_
    exact hk6 _ (hx6 _ rfl)
  · rw [if_neg hb] at hf6
    refine e_iconst (pc := 9) dX12_trades_9 (x_R rfl) ?_
    refine e_istoren (pc := 10) (i := 2) dX12_trades_10 rfl (by decide) rfl ?_
    show Ev g _ _ _ _ _ _ 11 [some (x_r (16 * 32 + 0)), some (x_i v3), some (x_i 0), none, none] [] (al, ro, fl (ml M [32] [S4])) _ _ _ _
    refine e_iconst (pc := 11) dX12_trades_11 (x_R rfl) ?_
    refine e_istoren (pc := 12) (i := 3) dX12_trades_12 rfl (by decide) rfl ?_
    show Ev g _ _ _ _ _ _ 13 [some (x_r (16 * 32 + 0)), some (x_i v3), some (x_i 0), some (x_i 0), none] [] (al, ro, fl (ml M [32] [S4])) _ _ _ _
    obtain ⟨v11, S12, hl13, hf6⟩ := x_bd2 hf6
    have hk13 : ∀ q : (Int × xU), q = (v11, S12) → Ev g yX12_trades cX12_trades 5 none [] 4 84 [some (x_r (16 * 32 + 0)), some (x_i v3), some (x_i q.1), none, none] [] (al, ro, fl (ml M [32] [q.2])) 0 0 (.inl none) (al, ro, fl (ml M [32] [t])) := by
      intro q hq
      cases hq
      refine e_iloadn (pc := 84) (i := 1) dX12_trades_84 rfl rfl ?_
      refine e_iloadn (pc := 85) (i := 2) dX12_trades_85 rfl rfl ?_
      refine e_iconst (pc := 86) dX12_trades_86 (x_R rfl) ?_
      refine e_ixor (pc := 87) dX12_trades_87 ?_
      refine e_iand (pc := 88) dX12_trades_88 ?_
      refine e_istoren (pc := 89) (i := 1) dX12_trades_89 rfl (by decide) rfl ?_
      show Ev g _ _ _ _ _ _ 90 [some (x_r (16 * 32 + 0)), some (x_i (x_and v3 (x_xor v11 (-1)))), some (x_i v11), none, none] [] (al, ro, fl (ml M [32] [S12])) _ _ _ _
      refine e_goto (pc := 90) (tgt := 5) dX12_trades_90 (by decide) ?_
      cases hf6
      refine e_drop (i := 2) ?_
      exact hi6 _ rfl
    clear hf6
    refine e_whl (G12_trades_L13 v3) (fun z : (Int × Int × xU) => Ev g yX12_trades cX12_trades 5 none [] 4 13 [some (x_r (16 * 32 + 0)), some (x_i v3), some (x_i z.1), some (x_i z.2.1), none] [] (al, ro, fl (ml M [32] [z.2.2])) 0 0 (.inl none) (al, ro, fl (ml M [32] [t]))) (fun q => q = (v11, S12)) ?_ xFU (0, 0, S4) _ hl13 rfl
    intro z t13 hf13 hi13 hx13
    obtain ⟨v8, v9, S10⟩ := z
    rw [G12_trades_L13] at hf13
    show Ev g _ _ _ _ _ _ 13 [some (x_r (16 * 32 + 0)), some (x_i v3), some (x_i v8), some (x_i v9), none] [] (al, ro, fl (ml M [32] [S10])) _ _ _ _
    refine e_iloadn (pc := 13) (i := 3) dX12_trades_13 rfl rfl ?_
    refine e_aloadn (pc := 14) (i := 0) dX12_trades_14 rfl rfl ?_
    refine f_getr (pc := 15) (u := 32) (q := 0) dX12_trades_15 xf12_7 (sa_32_0 hs) rfl (sr_32_0_1 hs) ?_
    refine e_iconst (pc := 18) dX12_trades_18 (x_R rfl) ?_
    refine f_iald (pc := 19) (k := 0) (u := 32) (q := 1) (len := 772) dX12_trades_19 (sa_32_1 hs) (by decide) hn rfl rfl (by decide) ?_
    show Ev g _ _ _ _ _ _ 20 [some (x_r (16 * 32 + 0)), some (x_i v3), some (x_i v8), some (x_i v9), none] [x_i (S10 1 3), x_i v9] (al, ro, fl (ml M [32] [S10])) _ _ _ _
    refine e_icmp_ge (pc := 20) (tgt := 84) dX12_trades_20 (by decide) (fun hb => ?_) (fun hb => ?_)
    · rw [if_pos hb] at hf13
      cases hf13
      refine e_drop (i := 3) ?_
      exact hk13 _ (hx13 _ rfl)
    · rw [if_neg hb] at hf13
      refine e_iloadn (pc := 23) (i := 1) dX12_trades_23 rfl rfl ?_
      refine e_iloadn (pc := 24) (i := 3) dX12_trades_24 rfl rfl ?_
      obtain ⟨v15, hq15, hf13⟩ := x_bd1 hf13
      refine e_invS (pc := 25) (K1 := 0) (S1 := 0) (K := 0) (S := 0) (dd2 := 0) (av := [x_i v3, x_i v9]) (st := []) dX12_trades_25 xmX12_119 rfl (f_cal (M := M) (us2 := []) [] hn rfl trivial rfl rfl rfl (c_X12_isOf hst hs   hq15)) (by decide) (Nat.le_of_ble_eq_true rfl) (Or.inl rfl) ?_
      show Ev g _ _ _ _ _ _ 28 [some (x_r (16 * 32 + 0)), some (x_i v3), some (x_i v8), some (x_i v9), none] [x_i v15] (al, ro, fl (ml M [32] [S10])) _ _ _ _
      obtain ⟨v17, hr17, hf13⟩ := x_bd1 hf13
      have hjhr17 : Ev g yX12_trades cX12_trades 5 none [] 4 41 [some (x_r (16 * 32 + 0)), some (x_i v3), some (x_i v8), some (x_i v9), none] [x_i v17] (al, ro, fl (ml M [32] [S10])) 0 0 (.inl none) (al, ro, fl (ml M [32] [t])) := by
        refine e_istore (pc := 41) (i := 4) dX12_trades_41 (by decide) rfl ?_
        show Ev g _ _ _ _ _ _ 43 [some (x_r (16 * 32 + 0)), some (x_i v3), some (x_i v8), some (x_i v9), some (x_i v17)] [] (al, ro, fl (ml M [32] [S10])) _ _ _ _
        refine e_iload (pc := 43) dX12_trades_43 rfl ?_
        refine e_iconst (pc := 45) dX12_trades_45 (x_R rfl) ?_
        obtain ⟨v21, S22, hr22, hf13⟩ := x_bd2 hf13
        have hjhr22 : Ev g yX12_trades cX12_trades 5 none [] 4 78 [some (x_r (16 * 32 + 0)), some (x_i v3), some (x_i v21), some (x_i v9), some (x_i v17)] [] (al, ro, fl (ml M [32] [S22])) 0 0 (.inl none) (al, ro, fl (ml M [32] [t])) := by
          refine e_iinc (pc := 78) dX12_trades_78 rfl (by decide) rfl ?_
          show Ev g _ _ _ _ _ _ 81 [some (x_r (16 * 32 + 0)), some (x_i v3), some (x_i v21), some (x_i (x_add v9 1)), some (x_i v17)] [] (al, ro, fl (ml M [32] [S22])) _ _ _ _
          refine e_goto (pc := 81) (tgt := 13) dX12_trades_81 (by decide) ?_
          cases hf13
          refine e_drop (i := 4) ?_
          exact hi13 _ rfl
        clear hf13
        refine e_icmp_ne (pc := 46) (tgt := 52) dX12_trades_46 (by decide) (fun hb => ?_) (fun hb => ?_)
        · rw [if_neg hb] at hr22
          refine e_aloadn (pc := 52) (i := 0) dX12_trades_52 rfl rfl ?_
          refine f_getr (pc := 53) (u := 32) (q := 0) dX12_trades_53 xf12_49 (sa_32_0 hs) rfl (sr_32_0_24 hs) ?_
          refine e_iloadn (pc := 56) (i := 3) dX12_trades_56 rfl rfl ?_
          refine e_aloadn (pc := 57) (i := 0) dX12_trades_57 rfl rfl ?_
          refine e_iloadn (pc := 58) (i := 3) dX12_trades_58 rfl rfl ?_
          refine e_iloadn (pc := 59) (i := 1) dX12_trades_59 rfl rfl ?_
          obtain ⟨v24, hq24, hr22⟩ := x_bd1 hr22
          refine e_invV (pc := 60) (K1 := 0) (S1 := 0) (K := 0) (S := 0) (dd2 := 2) (av := [x_i v9, x_i v3]) (st := [x_i v9, x_r (16 * 32 + 12)]) (id := 16 * 32 + 0) dX12_trades_60 xmX12_358 rfl (Or.inl ⟨10, 27, TX12, (sa_32_0 hs), rfl, by decide⟩) (f_cal (M := M) (us2 := [32]) [0] hn rfl (And.intro rfl trivial) rfl rfl rfl (c_X12_pointsTo hst hs   hq24)) (by decide) (Nat.le_of_ble_eq_true rfl) (Or.inl rfl) ?_
          show Ev g _ _ _ _ _ _ 63 [some (x_r (16 * 32 + 0)), some (x_i v3), some (x_i v8), some (x_i v9), some (x_i v17)] [x_i v24, x_i v9, x_r (16 * 32 + 12)] (al, ro, fl (ml M [32] [S10])) _ _ _ _
          obtain ⟨hc0, hr22⟩ := x_gd_some hr22
          refine f_iast (pc := 63) (k := 0) (u := 32) (q := 12) (len := 7) dX12_trades_63 (sa_32_12 hs) hc0 hn rfl rfl rfl (by decide) ?_
          show Ev g _ _ _ _ _ _ 64 [some (x_r (16 * 32 + 0)), some (x_i v3), some (x_i v8), some (x_i v9), some (x_i v17)] [] (al, ro, fl (ml M [32] [(x_up S10 12 (v9).toNat v24)])) _ _ _ _
          refine e_aloadn (pc := 64) (i := 0) dX12_trades_64 rfl rfl ?_
          refine f_getr (pc := 65) (u := 32) (q := 0) dX12_trades_65 xf12_52 (sa_32_0 hs) rfl (sr_32_0_25 hs) ?_
          refine e_iloadn (pc := 68) (i := 3) dX12_trades_68 rfl rfl ?_
          refine e_iload (pc := 69) dX12_trades_69 rfl ?_
          obtain ⟨hc0, hr22⟩ := x_gd_some hr22
          refine f_iast (pc := 71) (k := 0) (u := 32) (q := 13) (len := 7) dX12_trades_71 (sa_32_13 hs) hc0 hn rfl rfl rfl (by decide) ?_
          show Ev g _ _ _ _ _ _ 72 [some (x_r (16 * 32 + 0)), some (x_i v3), some (x_i v8), some (x_i v9), some (x_i v17)] [] (al, ro, fl (ml M [32] [(x_up (x_up S10 12 (v9).toNat v24) 13 (v9).toNat v17)])) _ _ _ _
          refine e_iloadn (pc := 72) (i := 2) dX12_trades_72 rfl rfl ?_
          refine e_iconst (pc := 73) dX12_trades_73 (x_R rfl) ?_
          refine e_iloadn (pc := 74) (i := 3) dX12_trades_74 rfl rfl ?_
          refine e_ishl (pc := 75) dX12_trades_75 ?_
          refine e_ior (pc := 76) dX12_trades_76 ?_
          refine e_istoren (pc := 77) (i := 2) dX12_trades_77 rfl (by decide) rfl ?_
          show Ev g _ _ _ _ _ _ 78 [some (x_r (16 * 32 + 0)), some (x_i v3), some (x_i (x_or v8 (x_shl 1 v9))), some (x_i v9), some (x_i v17)] [] (al, ro, fl (ml M [32] [(x_up (x_up S10 12 (v9).toNat v24) 13 (v9).toNat v17)])) _ _ _ _
          cases hr22
          exact hjhr22
        · rw [if_pos hb] at hr22
          refine e_goto (pc := 49) (tgt := 78) dX12_trades_49 (by decide) ?_
          cases hr22
          exact hjhr22
      clear hf13
      refine e_if_eq (pc := 28) (tgt := 40) dX12_trades_28 (by decide) (fun hb => ?_) (fun hb => ?_)
      · rw [if_pos hb] at hr17
        refine e_iconst (pc := 40) dX12_trades_40 (x_R rfl) ?_
        cases hr17
        exact hjhr17
      · rw [if_neg hb] at hr17
        refine e_aloadn (pc := 31) (i := 0) dX12_trades_31 rfl rfl ?_
        refine e_iloadn (pc := 32) (i := 3) dX12_trades_32 rfl rfl ?_
        refine e_iloadn (pc := 33) (i := 1) dX12_trades_33 rfl rfl ?_
        obtain ⟨v19, hq19, hr17⟩ := x_bd1 hr17
        refine e_invV (pc := 34) (K1 := 0) (S1 := 0) (K := 0) (S := 0) (dd2 := 3) (av := [x_i v9, x_i v3]) (st := []) (id := 16 * 32 + 0) dX12_trades_34 xmX12_361 rfl (Or.inl ⟨10, 27, TX12, (sa_32_0 hs), rfl, by decide⟩) (f_cal (M := M) (us2 := [32]) [0] hn rfl (And.intro rfl trivial) rfl rfl rfl (c_X12_ringOf hst hs   hq19)) (by decide) (Nat.le_of_ble_eq_true rfl) (Or.inl rfl) ?_
        show Ev g _ _ _ _ _ _ 37 [some (x_r (16 * 32 + 0)), some (x_i v3), some (x_i v8), some (x_i v9), none] [x_i v19] (al, ro, fl (ml M [32] [S10])) _ _ _ _
        refine e_goto (pc := 37) (tgt := 41) dX12_trades_37 (by decide) ?_
        cases hr17
        exact hjhr17
def G12_trade (a : Int) (b : Int) (S : xU) : Option (Int × xU) :=
  (x_b1 (G12_isMonk a S) fun (v1 : Int) => (x_b1 (if v1 = 0 then (some 1) else (some 0)) fun (v3 : Int) => (if ((x_up S 0 0 v3) 0 0) ≤ 0 then (x_b1 (G12_trades (x_up S 0 0 v3)) fun (S5 : xU) => (x_b1 (if b = 0 then (x_gd ((0 : Int) ≤ a ∧ a < 7) (some (S5 12 (a).toNat))) else (x_gd ((0 : Int) ≤ a ∧ a < 7) (some (S5 13 (a).toNat)))) fun (v7 : Int) => (some (v7, S5)))) else (some (0, (x_up S 0 0 v3))))))
set_option maxRecDepth 100000 in
set_option maxHeartbeats 4000000 in
theorem c_X12_trade {g : xG} {al : List (Nat × Nat × Nat)} {ro : Nat → Nat → Option Nat} (hst : g.1.stackTraces = false) (hs : SH al ro) {M : Nat → xU} {a : Int} {b : Int} {S : xU} {t : (Int × xU)} (hG : G12_trade a b S = some t) :
    Cal g yX12_trade cX12_trade 3 (some .int) 5 [x_r (16 * 32 + 0), x_i a, x_i b] (al, ro, fl (ml M [32] [S])) 0 0 (.inl (some (x_i t.1))) (al, ro, fl (ml M [32] [t.2])) := by
  have hn : ([32] : List Nat).Nodup := by decide
  refine cal_of_ev (by decide) (x_c1 rfl) (Nat.le_of_ble_eq_true rfl) hst ?_
  show Ev g _ _ _ _ _ _ 0 [some (x_r (16 * 32 + 0)), some (x_i a), some (x_i b)] [] (al, ro, fl (ml M [32] [S])) _ _ _ _
  rw [G12_trade] at hG
  refine e_aloadn (pc := 0) (i := 0) dX12_trade_0 rfl rfl ?_
  refine e_aloadn (pc := 1) (i := 0) dX12_trade_1 rfl rfl ?_
  refine e_iloadn (pc := 2) (i := 1) dX12_trade_2 rfl rfl ?_
  obtain ⟨v1, hq1, hG⟩ := x_bd1 hG
  refine e_invV (pc := 3) (K1 := 0) (S1 := 0) (K := 0) (S := 0) (dd2 := 1) (av := [x_i a]) (st := [x_r (16 * 32 + 0)]) (id := 16 * 32 + 0) dX12_trade_3 xmX12_295 rfl (Or.inl ⟨10, 27, TX12, (sa_32_0 hs), rfl, by decide⟩) (f_cal (M := M) (us2 := [32]) [0] hn rfl (And.intro rfl trivial) rfl rfl rfl (c_X12_isMonk hst hs   hq1)) (by decide) (Nat.le_of_ble_eq_true rfl) (Or.inl rfl) ?_
  show Ev g _ _ _ _ _ _ 6 [some (x_r (16 * 32 + 0)), some (x_i a), some (x_i b)] [x_i v1, x_r (16 * 32 + 0)] (al, ro, fl (ml M [32] [S])) _ _ _ _
  obtain ⟨v3, hr3, hG⟩ := x_bd1 hG
  have hjhr3 : Ev g yX12_trade cX12_trade 3 (some .int) [] 5 14 [some (x_r (16 * 32 + 0)), some (x_i a), some (x_i b)] [x_i v3, x_r (16 * 32 + 0)] (al, ro, fl (ml M [32] [S])) 0 0 (.inl (some (x_i t.1))) (al, ro, fl (ml M [32] [t.2])) := by
    refine f_puti (pc := 14) (k := 0) (u := 32) (q := 0) dX12_trade_14 xf12_58 xw10_0 (sa_32_0 hs) hn rfl rfl rfl (by decide) ?_
    show Ev g _ _ _ _ _ _ 17 [some (x_r (16 * 32 + 0)), some (x_i a), some (x_i b)] [] (al, ro, fl (ml M [32] [(x_up S 0 0 v3)])) _ _ _ _
    refine e_aloadn (pc := 17) (i := 0) dX12_trade_17 rfl rfl ?_
    refine f_geti (pc := 18) (k := 0) (u := 32) (q := 0) dX12_trade_18 xf12_58 (sa_32_0 hs) rfl hn rfl rfl (by decide) ?_
    show Ev g _ _ _ _ _ _ 21 [some (x_r (16 * 32 + 0)), some (x_i a), some (x_i b)] [x_i ((x_up S 0 0 v3) 0 0)] (al, ro, fl (ml M [32] [(x_up S 0 0 v3)])) _ _ _ _
    refine e_if_le (pc := 21) (tgt := 26) dX12_trade_21 (by decide) (fun hb => ?_) (fun hb => ?_)
    · rw [if_pos hb] at hG
      refine e_aloadn (pc := 26) (i := 0) dX12_trade_26 rfl rfl ?_
      obtain ⟨S5, hq5, hG⟩ := x_bd1 hG
      refine e_invV (pc := 27) (K1 := 0) (S1 := 0) (K := 0) (S := 0) (dd2 := 4) (av := []) (st := []) (id := 16 * 32 + 0) dX12_trade_27 xmX12_364 rfl (Or.inl ⟨10, 27, TX12, (sa_32_0 hs), rfl, by decide⟩) (f_cal (M := M) (us2 := [32]) [0] hn rfl (And.intro rfl trivial) rfl rfl rfl (c_X12_trades hst hs   hq5)) (by decide) (Nat.le_of_ble_eq_true rfl) (Or.inl rfl) ?_
      show Ev g _ _ _ _ _ _ 30 [some (x_r (16 * 32 + 0)), some (x_i a), some (x_i b)] [] (al, ro, fl (ml M [32] [S5])) _ _ _ _
      refine e_iloadn (pc := 30) (i := 2) dX12_trade_30 rfl rfl ?_
      obtain ⟨v7, hr7, hG⟩ := x_bd1 hG
      have hjhr7 : Ev g yX12_trade cX12_trade 3 (some .int) [] 5 49 [some (x_r (16 * 32 + 0)), some (x_i a), some (x_i b)] [x_i v7] (al, ro, fl (ml M [32] [S5])) 0 0 (.inl (some (x_i t.1))) (al, ro, fl (ml M [32] [t.2])) := by
        cases hG
        exact (e_ireturn rfl dX12_trade_49 rfl)
      clear hG
      refine e_if_eq (pc := 31) (tgt := 43) dX12_trade_31 (by decide) (fun hb => ?_) (fun hb => ?_)
      · rw [if_pos hb] at hr7
        refine e_aloadn (pc := 43) (i := 0) dX12_trade_43 rfl rfl ?_
        refine f_getr (pc := 44) (u := 32) (q := 0) dX12_trade_44 xf12_49 (sa_32_0 hs) rfl (sr_32_0_24 hs) ?_
        refine e_iloadn (pc := 47) (i := 1) dX12_trade_47 rfl rfl ?_
        obtain ⟨hc0, hr7⟩ := x_gd_some hr7
        refine f_iald (pc := 48) (k := 0) (u := 32) (q := 12) (len := 7) dX12_trade_48 (sa_32_12 hs) hc0 hn rfl rfl (by decide) ?_
        show Ev g _ _ _ _ _ _ 49 [some (x_r (16 * 32 + 0)), some (x_i a), some (x_i b)] [x_i (S5 12 (a).toNat)] (al, ro, fl (ml M [32] [S5])) _ _ _ _
        cases hr7
        exact hjhr7
      · rw [if_neg hb] at hr7
        refine e_aloadn (pc := 34) (i := 0) dX12_trade_34 rfl rfl ?_
        refine f_getr (pc := 35) (u := 32) (q := 0) dX12_trade_35 xf12_52 (sa_32_0 hs) rfl (sr_32_0_25 hs) ?_
        refine e_iloadn (pc := 38) (i := 1) dX12_trade_38 rfl rfl ?_
        obtain ⟨hc0, hr7⟩ := x_gd_some hr7
        refine f_iald (pc := 39) (k := 0) (u := 32) (q := 13) (len := 7) dX12_trade_39 (sa_32_13 hs) hc0 hn rfl rfl (by decide) ?_
        show Ev g _ _ _ _ _ _ 40 [some (x_r (16 * 32 + 0)), some (x_i a), some (x_i b)] [x_i (S5 13 (a).toNat)] (al, ro, fl (ml M [32] [S5])) _ _ _ _
        refine e_goto (pc := 40) (tgt := 49) dX12_trade_40 (by decide) ?_
        cases hr7
        exact hjhr7
    · rw [if_neg hb] at hG
      refine e_iconst (pc := 24) dX12_trade_24 (x_R rfl) ?_
      cases hG
      exact (e_ireturn rfl dX12_trade_25 rfl)
  clear hG
  refine e_if_ne (pc := 6) (tgt := 13) dX12_trade_6 (by decide) (fun hb => ?_) (fun hb => ?_)
  · rw [if_neg hb] at hr3
    refine e_iconst (pc := 13) dX12_trade_13 (x_R rfl) ?_
    cases hr3
    exact hjhr3
  · rw [if_pos hb] at hr3
    refine e_iconst (pc := 9) dX12_trade_9 (x_R rfl) ?_
    refine e_goto (pc := 10) (tgt := 14) dX12_trade_10 (by decide) ?_
    cases hr3
    exact hjhr3
def G12_content_L9 (S : xU) : (Int × Int) → Option ((Int × Int) ⊕ Int)
  | (v1, v2) => (if ((x_up S 0 0 0) 1 3) ≤ v2 then (some (.inr v1)) else (x_b1 (G12_of v2 3 (x_up S 0 0 0)) fun (v6 : Int) => (x_b1 (G12_of v2 2 (x_up S 0 0 0)) fun (v8 : Int) => (x_b1 (G12_isOf v6 v8) fun (v10 : Int) => (x_b1 (if v10 = 0 then (some 0) else (some (x_shl 1 v2))) fun (v12 : Int) => (some (.inl ((x_or v1 v12), (x_add v2 1)))))))))
def G12_content (S : xU) : Option (Int × xU) :=
  (x_b1 (whl xFU (G12_content_L9 S) (0, 0)) fun (v3 : Int) => (some (v3, (x_up S 0 0 0))))
set_option maxRecDepth 100000 in
set_option maxHeartbeats 4000000 in
theorem c_X12_content {g : xG} {al : List (Nat × Nat × Nat)} {ro : Nat → Nat → Option Nat} (hst : g.1.stackTraces = false) (hs : SH al ro) {M : Nat → xU} {S : xU} {t : (Int × xU)} (hG : G12_content S = some t) :
    Cal g yX12_content cX12_content 3 (some .int) 1 [x_r (16 * 32 + 0)] (al, ro, fl (ml M [32] [S])) 0 0 (.inl (some (x_i t.1))) (al, ro, fl (ml M [32] [t.2])) := by
  have hn : ([32] : List Nat).Nodup := by decide
  refine cal_of_ev (by decide) (x_c1 rfl) (Nat.le_of_ble_eq_true rfl) hst ?_
  show Ev g _ _ _ _ _ _ 0 [some (x_r (16 * 32 + 0)), none, none] [] (al, ro, fl (ml M [32] [S])) _ _ _ _
  rw [G12_content] at hG
  refine e_aloadn (pc := 0) (i := 0) dX12_content_0 rfl rfl ?_
  refine e_iconst (pc := 1) dX12_content_1 (x_R rfl) ?_
  refine f_puti (pc := 2) (k := 0) (u := 32) (q := 0) dX12_content_2 xf12_58 xw10_0 (sa_32_0 hs) hn rfl rfl rfl (by decide) ?_
  show Ev g _ _ _ _ _ _ 5 [some (x_r (16 * 32 + 0)), none, none] [] (al, ro, fl (ml M [32] [(x_up S 0 0 0)])) _ _ _ _
  refine e_iconst (pc := 5) dX12_content_5 (x_R rfl) ?_
  refine e_istoren (pc := 6) (i := 1) dX12_content_6 rfl (by decide) rfl ?_
  show Ev g _ _ _ _ _ _ 7 [some (x_r (16 * 32 + 0)), some (x_i 0), none] [] (al, ro, fl (ml M [32] [(x_up S 0 0 0)])) _ _ _ _
  refine e_iconst (pc := 7) dX12_content_7 (x_R rfl) ?_
  refine e_istoren (pc := 8) (i := 2) dX12_content_8 rfl (by decide) rfl ?_
  show Ev g _ _ _ _ _ _ 9 [some (x_r (16 * 32 + 0)), some (x_i 0), some (x_i 0)] [] (al, ro, fl (ml M [32] [(x_up S 0 0 0)])) _ _ _ _
  obtain ⟨v3, hl4, hG⟩ := x_bd1 hG
  have hk4 : ∀ q : Int, q = v3 → Ev g yX12_content cX12_content 3 (some .int) [] 1 53 [some (x_r (16 * 32 + 0)), some (x_i q), none] [] (al, ro, fl (ml M [32] [(x_up S 0 0 0)])) 0 0 (.inl (some (x_i t.1))) (al, ro, fl (ml M [32] [t.2])) := by
    intro q hq
    replace hq := hq.symm
    subst hq
    refine e_iloadn (pc := 53) (i := 1) dX12_content_53 rfl rfl ?_
    cases hG
    exact (e_ireturn rfl dX12_content_54 rfl)
  clear hG
  refine e_whl (G12_content_L9 S) (fun z : (Int × Int) => Ev g yX12_content cX12_content 3 (some .int) [] 1 9 [some (x_r (16 * 32 + 0)), some (x_i z.1), some (x_i z.2)] [] (al, ro, fl (ml M [32] [(x_up S 0 0 0)])) 0 0 (.inl (some (x_i t.1))) (al, ro, fl (ml M [32] [t.2]))) (fun q => q = v3) ?_ xFU (0, 0) _ hl4 rfl
  intro z t4 hf4 hi4 hx4
  obtain ⟨v1, v2⟩ := z
  rw [G12_content_L9] at hf4
  show Ev g _ _ _ _ _ _ 9 [some (x_r (16 * 32 + 0)), some (x_i v1), some (x_i v2)] [] (al, ro, fl (ml M [32] [(x_up S 0 0 0)])) _ _ _ _
  refine e_iloadn (pc := 9) (i := 2) dX12_content_9 rfl rfl ?_
  refine e_aloadn (pc := 10) (i := 0) dX12_content_10 rfl rfl ?_
  refine f_getr (pc := 11) (u := 32) (q := 0) dX12_content_11 xf12_7 (sa_32_0 hs) rfl (sr_32_0_1 hs) ?_
  refine e_iconst (pc := 14) dX12_content_14 (x_R rfl) ?_
  refine f_iald (pc := 15) (k := 0) (u := 32) (q := 1) (len := 772) dX12_content_15 (sa_32_1 hs) (by decide) hn rfl rfl (by decide) ?_
  show Ev g _ _ _ _ _ _ 16 [some (x_r (16 * 32 + 0)), some (x_i v1), some (x_i v2)] [x_i ((x_up S 0 0 0) 1 3), x_i v2] (al, ro, fl (ml M [32] [(x_up S 0 0 0)])) _ _ _ _
  refine e_icmp_ge (pc := 16) (tgt := 53) dX12_content_16 (by decide) (fun hb => ?_) (fun hb => ?_)
  · rw [if_pos hb] at hf4
    cases hf4
    refine e_drop (i := 2) ?_
    exact hk4 _ (hx4 _ rfl)
  · rw [if_neg hb] at hf4
    refine e_iloadn (pc := 19) (i := 1) dX12_content_19 rfl rfl ?_
    refine e_aloadn (pc := 20) (i := 0) dX12_content_20 rfl rfl ?_
    refine e_iloadn (pc := 21) (i := 2) dX12_content_21 rfl rfl ?_
    refine e_iconst (pc := 22) dX12_content_22 (x_R rfl) ?_
    obtain ⟨v6, hq6, hf4⟩ := x_bd1 hf4
    refine e_invV (pc := 23) (K1 := 0) (S1 := 0) (K := 0) (S := 0) (dd2 := 0) (av := [x_i v2, x_i 3]) (st := [x_i v1]) (id := 16 * 32 + 0) dX12_content_23 xmX12_65 rfl (Or.inl ⟨10, 27, TX12, (sa_32_0 hs), rfl, by decide⟩) (f_cal (M := M) (us2 := [32]) [0] hn rfl (And.intro rfl trivial) rfl rfl rfl (c_X12_of hst hs   hq6)) (by decide) (Nat.le_of_ble_eq_true rfl) (Or.inl rfl) ?_
    show Ev g _ _ _ _ _ _ 26 [some (x_r (16 * 32 + 0)), some (x_i v1), some (x_i v2)] [x_i v6, x_i v1] (al, ro, fl (ml M [32] [(x_up S 0 0 0)])) _ _ _ _
    refine e_aloadn (pc := 26) (i := 0) dX12_content_26 rfl rfl ?_
    refine e_iloadn (pc := 27) (i := 2) dX12_content_27 rfl rfl ?_
    refine e_iconst (pc := 28) dX12_content_28 (x_R rfl) ?_
    obtain ⟨v8, hq8, hf4⟩ := x_bd1 hf4
    refine e_invV (pc := 29) (K1 := 0) (S1 := 0) (K := 0) (S := 0) (dd2 := 0) (av := [x_i v2, x_i 2]) (st := [x_i v6, x_i v1]) (id := 16 * 32 + 0) dX12_content_29 xmX12_65 rfl (Or.inl ⟨10, 27, TX12, (sa_32_0 hs), rfl, by decide⟩) (f_cal (M := M) (us2 := [32]) [0] hn rfl (And.intro rfl trivial) rfl rfl rfl (c_X12_of hst hs   hq8)) (by decide) (Nat.le_of_ble_eq_true rfl) (Or.inl rfl) ?_
    show Ev g _ _ _ _ _ _ 32 [some (x_r (16 * 32 + 0)), some (x_i v1), some (x_i v2)] [x_i v8, x_i v6, x_i v1] (al, ro, fl (ml M [32] [(x_up S 0 0 0)])) _ _ _ _
    obtain ⟨v10, hq10, hf4⟩ := x_bd1 hf4
    refine e_invS (pc := 32) (K1 := 0) (S1 := 0) (K := 0) (S := 0) (dd2 := 0) (av := [x_i v6, x_i v8]) (st := [x_i v1]) dX12_content_32 xmX12_119 rfl (f_cal (M := M) (us2 := []) [] hn rfl trivial rfl rfl rfl (c_X12_isOf hst hs   hq10)) (by decide) (Nat.le_of_ble_eq_true rfl) (Or.inl rfl) ?_
    show Ev g _ _ _ _ _ _ 35 [some (x_r (16 * 32 + 0)), some (x_i v1), some (x_i v2)] [x_i v10, x_i v1] (al, ro, fl (ml M [32] [(x_up S 0 0 0)])) _ _ _ _
    obtain ⟨v12, hr12, hf4⟩ := x_bd1 hf4
    have hjhr12 : Ev g yX12_content cX12_content 3 (some .int) [] 1 45 [some (x_r (16 * 32 + 0)), some (x_i v1), some (x_i v2)] [x_i v12, x_i v1] (al, ro, fl (ml M [32] [(x_up S 0 0 0)])) 0 0 (.inl (some (x_i t.1))) (al, ro, fl (ml M [32] [t.2])) := by
      refine e_ior (pc := 45) dX12_content_45 ?_
      refine e_istoren (pc := 46) (i := 1) dX12_content_46 rfl (by decide) rfl ?_
      show Ev g _ _ _ _ _ _ 47 [some (x_r (16 * 32 + 0)), some (x_i (x_or v1 v12)), some (x_i v2)] [] (al, ro, fl (ml M [32] [(x_up S 0 0 0)])) _ _ _ _
      refine e_iinc (pc := 47) dX12_content_47 rfl (by decide) rfl ?_
      show Ev g _ _ _ _ _ _ 50 [some (x_r (16 * 32 + 0)), some (x_i (x_or v1 v12)), some (x_i (x_add v2 1))] [] (al, ro, fl (ml M [32] [(x_up S 0 0 0)])) _ _ _ _
      refine e_goto (pc := 50) (tgt := 9) dX12_content_50 (by decide) ?_
      cases hf4
      exact hi4 _ rfl
    clear hf4
    refine e_if_eq (pc := 35) (tgt := 44) dX12_content_35 (by decide) (fun hb => ?_) (fun hb => ?_)
    · rw [if_pos hb] at hr12
      refine e_iconst (pc := 44) dX12_content_44 (x_R rfl) ?_
      cases hr12
      exact hjhr12
    · rw [if_neg hb] at hr12
      refine e_iconst (pc := 38) dX12_content_38 (x_R rfl) ?_
      refine e_iloadn (pc := 39) (i := 2) dX12_content_39 rfl rfl ?_
      refine e_ishl (pc := 40) dX12_content_40 ?_
      refine e_goto (pc := 41) (tgt := 45) dX12_content_41 (by decide) ?_
      cases hr12
      exact hjhr12
def G12_areRows_L21 (a : Int) (b : Int) (S : xU) : (Int × Int) → Option ((Int × Int) ⊕ Int)
  | (v3, v4) => (if a ≤ v4 then (some (.inr v3)) else (if v3 = 0 then (some (.inr v3)) else (x_gd ((0 : Int) ≤ v4 ∧ v4 < 400) (x_b1 (if (x_rem v4 2) = 0 then (some 23) else (some b)) fun (v8 : Int) => (x_b1 (if v8 < (S 5 (v4).toNat) then (some 0) else (some 1)) fun (v10 : Int) => (some (.inl (v10, (x_add v4 1)))))))))
def G12_areRows (a : Int) (b : Int) (S : xU) : Option Int :=
  (x_b1 (if (x_rem a 2) = 0 then (if 40 < a then (some 0) else (some 1)) else (some 0)) fun (v1 : Int) => (x_b1 (whl xFU (G12_areRows_L21 a b S) (v1, 0)) fun (v5 : Int) => (x_gd (v5 = 0 ∨ v5 = 1) (some v5))))
set_option maxRecDepth 100000 in
set_option maxHeartbeats 4000000 in
theorem c_X12_areRows {g : xG} {al : List (Nat × Nat × Nat)} {ro : Nat → Nat → Option Nat} (hst : g.1.stackTraces = false) (hs : SH al ro) {M : Nat → xU} {a : Int} {b : Int} {S : xU} {t : Int} (hG : G12_areRows a b S = some t) :
    Cal g yX12_areRows cX12_areRows 5 (some .boolean) 0 [x_r (16 * 32 + 0), x_i a, x_i b] (al, ro, fl (ml M [32] [S])) 0 0 (.inl (some (x_i t))) (al, ro, fl (ml M [32] [S])) := by
  have hn : ([32] : List Nat).Nodup := by decide
  refine cal_of_ev (by decide) (x_c1 rfl) (Nat.le_of_ble_eq_true rfl) hst ?_
  show Ev g _ _ _ _ _ _ 0 [some (x_r (16 * 32 + 0)), some (x_i a), some (x_i b), none, none] [] (al, ro, fl (ml M [32] [S])) _ _ _ _
  rw [G12_areRows] at hG
  refine e_iloadn (pc := 0) (i := 1) dX12_areRows_0 rfl rfl ?_
  refine e_iconst (pc := 1) dX12_areRows_1 (x_R rfl) ?_
  refine e_irem (pc := 2) dX12_areRows_2 (by decide) ?_
  obtain ⟨v1, hr1, hG⟩ := x_bd1 hG
  have hjhr1 : Ev g yX12_areRows cX12_areRows 5 (some .boolean) [] 0 17 [some (x_r (16 * 32 + 0)), some (x_i a), some (x_i b), none, none] [x_i v1] (al, ro, fl (ml M [32] [S])) 0 0 (.inl (some (x_i t))) (al, ro, fl (ml M [32] [S])) := by
    refine e_istoren (pc := 17) (i := 3) dX12_areRows_17 rfl (by decide) rfl ?_
    show Ev g _ _ _ _ _ _ 18 [some (x_r (16 * 32 + 0)), some (x_i a), some (x_i b), some (x_i v1), none] [] (al, ro, fl (ml M [32] [S])) _ _ _ _
    refine e_iconst (pc := 18) dX12_areRows_18 (x_R rfl) ?_
    refine e_istore (pc := 19) (i := 4) dX12_areRows_19 (by decide) rfl ?_
    show Ev g _ _ _ _ _ _ 21 [some (x_r (16 * 32 + 0)), some (x_i a), some (x_i b), some (x_i v1), some (x_i 0)] [] (al, ro, fl (ml M [32] [S])) _ _ _ _
    obtain ⟨v5, hl6, hG⟩ := x_bd1 hG
    have hk6 : ∀ q : Int, q = v5 → Ev g yX12_areRows cX12_areRows 5 (some .boolean) [] 0 66 [some (x_r (16 * 32 + 0)), some (x_i a), some (x_i b), some (x_i q), none] [] (al, ro, fl (ml M [32] [S])) 0 0 (.inl (some (x_i t))) (al, ro, fl (ml M [32] [S])) := by
      intro q hq
      replace hq := hq.symm
      subst hq
      refine e_iloadn (pc := 66) (i := 3) dX12_areRows_66 rfl rfl ?_
      obtain ⟨hc0, hG⟩ := x_gd_some hG
      cases hG
      exact (e_ireturn rfl dX12_areRows_67 (x_bool hc0).1)
    clear hG
    refine e_whl (G12_areRows_L21 a b S) (fun z : (Int × Int) => Ev g yX12_areRows cX12_areRows 5 (some .boolean) [] 0 21 [some (x_r (16 * 32 + 0)), some (x_i a), some (x_i b), some (x_i z.1), some (x_i z.2)] [] (al, ro, fl (ml M [32] [S])) 0 0 (.inl (some (x_i t))) (al, ro, fl (ml M [32] [S]))) (fun q => q = v5) ?_ xFU (v1, 0) _ hl6 rfl
    intro z t6 hf6 hi6 hx6
    obtain ⟨v3, v4⟩ := z
    rw [G12_areRows_L21] at hf6
    show Ev g _ _ _ _ _ _ 21 [some (x_r (16 * 32 + 0)), some (x_i a), some (x_i b), some (x_i v3), some (x_i v4)] [] (al, ro, fl (ml M [32] [S])) _ _ _ _
    refine e_iload (pc := 21) dX12_areRows_21 rfl ?_
    refine e_iloadn (pc := 23) (i := 1) dX12_areRows_23 rfl rfl ?_
    refine e_icmp_ge (pc := 24) (tgt := 66) dX12_areRows_24 (by decide) (fun hb => ?_) (fun hb => ?_)
    · rw [if_pos hb] at hf6
      cases hf6
      refine e_drop (i := 4) ?_
      exact hk6 _ (hx6 _ rfl)
    · rw [if_neg hb] at hf6
      refine e_iloadn (pc := 27) (i := 3) dX12_areRows_27 rfl rfl ?_
      refine e_if_eq (pc := 28) (tgt := 66) dX12_areRows_28 (by decide) (fun hb => ?_) (fun hb => ?_)
      · rw [if_pos hb] at hf6
        cases hf6
        refine e_drop (i := 4) ?_
        exact hk6 _ (hx6 _ rfl)
      · rw [if_neg hb] at hf6
        refine e_aloadn (pc := 31) (i := 0) dX12_areRows_31 rfl rfl ?_
        refine f_getr (pc := 32) (u := 32) (q := 0) dX12_areRows_32 xf12_22 (sa_32_0 hs) rfl (sr_32_0_7 hs) ?_
        refine e_iload (pc := 35) dX12_areRows_35 rfl ?_
        obtain ⟨hc0, hf6⟩ := x_gd_some hf6
        refine f_iald (pc := 37) (k := 0) (u := 32) (q := 5) (len := 400) dX12_areRows_37 (sa_32_5 hs) hc0 hn rfl rfl (by decide) ?_
        show Ev g _ _ _ _ _ _ 38 [some (x_r (16 * 32 + 0)), some (x_i a), some (x_i b), some (x_i v3), some (x_i v4)] [x_i (S 5 (v4).toNat)] (al, ro, fl (ml M [32] [S])) _ _ _ _
        refine e_iload (pc := 38) dX12_areRows_38 rfl ?_
        refine e_iconst (pc := 40) dX12_areRows_40 (x_R rfl) ?_
        refine e_irem (pc := 41) dX12_areRows_41 (by decide) ?_
        obtain ⟨v8, hr8, hf6⟩ := x_bd1 hf6
        have hjhr8 : Ev g yX12_areRows cX12_areRows 5 (some .boolean) [] 0 51 [some (x_r (16 * 32 + 0)), some (x_i a), some (x_i b), some (x_i v3), some (x_i v4)] [x_i v8, x_i (S 5 (v4).toNat)] (al, ro, fl (ml M [32] [S])) 0 0 (.inl (some (x_i t))) (al, ro, fl (ml M [32] [S])) := by
          obtain ⟨v10, hr10, hf6⟩ := x_bd1 hf6
          have hjhr10 : Ev g yX12_areRows cX12_areRows 5 (some .boolean) [] 0 59 [some (x_r (16 * 32 + 0)), some (x_i a), some (x_i b), some (x_i v3), some (x_i v4)] [x_i v10] (al, ro, fl (ml M [32] [S])) 0 0 (.inl (some (x_i t))) (al, ro, fl (ml M [32] [S])) := by
            refine e_istoren (pc := 59) (i := 3) dX12_areRows_59 rfl (by decide) rfl ?_
            show Ev g _ _ _ _ _ _ 60 [some (x_r (16 * 32 + 0)), some (x_i a), some (x_i b), some (x_i v10), some (x_i v4)] [] (al, ro, fl (ml M [32] [S])) _ _ _ _
            refine e_iinc (pc := 60) dX12_areRows_60 rfl (by decide) rfl ?_
            show Ev g _ _ _ _ _ _ 63 [some (x_r (16 * 32 + 0)), some (x_i a), some (x_i b), some (x_i v10), some (x_i (x_add v4 1))] [] (al, ro, fl (ml M [32] [S])) _ _ _ _
            refine e_goto (pc := 63) (tgt := 21) dX12_areRows_63 (by decide) ?_
            cases hf6
            exact hi6 _ rfl
          clear hf6
          refine e_icmp_gt (pc := 51) (tgt := 58) dX12_areRows_51 (by decide) (fun hb => ?_) (fun hb => ?_)
          · rw [if_pos hb] at hr10
            refine e_iconst (pc := 58) dX12_areRows_58 (x_R rfl) ?_
            cases hr10
            exact hjhr10
          · rw [if_neg hb] at hr10
            refine e_iconst (pc := 54) dX12_areRows_54 (x_R rfl) ?_
            refine e_goto (pc := 55) (tgt := 59) dX12_areRows_55 (by decide) ?_
            cases hr10
            exact hjhr10
        clear hf6
        refine e_if_ne (pc := 42) (tgt := 50) dX12_areRows_42 (by decide) (fun hb => ?_) (fun hb => ?_)
        · rw [if_neg hb] at hr8
          refine e_iloadn (pc := 50) (i := 2) dX12_areRows_50 rfl rfl ?_
          cases hr8
          exact hjhr8
        · rw [if_pos hb] at hr8
          refine e_bipush (pc := 45) dX12_areRows_45 (by decide +kernel) (x_R rfl) ?_
          refine e_goto (pc := 47) (tgt := 51) dX12_areRows_47 (by decide) ?_
          cases hr8
          exact hjhr8
  clear hG
  refine e_if_ne (pc := 3) (tgt := 16) dX12_areRows_3 (by decide) (fun hb => ?_) (fun hb => ?_)
  · rw [if_neg hb] at hr1
    refine e_iconst (pc := 16) dX12_areRows_16 (x_R rfl) ?_
    cases hr1
    exact hjhr1
  · rw [if_pos hb] at hr1
    refine e_iloadn (pc := 6) (i := 1) dX12_areRows_6 rfl rfl ?_
    refine e_bipush (pc := 7) dX12_areRows_7 (by decide +kernel) (x_R rfl) ?_
    refine e_icmp_gt (pc := 9) (tgt := 16) dX12_areRows_9 (by decide) (fun hb => ?_) (fun hb => ?_)
    · rw [if_pos hb] at hr1
      refine e_iconst (pc := 16) dX12_areRows_16 (x_R rfl) ?_
      cases hr1
      exact hjhr1
    · rw [if_neg hb] at hr1
      refine e_iconst (pc := 12) dX12_areRows_12 (x_R rfl) ?_
      refine e_goto (pc := 13) (tgt := 17) dX12_areRows_13 (by decide) ?_
      cases hr1
      exact hjhr1
def G12_isThere (a : Int) (b : Int) (S : xU) : Option Int :=
  (x_b1 (if (x_rem (x_add (x_div a 9) (x_mul b (x_rem a 9))) 16) = (S 1 6) then (some 1) else (some 0)) fun (v1 : Int) => (x_gd (v1 = 0 ∨ v1 = 1) (some v1)))
set_option maxRecDepth 100000 in
set_option maxHeartbeats 4000000 in
theorem c_X12_isThere {g : xG} {al : List (Nat × Nat × Nat)} {ro : Nat → Nat → Option Nat} (hst : g.1.stackTraces = false) (hs : SH al ro) {M : Nat → xU} {a : Int} {b : Int} {S : xU} {t : Int} (hG : G12_isThere a b S = some t) :
    Cal g yX12_isThere cX12_isThere 3 (some .boolean) 0 [x_r (16 * 32 + 0), x_i a, x_i b] (al, ro, fl (ml M [32] [S])) 0 0 (.inl (some (x_i t))) (al, ro, fl (ml M [32] [S])) := by
  have hn : ([32] : List Nat).Nodup := by decide
  refine cal_of_ev (by decide) (x_c1 rfl) (Nat.le_of_ble_eq_true rfl) hst ?_
  show Ev g _ _ _ _ _ _ 0 [some (x_r (16 * 32 + 0)), some (x_i a), some (x_i b)] [] (al, ro, fl (ml M [32] [S])) _ _ _ _
  rw [G12_isThere] at hG
  refine e_iloadn (pc := 0) (i := 1) dX12_isThere_0 rfl rfl ?_
  refine e_bipush (pc := 1) dX12_isThere_1 (by decide +kernel) (x_R rfl) ?_
  refine e_idiv (pc := 3) dX12_isThere_3 (by decide) ?_
  refine e_iloadn (pc := 4) (i := 2) dX12_isThere_4 rfl rfl ?_
  refine e_iloadn (pc := 5) (i := 1) dX12_isThere_5 rfl rfl ?_
  refine e_bipush (pc := 6) dX12_isThere_6 (by decide +kernel) (x_R rfl) ?_
  refine e_irem (pc := 8) dX12_isThere_8 (by decide) ?_
  refine e_imul (pc := 9) dX12_isThere_9 ?_
  refine e_iadd (pc := 10) dX12_isThere_10 ?_
  refine e_bipush (pc := 11) dX12_isThere_11 (by decide +kernel) (x_R rfl) ?_
  refine e_irem (pc := 13) dX12_isThere_13 (by decide) ?_
  refine e_aloadn (pc := 14) (i := 0) dX12_isThere_14 rfl rfl ?_
  refine f_getr (pc := 15) (u := 32) (q := 0) dX12_isThere_15 xf12_7 (sa_32_0 hs) rfl (sr_32_0_1 hs) ?_
  refine e_bipush (pc := 18) dX12_isThere_18 (by decide +kernel) (x_R rfl) ?_
  refine f_iald (pc := 20) (k := 0) (u := 32) (q := 1) (len := 772) dX12_isThere_20 (sa_32_1 hs) (by decide) hn rfl rfl (by decide) ?_
  show Ev g _ _ _ _ _ _ 21 [some (x_r (16 * 32 + 0)), some (x_i a), some (x_i b)] [x_i (S 1 6), x_i (x_rem (x_add (x_div a 9) (x_mul b (x_rem a 9))) 16)] (al, ro, fl (ml M [32] [S])) _ _ _ _
  obtain ⟨v1, hr1, hG⟩ := x_bd1 hG
  have hjhr1 : Ev g yX12_isThere cX12_isThere 3 (some .boolean) [] 0 29 [some (x_r (16 * 32 + 0)), some (x_i a), some (x_i b)] [x_i v1] (al, ro, fl (ml M [32] [S])) 0 0 (.inl (some (x_i t))) (al, ro, fl (ml M [32] [S])) := by
    obtain ⟨hc0, hG⟩ := x_gd_some hG
    cases hG
    exact (e_ireturn rfl dX12_isThere_29 (x_bool hc0).1)
  clear hG
  refine e_icmp_ne (pc := 21) (tgt := 28) dX12_isThere_21 (by decide) (fun hb => ?_) (fun hb => ?_)
  · rw [if_neg hb] at hr1
    refine e_iconst (pc := 28) dX12_isThere_28 (x_R rfl) ?_
    cases hr1
    exact hjhr1
  · rw [if_pos hb] at hr1
    refine e_iconst (pc := 24) dX12_isThere_24 (x_R rfl) ?_
    refine e_goto (pc := 25) (tgt := 29) dX12_isThere_25 (by decide) ?_
    cases hr1
    exact hjhr1
def G12_heard_L42 (S : xU) (v4 : Int) : (Int × xU) → Option ((Int × xU) ⊕ xU)
  | (v10, S11) => (if (S 0 8) ≤ v10 then (some (.inr S11)) else (x_gd ((0 : Int) ≤ v4 ∧ v4 < 144) (if (S11 11 (v4).toNat) = 0 then (some (.inr S11)) else (x_gd ((0 : Int) ≤ v10 ∧ v10 < 400) (x_b1 (G12_isThere v4 (S11 5 (v10).toNat) S11) fun (v15 : Int) => (x_gd ((0 : Int) ≤ (x_add v10 1) ∧ (x_add v10 1) < 400) (x_b1 (if (S11 5 ((x_add v10 1)).toNat) = 1 then (some 1) else (some 0)) fun (v17 : Int) => (x_b1 (if v15 = v17 then (some 1) else (some 0)) fun (v19 : Int) => (x_gd ((0 : Int) ≤ v4 ∧ v4 < 144) (x_gd (v19 = 0 ∨ v19 = 1) (some (.inl ((x_add v10 2), (x_up S11 11 (v4).toNat v19))))))))))))))
def G12_heard_L25 (S : xU) : (Int × Int × xU) → Option ((Int × Int × xU) ⊕ (Int × xU))
  | (v3, v4, S5) => (if 144 ≤ v4 then (some (.inr (v3, S5))) else (x_gd ((0 : Int) ≤ v4 ∧ v4 < 144) (x_b1 (whl xFU (G12_heard_L42 S v4) (0, (x_up S5 11 (v4).toNat 1))) fun (S12 : xU) => (x_gd ((0 : Int) ≤ v4 ∧ v4 < 144) (x_b1 (if (S12 11 (v4).toNat) = 0 then (some 0) else (some 1)) fun (v21 : Int) => (some (.inl ((x_add v3 v21), (x_add v4 1), S12))))))))
def G12_heard (S : xU) : Option (Int × xU) :=
  (x_b1 (G12_areRows (S 0 8) 1 (x_up S 0 8 0)) fun (v1 : Int) => (if v1 = 0 then (some ((-1), (x_up S 0 8 0))) else (x_b2 (whl xFU (G12_heard_L25 S) (0, 0, (x_up S 0 8 0))) fun (v6 : Int) (S7 : xU) => (some (v6, S7)))))
set_option maxRecDepth 100000 in
set_option maxHeartbeats 4000000 in
theorem c_X12_heard {g : xG} {al : List (Nat × Nat × Nat)} {ro : Nat → Nat → Option Nat} (hst : g.1.stackTraces = false) (hs : SH al ro) {M : Nat → xU} {S : xU} {t : (Int × xU)} (hG : G12_heard S = some t) :
    Cal g yX12_heard cX12_heard 5 (some .int) 1 [x_r (16 * 32 + 0)] (al, ro, fl (ml M [32] [S])) 0 0 (.inl (some (x_i t.1))) (al, ro, fl (ml M [32] [t.2])) := by
  have hn : ([32] : List Nat).Nodup := by decide
  refine cal_of_ev (by decide) (x_c1 rfl) (Nat.le_of_ble_eq_true rfl) hst ?_
  show Ev g _ _ _ _ _ _ 0 [some (x_r (16 * 32 + 0)), none, none, none, none] [] (al, ro, fl (ml M [32] [S])) _ _ _ _
  rw [G12_heard] at hG
  refine e_aloadn (pc := 0) (i := 0) dX12_heard_0 rfl rfl ?_
  refine f_geti (pc := 1) (k := 0) (u := 32) (q := 0) dX12_heard_1 xf12_76 (sa_32_0 hs) rfl hn rfl rfl (by decide) ?_
  show Ev g _ _ _ _ _ _ 4 [some (x_r (16 * 32 + 0)), none, none, none, none] [x_i (S 0 8)] (al, ro, fl (ml M [32] [S])) _ _ _ _
  refine e_istoren (pc := 4) (i := 1) dX12_heard_4 rfl (by decide) rfl ?_
  show Ev g _ _ _ _ _ _ 5 [some (x_r (16 * 32 + 0)), some (x_i (S 0 8)), none, none, none] [] (al, ro, fl (ml M [32] [S])) _ _ _ _
  refine e_aloadn (pc := 5) (i := 0) dX12_heard_5 rfl rfl ?_
  refine e_iconst (pc := 6) dX12_heard_6 (x_R rfl) ?_
  refine f_puti (pc := 7) (k := 0) (u := 32) (q := 0) dX12_heard_7 xf12_76 xw10_8 (sa_32_0 hs) hn rfl rfl rfl (by decide) ?_
  show Ev g _ _ _ _ _ _ 10 [some (x_r (16 * 32 + 0)), some (x_i (S 0 8)), none, none, none] [] (al, ro, fl (ml M [32] [(x_up S 0 8 0)])) _ _ _ _
  refine e_aloadn (pc := 10) (i := 0) dX12_heard_10 rfl rfl ?_
  refine e_iloadn (pc := 11) (i := 1) dX12_heard_11 rfl rfl ?_
  refine e_iconst (pc := 12) dX12_heard_12 (x_R rfl) ?_
  obtain ⟨v1, hq1, hG⟩ := x_bd1 hG
  refine e_invV (pc := 13) (K1 := 0) (S1 := 0) (K := 0) (S := 0) (dd2 := 0) (av := [x_i (S 0 8), x_i 1]) (st := []) (id := 16 * 32 + 0) dX12_heard_13 xmX12_367 rfl (Or.inl ⟨10, 27, TX12, (sa_32_0 hs), rfl, by decide⟩) (f_cal (M := M) (us2 := [32]) [0] hn rfl (And.intro rfl trivial) rfl rfl rfl (c_X12_areRows hst hs   hq1)) (by decide) (Nat.le_of_ble_eq_true rfl) (Or.inl rfl) ?_
  show Ev g _ _ _ _ _ _ 16 [some (x_r (16 * 32 + 0)), some (x_i (S 0 8)), none, none, none] [x_i v1] (al, ro, fl (ml M [32] [(x_up S 0 8 0)])) _ _ _ _
  refine e_if_ne (pc := 16) (tgt := 21) dX12_heard_16 (by decide) (fun hb => ?_) (fun hb => ?_)
  · rw [if_neg hb] at hG
    refine e_iconst (pc := 21) dX12_heard_21 (x_R rfl) ?_
    refine e_istoren (pc := 22) (i := 2) dX12_heard_22 rfl (by decide) rfl ?_
    show Ev g _ _ _ _ _ _ 23 [some (x_r (16 * 32 + 0)), some (x_i (S 0 8)), some (x_i 0), none, none] [] (al, ro, fl (ml M [32] [(x_up S 0 8 0)])) _ _ _ _
    refine e_iconst (pc := 23) dX12_heard_23 (x_R rfl) ?_
    refine e_istoren (pc := 24) (i := 3) dX12_heard_24 rfl (by decide) rfl ?_
    show Ev g _ _ _ _ _ _ 25 [some (x_r (16 * 32 + 0)), some (x_i (S 0 8)), some (x_i 0), some (x_i 0), none] [] (al, ro, fl (ml M [32] [(x_up S 0 8 0)])) _ _ _ _
    obtain ⟨v6, S7, hl8, hG⟩ := x_bd2 hG
    have hk8 : ∀ q : (Int × xU), q = (v6, S7) → Ev g yX12_heard cX12_heard 5 (some .int) [] 1 130 [some (x_r (16 * 32 + 0)), some (x_i (S 0 8)), some (x_i q.1), none, none] [] (al, ro, fl (ml M [32] [q.2])) 0 0 (.inl (some (x_i t.1))) (al, ro, fl (ml M [32] [t.2])) := by
      intro q hq
      cases hq
      refine e_iloadn (pc := 130) (i := 2) dX12_heard_130 rfl rfl ?_
      cases hG
      exact (e_ireturn rfl dX12_heard_131 rfl)
    clear hG
    refine e_whl (G12_heard_L25 S) (fun z : (Int × Int × xU) => Ev g yX12_heard cX12_heard 5 (some .int) [] 1 25 [some (x_r (16 * 32 + 0)), some (x_i (S 0 8)), some (x_i z.1), some (x_i z.2.1), none] [] (al, ro, fl (ml M [32] [z.2.2])) 0 0 (.inl (some (x_i t.1))) (al, ro, fl (ml M [32] [t.2]))) (fun q => q = (v6, S7)) ?_ xFU (0, 0, (x_up S 0 8 0)) _ hl8 rfl
    intro z t8 hf8 hi8 hx8
    obtain ⟨v3, v4, S5⟩ := z
    rw [G12_heard_L25] at hf8
    show Ev g _ _ _ _ _ _ 25 [some (x_r (16 * 32 + 0)), some (x_i (S 0 8)), some (x_i v3), some (x_i v4), none] [] (al, ro, fl (ml M [32] [S5])) _ _ _ _
    refine e_iloadn (pc := 25) (i := 3) dX12_heard_25 rfl rfl ?_
    refine e_sipush (pc := 26) dX12_heard_26 (by decide +kernel) (x_R rfl) ?_
    refine e_icmp_ge (pc := 29) (tgt := 130) dX12_heard_29 (by decide) (fun hb => ?_) (fun hb => ?_)
    · rw [if_pos hb] at hf8
      cases hf8
      refine e_drop (i := 3) ?_
      exact hk8 _ (hx8 _ rfl)
    · rw [if_neg hb] at hf8
      refine e_aloadn (pc := 32) (i := 0) dX12_heard_32 rfl rfl ?_
      refine f_getr (pc := 33) (u := 32) (q := 0) dX12_heard_33 xf12_45 (sa_32_0 hs) rfl (sr_32_0_23 hs) ?_
      refine e_iloadn (pc := 36) (i := 3) dX12_heard_36 rfl rfl ?_
      refine e_iconst (pc := 37) dX12_heard_37 (x_R rfl) ?_
      obtain ⟨hc0, hf8⟩ := x_gd_some hf8
      refine f_zast (pc := 38) (k := 0) (u := 32) (q := 11) (len := 144) dX12_heard_38 (sa_32_11 hs) hc0 (by decide) hn rfl rfl rfl (by decide) ?_
      show Ev g _ _ _ _ _ _ 39 [some (x_r (16 * 32 + 0)), some (x_i (S 0 8)), some (x_i v3), some (x_i v4), none] [] (al, ro, fl (ml M [32] [(x_up S5 11 (v4).toNat 1)])) _ _ _ _
      refine e_iconst (pc := 39) dX12_heard_39 (x_R rfl) ?_
      refine e_istore (pc := 40) (i := 4) dX12_heard_40 (by decide) rfl ?_
      show Ev g _ _ _ _ _ _ 42 [some (x_r (16 * 32 + 0)), some (x_i (S 0 8)), some (x_i v3), some (x_i v4), some (x_i 0)] [] (al, ro, fl (ml M [32] [(x_up S5 11 (v4).toNat 1)])) _ _ _ _
      obtain ⟨S12, hl13, hf8⟩ := x_bd1 hf8
      have hk13 : ∀ q : xU, q = S12 → Ev g yX12_heard cX12_heard 5 (some .int) [] 1 107 [some (x_r (16 * 32 + 0)), some (x_i (S 0 8)), some (x_i v3), some (x_i v4), none] [] (al, ro, fl (ml M [32] [q])) 0 0 (.inl (some (x_i t.1))) (al, ro, fl (ml M [32] [t.2])) := by
        intro q hq
        replace hq := hq.symm
        subst hq
        refine e_iloadn (pc := 107) (i := 2) dX12_heard_107 rfl rfl ?_
        refine e_aloadn (pc := 108) (i := 0) dX12_heard_108 rfl rfl ?_
        refine f_getr (pc := 109) (u := 32) (q := 0) dX12_heard_109 xf12_45 (sa_32_0 hs) rfl (sr_32_0_23 hs) ?_
        refine e_iloadn (pc := 112) (i := 3) dX12_heard_112 rfl rfl ?_
        obtain ⟨hc0, hf8⟩ := x_gd_some hf8
        refine f_zald (pc := 113) (k := 0) (u := 32) (q := 11) (len := 144) dX12_heard_113 (sa_32_11 hs) hc0 hn rfl rfl (by decide) ?_
        show Ev g _ _ _ _ _ _ 114 [some (x_r (16 * 32 + 0)), some (x_i (S 0 8)), some (x_i v3), some (x_i v4), none] [x_i (S12 11 (v4).toNat), x_i v3] (al, ro, fl (ml M [32] [S12])) _ _ _ _
        obtain ⟨v21, hr21, hf8⟩ := x_bd1 hf8
        have hjhr21 : Ev g yX12_heard cX12_heard 5 (some .int) [] 1 122 [some (x_r (16 * 32 + 0)), some (x_i (S 0 8)), some (x_i v3), some (x_i v4), none] [x_i v21, x_i v3] (al, ro, fl (ml M [32] [S12])) 0 0 (.inl (some (x_i t.1))) (al, ro, fl (ml M [32] [t.2])) := by
          refine e_iadd (pc := 122) dX12_heard_122 ?_
          refine e_istoren (pc := 123) (i := 2) dX12_heard_123 rfl (by decide) rfl ?_
          show Ev g _ _ _ _ _ _ 124 [some (x_r (16 * 32 + 0)), some (x_i (S 0 8)), some (x_i (x_add v3 v21)), some (x_i v4), none] [] (al, ro, fl (ml M [32] [S12])) _ _ _ _
          refine e_iinc (pc := 124) dX12_heard_124 rfl (by decide) rfl ?_
          show Ev g _ _ _ _ _ _ 127 [some (x_r (16 * 32 + 0)), some (x_i (S 0 8)), some (x_i (x_add v3 v21)), some (x_i (x_add v4 1)), none] [] (al, ro, fl (ml M [32] [S12])) _ _ _ _
          refine e_goto (pc := 127) (tgt := 25) dX12_heard_127 (by decide) ?_
          cases hf8
          exact hi8 _ rfl
        clear hf8
        refine e_if_eq (pc := 114) (tgt := 121) dX12_heard_114 (by decide) (fun hb => ?_) (fun hb => ?_)
        · rw [if_pos hb] at hr21
          refine e_iconst (pc := 121) dX12_heard_121 (x_R rfl) ?_
          cases hr21
          exact hjhr21
        · rw [if_neg hb] at hr21
          refine e_iconst (pc := 117) dX12_heard_117 (x_R rfl) ?_
          refine e_goto (pc := 118) (tgt := 122) dX12_heard_118 (by decide) ?_
          cases hr21
          exact hjhr21
      clear hf8
      refine e_whl (G12_heard_L42 S v4) (fun z : (Int × xU) => Ev g yX12_heard cX12_heard 5 (some .int) [] 1 42 [some (x_r (16 * 32 + 0)), some (x_i (S 0 8)), some (x_i v3), some (x_i v4), some (x_i z.1)] [] (al, ro, fl (ml M [32] [z.2])) 0 0 (.inl (some (x_i t.1))) (al, ro, fl (ml M [32] [t.2]))) (fun q => q = S12) ?_ xFU (0, (x_up S5 11 (v4).toNat 1)) _ hl13 rfl
      intro z t13 hf13 hi13 hx13
      obtain ⟨v10, S11⟩ := z
      rw [G12_heard_L42] at hf13
      show Ev g _ _ _ _ _ _ 42 [some (x_r (16 * 32 + 0)), some (x_i (S 0 8)), some (x_i v3), some (x_i v4), some (x_i v10)] [] (al, ro, fl (ml M [32] [S11])) _ _ _ _
      refine e_iload (pc := 42) dX12_heard_42 rfl ?_
      refine e_iloadn (pc := 44) (i := 1) dX12_heard_44 rfl rfl ?_
      refine e_icmp_ge (pc := 45) (tgt := 107) dX12_heard_45 (by decide) (fun hb => ?_) (fun hb => ?_)
      · rw [if_pos hb] at hf13
        cases hf13
        refine e_drop (i := 4) ?_
        exact hk13 _ (hx13 _ rfl)
      · rw [if_neg hb] at hf13
        refine e_aloadn (pc := 48) (i := 0) dX12_heard_48 rfl rfl ?_
        refine f_getr (pc := 49) (u := 32) (q := 0) dX12_heard_49 xf12_45 (sa_32_0 hs) rfl (sr_32_0_23 hs) ?_
        refine e_iloadn (pc := 52) (i := 3) dX12_heard_52 rfl rfl ?_
        obtain ⟨hc0, hf13⟩ := x_gd_some hf13
        refine f_zald (pc := 53) (k := 0) (u := 32) (q := 11) (len := 144) dX12_heard_53 (sa_32_11 hs) hc0 hn rfl rfl (by decide) ?_
        show Ev g _ _ _ _ _ _ 54 [some (x_r (16 * 32 + 0)), some (x_i (S 0 8)), some (x_i v3), some (x_i v4), some (x_i v10)] [x_i (S11 11 (v4).toNat)] (al, ro, fl (ml M [32] [S11])) _ _ _ _
        refine e_if_eq (pc := 54) (tgt := 107) dX12_heard_54 (by decide) (fun hb => ?_) (fun hb => ?_)
        · rw [if_pos hb] at hf13
          cases hf13
          refine e_drop (i := 4) ?_
          exact hk13 _ (hx13 _ rfl)
        · rw [if_neg hb] at hf13
          refine e_aloadn (pc := 57) (i := 0) dX12_heard_57 rfl rfl ?_
          refine f_getr (pc := 58) (u := 32) (q := 0) dX12_heard_58 xf12_45 (sa_32_0 hs) rfl (sr_32_0_23 hs) ?_
          refine e_iloadn (pc := 61) (i := 3) dX12_heard_61 rfl rfl ?_
          refine e_aloadn (pc := 62) (i := 0) dX12_heard_62 rfl rfl ?_
          refine e_iloadn (pc := 63) (i := 3) dX12_heard_63 rfl rfl ?_
          refine e_aloadn (pc := 64) (i := 0) dX12_heard_64 rfl rfl ?_
          refine f_getr (pc := 65) (u := 32) (q := 0) dX12_heard_65 xf12_22 (sa_32_0 hs) rfl (sr_32_0_7 hs) ?_
          refine e_iload (pc := 68) dX12_heard_68 rfl ?_
          obtain ⟨hc0, hf13⟩ := x_gd_some hf13
          refine f_iald (pc := 70) (k := 0) (u := 32) (q := 5) (len := 400) dX12_heard_70 (sa_32_5 hs) hc0 hn rfl rfl (by decide) ?_
          show Ev g _ _ _ _ _ _ 71 [some (x_r (16 * 32 + 0)), some (x_i (S 0 8)), some (x_i v3), some (x_i v4), some (x_i v10)] [x_i (S11 5 (v10).toNat), x_i v4, x_r (16 * 32 + 0), x_i v4, x_r (16 * 32 + 11)] (al, ro, fl (ml M [32] [S11])) _ _ _ _
          obtain ⟨v15, hq15, hf13⟩ := x_bd1 hf13
          refine e_invV (pc := 71) (K1 := 0) (S1 := 0) (K := 0) (S := 0) (dd2 := 0) (av := [x_i v4, x_i (S11 5 (v10).toNat)]) (st := [x_i v4, x_r (16 * 32 + 11)]) (id := 16 * 32 + 0) dX12_heard_71 xmX12_370 rfl (Or.inl ⟨10, 27, TX12, (sa_32_0 hs), rfl, by decide⟩) (f_cal (M := M) (us2 := [32]) [0] hn rfl (And.intro rfl trivial) rfl rfl rfl (c_X12_isThere hst hs   hq15)) (by decide) (Nat.le_of_ble_eq_true rfl) (Or.inl rfl) ?_
          show Ev g _ _ _ _ _ _ 74 [some (x_r (16 * 32 + 0)), some (x_i (S 0 8)), some (x_i v3), some (x_i v4), some (x_i v10)] [x_i v15, x_i v4, x_r (16 * 32 + 11)] (al, ro, fl (ml M [32] [S11])) _ _ _ _
          refine e_aloadn (pc := 74) (i := 0) dX12_heard_74 rfl rfl ?_
          refine f_getr (pc := 75) (u := 32) (q := 0) dX12_heard_75 xf12_22 (sa_32_0 hs) rfl (sr_32_0_7 hs) ?_
          refine e_iload (pc := 78) dX12_heard_78 rfl ?_
          refine e_iconst (pc := 80) dX12_heard_80 (x_R rfl) ?_
          refine e_iadd (pc := 81) dX12_heard_81 ?_
          obtain ⟨hc0, hf13⟩ := x_gd_some hf13
          refine f_iald (pc := 82) (k := 0) (u := 32) (q := 5) (len := 400) dX12_heard_82 (sa_32_5 hs) hc0 hn rfl rfl (by decide) ?_
          show Ev g _ _ _ _ _ _ 83 [some (x_r (16 * 32 + 0)), some (x_i (S 0 8)), some (x_i v3), some (x_i v4), some (x_i v10)] [x_i (S11 5 ((x_add v10 1)).toNat), x_i v15, x_i v4, x_r (16 * 32 + 11)] (al, ro, fl (ml M [32] [S11])) _ _ _ _
          refine e_iconst (pc := 83) dX12_heard_83 (x_R rfl) ?_
          obtain ⟨v17, hr17, hf13⟩ := x_bd1 hf13
          have hjhr17 : Ev g yX12_heard cX12_heard 5 (some .int) [] 1 92 [some (x_r (16 * 32 + 0)), some (x_i (S 0 8)), some (x_i v3), some (x_i v4), some (x_i v10)] [x_i v17, x_i v15, x_i v4, x_r (16 * 32 + 11)] (al, ro, fl (ml M [32] [S11])) 0 0 (.inl (some (x_i t.1))) (al, ro, fl (ml M [32] [t.2])) := by
            obtain ⟨v19, hr19, hf13⟩ := x_bd1 hf13
            have hjhr19 : Ev g yX12_heard cX12_heard 5 (some .int) [] 1 100 [some (x_r (16 * 32 + 0)), some (x_i (S 0 8)), some (x_i v3), some (x_i v4), some (x_i v10)] [x_i v19, x_i v4, x_r (16 * 32 + 11)] (al, ro, fl (ml M [32] [S11])) 0 0 (.inl (some (x_i t.1))) (al, ro, fl (ml M [32] [t.2])) := by
              obtain ⟨hc0, hf13⟩ := x_gd_some hf13
              obtain ⟨hc1, hf13⟩ := x_gd_some hf13
              refine f_zast (pc := 100) (k := 0) (u := 32) (q := 11) (len := 144) dX12_heard_100 (sa_32_11 hs) hc0 hc1 hn rfl rfl rfl (by decide) ?_
              show Ev g _ _ _ _ _ _ 101 [some (x_r (16 * 32 + 0)), some (x_i (S 0 8)), some (x_i v3), some (x_i v4), some (x_i v10)] [] (al, ro, fl (ml M [32] [(x_up S11 11 (v4).toNat v19)])) _ _ _ _
              refine e_iinc (pc := 101) dX12_heard_101 rfl (by decide) rfl ?_
              show Ev g _ _ _ _ _ _ 104 [some (x_r (16 * 32 + 0)), some (x_i (S 0 8)), some (x_i v3), some (x_i v4), some (x_i (x_add v10 2))] [] (al, ro, fl (ml M [32] [(x_up S11 11 (v4).toNat v19)])) _ _ _ _
              refine e_goto (pc := 104) (tgt := 42) dX12_heard_104 (by decide) ?_
              cases hf13
              exact hi13 _ rfl
            clear hf13
            refine e_icmp_ne (pc := 92) (tgt := 99) dX12_heard_92 (by decide) (fun hb => ?_) (fun hb => ?_)
            · rw [if_neg hb] at hr19
              refine e_iconst (pc := 99) dX12_heard_99 (x_R rfl) ?_
              cases hr19
              exact hjhr19
            · rw [if_pos hb] at hr19
              refine e_iconst (pc := 95) dX12_heard_95 (x_R rfl) ?_
              refine e_goto (pc := 96) (tgt := 100) dX12_heard_96 (by decide) ?_
              cases hr19
              exact hjhr19
          clear hf13
          refine e_icmp_ne (pc := 84) (tgt := 91) dX12_heard_84 (by decide) (fun hb => ?_) (fun hb => ?_)
          · rw [if_neg hb] at hr17
            refine e_iconst (pc := 91) dX12_heard_91 (x_R rfl) ?_
            cases hr17
            exact hjhr17
          · rw [if_pos hb] at hr17
            refine e_iconst (pc := 87) dX12_heard_87 (x_R rfl) ?_
            refine e_goto (pc := 88) (tgt := 92) dX12_heard_88 (by decide) ?_
            cases hr17
            exact hjhr17
  · rw [if_pos hb] at hG
    refine e_iconst (pc := 19) dX12_heard_19 (x_R rfl) ?_
    cases hG
    exact (e_ireturn rfl dX12_heard_20 rfl)
def G12_seen_L48 (S2 : xU) (v4 : Int) : (Int × Int) → Option ((Int × Int) ⊕ Int)
  | (v8, v9) => (if 144 ≤ v9 then (some (.inr v8)) else (x_gd ((0 : Int) ≤ v9 ∧ v9 < 144) (x_b1 (if ((x_up S2 0 0 v4) 11 (v9).toNat) = 0 then (some 0) else (some (x_shl 1 (x_div v9 9)))) fun (v13 : Int) => (some (.inl ((x_or v8 v13), (x_add v9 1)))))))
def G12_seen (a : Int) (S : xU) : Option (Int × xU) :=
  (x_b2 (G12_heard S) fun (v1 : Int) (S2 : xU) => (x_b1 (if v1 = (-1) then (some 1) else (some 0)) fun (v4 : Int) => (if 0 < ((x_up S2 0 0 v4) 0 0) then (x_b1 (if ((x_up S2 0 0 v4) 0 0) ≤ 0 then (some v1) else (some 0)) fun (v6 : Int) => (some (v6, (x_up S2 0 0 v4)))) else (if a = 0 then (x_b1 (if ((x_up S2 0 0 v4) 0 0) ≤ 0 then (some v1) else (some 0)) fun (v15 : Int) => (some (v15, (x_up S2 0 0 v4)))) else (x_b1 (whl xFU (G12_seen_L48 S2 v4) (0, 0)) fun (v10 : Int) => (some (v10, (x_up S2 0 0 v4))))))))
set_option maxRecDepth 100000 in
set_option maxHeartbeats 4000000 in
theorem c_X12_seen {g : xG} {al : List (Nat × Nat × Nat)} {ro : Nat → Nat → Option Nat} (hst : g.1.stackTraces = false) (hs : SH al ro) {M : Nat → xU} {a : Int} {S : xU} {t : (Int × xU)} (hG : G12_seen a S = some t) :
    Cal g yX12_seen cX12_seen 5 (some .int) 2 [x_r (16 * 32 + 0), x_i a] (al, ro, fl (ml M [32] [S])) 0 0 (.inl (some (x_i t.1))) (al, ro, fl (ml M [32] [t.2])) := by
  have hn : ([32] : List Nat).Nodup := by decide
  refine cal_of_ev (by decide) (x_c1 rfl) (Nat.le_of_ble_eq_true rfl) hst ?_
  show Ev g _ _ _ _ _ _ 0 [some (x_r (16 * 32 + 0)), some (x_i a), none, none, none] [] (al, ro, fl (ml M [32] [S])) _ _ _ _
  rw [G12_seen] at hG
  refine e_aloadn (pc := 0) (i := 0) dX12_seen_0 rfl rfl ?_
  obtain ⟨v1, S2, hq2, hG⟩ := x_bd2 hG
  refine e_invV (pc := 1) (K1 := 0) (S1 := 0) (K := 0) (S := 0) (dd2 := 1) (av := []) (st := []) (id := 16 * 32 + 0) dX12_seen_1 xmX12_373 rfl (Or.inl ⟨10, 27, TX12, (sa_32_0 hs), rfl, by decide⟩) (f_cal (M := M) (us2 := [32]) [0] hn rfl (And.intro rfl trivial) rfl rfl rfl (c_X12_heard hst hs   hq2)) (by decide) (Nat.le_of_ble_eq_true rfl) (Or.inl rfl) ?_
  show Ev g _ _ _ _ _ _ 4 [some (x_r (16 * 32 + 0)), some (x_i a), none, none, none] [x_i v1] (al, ro, fl (ml M [32] [S2])) _ _ _ _
  refine e_istoren (pc := 4) (i := 2) dX12_seen_4 rfl (by decide) rfl ?_
  show Ev g _ _ _ _ _ _ 5 [some (x_r (16 * 32 + 0)), some (x_i a), some (x_i v1), none, none] [] (al, ro, fl (ml M [32] [S2])) _ _ _ _
  refine e_aloadn (pc := 5) (i := 0) dX12_seen_5 rfl rfl ?_
  refine e_iloadn (pc := 6) (i := 2) dX12_seen_6 rfl rfl ?_
  refine e_iconst (pc := 7) dX12_seen_7 (x_R rfl) ?_
  obtain ⟨v4, hr4, hG⟩ := x_bd1 hG
  have hjhr4 : Ev g yX12_seen cX12_seen 5 (some .int) [] 2 16 [some (x_r (16 * 32 + 0)), some (x_i a), some (x_i v1), none, none] [x_i v4, x_r (16 * 32 + 0)] (al, ro, fl (ml M [32] [S2])) 0 0 (.inl (some (x_i t.1))) (al, ro, fl (ml M [32] [t.2])) := by
    refine f_puti (pc := 16) (k := 0) (u := 32) (q := 0) dX12_seen_16 xf12_58 xw10_0 (sa_32_0 hs) hn rfl rfl rfl (by decide) ?_
    show Ev g _ _ _ _ _ _ 19 [some (x_r (16 * 32 + 0)), some (x_i a), some (x_i v1), none, none] [] (al, ro, fl (ml M [32] [(x_up S2 0 0 v4)])) _ _ _ _
    refine e_aloadn (pc := 19) (i := 0) dX12_seen_19 rfl rfl ?_
    refine f_geti (pc := 20) (k := 0) (u := 32) (q := 0) dX12_seen_20 xf12_58 (sa_32_0 hs) rfl hn rfl rfl (by decide) ?_
    show Ev g _ _ _ _ _ _ 23 [some (x_r (16 * 32 + 0)), some (x_i a), some (x_i v1), none, none] [x_i ((x_up S2 0 0 v4) 0 0)] (al, ro, fl (ml M [32] [(x_up S2 0 0 v4)])) _ _ _ _
    refine e_if_gt (pc := 23) (tgt := 30) dX12_seen_23 (by decide) (fun hb => ?_) (fun hb => ?_)
    · rw [if_pos hb] at hG
      refine e_aloadn (pc := 30) (i := 0) dX12_seen_30 rfl rfl ?_
      refine f_geti (pc := 31) (k := 0) (u := 32) (q := 0) dX12_seen_31 xf12_58 (sa_32_0 hs) rfl hn rfl rfl (by decide) ?_
      show Ev g _ _ _ _ _ _ 34 [some (x_r (16 * 32 + 0)), some (x_i a), some (x_i v1), none, none] [x_i ((x_up S2 0 0 v4) 0 0)] (al, ro, fl (ml M [32] [(x_up S2 0 0 v4)])) _ _ _ _
      obtain ⟨v6, hr6, hG⟩ := x_bd1 hG
      have hjhr6 : Ev g yX12_seen cX12_seen 5 (some .int) [] 2 42 [some (x_r (16 * 32 + 0)), some (x_i a), some (x_i v1), none, none] [x_i v6] (al, ro, fl (ml M [32] [(x_up S2 0 0 v4)])) 0 0 (.inl (some (x_i t.1))) (al, ro, fl (ml M [32] [t.2])) := by
        cases hG
        exact (e_ireturn rfl dX12_seen_42 rfl)
      clear hG
      refine e_if_le (pc := 34) (tgt := 41) dX12_seen_34 (by decide) (fun hb => ?_) (fun hb => ?_)
      · rw [if_pos hb] at hr6
        refine e_iloadn (pc := 41) (i := 2) dX12_seen_41 rfl rfl ?_
        cases hr6
        exact hjhr6
      · rw [if_neg hb] at hr6
        refine e_iconst (pc := 37) dX12_seen_37 (x_R rfl) ?_
        refine e_goto (pc := 38) (tgt := 42) dX12_seen_38 (by decide) ?_
        cases hr6
        exact hjhr6
    · rw [if_neg hb] at hG
      refine e_iloadn (pc := 26) (i := 1) dX12_seen_26 rfl rfl ?_
      refine e_if_ne (pc := 27) (tgt := 43) dX12_seen_27 (by decide) (fun hb => ?_) (fun hb => ?_)
      · rw [if_neg hb] at hG
        refine e_iconst (pc := 43) dX12_seen_43 (x_R rfl) ?_
        refine e_istoren (pc := 44) (i := 3) dX12_seen_44 rfl (by decide) rfl ?_
        show Ev g _ _ _ _ _ _ 45 [some (x_r (16 * 32 + 0)), some (x_i a), some (x_i v1), some (x_i 0), none] [] (al, ro, fl (ml M [32] [(x_up S2 0 0 v4)])) _ _ _ _
        refine e_iconst (pc := 45) dX12_seen_45 (x_R rfl) ?_
        refine e_istore (pc := 46) (i := 4) dX12_seen_46 (by decide) rfl ?_
        show Ev g _ _ _ _ _ _ 48 [some (x_r (16 * 32 + 0)), some (x_i a), some (x_i v1), some (x_i 0), some (x_i 0)] [] (al, ro, fl (ml M [32] [(x_up S2 0 0 v4)])) _ _ _ _
        obtain ⟨v10, hl11, hG⟩ := x_bd1 hG
        have hk11 : ∀ q : Int, q = v10 → Ev g yX12_seen cX12_seen 5 (some .int) [] 2 86 [some (x_r (16 * 32 + 0)), some (x_i a), some (x_i v1), some (x_i q), none] [] (al, ro, fl (ml M [32] [(x_up S2 0 0 v4)])) 0 0 (.inl (some (x_i t.1))) (al, ro, fl (ml M [32] [t.2])) := by
          intro q hq
          replace hq := hq.symm
          subst hq
          refine e_iloadn (pc := 86) (i := 3) dX12_seen_86 rfl rfl ?_
          cases hG
          exact (e_ireturn rfl dX12_seen_87 rfl)
        clear hG
        refine e_whl (G12_seen_L48 S2 v4) (fun z : (Int × Int) => Ev g yX12_seen cX12_seen 5 (some .int) [] 2 48 [some (x_r (16 * 32 + 0)), some (x_i a), some (x_i v1), some (x_i z.1), some (x_i z.2)] [] (al, ro, fl (ml M [32] [(x_up S2 0 0 v4)])) 0 0 (.inl (some (x_i t.1))) (al, ro, fl (ml M [32] [t.2]))) (fun q => q = v10) ?_ xFU (0, 0) _ hl11 rfl
        intro z t11 hf11 hi11 hx11
        obtain ⟨v8, v9⟩ := z
        rw [G12_seen_L48] at hf11
        show Ev g _ _ _ _ _ _ 48 [some (x_r (16 * 32 + 0)), some (x_i a), some (x_i v1), some (x_i v8), some (x_i v9)] [] (al, ro, fl (ml M [32] [(x_up S2 0 0 v4)])) _ _ _ _
        refine e_iload (pc := 48) dX12_seen_48 rfl ?_
        refine e_sipush (pc := 50) dX12_seen_50 (by decide +kernel) (x_R rfl) ?_
        refine e_icmp_ge (pc := 53) (tgt := 86) dX12_seen_53 (by decide) (fun hb => ?_) (fun hb => ?_)
        · rw [if_pos hb] at hf11
          cases hf11
          refine e_drop (i := 4) ?_
          exact hk11 _ (hx11 _ rfl)
        · rw [if_neg hb] at hf11
          refine e_iloadn (pc := 56) (i := 3) dX12_seen_56 rfl rfl ?_
          refine e_aloadn (pc := 57) (i := 0) dX12_seen_57 rfl rfl ?_
          refine f_getr (pc := 58) (u := 32) (q := 0) dX12_seen_58 xf12_45 (sa_32_0 hs) rfl (sr_32_0_23 hs) ?_
          refine e_iload (pc := 61) dX12_seen_61 rfl ?_
          obtain ⟨hc0, hf11⟩ := x_gd_some hf11
          refine f_zald (pc := 63) (k := 0) (u := 32) (q := 11) (len := 144) dX12_seen_63 (sa_32_11 hs) hc0 hn rfl rfl (by decide) ?_
          show Ev g _ _ _ _ _ _ 64 [some (x_r (16 * 32 + 0)), some (x_i a), some (x_i v1), some (x_i v8), some (x_i v9)] [x_i ((x_up S2 0 0 v4) 11 (v9).toNat), x_i v8] (al, ro, fl (ml M [32] [(x_up S2 0 0 v4)])) _ _ _ _
          obtain ⟨v13, hr13, hf11⟩ := x_bd1 hf11
          have hjhr13 : Ev g yX12_seen cX12_seen 5 (some .int) [] 2 78 [some (x_r (16 * 32 + 0)), some (x_i a), some (x_i v1), some (x_i v8), some (x_i v9)] [x_i v13, x_i v8] (al, ro, fl (ml M [32] [(x_up S2 0 0 v4)])) 0 0 (.inl (some (x_i t.1))) (al, ro, fl (ml M [32] [t.2])) := by
            refine e_ior (pc := 78) dX12_seen_78 ?_
            refine e_istoren (pc := 79) (i := 3) dX12_seen_79 rfl (by decide) rfl ?_
            show Ev g _ _ _ _ _ _ 80 [some (x_r (16 * 32 + 0)), some (x_i a), some (x_i v1), some (x_i (x_or v8 v13)), some (x_i v9)] [] (al, ro, fl (ml M [32] [(x_up S2 0 0 v4)])) _ _ _ _
            refine e_iinc (pc := 80) dX12_seen_80 rfl (by decide) rfl ?_
            show Ev g _ _ _ _ _ _ 83 [some (x_r (16 * 32 + 0)), some (x_i a), some (x_i v1), some (x_i (x_or v8 v13)), some (x_i (x_add v9 1))] [] (al, ro, fl (ml M [32] [(x_up S2 0 0 v4)])) _ _ _ _
            refine e_goto (pc := 83) (tgt := 48) dX12_seen_83 (by decide) ?_
            cases hf11
            exact hi11 _ rfl
          clear hf11
          refine e_if_eq (pc := 64) (tgt := 77) dX12_seen_64 (by decide) (fun hb => ?_) (fun hb => ?_)
          · rw [if_pos hb] at hr13
            refine e_iconst (pc := 77) dX12_seen_77 (x_R rfl) ?_
            cases hr13
            exact hjhr13
          · rw [if_neg hb] at hr13
            refine e_iconst (pc := 67) dX12_seen_67 (x_R rfl) ?_
            refine e_iload (pc := 68) dX12_seen_68 rfl ?_
            refine e_bipush (pc := 70) dX12_seen_70 (by decide +kernel) (x_R rfl) ?_
            refine e_idiv (pc := 72) dX12_seen_72 (by decide) ?_
            refine e_ishl (pc := 73) dX12_seen_73 ?_
            refine e_goto (pc := 74) (tgt := 78) dX12_seen_74 (by decide) ?_
            cases hr13
            exact hjhr13
      · rw [if_pos hb] at hG
        refine e_aloadn (pc := 30) (i := 0) dX12_seen_30 rfl rfl ?_
        refine f_geti (pc := 31) (k := 0) (u := 32) (q := 0) dX12_seen_31 xf12_58 (sa_32_0 hs) rfl hn rfl rfl (by decide) ?_
        show Ev g _ _ _ _ _ _ 34 [some (x_r (16 * 32 + 0)), some (x_i a), some (x_i v1), none, none] [x_i ((x_up S2 0 0 v4) 0 0)] (al, ro, fl (ml M [32] [(x_up S2 0 0 v4)])) _ _ _ _
        obtain ⟨v15, hr15, hG⟩ := x_bd1 hG
        have hjhr15 : Ev g yX12_seen cX12_seen 5 (some .int) [] 2 42 [some (x_r (16 * 32 + 0)), some (x_i a), some (x_i v1), none, none] [x_i v15] (al, ro, fl (ml M [32] [(x_up S2 0 0 v4)])) 0 0 (.inl (some (x_i t.1))) (al, ro, fl (ml M [32] [t.2])) := by
          cases hG
          exact (e_ireturn rfl dX12_seen_42 rfl)
        clear hG
        refine e_if_le (pc := 34) (tgt := 41) dX12_seen_34 (by decide) (fun hb => ?_) (fun hb => ?_)
        · rw [if_pos hb] at hr15
          refine e_iloadn (pc := 41) (i := 2) dX12_seen_41 rfl rfl ?_
          cases hr15
          exact hjhr15
        · rw [if_neg hb] at hr15
          refine e_iconst (pc := 37) dX12_seen_37 (x_R rfl) ?_
          refine e_goto (pc := 38) (tgt := 42) dX12_seen_38 (by decide) ?_
          cases hr15
          exact hjhr15
  clear hG
  refine e_icmp_ne (pc := 8) (tgt := 15) dX12_seen_8 (by decide) (fun hb => ?_) (fun hb => ?_)
  · rw [if_neg hb] at hr4
    refine e_iconst (pc := 15) dX12_seen_15 (x_R rfl) ?_
    cases hr4
    exact hjhr4
  · rw [if_pos hb] at hr4
    refine e_iconst (pc := 11) dX12_seen_11 (x_R rfl) ?_
    refine e_goto (pc := 12) (tgt := 16) dX12_seen_12 (by decide) ?_
    cases hr4
    exact hjhr4
def G12_ask_L55 (S2 : xU) (v4 : Int) (v8 : Int) : (Int × Int) → Option ((Int × Int) ⊕ Int)
  | (v12, v13) => (if 144 ≤ v13 then (some (.inr v12)) else (x_gd ((0 : Int) ≤ v13 ∧ v13 < 144) (x_b1 (if ((x_up S2 0 0 v4) 11 (v13).toNat) = 0 then (some 0) else (x_b1 (G12_isThere v13 v8 (x_up S2 0 0 v4)) fun (v19 : Int) => (if v19 = 0 then (some 0) else (some 1)))) fun (v17 : Int) => (some (.inl ((x_add v12 v17), (x_add v13 1)))))))
def G12_ask_L37 (v1 : Int) (S2 : xU) (v4 : Int) : (Int × Int × Int) → Option ((Int × Int × Int) ⊕ Int)
  | (v6, v7, v8) => (if 24 ≤ v8 then (some (.inr v6)) else (if v1 ≤ 1 then (some (.inr v6)) else (x_b1 (whl xFU (G12_ask_L55 S2 v4 v8) (0, 0)) fun (v14 : Int) => (x_b1 (G12_greater v14 (x_sub v1 v14)) fun (v21 : Int) => (x_b2 (if v21 < v7 then (x_b1 (G12_greater v14 (x_sub v1 v14)) fun (v26 : Int) => (some (v8, v26))) else (some (v6, v7))) fun (v23 : Int) (v24 : Int) => (some (.inl (v23, v24, (x_add v8 1)))))))))
def G12_ask (S : xU) : Option (Int × xU) :=
  (x_b2 (G12_heard S) fun (v1 : Int) (S2 : xU) => (x_b1 (if v1 = (-1) then (some 1) else (some 0)) fun (v4 : Int) => (if ((x_up S2 0 0 v4) 0 0) ≤ 0 then (x_b1 (whl xFU (G12_ask_L37 v1 S2 v4) ((-1), 2000000000, 0)) fun (v9 : Int) => (some (v9, (x_up S2 0 0 v4)))) else (some (0, (x_up S2 0 0 v4))))))
set_option maxRecDepth 100000 in
set_option maxHeartbeats 4000000 in
theorem c_X12_ask {g : xG} {al : List (Nat × Nat × Nat)} {ro : Nat → Nat → Option Nat} (hst : g.1.stackTraces = false) (hs : SH al ro) {M : Nat → xU} {S : xU} {t : (Int × xU)} (hG : G12_ask S = some t) :
    Cal g yX12_ask cX12_ask 7 (some .int) 2 [x_r (16 * 32 + 0)] (al, ro, fl (ml M [32] [S])) 0 0 (.inl (some (x_i t.1))) (al, ro, fl (ml M [32] [t.2])) := by
  have hn : ([32] : List Nat).Nodup := by decide
  refine cal_of_ev (by decide) (x_c1 rfl) (Nat.le_of_ble_eq_true rfl) hst ?_
  show Ev g _ _ _ _ _ _ 0 [some (x_r (16 * 32 + 0)), none, none, none, none, none, none] [] (al, ro, fl (ml M [32] [S])) _ _ _ _
  rw [G12_ask] at hG
  refine e_aloadn (pc := 0) (i := 0) dX12_ask_0 rfl rfl ?_
  obtain ⟨v1, S2, hq2, hG⟩ := x_bd2 hG
  refine e_invV (pc := 1) (K1 := 0) (S1 := 0) (K := 0) (S := 0) (dd2 := 1) (av := []) (st := []) (id := 16 * 32 + 0) dX12_ask_1 xmX12_373 rfl (Or.inl ⟨10, 27, TX12, (sa_32_0 hs), rfl, by decide⟩) (f_cal (M := M) (us2 := [32]) [0] hn rfl (And.intro rfl trivial) rfl rfl rfl (c_X12_heard hst hs   hq2)) (by decide) (Nat.le_of_ble_eq_true rfl) (Or.inl rfl) ?_
  show Ev g _ _ _ _ _ _ 4 [some (x_r (16 * 32 + 0)), none, none, none, none, none, none] [x_i v1] (al, ro, fl (ml M [32] [S2])) _ _ _ _
  refine e_istoren (pc := 4) (i := 1) dX12_ask_4 rfl (by decide) rfl ?_
  show Ev g _ _ _ _ _ _ 5 [some (x_r (16 * 32 + 0)), some (x_i v1), none, none, none, none, none] [] (al, ro, fl (ml M [32] [S2])) _ _ _ _
  refine e_aloadn (pc := 5) (i := 0) dX12_ask_5 rfl rfl ?_
  refine e_iloadn (pc := 6) (i := 1) dX12_ask_6 rfl rfl ?_
  refine e_iconst (pc := 7) dX12_ask_7 (x_R rfl) ?_
  obtain ⟨v4, hr4, hG⟩ := x_bd1 hG
  have hjhr4 : Ev g yX12_ask cX12_ask 7 (some .int) [] 2 16 [some (x_r (16 * 32 + 0)), some (x_i v1), none, none, none, none, none] [x_i v4, x_r (16 * 32 + 0)] (al, ro, fl (ml M [32] [S2])) 0 0 (.inl (some (x_i t.1))) (al, ro, fl (ml M [32] [t.2])) := by
    refine f_puti (pc := 16) (k := 0) (u := 32) (q := 0) dX12_ask_16 xf12_58 xw10_0 (sa_32_0 hs) hn rfl rfl rfl (by decide) ?_
    show Ev g _ _ _ _ _ _ 19 [some (x_r (16 * 32 + 0)), some (x_i v1), none, none, none, none, none] [] (al, ro, fl (ml M [32] [(x_up S2 0 0 v4)])) _ _ _ _
    refine e_aloadn (pc := 19) (i := 0) dX12_ask_19 rfl rfl ?_
    refine f_geti (pc := 20) (k := 0) (u := 32) (q := 0) dX12_ask_20 xf12_58 (sa_32_0 hs) rfl hn rfl rfl (by decide) ?_
    show Ev g _ _ _ _ _ _ 23 [some (x_r (16 * 32 + 0)), some (x_i v1), none, none, none, none, none] [x_i ((x_up S2 0 0 v4) 0 0)] (al, ro, fl (ml M [32] [(x_up S2 0 0 v4)])) _ _ _ _
    refine e_if_le (pc := 23) (tgt := 28) dX12_ask_23 (by decide) (fun hb => ?_) (fun hb => ?_)
    · rw [if_pos hb] at hG
      refine e_iconst (pc := 28) dX12_ask_28 (x_R rfl) ?_
      refine e_istoren (pc := 29) (i := 2) dX12_ask_29 rfl (by decide) rfl ?_
      show Ev g _ _ _ _ _ _ 30 [some (x_r (16 * 32 + 0)), some (x_i v1), some (x_i (-1)), none, none, none, none] [] (al, ro, fl (ml M [32] [(x_up S2 0 0 v4)])) _ _ _ _
      refine e_ldcw (pc := 30) dX12_ask_30 xkX12_327 (x_R rfl) ?_
      refine e_istoren (pc := 33) (i := 3) dX12_ask_33 rfl (by decide) rfl ?_
      show Ev g _ _ _ _ _ _ 34 [some (x_r (16 * 32 + 0)), some (x_i v1), some (x_i (-1)), some (x_i 2000000000), none, none, none] [] (al, ro, fl (ml M [32] [(x_up S2 0 0 v4)])) _ _ _ _
      refine e_iconst (pc := 34) dX12_ask_34 (x_R rfl) ?_
      refine e_istore (pc := 35) (i := 4) dX12_ask_35 (by decide) rfl ?_
      show Ev g _ _ _ _ _ _ 37 [some (x_r (16 * 32 + 0)), some (x_i v1), some (x_i (-1)), some (x_i 2000000000), some (x_i 0), none, none] [] (al, ro, fl (ml M [32] [(x_up S2 0 0 v4)])) _ _ _ _
      obtain ⟨v9, hl10, hG⟩ := x_bd1 hG
      have hk10 : ∀ q : Int, q = v9 → Ev g yX12_ask cX12_ask 7 (some .int) [] 2 135 [some (x_r (16 * 32 + 0)), some (x_i v1), some (x_i q), none, none, none, none] [] (al, ro, fl (ml M [32] [(x_up S2 0 0 v4)])) 0 0 (.inl (some (x_i t.1))) (al, ro, fl (ml M [32] [t.2])) := by
        intro q hq
        replace hq := hq.symm
        subst hq
        refine e_iloadn (pc := 135) (i := 2) dX12_ask_135 rfl rfl ?_
        cases hG
        exact (e_ireturn rfl dX12_ask_136 rfl)
      clear hG
      refine e_whl (G12_ask_L37 v1 S2 v4) (fun z : (Int × Int × Int) => Ev g yX12_ask cX12_ask 7 (some .int) [] 2 37 [some (x_r (16 * 32 + 0)), some (x_i v1), some (x_i z.1), some (x_i z.2.1), some (x_i z.2.2), none, none] [] (al, ro, fl (ml M [32] [(x_up S2 0 0 v4)])) 0 0 (.inl (some (x_i t.1))) (al, ro, fl (ml M [32] [t.2]))) (fun q => q = v9) ?_ xFU ((-1), 2000000000, 0) _ hl10 rfl
      intro z t10 hf10 hi10 hx10
      obtain ⟨v6, v7, v8⟩ := z
      rw [G12_ask_L37] at hf10
      show Ev g _ _ _ _ _ _ 37 [some (x_r (16 * 32 + 0)), some (x_i v1), some (x_i v6), some (x_i v7), some (x_i v8), none, none] [] (al, ro, fl (ml M [32] [(x_up S2 0 0 v4)])) _ _ _ _
      refine e_iload (pc := 37) dX12_ask_37 rfl ?_
      refine e_bipush (pc := 39) dX12_ask_39 (by decide +kernel) (x_R rfl) ?_
      refine e_icmp_ge (pc := 41) (tgt := 135) dX12_ask_41 (by decide) (fun hb => ?_) (fun hb => ?_)
      · rw [if_pos hb] at hf10
        cases hf10
        refine e_drop (i := 3) ?_
        refine e_drop (i := 4) ?_
        exact hk10 _ (hx10 _ rfl)
      · rw [if_neg hb] at hf10
        refine e_iloadn (pc := 44) (i := 1) dX12_ask_44 rfl rfl ?_
        refine e_iconst (pc := 45) dX12_ask_45 (x_R rfl) ?_
        refine e_icmp_le (pc := 46) (tgt := 135) dX12_ask_46 (by decide) (fun hb => ?_) (fun hb => ?_)
        · rw [if_pos hb] at hf10
          cases hf10
          refine e_drop (i := 3) ?_
          refine e_drop (i := 4) ?_
          exact hk10 _ (hx10 _ rfl)
        · rw [if_neg hb] at hf10
          refine e_iconst (pc := 49) dX12_ask_49 (x_R rfl) ?_
          refine e_istore (pc := 50) (i := 5) dX12_ask_50 (by decide) rfl ?_
          show Ev g _ _ _ _ _ _ 52 [some (x_r (16 * 32 + 0)), some (x_i v1), some (x_i v6), some (x_i v7), some (x_i v8), some (x_i 0), none] [] (al, ro, fl (ml M [32] [(x_up S2 0 0 v4)])) _ _ _ _
          refine e_iconst (pc := 52) dX12_ask_52 (x_R rfl) ?_
          refine e_istore (pc := 53) (i := 6) dX12_ask_53 (by decide) rfl ?_
          show Ev g _ _ _ _ _ _ 55 [some (x_r (16 * 32 + 0)), some (x_i v1), some (x_i v6), some (x_i v7), some (x_i v8), some (x_i 0), some (x_i 0)] [] (al, ro, fl (ml M [32] [(x_up S2 0 0 v4)])) _ _ _ _
          obtain ⟨v14, hl15, hf10⟩ := x_bd1 hf10
          have hk15 : ∀ q : Int, q = v14 → Ev g yX12_ask cX12_ask 7 (some .int) [] 2 100 [some (x_r (16 * 32 + 0)), some (x_i v1), some (x_i v6), some (x_i v7), some (x_i v8), some (x_i q), none] [] (al, ro, fl (ml M [32] [(x_up S2 0 0 v4)])) 0 0 (.inl (some (x_i t.1))) (al, ro, fl (ml M [32] [t.2])) := by
            intro q hq
            replace hq := hq.symm
            subst hq
            refine e_iload (pc := 100) dX12_ask_100 rfl ?_
            refine e_iloadn (pc := 102) (i := 1) dX12_ask_102 rfl rfl ?_
            refine e_iload (pc := 103) dX12_ask_103 rfl ?_
            refine e_isub (pc := 105) dX12_ask_105 ?_
            obtain ⟨v21, hq21, hf10⟩ := x_bd1 hf10
            refine e_invS (pc := 106) (K1 := 0) (S1 := 0) (K := 0) (S := 0) (dd2 := 0) (av := [x_i v14, x_i (x_sub v1 v14)]) (st := []) dX12_ask_106 xmX12_266 rfl (f_cal (M := M) (us2 := []) [] hn rfl trivial rfl rfl rfl (c_X12_greater hst hs   hq21)) (by decide) (Nat.le_of_ble_eq_true rfl) (Or.inl rfl) ?_
            show Ev g _ _ _ _ _ _ 109 [some (x_r (16 * 32 + 0)), some (x_i v1), some (x_i v6), some (x_i v7), some (x_i v8), some (x_i v14), none] [x_i v21] (al, ro, fl (ml M [32] [(x_up S2 0 0 v4)])) _ _ _ _
            refine e_iloadn (pc := 109) (i := 3) dX12_ask_109 rfl rfl ?_
            obtain ⟨v23, v24, hr24, hf10⟩ := x_bd2 hf10
            have hjhr24 : Ev g yX12_ask cX12_ask 7 (some .int) [] 2 129 [some (x_r (16 * 32 + 0)), some (x_i v1), some (x_i v23), some (x_i v24), some (x_i v8), some (x_i v14), none] [] (al, ro, fl (ml M [32] [(x_up S2 0 0 v4)])) 0 0 (.inl (some (x_i t.1))) (al, ro, fl (ml M [32] [t.2])) := by
              refine e_iinc (pc := 129) dX12_ask_129 rfl (by decide) rfl ?_
              show Ev g _ _ _ _ _ _ 132 [some (x_r (16 * 32 + 0)), some (x_i v1), some (x_i v23), some (x_i v24), some (x_i (x_add v8 1)), some (x_i v14), none] [] (al, ro, fl (ml M [32] [(x_up S2 0 0 v4)])) _ _ _ _
              refine e_goto (pc := 132) (tgt := 37) dX12_ask_132 (by decide) ?_
              cases hf10
              refine e_drop (i := 5) ?_
              exact hi10 _ rfl
            clear hf10
            refine e_icmp_lt (pc := 110) (tgt := 116) dX12_ask_110 (by decide) (fun hb => ?_) (fun hb => ?_)
            · rw [if_pos hb] at hr24
              refine e_iload (pc := 116) dX12_ask_116 rfl ?_
              refine e_iloadn (pc := 118) (i := 1) dX12_ask_118 rfl rfl ?_
              refine e_iload (pc := 119) dX12_ask_119 rfl ?_
              refine e_isub (pc := 121) dX12_ask_121 ?_
              obtain ⟨v26, hq26, hr24⟩ := x_bd1 hr24
              refine e_invS (pc := 122) (K1 := 0) (S1 := 0) (K := 0) (S := 0) (dd2 := 0) (av := [x_i v14, x_i (x_sub v1 v14)]) (st := []) dX12_ask_122 xmX12_266 rfl (f_cal (M := M) (us2 := []) [] hn rfl trivial rfl rfl rfl (c_X12_greater hst hs   hq26)) (by decide) (Nat.le_of_ble_eq_true rfl) (Or.inl rfl) ?_
              show Ev g _ _ _ _ _ _ 125 [some (x_r (16 * 32 + 0)), some (x_i v1), some (x_i v6), some (x_i v7), some (x_i v8), some (x_i v14), none] [x_i v26] (al, ro, fl (ml M [32] [(x_up S2 0 0 v4)])) _ _ _ _
              refine e_istoren (pc := 125) (i := 3) dX12_ask_125 rfl (by decide) rfl ?_
              show Ev g _ _ _ _ _ _ 126 [some (x_r (16 * 32 + 0)), some (x_i v1), some (x_i v6), some (x_i v26), some (x_i v8), some (x_i v14), none] [] (al, ro, fl (ml M [32] [(x_up S2 0 0 v4)])) _ _ _ _
              refine e_iload (pc := 126) dX12_ask_126 rfl ?_
              refine e_istoren (pc := 128) (i := 2) dX12_ask_128 rfl (by decide) rfl ?_
              show Ev g _ _ _ _ _ _ 129 [some (x_r (16 * 32 + 0)), some (x_i v1), some (x_i v8), some (x_i v26), some (x_i v8), some (x_i v14), none] [] (al, ro, fl (ml M [32] [(x_up S2 0 0 v4)])) _ _ _ _
              cases hr24
              exact hjhr24
            · rw [if_neg hb] at hr24
              refine e_goto (pc := 113) (tgt := 129) dX12_ask_113 (by decide) ?_
              cases hr24
              exact hjhr24
          clear hf10
          refine e_whl (G12_ask_L55 S2 v4 v8) (fun z : (Int × Int) => Ev g yX12_ask cX12_ask 7 (some .int) [] 2 55 [some (x_r (16 * 32 + 0)), some (x_i v1), some (x_i v6), some (x_i v7), some (x_i v8), some (x_i z.1), some (x_i z.2)] [] (al, ro, fl (ml M [32] [(x_up S2 0 0 v4)])) 0 0 (.inl (some (x_i t.1))) (al, ro, fl (ml M [32] [t.2]))) (fun q => q = v14) ?_ xFU (0, 0) _ hl15 rfl
          intro z t15 hf15 hi15 hx15
          obtain ⟨v12, v13⟩ := z
          rw [G12_ask_L55] at hf15
          show Ev g _ _ _ _ _ _ 55 [some (x_r (16 * 32 + 0)), some (x_i v1), some (x_i v6), some (x_i v7), some (x_i v8), some (x_i v12), some (x_i v13)] [] (al, ro, fl (ml M [32] [(x_up S2 0 0 v4)])) _ _ _ _
          refine e_iload (pc := 55) dX12_ask_55 rfl ?_
          refine e_sipush (pc := 57) dX12_ask_57 (by decide +kernel) (x_R rfl) ?_
          refine e_icmp_ge (pc := 60) (tgt := 100) dX12_ask_60 (by decide) (fun hb => ?_) (fun hb => ?_)
          · rw [if_pos hb] at hf15
            cases hf15
            refine e_drop (i := 6) ?_
            exact hk15 _ (hx15 _ rfl)
          · rw [if_neg hb] at hf15
            refine e_iload (pc := 63) dX12_ask_63 rfl ?_
            refine e_aloadn (pc := 65) (i := 0) dX12_ask_65 rfl rfl ?_
            refine f_getr (pc := 66) (u := 32) (q := 0) dX12_ask_66 xf12_45 (sa_32_0 hs) rfl (sr_32_0_23 hs) ?_
            refine e_iload (pc := 69) dX12_ask_69 rfl ?_
            obtain ⟨hc0, hf15⟩ := x_gd_some hf15
            refine f_zald (pc := 71) (k := 0) (u := 32) (q := 11) (len := 144) dX12_ask_71 (sa_32_11 hs) hc0 hn rfl rfl (by decide) ?_
            show Ev g _ _ _ _ _ _ 72 [some (x_r (16 * 32 + 0)), some (x_i v1), some (x_i v6), some (x_i v7), some (x_i v8), some (x_i v12), some (x_i v13)] [x_i ((x_up S2 0 0 v4) 11 (v13).toNat), x_i v12] (al, ro, fl (ml M [32] [(x_up S2 0 0 v4)])) _ _ _ _
            obtain ⟨v17, hr17, hf15⟩ := x_bd1 hf15
            have hjhr17 : Ev g yX12_ask cX12_ask 7 (some .int) [] 2 91 [some (x_r (16 * 32 + 0)), some (x_i v1), some (x_i v6), some (x_i v7), some (x_i v8), some (x_i v12), some (x_i v13)] [x_i v17, x_i v12] (al, ro, fl (ml M [32] [(x_up S2 0 0 v4)])) 0 0 (.inl (some (x_i t.1))) (al, ro, fl (ml M [32] [t.2])) := by
              refine e_iadd (pc := 91) dX12_ask_91 ?_
              refine e_istore (pc := 92) (i := 5) dX12_ask_92 (by decide) rfl ?_
              show Ev g _ _ _ _ _ _ 94 [some (x_r (16 * 32 + 0)), some (x_i v1), some (x_i v6), some (x_i v7), some (x_i v8), some (x_i (x_add v12 v17)), some (x_i v13)] [] (al, ro, fl (ml M [32] [(x_up S2 0 0 v4)])) _ _ _ _
              refine e_iinc (pc := 94) dX12_ask_94 rfl (by decide) rfl ?_
              show Ev g _ _ _ _ _ _ 97 [some (x_r (16 * 32 + 0)), some (x_i v1), some (x_i v6), some (x_i v7), some (x_i v8), some (x_i (x_add v12 v17)), some (x_i (x_add v13 1))] [] (al, ro, fl (ml M [32] [(x_up S2 0 0 v4)])) _ _ _ _
              refine e_goto (pc := 97) (tgt := 55) dX12_ask_97 (by decide) ?_
              cases hf15
              exact hi15 _ rfl
            clear hf15
            refine e_if_eq (pc := 72) (tgt := 90) dX12_ask_72 (by decide) (fun hb => ?_) (fun hb => ?_)
            · rw [if_pos hb] at hr17
              refine e_iconst (pc := 90) dX12_ask_90 (x_R rfl) ?_
              cases hr17
              exact hjhr17
            · rw [if_neg hb] at hr17
              refine e_aloadn (pc := 75) (i := 0) dX12_ask_75 rfl rfl ?_
              refine e_iload (pc := 76) dX12_ask_76 rfl ?_
              refine e_iload (pc := 78) dX12_ask_78 rfl ?_
              obtain ⟨v19, hq19, hr17⟩ := x_bd1 hr17
              refine e_invV (pc := 80) (K1 := 0) (S1 := 0) (K := 0) (S := 0) (dd2 := 0) (av := [x_i v13, x_i v8]) (st := [x_i v12]) (id := 16 * 32 + 0) dX12_ask_80 xmX12_370 rfl (Or.inl ⟨10, 27, TX12, (sa_32_0 hs), rfl, by decide⟩) (f_cal (M := M) (us2 := [32]) [0] hn rfl (And.intro rfl trivial) rfl rfl rfl (c_X12_isThere hst hs   hq19)) (by decide) (Nat.le_of_ble_eq_true rfl) (Or.inl rfl) ?_
              show Ev g _ _ _ _ _ _ 83 [some (x_r (16 * 32 + 0)), some (x_i v1), some (x_i v6), some (x_i v7), some (x_i v8), some (x_i v12), some (x_i v13)] [x_i v19, x_i v12] (al, ro, fl (ml M [32] [(x_up S2 0 0 v4)])) _ _ _ _
              refine e_if_eq (pc := 83) (tgt := 90) dX12_ask_83 (by decide) (fun hb => ?_) (fun hb => ?_)
              · rw [if_pos hb] at hr17
                refine e_iconst (pc := 90) dX12_ask_90 (x_R rfl) ?_
                cases hr17
                exact hjhr17
              · rw [if_neg hb] at hr17
                refine e_iconst (pc := 86) dX12_ask_86 (x_R rfl) ?_
                refine e_goto (pc := 87) (tgt := 91) dX12_ask_87 (by decide) ?_
                cases hr17
                exact hjhr17
    · rw [if_neg hb] at hG
      refine e_iconst (pc := 26) dX12_ask_26 (x_R rfl) ?_
      cases hG
      exact (e_ireturn rfl dX12_ask_27 rfl)
  clear hG
  refine e_icmp_ne (pc := 8) (tgt := 15) dX12_ask_8 (by decide) (fun hb => ?_) (fun hb => ?_)
  · rw [if_neg hb] at hr4
    refine e_iconst (pc := 15) dX12_ask_15 (x_R rfl) ?_
    cases hr4
    exact hjhr4
  · rw [if_pos hb] at hr4
    refine e_iconst (pc := 11) dX12_ask_11 (x_R rfl) ?_
    refine e_goto (pc := 12) (tgt := 16) dX12_ask_12 (by decide) ?_
    cases hr4
    exact hjhr4
def G12_moodBy (a : Int) (b : Int) : Option Int :=
  (some (x_rem (x_add (x_mul (x_div a 5) b) (x_rem a 5)) 5))
set_option maxRecDepth 100000 in
set_option maxHeartbeats 4000000 in
theorem c_X12_moodBy {g : xG} {al : List (Nat × Nat × Nat)} {ro : Nat → Nat → Option Nat} (hst : g.1.stackTraces = false) (hs : SH al ro) {M : Nat → xU} {a : Int} {b : Int} {t : Int} (hG : G12_moodBy a b = some t) :
    Cal g yX12_moodBy cX12_moodBy 2 (some .int) 0 [x_i a, x_i b] (al, ro, fl (ml M [] [])) 0 0 (.inl (some (x_i t))) (al, ro, fl (ml M [] [])) := by
  have hn : ([] : List Nat).Nodup := by decide
  refine cal_of_ev (by decide) (x_c1 rfl) (Nat.le_of_ble_eq_true rfl) hst ?_
  show Ev g _ _ _ _ _ _ 0 [some (x_i a), some (x_i b)] [] (al, ro, fl (ml M [] [])) _ _ _ _
  rw [G12_moodBy] at hG
  refine e_iloadn (pc := 0) (i := 0) dX12_moodBy_0 rfl rfl ?_
  refine e_iconst (pc := 1) dX12_moodBy_1 (x_R rfl) ?_
  refine e_idiv (pc := 2) dX12_moodBy_2 (by decide) ?_
  refine e_iloadn (pc := 3) (i := 1) dX12_moodBy_3 rfl rfl ?_
  refine e_imul (pc := 4) dX12_moodBy_4 ?_
  refine e_iloadn (pc := 5) (i := 0) dX12_moodBy_5 rfl rfl ?_
  refine e_iconst (pc := 6) dX12_moodBy_6 (x_R rfl) ?_
  refine e_irem (pc := 7) dX12_moodBy_7 (by decide) ?_
  refine e_iadd (pc := 8) dX12_moodBy_8 ?_
  refine e_iconst (pc := 9) dX12_moodBy_9 (x_R rfl) ?_
  refine e_irem (pc := 10) dX12_moodBy_10 (by decide) ?_
  cases hG
  exact (e_ireturn rfl dX12_moodBy_11 rfl)
def G12_ruled_L41 (S : xU) (v4 : Int) : (Int × xU) → Option ((Int × xU) ⊕ xU)
  | (v10, S11) => (if (S 0 8) ≤ v10 then (some (.inr S11)) else (x_gd ((0 : Int) ≤ v4 ∧ v4 < 144) (if (S11 11 (v4).toNat) = 0 then (some (.inr S11)) else (x_gd ((0 : Int) ≤ v10 ∧ v10 < 400) (x_b1 (G12_moodBy v4 (S11 5 (v10).toNat)) fun (v15 : Int) => (x_gd ((0 : Int) ≤ (x_add v10 1) ∧ (x_add v10 1) < 400) (x_b1 (if v15 = (S11 5 ((x_add v10 1)).toNat) then (some 1) else (some 0)) fun (v17 : Int) => (x_gd ((0 : Int) ≤ v4 ∧ v4 < 144) (x_gd (v17 = 0 ∨ v17 = 1) (some (.inl ((x_add v10 2), (x_up S11 11 (v4).toNat v17)))))))))))))
def G12_ruled_L25 (S : xU) : (Int × Int × xU) → Option ((Int × Int × xU) ⊕ (Int × xU))
  | (v3, v4, S5) => (if 25 ≤ v4 then (some (.inr (v3, S5))) else (x_gd ((0 : Int) ≤ v4 ∧ v4 < 144) (x_b1 (whl xFU (G12_ruled_L41 S v4) (0, (x_up S5 11 (v4).toNat 1))) fun (S12 : xU) => (x_gd ((0 : Int) ≤ v4 ∧ v4 < 144) (x_b1 (if (S12 11 (v4).toNat) = 0 then (some 0) else (some 1)) fun (v19 : Int) => (some (.inl ((x_add v3 v19), (x_add v4 1), S12))))))))
def G12_ruled (S : xU) : Option (Int × xU) :=
  (x_b1 (G12_areRows (S 0 8) 4 (x_up S 0 8 0)) fun (v1 : Int) => (if v1 = 0 then (some ((-1), (x_up S 0 8 0))) else (x_b2 (whl xFU (G12_ruled_L25 S) (0, 0, (x_up S 0 8 0))) fun (v6 : Int) (S7 : xU) => (some (v6, S7)))))
set_option maxRecDepth 100000 in
set_option maxHeartbeats 4000000 in
theorem c_X12_ruled {g : xG} {al : List (Nat × Nat × Nat)} {ro : Nat → Nat → Option Nat} (hst : g.1.stackTraces = false) (hs : SH al ro) {M : Nat → xU} {S : xU} {t : (Int × xU)} (hG : G12_ruled S = some t) :
    Cal g yX12_ruled cX12_ruled 5 (some .int) 1 [x_r (16 * 32 + 0)] (al, ro, fl (ml M [32] [S])) 0 0 (.inl (some (x_i t.1))) (al, ro, fl (ml M [32] [t.2])) := by
  have hn : ([32] : List Nat).Nodup := by decide
  refine cal_of_ev (by decide) (x_c1 rfl) (Nat.le_of_ble_eq_true rfl) hst ?_
  show Ev g _ _ _ _ _ _ 0 [some (x_r (16 * 32 + 0)), none, none, none, none] [] (al, ro, fl (ml M [32] [S])) _ _ _ _
  rw [G12_ruled] at hG
  refine e_aloadn (pc := 0) (i := 0) dX12_ruled_0 rfl rfl ?_
  refine f_geti (pc := 1) (k := 0) (u := 32) (q := 0) dX12_ruled_1 xf12_76 (sa_32_0 hs) rfl hn rfl rfl (by decide) ?_
  show Ev g _ _ _ _ _ _ 4 [some (x_r (16 * 32 + 0)), none, none, none, none] [x_i (S 0 8)] (al, ro, fl (ml M [32] [S])) _ _ _ _
  refine e_istoren (pc := 4) (i := 1) dX12_ruled_4 rfl (by decide) rfl ?_
  show Ev g _ _ _ _ _ _ 5 [some (x_r (16 * 32 + 0)), some (x_i (S 0 8)), none, none, none] [] (al, ro, fl (ml M [32] [S])) _ _ _ _
  refine e_aloadn (pc := 5) (i := 0) dX12_ruled_5 rfl rfl ?_
  refine e_iconst (pc := 6) dX12_ruled_6 (x_R rfl) ?_
  refine f_puti (pc := 7) (k := 0) (u := 32) (q := 0) dX12_ruled_7 xf12_76 xw10_8 (sa_32_0 hs) hn rfl rfl rfl (by decide) ?_
  show Ev g _ _ _ _ _ _ 10 [some (x_r (16 * 32 + 0)), some (x_i (S 0 8)), none, none, none] [] (al, ro, fl (ml M [32] [(x_up S 0 8 0)])) _ _ _ _
  refine e_aloadn (pc := 10) (i := 0) dX12_ruled_10 rfl rfl ?_
  refine e_iloadn (pc := 11) (i := 1) dX12_ruled_11 rfl rfl ?_
  refine e_iconst (pc := 12) dX12_ruled_12 (x_R rfl) ?_
  obtain ⟨v1, hq1, hG⟩ := x_bd1 hG
  refine e_invV (pc := 13) (K1 := 0) (S1 := 0) (K := 0) (S := 0) (dd2 := 0) (av := [x_i (S 0 8), x_i 4]) (st := []) (id := 16 * 32 + 0) dX12_ruled_13 xmX12_367 rfl (Or.inl ⟨10, 27, TX12, (sa_32_0 hs), rfl, by decide⟩) (f_cal (M := M) (us2 := [32]) [0] hn rfl (And.intro rfl trivial) rfl rfl rfl (c_X12_areRows hst hs   hq1)) (by decide) (Nat.le_of_ble_eq_true rfl) (Or.inl rfl) ?_
  show Ev g _ _ _ _ _ _ 16 [some (x_r (16 * 32 + 0)), some (x_i (S 0 8)), none, none, none] [x_i v1] (al, ro, fl (ml M [32] [(x_up S 0 8 0)])) _ _ _ _
  refine e_if_ne (pc := 16) (tgt := 21) dX12_ruled_16 (by decide) (fun hb => ?_) (fun hb => ?_)
  · rw [if_neg hb] at hG
    refine e_iconst (pc := 21) dX12_ruled_21 (x_R rfl) ?_
    refine e_istoren (pc := 22) (i := 2) dX12_ruled_22 rfl (by decide) rfl ?_
    show Ev g _ _ _ _ _ _ 23 [some (x_r (16 * 32 + 0)), some (x_i (S 0 8)), some (x_i 0), none, none] [] (al, ro, fl (ml M [32] [(x_up S 0 8 0)])) _ _ _ _
    refine e_iconst (pc := 23) dX12_ruled_23 (x_R rfl) ?_
    refine e_istoren (pc := 24) (i := 3) dX12_ruled_24 rfl (by decide) rfl ?_
    show Ev g _ _ _ _ _ _ 25 [some (x_r (16 * 32 + 0)), some (x_i (S 0 8)), some (x_i 0), some (x_i 0), none] [] (al, ro, fl (ml M [32] [(x_up S 0 8 0)])) _ _ _ _
    obtain ⟨v6, S7, hl8, hG⟩ := x_bd2 hG
    have hk8 : ∀ q : (Int × xU), q = (v6, S7) → Ev g yX12_ruled cX12_ruled 5 (some .int) [] 1 119 [some (x_r (16 * 32 + 0)), some (x_i (S 0 8)), some (x_i q.1), none, none] [] (al, ro, fl (ml M [32] [q.2])) 0 0 (.inl (some (x_i t.1))) (al, ro, fl (ml M [32] [t.2])) := by
      intro q hq
      cases hq
      refine e_iloadn (pc := 119) (i := 2) dX12_ruled_119 rfl rfl ?_
      cases hG
      exact (e_ireturn rfl dX12_ruled_120 rfl)
    clear hG
    refine e_whl (G12_ruled_L25 S) (fun z : (Int × Int × xU) => Ev g yX12_ruled cX12_ruled 5 (some .int) [] 1 25 [some (x_r (16 * 32 + 0)), some (x_i (S 0 8)), some (x_i z.1), some (x_i z.2.1), none] [] (al, ro, fl (ml M [32] [z.2.2])) 0 0 (.inl (some (x_i t.1))) (al, ro, fl (ml M [32] [t.2]))) (fun q => q = (v6, S7)) ?_ xFU (0, 0, (x_up S 0 8 0)) _ hl8 rfl
    intro z t8 hf8 hi8 hx8
    obtain ⟨v3, v4, S5⟩ := z
    rw [G12_ruled_L25] at hf8
    show Ev g _ _ _ _ _ _ 25 [some (x_r (16 * 32 + 0)), some (x_i (S 0 8)), some (x_i v3), some (x_i v4), none] [] (al, ro, fl (ml M [32] [S5])) _ _ _ _
    refine e_iloadn (pc := 25) (i := 3) dX12_ruled_25 rfl rfl ?_
    refine e_bipush (pc := 26) dX12_ruled_26 (by decide +kernel) (x_R rfl) ?_
    refine e_icmp_ge (pc := 28) (tgt := 119) dX12_ruled_28 (by decide) (fun hb => ?_) (fun hb => ?_)
    · rw [if_pos hb] at hf8
      cases hf8
      refine e_drop (i := 3) ?_
      exact hk8 _ (hx8 _ rfl)
    · rw [if_neg hb] at hf8
      refine e_aloadn (pc := 31) (i := 0) dX12_ruled_31 rfl rfl ?_
      refine f_getr (pc := 32) (u := 32) (q := 0) dX12_ruled_32 xf12_45 (sa_32_0 hs) rfl (sr_32_0_23 hs) ?_
      refine e_iloadn (pc := 35) (i := 3) dX12_ruled_35 rfl rfl ?_
      refine e_iconst (pc := 36) dX12_ruled_36 (x_R rfl) ?_
      obtain ⟨hc0, hf8⟩ := x_gd_some hf8
      refine f_zast (pc := 37) (k := 0) (u := 32) (q := 11) (len := 144) dX12_ruled_37 (sa_32_11 hs) hc0 (by decide) hn rfl rfl rfl (by decide) ?_
      show Ev g _ _ _ _ _ _ 38 [some (x_r (16 * 32 + 0)), some (x_i (S 0 8)), some (x_i v3), some (x_i v4), none] [] (al, ro, fl (ml M [32] [(x_up S5 11 (v4).toNat 1)])) _ _ _ _
      refine e_iconst (pc := 38) dX12_ruled_38 (x_R rfl) ?_
      refine e_istore (pc := 39) (i := 4) dX12_ruled_39 (by decide) rfl ?_
      show Ev g _ _ _ _ _ _ 41 [some (x_r (16 * 32 + 0)), some (x_i (S 0 8)), some (x_i v3), some (x_i v4), some (x_i 0)] [] (al, ro, fl (ml M [32] [(x_up S5 11 (v4).toNat 1)])) _ _ _ _
      obtain ⟨S12, hl13, hf8⟩ := x_bd1 hf8
      have hk13 : ∀ q : xU, q = S12 → Ev g yX12_ruled cX12_ruled 5 (some .int) [] 1 96 [some (x_r (16 * 32 + 0)), some (x_i (S 0 8)), some (x_i v3), some (x_i v4), none] [] (al, ro, fl (ml M [32] [q])) 0 0 (.inl (some (x_i t.1))) (al, ro, fl (ml M [32] [t.2])) := by
        intro q hq
        replace hq := hq.symm
        subst hq
        refine e_iloadn (pc := 96) (i := 2) dX12_ruled_96 rfl rfl ?_
        refine e_aloadn (pc := 97) (i := 0) dX12_ruled_97 rfl rfl ?_
        refine f_getr (pc := 98) (u := 32) (q := 0) dX12_ruled_98 xf12_45 (sa_32_0 hs) rfl (sr_32_0_23 hs) ?_
        refine e_iloadn (pc := 101) (i := 3) dX12_ruled_101 rfl rfl ?_
        obtain ⟨hc0, hf8⟩ := x_gd_some hf8
        refine f_zald (pc := 102) (k := 0) (u := 32) (q := 11) (len := 144) dX12_ruled_102 (sa_32_11 hs) hc0 hn rfl rfl (by decide) ?_
        show Ev g _ _ _ _ _ _ 103 [some (x_r (16 * 32 + 0)), some (x_i (S 0 8)), some (x_i v3), some (x_i v4), none] [x_i (S12 11 (v4).toNat), x_i v3] (al, ro, fl (ml M [32] [S12])) _ _ _ _
        obtain ⟨v19, hr19, hf8⟩ := x_bd1 hf8
        have hjhr19 : Ev g yX12_ruled cX12_ruled 5 (some .int) [] 1 111 [some (x_r (16 * 32 + 0)), some (x_i (S 0 8)), some (x_i v3), some (x_i v4), none] [x_i v19, x_i v3] (al, ro, fl (ml M [32] [S12])) 0 0 (.inl (some (x_i t.1))) (al, ro, fl (ml M [32] [t.2])) := by
          refine e_iadd (pc := 111) dX12_ruled_111 ?_
          refine e_istoren (pc := 112) (i := 2) dX12_ruled_112 rfl (by decide) rfl ?_
          show Ev g _ _ _ _ _ _ 113 [some (x_r (16 * 32 + 0)), some (x_i (S 0 8)), some (x_i (x_add v3 v19)), some (x_i v4), none] [] (al, ro, fl (ml M [32] [S12])) _ _ _ _
          refine e_iinc (pc := 113) dX12_ruled_113 rfl (by decide) rfl ?_
          show Ev g _ _ _ _ _ _ 116 [some (x_r (16 * 32 + 0)), some (x_i (S 0 8)), some (x_i (x_add v3 v19)), some (x_i (x_add v4 1)), none] [] (al, ro, fl (ml M [32] [S12])) _ _ _ _
          refine e_goto (pc := 116) (tgt := 25) dX12_ruled_116 (by decide) ?_
          cases hf8
          exact hi8 _ rfl
        clear hf8
        refine e_if_eq (pc := 103) (tgt := 110) dX12_ruled_103 (by decide) (fun hb => ?_) (fun hb => ?_)
        · rw [if_pos hb] at hr19
          refine e_iconst (pc := 110) dX12_ruled_110 (x_R rfl) ?_
          cases hr19
          exact hjhr19
        · rw [if_neg hb] at hr19
          refine e_iconst (pc := 106) dX12_ruled_106 (x_R rfl) ?_
          refine e_goto (pc := 107) (tgt := 111) dX12_ruled_107 (by decide) ?_
          cases hr19
          exact hjhr19
      clear hf8
      refine e_whl (G12_ruled_L41 S v4) (fun z : (Int × xU) => Ev g yX12_ruled cX12_ruled 5 (some .int) [] 1 41 [some (x_r (16 * 32 + 0)), some (x_i (S 0 8)), some (x_i v3), some (x_i v4), some (x_i z.1)] [] (al, ro, fl (ml M [32] [z.2])) 0 0 (.inl (some (x_i t.1))) (al, ro, fl (ml M [32] [t.2]))) (fun q => q = S12) ?_ xFU (0, (x_up S5 11 (v4).toNat 1)) _ hl13 rfl
      intro z t13 hf13 hi13 hx13
      obtain ⟨v10, S11⟩ := z
      rw [G12_ruled_L41] at hf13
      show Ev g _ _ _ _ _ _ 41 [some (x_r (16 * 32 + 0)), some (x_i (S 0 8)), some (x_i v3), some (x_i v4), some (x_i v10)] [] (al, ro, fl (ml M [32] [S11])) _ _ _ _
      refine e_iload (pc := 41) dX12_ruled_41 rfl ?_
      refine e_iloadn (pc := 43) (i := 1) dX12_ruled_43 rfl rfl ?_
      refine e_icmp_ge (pc := 44) (tgt := 96) dX12_ruled_44 (by decide) (fun hb => ?_) (fun hb => ?_)
      · rw [if_pos hb] at hf13
        cases hf13
        refine e_drop (i := 4) ?_
        exact hk13 _ (hx13 _ rfl)
      · rw [if_neg hb] at hf13
        refine e_aloadn (pc := 47) (i := 0) dX12_ruled_47 rfl rfl ?_
        refine f_getr (pc := 48) (u := 32) (q := 0) dX12_ruled_48 xf12_45 (sa_32_0 hs) rfl (sr_32_0_23 hs) ?_
        refine e_iloadn (pc := 51) (i := 3) dX12_ruled_51 rfl rfl ?_
        obtain ⟨hc0, hf13⟩ := x_gd_some hf13
        refine f_zald (pc := 52) (k := 0) (u := 32) (q := 11) (len := 144) dX12_ruled_52 (sa_32_11 hs) hc0 hn rfl rfl (by decide) ?_
        show Ev g _ _ _ _ _ _ 53 [some (x_r (16 * 32 + 0)), some (x_i (S 0 8)), some (x_i v3), some (x_i v4), some (x_i v10)] [x_i (S11 11 (v4).toNat)] (al, ro, fl (ml M [32] [S11])) _ _ _ _
        refine e_if_eq (pc := 53) (tgt := 96) dX12_ruled_53 (by decide) (fun hb => ?_) (fun hb => ?_)
        · rw [if_pos hb] at hf13
          cases hf13
          refine e_drop (i := 4) ?_
          exact hk13 _ (hx13 _ rfl)
        · rw [if_neg hb] at hf13
          refine e_aloadn (pc := 56) (i := 0) dX12_ruled_56 rfl rfl ?_
          refine f_getr (pc := 57) (u := 32) (q := 0) dX12_ruled_57 xf12_45 (sa_32_0 hs) rfl (sr_32_0_23 hs) ?_
          refine e_iloadn (pc := 60) (i := 3) dX12_ruled_60 rfl rfl ?_
          refine e_iloadn (pc := 61) (i := 3) dX12_ruled_61 rfl rfl ?_
          refine e_aloadn (pc := 62) (i := 0) dX12_ruled_62 rfl rfl ?_
          refine f_getr (pc := 63) (u := 32) (q := 0) dX12_ruled_63 xf12_22 (sa_32_0 hs) rfl (sr_32_0_7 hs) ?_
          refine e_iload (pc := 66) dX12_ruled_66 rfl ?_
          obtain ⟨hc0, hf13⟩ := x_gd_some hf13
          refine f_iald (pc := 68) (k := 0) (u := 32) (q := 5) (len := 400) dX12_ruled_68 (sa_32_5 hs) hc0 hn rfl rfl (by decide) ?_
          show Ev g _ _ _ _ _ _ 69 [some (x_r (16 * 32 + 0)), some (x_i (S 0 8)), some (x_i v3), some (x_i v4), some (x_i v10)] [x_i (S11 5 (v10).toNat), x_i v4, x_i v4, x_r (16 * 32 + 11)] (al, ro, fl (ml M [32] [S11])) _ _ _ _
          obtain ⟨v15, hq15, hf13⟩ := x_bd1 hf13
          refine e_invS (pc := 69) (K1 := 0) (S1 := 0) (K := 0) (S := 0) (dd2 := 0) (av := [x_i v4, x_i (S11 5 (v10).toNat)]) (st := [x_i v4, x_r (16 * 32 + 11)]) dX12_ruled_69 xmX12_376 rfl (f_cal (M := M) (us2 := []) [] hn rfl trivial rfl rfl rfl (c_X12_moodBy hst hs   hq15)) (by decide) (Nat.le_of_ble_eq_true rfl) (Or.inl rfl) ?_
          show Ev g _ _ _ _ _ _ 72 [some (x_r (16 * 32 + 0)), some (x_i (S 0 8)), some (x_i v3), some (x_i v4), some (x_i v10)] [x_i v15, x_i v4, x_r (16 * 32 + 11)] (al, ro, fl (ml M [32] [S11])) _ _ _ _
          refine e_aloadn (pc := 72) (i := 0) dX12_ruled_72 rfl rfl ?_
          refine f_getr (pc := 73) (u := 32) (q := 0) dX12_ruled_73 xf12_22 (sa_32_0 hs) rfl (sr_32_0_7 hs) ?_
          refine e_iload (pc := 76) dX12_ruled_76 rfl ?_
          refine e_iconst (pc := 78) dX12_ruled_78 (x_R rfl) ?_
          refine e_iadd (pc := 79) dX12_ruled_79 ?_
          obtain ⟨hc0, hf13⟩ := x_gd_some hf13
          refine f_iald (pc := 80) (k := 0) (u := 32) (q := 5) (len := 400) dX12_ruled_80 (sa_32_5 hs) hc0 hn rfl rfl (by decide) ?_
          show Ev g _ _ _ _ _ _ 81 [some (x_r (16 * 32 + 0)), some (x_i (S 0 8)), some (x_i v3), some (x_i v4), some (x_i v10)] [x_i (S11 5 ((x_add v10 1)).toNat), x_i v15, x_i v4, x_r (16 * 32 + 11)] (al, ro, fl (ml M [32] [S11])) _ _ _ _
          obtain ⟨v17, hr17, hf13⟩ := x_bd1 hf13
          have hjhr17 : Ev g yX12_ruled cX12_ruled 5 (some .int) [] 1 89 [some (x_r (16 * 32 + 0)), some (x_i (S 0 8)), some (x_i v3), some (x_i v4), some (x_i v10)] [x_i v17, x_i v4, x_r (16 * 32 + 11)] (al, ro, fl (ml M [32] [S11])) 0 0 (.inl (some (x_i t.1))) (al, ro, fl (ml M [32] [t.2])) := by
            obtain ⟨hc0, hf13⟩ := x_gd_some hf13
            obtain ⟨hc1, hf13⟩ := x_gd_some hf13
            refine f_zast (pc := 89) (k := 0) (u := 32) (q := 11) (len := 144) dX12_ruled_89 (sa_32_11 hs) hc0 hc1 hn rfl rfl rfl (by decide) ?_
            show Ev g _ _ _ _ _ _ 90 [some (x_r (16 * 32 + 0)), some (x_i (S 0 8)), some (x_i v3), some (x_i v4), some (x_i v10)] [] (al, ro, fl (ml M [32] [(x_up S11 11 (v4).toNat v17)])) _ _ _ _
            refine e_iinc (pc := 90) dX12_ruled_90 rfl (by decide) rfl ?_
            show Ev g _ _ _ _ _ _ 93 [some (x_r (16 * 32 + 0)), some (x_i (S 0 8)), some (x_i v3), some (x_i v4), some (x_i (x_add v10 2))] [] (al, ro, fl (ml M [32] [(x_up S11 11 (v4).toNat v17)])) _ _ _ _
            refine e_goto (pc := 93) (tgt := 41) dX12_ruled_93 (by decide) ?_
            cases hf13
            exact hi13 _ rfl
          clear hf13
          refine e_icmp_ne (pc := 81) (tgt := 88) dX12_ruled_81 (by decide) (fun hb => ?_) (fun hb => ?_)
          · rw [if_neg hb] at hr17
            refine e_iconst (pc := 88) dX12_ruled_88 (x_R rfl) ?_
            cases hr17
            exact hjhr17
          · rw [if_pos hb] at hr17
            refine e_iconst (pc := 84) dX12_ruled_84 (x_R rfl) ?_
            refine e_goto (pc := 85) (tgt := 89) dX12_ruled_85 (by decide) ?_
            cases hr17
            exact hjhr17
  · rw [if_pos hb] at hG
    refine e_iconst (pc := 19) dX12_ruled_19 (x_R rfl) ?_
    cases hG
    exact (e_ireturn rfl dX12_ruled_20 rfl)
def G12_rule_L45 (S2 : xU) (v4 : Int) : Int → Option (Int ⊕ (Unit ⊕ (Int × xU)))
  | v8 => (if 25 ≤ v8 then (some (.inr (.inl ()))) else (x_gd ((0 : Int) ≤ v8 ∧ v8 < 144) (if ((x_up S2 0 0 v4) 11 (v8).toNat) = 0 then (some (.inl (x_add v8 1))) else (some (.inr (.inr (v8, (x_up S2 0 0 v4))))))))
def G12_rule (a : Int) (S : xU) : Option (Int × xU) :=
  (x_b2 (G12_ruled S) fun (v1 : Int) (S2 : xU) => (x_b1 (if v1 = (-1) then (some 1) else (some 0)) fun (v4 : Int) => (if 0 < ((x_up S2 0 0 v4) 0 0) then (x_b1 (if ((x_up S2 0 0 v4) 0 0) ≤ 0 then (some v1) else (some 0)) fun (v6 : Int) => (some (v6, (x_up S2 0 0 v4)))) else (if a = 0 then (x_b1 (if ((x_up S2 0 0 v4) 0 0) ≤ 0 then (some v1) else (some 0)) fun (v11 : Int) => (some (v11, (x_up S2 0 0 v4)))) else (x_lr (whl xFU (G12_rule_L45 S2 v4) 0) (fun (q : Unit) => x_e1 q fun (_q : Unit) => (some ((-1), (x_up S2 0 0 v4)))) (fun (q : (Int × xU)) => some q))))))
set_option maxRecDepth 100000 in
set_option maxHeartbeats 4000000 in
theorem c_X12_rule {g : xG} {al : List (Nat × Nat × Nat)} {ro : Nat → Nat → Option Nat} (hst : g.1.stackTraces = false) (hs : SH al ro) {M : Nat → xU} {a : Int} {S : xU} {t : (Int × xU)} (hG : G12_rule a S = some t) :
    Cal g yX12_rule cX12_rule 4 (some .int) 2 [x_r (16 * 32 + 0), x_i a] (al, ro, fl (ml M [32] [S])) 0 0 (.inl (some (x_i t.1))) (al, ro, fl (ml M [32] [t.2])) := by
  have hn : ([32] : List Nat).Nodup := by decide
  refine cal_of_ev (by decide) (x_c1 rfl) (Nat.le_of_ble_eq_true rfl) hst ?_
  show Ev g _ _ _ _ _ _ 0 [some (x_r (16 * 32 + 0)), some (x_i a), none, none] [] (al, ro, fl (ml M [32] [S])) _ _ _ _
  rw [G12_rule] at hG
  refine e_aloadn (pc := 0) (i := 0) dX12_rule_0 rfl rfl ?_
  obtain ⟨v1, S2, hq2, hG⟩ := x_bd2 hG
  refine e_invV (pc := 1) (K1 := 0) (S1 := 0) (K := 0) (S := 0) (dd2 := 1) (av := []) (st := []) (id := 16 * 32 + 0) dX12_rule_1 xmX12_379 rfl (Or.inl ⟨10, 27, TX12, (sa_32_0 hs), rfl, by decide⟩) (f_cal (M := M) (us2 := [32]) [0] hn rfl (And.intro rfl trivial) rfl rfl rfl (c_X12_ruled hst hs   hq2)) (by decide) (Nat.le_of_ble_eq_true rfl) (Or.inl rfl) ?_
  show Ev g _ _ _ _ _ _ 4 [some (x_r (16 * 32 + 0)), some (x_i a), none, none] [x_i v1] (al, ro, fl (ml M [32] [S2])) _ _ _ _
  refine e_istoren (pc := 4) (i := 2) dX12_rule_4 rfl (by decide) rfl ?_
  show Ev g _ _ _ _ _ _ 5 [some (x_r (16 * 32 + 0)), some (x_i a), some (x_i v1), none] [] (al, ro, fl (ml M [32] [S2])) _ _ _ _
  refine e_aloadn (pc := 5) (i := 0) dX12_rule_5 rfl rfl ?_
  refine e_iloadn (pc := 6) (i := 2) dX12_rule_6 rfl rfl ?_
  refine e_iconst (pc := 7) dX12_rule_7 (x_R rfl) ?_
  obtain ⟨v4, hr4, hG⟩ := x_bd1 hG
  have hjhr4 : Ev g yX12_rule cX12_rule 4 (some .int) [] 2 16 [some (x_r (16 * 32 + 0)), some (x_i a), some (x_i v1), none] [x_i v4, x_r (16 * 32 + 0)] (al, ro, fl (ml M [32] [S2])) 0 0 (.inl (some (x_i t.1))) (al, ro, fl (ml M [32] [t.2])) := by
    refine f_puti (pc := 16) (k := 0) (u := 32) (q := 0) dX12_rule_16 xf12_58 xw10_0 (sa_32_0 hs) hn rfl rfl rfl (by decide) ?_
    show Ev g _ _ _ _ _ _ 19 [some (x_r (16 * 32 + 0)), some (x_i a), some (x_i v1), none] [] (al, ro, fl (ml M [32] [(x_up S2 0 0 v4)])) _ _ _ _
    refine e_aloadn (pc := 19) (i := 0) dX12_rule_19 rfl rfl ?_
    refine f_geti (pc := 20) (k := 0) (u := 32) (q := 0) dX12_rule_20 xf12_58 (sa_32_0 hs) rfl hn rfl rfl (by decide) ?_
    show Ev g _ _ _ _ _ _ 23 [some (x_r (16 * 32 + 0)), some (x_i a), some (x_i v1), none] [x_i ((x_up S2 0 0 v4) 0 0)] (al, ro, fl (ml M [32] [(x_up S2 0 0 v4)])) _ _ _ _
    refine e_if_gt (pc := 23) (tgt := 30) dX12_rule_23 (by decide) (fun hb => ?_) (fun hb => ?_)
    · rw [if_pos hb] at hG
      refine e_aloadn (pc := 30) (i := 0) dX12_rule_30 rfl rfl ?_
      refine f_geti (pc := 31) (k := 0) (u := 32) (q := 0) dX12_rule_31 xf12_58 (sa_32_0 hs) rfl hn rfl rfl (by decide) ?_
      show Ev g _ _ _ _ _ _ 34 [some (x_r (16 * 32 + 0)), some (x_i a), some (x_i v1), none] [x_i ((x_up S2 0 0 v4) 0 0)] (al, ro, fl (ml M [32] [(x_up S2 0 0 v4)])) _ _ _ _
      obtain ⟨v6, hr6, hG⟩ := x_bd1 hG
      have hjhr6 : Ev g yX12_rule cX12_rule 4 (some .int) [] 2 42 [some (x_r (16 * 32 + 0)), some (x_i a), some (x_i v1), none] [x_i v6] (al, ro, fl (ml M [32] [(x_up S2 0 0 v4)])) 0 0 (.inl (some (x_i t.1))) (al, ro, fl (ml M [32] [t.2])) := by
        cases hG
        exact (e_ireturn rfl dX12_rule_42 rfl)
      clear hG
      refine e_if_le (pc := 34) (tgt := 41) dX12_rule_34 (by decide) (fun hb => ?_) (fun hb => ?_)
      · rw [if_pos hb] at hr6
        refine e_iloadn (pc := 41) (i := 2) dX12_rule_41 rfl rfl ?_
        cases hr6
        exact hjhr6
      · rw [if_neg hb] at hr6
        refine e_iconst (pc := 37) dX12_rule_37 (x_R rfl) ?_
        refine e_goto (pc := 38) (tgt := 42) dX12_rule_38 (by decide) ?_
        cases hr6
        exact hjhr6
    · rw [if_neg hb] at hG
      refine e_iloadn (pc := 26) (i := 1) dX12_rule_26 rfl rfl ?_
      refine e_if_ne (pc := 27) (tgt := 43) dX12_rule_27 (by decide) (fun hb => ?_) (fun hb => ?_)
      · rw [if_neg hb] at hG
        refine e_iconst (pc := 43) dX12_rule_43 (x_R rfl) ?_
        refine e_istoren (pc := 44) (i := 3) dX12_rule_44 rfl (by decide) rfl ?_
        show Ev g _ _ _ _ _ _ 45 [some (x_r (16 * 32 + 0)), some (x_i a), some (x_i v1), some (x_i 0)] [] (al, ro, fl (ml M [32] [(x_up S2 0 0 v4)])) _ _ _ _
        obtain ⟨r9, hl9, hG⟩ := x_lrd hG
        have hk9 : ∀ q : Unit, r9 = .inl q → Ev g yX12_rule cX12_rule 4 (some .int) [] 2 68 [some (x_r (16 * 32 + 0)), some (x_i a), some (x_i v1), none] [] (al, ro, fl (ml M [32] [(x_up S2 0 0 v4)])) 0 0 (.inl (some (x_i t.1))) (al, ro, fl (ml M [32] [t.2])) := by
          intro q hq
          subst hq
          replace hG := x_lr_l hG
          replace hG := x_ed1 hG
          refine e_iconst (pc := 68) dX12_rule_68 (x_R rfl) ?_
          cases hG
          exact (e_ireturn rfl dX12_rule_69 rfl)
        have hv9 : ∀ q : (Int × xU), r9 = .inr q → some q = some t := by
          intro q hq
          subst hq
          exact x_lr_r hG
        clear hG
        refine e_whl (G12_rule_L45 S2 v4) (fun z : Int => Ev g yX12_rule cX12_rule 4 (some .int) [] 2 45 [some (x_r (16 * 32 + 0)), some (x_i a), some (x_i v1), some (x_i z)] [] (al, ro, fl (ml M [32] [(x_up S2 0 0 v4)])) 0 0 (.inl (some (x_i t.1))) (al, ro, fl (ml M [32] [t.2]))) (fun q => q = r9) ?_ xFU 0 _ hl9 rfl
        intro z t9 hf9 hi9 hx9
        obtain ⟨v8, hzz⟩ : ∃ y, y = z := ⟨z, rfl⟩
        subst hzz
        rw [G12_rule_L45] at hf9
        show Ev g _ _ _ _ _ _ 45 [some (x_r (16 * 32 + 0)), some (x_i a), some (x_i v1), some (x_i v8)] [] (al, ro, fl (ml M [32] [(x_up S2 0 0 v4)])) _ _ _ _
        refine e_iloadn (pc := 45) (i := 3) dX12_rule_45 rfl rfl ?_
        refine e_bipush (pc := 46) dX12_rule_46 (by decide +kernel) (x_R rfl) ?_
        refine e_icmp_ge (pc := 48) (tgt := 68) dX12_rule_48 (by decide) (fun hb => ?_) (fun hb => ?_)
        · rw [if_pos hb] at hf9
          cases hf9
          refine e_drop (i := 3) ?_
          exact hk9 _ (hx9 _ rfl).symm
        · rw [if_neg hb] at hf9
          refine e_aloadn (pc := 51) (i := 0) dX12_rule_51 rfl rfl ?_
          refine f_getr (pc := 52) (u := 32) (q := 0) dX12_rule_52 xf12_45 (sa_32_0 hs) rfl (sr_32_0_23 hs) ?_
          refine e_iloadn (pc := 55) (i := 3) dX12_rule_55 rfl rfl ?_
          obtain ⟨hc0, hf9⟩ := x_gd_some hf9
          refine f_zald (pc := 56) (k := 0) (u := 32) (q := 11) (len := 144) dX12_rule_56 (sa_32_11 hs) hc0 hn rfl rfl (by decide) ?_
          show Ev g _ _ _ _ _ _ 57 [some (x_r (16 * 32 + 0)), some (x_i a), some (x_i v1), some (x_i v8)] [x_i ((x_up S2 0 0 v4) 11 (v8).toNat)] (al, ro, fl (ml M [32] [(x_up S2 0 0 v4)])) _ _ _ _
          refine e_if_eq (pc := 57) (tgt := 62) dX12_rule_57 (by decide) (fun hb => ?_) (fun hb => ?_)
          · rw [if_pos hb] at hf9
            refine e_iinc (pc := 62) dX12_rule_62 rfl (by decide) rfl ?_
            show Ev g _ _ _ _ _ _ 65 [some (x_r (16 * 32 + 0)), some (x_i a), some (x_i v1), some (x_i (x_add v8 1))] [] (al, ro, fl (ml M [32] [(x_up S2 0 0 v4)])) _ _ _ _
            refine e_goto (pc := 65) (tgt := 45) dX12_rule_65 (by decide) ?_
            cases hf9
            exact hi9 _ rfl
          · rw [if_neg hb] at hf9
            refine e_iloadn (pc := 60) (i := 3) dX12_rule_60 rfl rfl ?_
            cases hf9
            have hz := hv9 _ (hx9 _ rfl).symm
            cases hz
            exact (e_ireturn rfl dX12_rule_61 rfl)
      · rw [if_pos hb] at hG
        refine e_aloadn (pc := 30) (i := 0) dX12_rule_30 rfl rfl ?_
        refine f_geti (pc := 31) (k := 0) (u := 32) (q := 0) dX12_rule_31 xf12_58 (sa_32_0 hs) rfl hn rfl rfl (by decide) ?_
        show Ev g _ _ _ _ _ _ 34 [some (x_r (16 * 32 + 0)), some (x_i a), some (x_i v1), none] [x_i ((x_up S2 0 0 v4) 0 0)] (al, ro, fl (ml M [32] [(x_up S2 0 0 v4)])) _ _ _ _
        obtain ⟨v11, hr11, hG⟩ := x_bd1 hG
        have hjhr11 : Ev g yX12_rule cX12_rule 4 (some .int) [] 2 42 [some (x_r (16 * 32 + 0)), some (x_i a), some (x_i v1), none] [x_i v11] (al, ro, fl (ml M [32] [(x_up S2 0 0 v4)])) 0 0 (.inl (some (x_i t.1))) (al, ro, fl (ml M [32] [t.2])) := by
          cases hG
          exact (e_ireturn rfl dX12_rule_42 rfl)
        clear hG
        refine e_if_le (pc := 34) (tgt := 41) dX12_rule_34 (by decide) (fun hb => ?_) (fun hb => ?_)
        · rw [if_pos hb] at hr11
          refine e_iloadn (pc := 41) (i := 2) dX12_rule_41 rfl rfl ?_
          cases hr11
          exact hjhr11
        · rw [if_neg hb] at hr11
          refine e_iconst (pc := 37) dX12_rule_37 (x_R rfl) ?_
          refine e_goto (pc := 38) (tgt := 42) dX12_rule_38 (by decide) ?_
          cases hr11
          exact hjhr11
  clear hG
  refine e_icmp_ne (pc := 8) (tgt := 15) dX12_rule_8 (by decide) (fun hb => ?_) (fun hb => ?_)
  · rw [if_neg hb] at hr4
    refine e_iconst (pc := 15) dX12_rule_15 (x_R rfl) ?_
    cases hr4
    exact hjhr4
  · rw [if_pos hb] at hr4
    refine e_iconst (pc := 11) dX12_rule_11 (x_R rfl) ?_
    refine e_goto (pc := 12) (tgt := 16) dX12_rule_12 (by decide) ?_
    cases hr4
    exact hjhr4
def G12_tells_L67 (S2 : xU) (v4 : Int) (v8 : Int) (v13 : Int) : (Int × Int) → Option ((Int × Int) ⊕ Int)
  | (v17, v18) => (if 25 ≤ v18 then (some (.inr v17)) else (x_gd ((0 : Int) ≤ v18 ∧ v18 < 144) (x_b1 (if ((x_up S2 0 0 v4) 11 (v18).toNat) = 0 then (some 0) else (x_b1 (G12_moodBy v18 v8) fun (v24 : Int) => (if v24 = v13 then (some 1) else (some 0)))) fun (v22 : Int) => (some (.inl ((x_add v17 v22), (x_add v18 1)))))))
def G12_tells_L55 (S2 : xU) (v4 : Int) (v8 : Int) : (Int × Int) → Option ((Int × Int) ⊕ Int)
  | (v12, v13) => (if 5 ≤ v13 then (some (.inr v12)) else (x_b1 (whl xFU (G12_tells_L67 S2 v4 v8 v13) (0, 0)) fun (v19 : Int) => (x_b1 (G12_greater v12 v19) fun (v26 : Int) => (some (.inl (v26, (x_add v13 1)))))))
def G12_tells_L37 (v1 : Int) (S2 : xU) (v4 : Int) : (Int × Int × Int) → Option ((Int × Int × Int) ⊕ Int)
  | (v6, v7, v8) => (if 24 ≤ v8 then (some (.inr v6)) else (if v1 ≤ 1 then (some (.inr v6)) else (x_b1 (whl xFU (G12_tells_L55 S2 v4 v8) (0, 0)) fun (v14 : Int) => (x_b2 (if v14 < v7 then (some (v8, v14)) else (some (v6, v7))) fun (v28 : Int) (v29 : Int) => (some (.inl (v28, v29, (x_add v8 1))))))))
def G12_tells (S : xU) : Option (Int × xU) :=
  (x_b2 (G12_ruled S) fun (v1 : Int) (S2 : xU) => (x_b1 (if v1 = (-1) then (some 1) else (some 0)) fun (v4 : Int) => (if ((x_up S2 0 0 v4) 0 0) ≤ 0 then (x_b1 (whl xFU (G12_tells_L37 v1 S2 v4) ((-1), 2000000000, 0)) fun (v9 : Int) => (some (v9, (x_up S2 0 0 v4)))) else (some (0, (x_up S2 0 0 v4))))))
set_option maxRecDepth 100000 in
set_option maxHeartbeats 4000000 in
theorem c_X12_tells {g : xG} {al : List (Nat × Nat × Nat)} {ro : Nat → Nat → Option Nat} (hst : g.1.stackTraces = false) (hs : SH al ro) {M : Nat → xU} {S : xU} {t : (Int × xU)} (hG : G12_tells S = some t) :
    Cal g yX12_tells cX12_tells 9 (some .int) 2 [x_r (16 * 32 + 0)] (al, ro, fl (ml M [32] [S])) 0 0 (.inl (some (x_i t.1))) (al, ro, fl (ml M [32] [t.2])) := by
  have hn : ([32] : List Nat).Nodup := by decide
  refine cal_of_ev (by decide) (x_c1 rfl) (Nat.le_of_ble_eq_true rfl) hst ?_
  show Ev g _ _ _ _ _ _ 0 [some (x_r (16 * 32 + 0)), none, none, none, none, none, none, none, none] [] (al, ro, fl (ml M [32] [S])) _ _ _ _
  rw [G12_tells] at hG
  refine e_aloadn (pc := 0) (i := 0) dX12_tells_0 rfl rfl ?_
  obtain ⟨v1, S2, hq2, hG⟩ := x_bd2 hG
  refine e_invV (pc := 1) (K1 := 0) (S1 := 0) (K := 0) (S := 0) (dd2 := 1) (av := []) (st := []) (id := 16 * 32 + 0) dX12_tells_1 xmX12_379 rfl (Or.inl ⟨10, 27, TX12, (sa_32_0 hs), rfl, by decide⟩) (f_cal (M := M) (us2 := [32]) [0] hn rfl (And.intro rfl trivial) rfl rfl rfl (c_X12_ruled hst hs   hq2)) (by decide) (Nat.le_of_ble_eq_true rfl) (Or.inl rfl) ?_
  show Ev g _ _ _ _ _ _ 4 [some (x_r (16 * 32 + 0)), none, none, none, none, none, none, none, none] [x_i v1] (al, ro, fl (ml M [32] [S2])) _ _ _ _
  refine e_istoren (pc := 4) (i := 1) dX12_tells_4 rfl (by decide) rfl ?_
  show Ev g _ _ _ _ _ _ 5 [some (x_r (16 * 32 + 0)), some (x_i v1), none, none, none, none, none, none, none] [] (al, ro, fl (ml M [32] [S2])) _ _ _ _
  refine e_aloadn (pc := 5) (i := 0) dX12_tells_5 rfl rfl ?_
  refine e_iloadn (pc := 6) (i := 1) dX12_tells_6 rfl rfl ?_
  refine e_iconst (pc := 7) dX12_tells_7 (x_R rfl) ?_
  obtain ⟨v4, hr4, hG⟩ := x_bd1 hG
  have hjhr4 : Ev g yX12_tells cX12_tells 9 (some .int) [] 2 16 [some (x_r (16 * 32 + 0)), some (x_i v1), none, none, none, none, none, none, none] [x_i v4, x_r (16 * 32 + 0)] (al, ro, fl (ml M [32] [S2])) 0 0 (.inl (some (x_i t.1))) (al, ro, fl (ml M [32] [t.2])) := by
    refine f_puti (pc := 16) (k := 0) (u := 32) (q := 0) dX12_tells_16 xf12_58 xw10_0 (sa_32_0 hs) hn rfl rfl rfl (by decide) ?_
    show Ev g _ _ _ _ _ _ 19 [some (x_r (16 * 32 + 0)), some (x_i v1), none, none, none, none, none, none, none] [] (al, ro, fl (ml M [32] [(x_up S2 0 0 v4)])) _ _ _ _
    refine e_aloadn (pc := 19) (i := 0) dX12_tells_19 rfl rfl ?_
    refine f_geti (pc := 20) (k := 0) (u := 32) (q := 0) dX12_tells_20 xf12_58 (sa_32_0 hs) rfl hn rfl rfl (by decide) ?_
    show Ev g _ _ _ _ _ _ 23 [some (x_r (16 * 32 + 0)), some (x_i v1), none, none, none, none, none, none, none] [x_i ((x_up S2 0 0 v4) 0 0)] (al, ro, fl (ml M [32] [(x_up S2 0 0 v4)])) _ _ _ _
    refine e_if_le (pc := 23) (tgt := 28) dX12_tells_23 (by decide) (fun hb => ?_) (fun hb => ?_)
    · rw [if_pos hb] at hG
      refine e_iconst (pc := 28) dX12_tells_28 (x_R rfl) ?_
      refine e_istoren (pc := 29) (i := 2) dX12_tells_29 rfl (by decide) rfl ?_
      show Ev g _ _ _ _ _ _ 30 [some (x_r (16 * 32 + 0)), some (x_i v1), some (x_i (-1)), none, none, none, none, none, none] [] (al, ro, fl (ml M [32] [(x_up S2 0 0 v4)])) _ _ _ _
      refine e_ldcw (pc := 30) dX12_tells_30 xkX12_327 (x_R rfl) ?_
      refine e_istoren (pc := 33) (i := 3) dX12_tells_33 rfl (by decide) rfl ?_
      show Ev g _ _ _ _ _ _ 34 [some (x_r (16 * 32 + 0)), some (x_i v1), some (x_i (-1)), some (x_i 2000000000), none, none, none, none, none] [] (al, ro, fl (ml M [32] [(x_up S2 0 0 v4)])) _ _ _ _
      refine e_iconst (pc := 34) dX12_tells_34 (x_R rfl) ?_
      refine e_istore (pc := 35) (i := 4) dX12_tells_35 (by decide) rfl ?_
      show Ev g _ _ _ _ _ _ 37 [some (x_r (16 * 32 + 0)), some (x_i v1), some (x_i (-1)), some (x_i 2000000000), some (x_i 0), none, none, none, none] [] (al, ro, fl (ml M [32] [(x_up S2 0 0 v4)])) _ _ _ _
      obtain ⟨v9, hl10, hG⟩ := x_bd1 hG
      have hk10 : ∀ q : Int, q = v9 → Ev g yX12_tells cX12_tells 9 (some .int) [] 2 148 [some (x_r (16 * 32 + 0)), some (x_i v1), some (x_i q), none, none, none, none, none, none] [] (al, ro, fl (ml M [32] [(x_up S2 0 0 v4)])) 0 0 (.inl (some (x_i t.1))) (al, ro, fl (ml M [32] [t.2])) := by
        intro q hq
        replace hq := hq.symm
        subst hq
        refine e_iloadn (pc := 148) (i := 2) dX12_tells_148 rfl rfl ?_
        cases hG
        exact (e_ireturn rfl dX12_tells_149 rfl)
      clear hG
      refine e_whl (G12_tells_L37 v1 S2 v4) (fun z : (Int × Int × Int) => Ev g yX12_tells cX12_tells 9 (some .int) [] 2 37 [some (x_r (16 * 32 + 0)), some (x_i v1), some (x_i z.1), some (x_i z.2.1), some (x_i z.2.2), none, none, none, none] [] (al, ro, fl (ml M [32] [(x_up S2 0 0 v4)])) 0 0 (.inl (some (x_i t.1))) (al, ro, fl (ml M [32] [t.2]))) (fun q => q = v9) ?_ xFU ((-1), 2000000000, 0) _ hl10 rfl
      intro z t10 hf10 hi10 hx10
      obtain ⟨v6, v7, v8⟩ := z
      rw [G12_tells_L37] at hf10
      show Ev g _ _ _ _ _ _ 37 [some (x_r (16 * 32 + 0)), some (x_i v1), some (x_i v6), some (x_i v7), some (x_i v8), none, none, none, none] [] (al, ro, fl (ml M [32] [(x_up S2 0 0 v4)])) _ _ _ _
      refine e_iload (pc := 37) dX12_tells_37 rfl ?_
      refine e_bipush (pc := 39) dX12_tells_39 (by decide +kernel) (x_R rfl) ?_
      refine e_icmp_ge (pc := 41) (tgt := 148) dX12_tells_41 (by decide) (fun hb => ?_) (fun hb => ?_)
      · rw [if_pos hb] at hf10
        cases hf10
        refine e_drop (i := 3) ?_
        refine e_drop (i := 4) ?_
        exact hk10 _ (hx10 _ rfl)
      · rw [if_neg hb] at hf10
        refine e_iloadn (pc := 44) (i := 1) dX12_tells_44 rfl rfl ?_
        refine e_iconst (pc := 45) dX12_tells_45 (x_R rfl) ?_
        refine e_icmp_le (pc := 46) (tgt := 148) dX12_tells_46 (by decide) (fun hb => ?_) (fun hb => ?_)
        · rw [if_pos hb] at hf10
          cases hf10
          refine e_drop (i := 3) ?_
          refine e_drop (i := 4) ?_
          exact hk10 _ (hx10 _ rfl)
        · rw [if_neg hb] at hf10
          refine e_iconst (pc := 49) dX12_tells_49 (x_R rfl) ?_
          refine e_istore (pc := 50) (i := 5) dX12_tells_50 (by decide) rfl ?_
          show Ev g _ _ _ _ _ _ 52 [some (x_r (16 * 32 + 0)), some (x_i v1), some (x_i v6), some (x_i v7), some (x_i v8), some (x_i 0), none, none, none] [] (al, ro, fl (ml M [32] [(x_up S2 0 0 v4)])) _ _ _ _
          refine e_iconst (pc := 52) dX12_tells_52 (x_R rfl) ?_
          refine e_istore (pc := 53) (i := 6) dX12_tells_53 (by decide) rfl ?_
          show Ev g _ _ _ _ _ _ 55 [some (x_r (16 * 32 + 0)), some (x_i v1), some (x_i v6), some (x_i v7), some (x_i v8), some (x_i 0), some (x_i 0), none, none] [] (al, ro, fl (ml M [32] [(x_up S2 0 0 v4)])) _ _ _ _
          obtain ⟨v14, hl15, hf10⟩ := x_bd1 hf10
          have hk15 : ∀ q : Int, q = v14 → Ev g yX12_tells cX12_tells 9 (some .int) [] 2 127 [some (x_r (16 * 32 + 0)), some (x_i v1), some (x_i v6), some (x_i v7), some (x_i v8), some (x_i q), none, none, none] [] (al, ro, fl (ml M [32] [(x_up S2 0 0 v4)])) 0 0 (.inl (some (x_i t.1))) (al, ro, fl (ml M [32] [t.2])) := by
            intro q hq
            replace hq := hq.symm
            subst hq
            refine e_iload (pc := 127) dX12_tells_127 rfl ?_
            refine e_iloadn (pc := 129) (i := 3) dX12_tells_129 rfl rfl ?_
            obtain ⟨v28, v29, hr29, hf10⟩ := x_bd2 hf10
            have hjhr29 : Ev g yX12_tells cX12_tells 9 (some .int) [] 2 142 [some (x_r (16 * 32 + 0)), some (x_i v1), some (x_i v28), some (x_i v29), some (x_i v8), some (x_i v14), none, none, none] [] (al, ro, fl (ml M [32] [(x_up S2 0 0 v4)])) 0 0 (.inl (some (x_i t.1))) (al, ro, fl (ml M [32] [t.2])) := by
              refine e_iinc (pc := 142) dX12_tells_142 rfl (by decide) rfl ?_
              show Ev g _ _ _ _ _ _ 145 [some (x_r (16 * 32 + 0)), some (x_i v1), some (x_i v28), some (x_i v29), some (x_i (x_add v8 1)), some (x_i v14), none, none, none] [] (al, ro, fl (ml M [32] [(x_up S2 0 0 v4)])) _ _ _ _
              refine e_goto (pc := 145) (tgt := 37) dX12_tells_145 (by decide) ?_
              cases hf10
              refine e_drop (i := 5) ?_
              exact hi10 _ rfl
            clear hf10
            refine e_icmp_lt (pc := 130) (tgt := 136) dX12_tells_130 (by decide) (fun hb => ?_) (fun hb => ?_)
            · rw [if_pos hb] at hr29
              refine e_iload (pc := 136) dX12_tells_136 rfl ?_
              refine e_istoren (pc := 138) (i := 3) dX12_tells_138 rfl (by decide) rfl ?_
              show Ev g _ _ _ _ _ _ 139 [some (x_r (16 * 32 + 0)), some (x_i v1), some (x_i v6), some (x_i v14), some (x_i v8), some (x_i v14), none, none, none] [] (al, ro, fl (ml M [32] [(x_up S2 0 0 v4)])) _ _ _ _
              refine e_iload (pc := 139) dX12_tells_139 rfl ?_
              refine e_istoren (pc := 141) (i := 2) dX12_tells_141 rfl (by decide) rfl ?_
              show Ev g _ _ _ _ _ _ 142 [some (x_r (16 * 32 + 0)), some (x_i v1), some (x_i v8), some (x_i v14), some (x_i v8), some (x_i v14), none, none, none] [] (al, ro, fl (ml M [32] [(x_up S2 0 0 v4)])) _ _ _ _
              cases hr29
              exact hjhr29
            · rw [if_neg hb] at hr29
              refine e_goto (pc := 133) (tgt := 142) dX12_tells_133 (by decide) ?_
              cases hr29
              exact hjhr29
          clear hf10
          refine e_whl (G12_tells_L55 S2 v4 v8) (fun z : (Int × Int) => Ev g yX12_tells cX12_tells 9 (some .int) [] 2 55 [some (x_r (16 * 32 + 0)), some (x_i v1), some (x_i v6), some (x_i v7), some (x_i v8), some (x_i z.1), some (x_i z.2), none, none] [] (al, ro, fl (ml M [32] [(x_up S2 0 0 v4)])) 0 0 (.inl (some (x_i t.1))) (al, ro, fl (ml M [32] [t.2]))) (fun q => q = v14) ?_ xFU (0, 0) _ hl15 rfl
          intro z t15 hf15 hi15 hx15
          obtain ⟨v12, v13⟩ := z
          rw [G12_tells_L55] at hf15
          show Ev g _ _ _ _ _ _ 55 [some (x_r (16 * 32 + 0)), some (x_i v1), some (x_i v6), some (x_i v7), some (x_i v8), some (x_i v12), some (x_i v13), none, none] [] (al, ro, fl (ml M [32] [(x_up S2 0 0 v4)])) _ _ _ _
          refine e_iload (pc := 55) dX12_tells_55 rfl ?_
          refine e_iconst (pc := 57) dX12_tells_57 (x_R rfl) ?_
          refine e_icmp_ge (pc := 58) (tgt := 127) dX12_tells_58 (by decide) (fun hb => ?_) (fun hb => ?_)
          · rw [if_pos hb] at hf15
            cases hf15
            refine e_drop (i := 6) ?_
            exact hk15 _ (hx15 _ rfl)
          · rw [if_neg hb] at hf15
            refine e_iconst (pc := 61) dX12_tells_61 (x_R rfl) ?_
            refine e_istore (pc := 62) (i := 7) dX12_tells_62 (by decide) rfl ?_
            show Ev g _ _ _ _ _ _ 64 [some (x_r (16 * 32 + 0)), some (x_i v1), some (x_i v6), some (x_i v7), some (x_i v8), some (x_i v12), some (x_i v13), some (x_i 0), none] [] (al, ro, fl (ml M [32] [(x_up S2 0 0 v4)])) _ _ _ _
            refine e_iconst (pc := 64) dX12_tells_64 (x_R rfl) ?_
            refine e_istore (pc := 65) (i := 8) dX12_tells_65 (by decide) rfl ?_
            show Ev g _ _ _ _ _ _ 67 [some (x_r (16 * 32 + 0)), some (x_i v1), some (x_i v6), some (x_i v7), some (x_i v8), some (x_i v12), some (x_i v13), some (x_i 0), some (x_i 0)] [] (al, ro, fl (ml M [32] [(x_up S2 0 0 v4)])) _ _ _ _
            obtain ⟨v19, hl20, hf15⟩ := x_bd1 hf15
            have hk20 : ∀ q : Int, q = v19 → Ev g yX12_tells cX12_tells 9 (some .int) [] 2 112 [some (x_r (16 * 32 + 0)), some (x_i v1), some (x_i v6), some (x_i v7), some (x_i v8), some (x_i v12), some (x_i v13), some (x_i q), none] [] (al, ro, fl (ml M [32] [(x_up S2 0 0 v4)])) 0 0 (.inl (some (x_i t.1))) (al, ro, fl (ml M [32] [t.2])) := by
              intro q hq
              replace hq := hq.symm
              subst hq
              refine e_iload (pc := 112) dX12_tells_112 rfl ?_
              refine e_iload (pc := 114) dX12_tells_114 rfl ?_
              obtain ⟨v26, hq26, hf15⟩ := x_bd1 hf15
              refine e_invS (pc := 116) (K1 := 0) (S1 := 0) (K := 0) (S := 0) (dd2 := 0) (av := [x_i v12, x_i v19]) (st := []) dX12_tells_116 xmX12_266 rfl (f_cal (M := M) (us2 := []) [] hn rfl trivial rfl rfl rfl (c_X12_greater hst hs   hq26)) (by decide) (Nat.le_of_ble_eq_true rfl) (Or.inl rfl) ?_
              show Ev g _ _ _ _ _ _ 119 [some (x_r (16 * 32 + 0)), some (x_i v1), some (x_i v6), some (x_i v7), some (x_i v8), some (x_i v12), some (x_i v13), some (x_i v19), none] [x_i v26] (al, ro, fl (ml M [32] [(x_up S2 0 0 v4)])) _ _ _ _
              refine e_istore (pc := 119) (i := 5) dX12_tells_119 (by decide) rfl ?_
              show Ev g _ _ _ _ _ _ 121 [some (x_r (16 * 32 + 0)), some (x_i v1), some (x_i v6), some (x_i v7), some (x_i v8), some (x_i v26), some (x_i v13), some (x_i v19), none] [] (al, ro, fl (ml M [32] [(x_up S2 0 0 v4)])) _ _ _ _
              refine e_iinc (pc := 121) dX12_tells_121 rfl (by decide) rfl ?_
              show Ev g _ _ _ _ _ _ 124 [some (x_r (16 * 32 + 0)), some (x_i v1), some (x_i v6), some (x_i v7), some (x_i v8), some (x_i v26), some (x_i (x_add v13 1)), some (x_i v19), none] [] (al, ro, fl (ml M [32] [(x_up S2 0 0 v4)])) _ _ _ _
              refine e_goto (pc := 124) (tgt := 55) dX12_tells_124 (by decide) ?_
              cases hf15
              refine e_drop (i := 7) ?_
              exact hi15 _ rfl
            clear hf15
            refine e_whl (G12_tells_L67 S2 v4 v8 v13) (fun z : (Int × Int) => Ev g yX12_tells cX12_tells 9 (some .int) [] 2 67 [some (x_r (16 * 32 + 0)), some (x_i v1), some (x_i v6), some (x_i v7), some (x_i v8), some (x_i v12), some (x_i v13), some (x_i z.1), some (x_i z.2)] [] (al, ro, fl (ml M [32] [(x_up S2 0 0 v4)])) 0 0 (.inl (some (x_i t.1))) (al, ro, fl (ml M [32] [t.2]))) (fun q => q = v19) ?_ xFU (0, 0) _ hl20 rfl
            intro z t20 hf20 hi20 hx20
            obtain ⟨v17, v18⟩ := z
            rw [G12_tells_L67] at hf20
            show Ev g _ _ _ _ _ _ 67 [some (x_r (16 * 32 + 0)), some (x_i v1), some (x_i v6), some (x_i v7), some (x_i v8), some (x_i v12), some (x_i v13), some (x_i v17), some (x_i v18)] [] (al, ro, fl (ml M [32] [(x_up S2 0 0 v4)])) _ _ _ _
            refine e_iload (pc := 67) dX12_tells_67 rfl ?_
            refine e_bipush (pc := 69) dX12_tells_69 (by decide +kernel) (x_R rfl) ?_
            refine e_icmp_ge (pc := 71) (tgt := 112) dX12_tells_71 (by decide) (fun hb => ?_) (fun hb => ?_)
            · rw [if_pos hb] at hf20
              cases hf20
              refine e_drop (i := 8) ?_
              exact hk20 _ (hx20 _ rfl)
            · rw [if_neg hb] at hf20
              refine e_iload (pc := 74) dX12_tells_74 rfl ?_
              refine e_aloadn (pc := 76) (i := 0) dX12_tells_76 rfl rfl ?_
              refine f_getr (pc := 77) (u := 32) (q := 0) dX12_tells_77 xf12_45 (sa_32_0 hs) rfl (sr_32_0_23 hs) ?_
              refine e_iload (pc := 80) dX12_tells_80 rfl ?_
              obtain ⟨hc0, hf20⟩ := x_gd_some hf20
              refine f_zald (pc := 82) (k := 0) (u := 32) (q := 11) (len := 144) dX12_tells_82 (sa_32_11 hs) hc0 hn rfl rfl (by decide) ?_
              show Ev g _ _ _ _ _ _ 83 [some (x_r (16 * 32 + 0)), some (x_i v1), some (x_i v6), some (x_i v7), some (x_i v8), some (x_i v12), some (x_i v13), some (x_i v17), some (x_i v18)] [x_i ((x_up S2 0 0 v4) 11 (v18).toNat), x_i v17] (al, ro, fl (ml M [32] [(x_up S2 0 0 v4)])) _ _ _ _
              obtain ⟨v22, hr22, hf20⟩ := x_bd1 hf20
              have hjhr22 : Ev g yX12_tells cX12_tells 9 (some .int) [] 2 103 [some (x_r (16 * 32 + 0)), some (x_i v1), some (x_i v6), some (x_i v7), some (x_i v8), some (x_i v12), some (x_i v13), some (x_i v17), some (x_i v18)] [x_i v22, x_i v17] (al, ro, fl (ml M [32] [(x_up S2 0 0 v4)])) 0 0 (.inl (some (x_i t.1))) (al, ro, fl (ml M [32] [t.2])) := by
                refine e_iadd (pc := 103) dX12_tells_103 ?_
                refine e_istore (pc := 104) (i := 7) dX12_tells_104 (by decide) rfl ?_
                show Ev g _ _ _ _ _ _ 106 [some (x_r (16 * 32 + 0)), some (x_i v1), some (x_i v6), some (x_i v7), some (x_i v8), some (x_i v12), some (x_i v13), some (x_i (x_add v17 v22)), some (x_i v18)] [] (al, ro, fl (ml M [32] [(x_up S2 0 0 v4)])) _ _ _ _
                refine e_iinc (pc := 106) dX12_tells_106 rfl (by decide) rfl ?_
                show Ev g _ _ _ _ _ _ 109 [some (x_r (16 * 32 + 0)), some (x_i v1), some (x_i v6), some (x_i v7), some (x_i v8), some (x_i v12), some (x_i v13), some (x_i (x_add v17 v22)), some (x_i (x_add v18 1))] [] (al, ro, fl (ml M [32] [(x_up S2 0 0 v4)])) _ _ _ _
                refine e_goto (pc := 109) (tgt := 67) dX12_tells_109 (by decide) ?_
                cases hf20
                exact hi20 _ rfl
              clear hf20
              refine e_if_eq (pc := 83) (tgt := 102) dX12_tells_83 (by decide) (fun hb => ?_) (fun hb => ?_)
              · rw [if_pos hb] at hr22
                refine e_iconst (pc := 102) dX12_tells_102 (x_R rfl) ?_
                cases hr22
                exact hjhr22
              · rw [if_neg hb] at hr22
                refine e_iload (pc := 86) dX12_tells_86 rfl ?_
                refine e_iload (pc := 88) dX12_tells_88 rfl ?_
                obtain ⟨v24, hq24, hr22⟩ := x_bd1 hr22
                refine e_invS (pc := 90) (K1 := 0) (S1 := 0) (K := 0) (S := 0) (dd2 := 0) (av := [x_i v18, x_i v8]) (st := [x_i v17]) dX12_tells_90 xmX12_376 rfl (f_cal (M := M) (us2 := []) [] hn rfl trivial rfl rfl rfl (c_X12_moodBy hst hs   hq24)) (by decide) (Nat.le_of_ble_eq_true rfl) (Or.inl rfl) ?_
                show Ev g _ _ _ _ _ _ 93 [some (x_r (16 * 32 + 0)), some (x_i v1), some (x_i v6), some (x_i v7), some (x_i v8), some (x_i v12), some (x_i v13), some (x_i v17), some (x_i v18)] [x_i v24, x_i v17] (al, ro, fl (ml M [32] [(x_up S2 0 0 v4)])) _ _ _ _
                refine e_iload (pc := 93) dX12_tells_93 rfl ?_
                refine e_icmp_ne (pc := 95) (tgt := 102) dX12_tells_95 (by decide) (fun hb => ?_) (fun hb => ?_)
                · rw [if_neg hb] at hr22
                  refine e_iconst (pc := 102) dX12_tells_102 (x_R rfl) ?_
                  cases hr22
                  exact hjhr22
                · rw [if_pos hb] at hr22
                  refine e_iconst (pc := 98) dX12_tells_98 (x_R rfl) ?_
                  refine e_goto (pc := 99) (tgt := 103) dX12_tells_99 (by decide) ?_
                  cases hr22
                  exact hjhr22
    · rw [if_neg hb] at hG
      refine e_iconst (pc := 26) dX12_tells_26 (x_R rfl) ?_
      cases hG
      exact (e_ireturn rfl dX12_tells_27 rfl)
  clear hG
  refine e_icmp_ne (pc := 8) (tgt := 15) dX12_tells_8 (by decide) (fun hb => ?_) (fun hb => ?_)
  · rw [if_neg hb] at hr4
    refine e_iconst (pc := 15) dX12_tells_15 (x_R rfl) ?_
    cases hr4
    exact hjhr4
  · rw [if_pos hb] at hr4
    refine e_iconst (pc := 11) dX12_tells_11 (x_R rfl) ?_
    refine e_goto (pc := 12) (tgt := 16) dX12_tells_12 (by decide) ?_
    cases hr4
    exact hjhr4
def G12_share_L42  : (Int × xU) → Option ((Int × xU) ⊕ xU)
  | (v7, S8) => (if 4 ≤ v7 then (some (.inr S8)) else (x_gd ((0 : Int) ≤ (x_add 12 v7) ∧ (x_add 12 v7) < 772) (x_gd ((0 : Int) ≤ v7 ∧ v7 < 4) (some (.inl ((x_add v7 1), (x_up S8 14 (v7).toNat (S8 1 ((x_add 12 v7)).toNat))))))))
def G12_share_L81 (S13 : xU) : (Int × Int) → Option ((Int × Int) ⊕ Int)
  | (v17, v18) => (if 4 ≤ v18 then (some (.inr v17)) else (x_gd ((0 : Int) ≤ v18 ∧ v18 < 4) (x_gd ((0 : Int) ≤ v17 ∧ v17 < 4) (x_b1 (if (S13 14 (v17).toNat) ≤ (S13 14 (v18).toNat) then (some v17) else (some v18)) fun (v22 : Int) => (some (.inl (v22, (x_add v18 1))))))))
def G12_share_L70 (b : Int) : (Int × xU) → Option ((Int × xU) ⊕ xU)
  | (v12, S13) => (if b ≤ v12 then (some (.inr S13)) else (x_b1 (whl xFU (G12_share_L81 S13) (0, 1)) fun (v19 : Int) => (x_gd ((0 : Int) ≤ v19 ∧ v19 < 4) (x_b1 (G12_lesser 999 (x_add (S13 14 (v19).toNat) 1)) fun (v24 : Int) => (x_gd ((0 : Int) ≤ v19 ∧ v19 < 4) (some (.inl ((x_add v12 1), (x_up S13 14 (v19).toNat v24)))))))))
def G12_share (a : Int) (b : Int) (S : xU) : Option (Int × xU) :=
  (x_b1 (G12_isWalk a) fun (v1 : Int) => (x_b1 (if v1 = 0 then (some 1) else (x_b1 (G12_isIn b 0 999) fun (v5 : Int) => (if v5 = 0 then (some 2) else (some 0)))) fun (v3 : Int) => (if ((x_up S 0 0 v3) 0 0) ≤ 0 then (x_b1 (whl xFU G12_share_L42 (0, (x_up S 0 0 v3))) fun (S9 : xU) => (x_b1 (whl xFU (G12_share_L70 b) (0, S9)) fun (S14 : xU) => (x_gd ((0 : Int) ≤ a ∧ a < 4) (some ((S14 14 (a).toNat), S14))))) else (some (0, (x_up S 0 0 v3))))))
set_option maxRecDepth 100000 in
set_option maxHeartbeats 4000000 in
theorem c_X12_share {g : xG} {al : List (Nat × Nat × Nat)} {ro : Nat → Nat → Option Nat} (hst : g.1.stackTraces = false) (hs : SH al ro) {M : Nat → xU} {a : Int} {b : Int} {S : xU} {t : (Int × xU)} (hG : G12_share a b S = some t) :
    Cal g yX12_share cX12_share 6 (some .int) 2 [x_r (16 * 32 + 0), x_i a, x_i b] (al, ro, fl (ml M [32] [S])) 0 0 (.inl (some (x_i t.1))) (al, ro, fl (ml M [32] [t.2])) := by
  have hn : ([32] : List Nat).Nodup := by decide
  refine cal_of_ev (by decide) (x_c1 rfl) (Nat.le_of_ble_eq_true rfl) hst ?_
  show Ev g _ _ _ _ _ _ 0 [some (x_r (16 * 32 + 0)), some (x_i a), some (x_i b), none, none, none] [] (al, ro, fl (ml M [32] [S])) _ _ _ _
  rw [G12_share] at hG
  refine e_aloadn (pc := 0) (i := 0) dX12_share_0 rfl rfl ?_
  refine e_iloadn (pc := 1) (i := 1) dX12_share_1 rfl rfl ?_
  obtain ⟨v1, hq1, hG⟩ := x_bd1 hG
  refine e_invS (pc := 2) (K1 := 0) (S1 := 0) (K := 0) (S := 0) (dd2 := 1) (av := [x_i a]) (st := [x_r (16 * 32 + 0)]) dX12_share_2 xmX12_301 rfl (f_cal (M := M) (us2 := []) [] hn rfl trivial rfl rfl rfl (c_X12_isWalk hst hs   hq1)) (by decide) (Nat.le_of_ble_eq_true rfl) (Or.inl rfl) ?_
  show Ev g _ _ _ _ _ _ 5 [some (x_r (16 * 32 + 0)), some (x_i a), some (x_i b), none, none, none] [x_i v1, x_r (16 * 32 + 0)] (al, ro, fl (ml M [32] [S])) _ _ _ _
  obtain ⟨v3, hr3, hG⟩ := x_bd1 hG
  have hjhr3 : Ev g yX12_share cX12_share 6 (some .int) [] 2 28 [some (x_r (16 * 32 + 0)), some (x_i a), some (x_i b), none, none, none] [x_i v3, x_r (16 * 32 + 0)] (al, ro, fl (ml M [32] [S])) 0 0 (.inl (some (x_i t.1))) (al, ro, fl (ml M [32] [t.2])) := by
    refine f_puti (pc := 28) (k := 0) (u := 32) (q := 0) dX12_share_28 xf12_58 xw10_0 (sa_32_0 hs) hn rfl rfl rfl (by decide) ?_
    show Ev g _ _ _ _ _ _ 31 [some (x_r (16 * 32 + 0)), some (x_i a), some (x_i b), none, none, none] [] (al, ro, fl (ml M [32] [(x_up S 0 0 v3)])) _ _ _ _
    refine e_aloadn (pc := 31) (i := 0) dX12_share_31 rfl rfl ?_
    refine f_geti (pc := 32) (k := 0) (u := 32) (q := 0) dX12_share_32 xf12_58 (sa_32_0 hs) rfl hn rfl rfl (by decide) ?_
    show Ev g _ _ _ _ _ _ 35 [some (x_r (16 * 32 + 0)), some (x_i a), some (x_i b), none, none, none] [x_i ((x_up S 0 0 v3) 0 0)] (al, ro, fl (ml M [32] [(x_up S 0 0 v3)])) _ _ _ _
    refine e_if_le (pc := 35) (tgt := 40) dX12_share_35 (by decide) (fun hb => ?_) (fun hb => ?_)
    · rw [if_pos hb] at hG
      refine e_iconst (pc := 40) dX12_share_40 (x_R rfl) ?_
      refine e_istoren (pc := 41) (i := 3) dX12_share_41 rfl (by decide) rfl ?_
      show Ev g _ _ _ _ _ _ 42 [some (x_r (16 * 32 + 0)), some (x_i a), some (x_i b), some (x_i 0), none, none] [] (al, ro, fl (ml M [32] [(x_up S 0 0 v3)])) _ _ _ _
      obtain ⟨S9, hl10, hG⟩ := x_bd1 hG
      have hk10 : ∀ q : xU, q = S9 → Ev g yX12_share cX12_share 6 (some .int) [] 2 68 [some (x_r (16 * 32 + 0)), some (x_i a), some (x_i b), none, none, none] [] (al, ro, fl (ml M [32] [q])) 0 0 (.inl (some (x_i t.1))) (al, ro, fl (ml M [32] [t.2])) := by
        intro q hq
        replace hq := hq.symm
        subst hq
        refine e_iconst (pc := 68) dX12_share_68 (x_R rfl) ?_
        refine e_istoren (pc := 69) (i := 3) dX12_share_69 rfl (by decide) rfl ?_
        show Ev g _ _ _ _ _ _ 70 [some (x_r (16 * 32 + 0)), some (x_i a), some (x_i b), some (x_i 0), none, none] [] (al, ro, fl (ml M [32] [S9])) _ _ _ _
        obtain ⟨S14, hl15, hG⟩ := x_bd1 hG
        have hk15 : ∀ q : xU, q = S14 → Ev g yX12_share cX12_share 6 (some .int) [] 2 142 [some (x_r (16 * 32 + 0)), some (x_i a), some (x_i b), none, none, none] [] (al, ro, fl (ml M [32] [q])) 0 0 (.inl (some (x_i t.1))) (al, ro, fl (ml M [32] [t.2])) := by
          intro q hq
          replace hq := hq.symm
          subst hq
          refine e_aloadn (pc := 142) (i := 0) dX12_share_142 rfl rfl ?_
          refine f_getr (pc := 143) (u := 32) (q := 0) dX12_share_143 xf12_55 (sa_32_0 hs) rfl (sr_32_0_26 hs) ?_
          refine e_iloadn (pc := 146) (i := 1) dX12_share_146 rfl rfl ?_
          obtain ⟨hc0, hG⟩ := x_gd_some hG
          refine f_iald (pc := 147) (k := 0) (u := 32) (q := 14) (len := 4) dX12_share_147 (sa_32_14 hs) hc0 hn rfl rfl (by decide) ?_
          show Ev g _ _ _ _ _ _ 148 [some (x_r (16 * 32 + 0)), some (x_i a), some (x_i b), none, none, none] [x_i (S14 14 (a).toNat)] (al, ro, fl (ml M [32] [S14])) _ _ _ _
          cases hG
          exact (e_ireturn rfl dX12_share_148 rfl)
        clear hG
        refine e_whl (G12_share_L70 b) (fun z : (Int × xU) => Ev g yX12_share cX12_share 6 (some .int) [] 2 70 [some (x_r (16 * 32 + 0)), some (x_i a), some (x_i b), some (x_i z.1), none, none] [] (al, ro, fl (ml M [32] [z.2])) 0 0 (.inl (some (x_i t.1))) (al, ro, fl (ml M [32] [t.2]))) (fun q => q = S14) ?_ xFU (0, S9) _ hl15 rfl
        intro z t15 hf15 hi15 hx15
        obtain ⟨v12, S13⟩ := z
        rw [G12_share_L70] at hf15
        show Ev g _ _ _ _ _ _ 70 [some (x_r (16 * 32 + 0)), some (x_i a), some (x_i b), some (x_i v12), none, none] [] (al, ro, fl (ml M [32] [S13])) _ _ _ _
        refine e_iloadn (pc := 70) (i := 3) dX12_share_70 rfl rfl ?_
        refine e_iloadn (pc := 71) (i := 2) dX12_share_71 rfl rfl ?_
        refine e_icmp_ge (pc := 72) (tgt := 142) dX12_share_72 (by decide) (fun hb => ?_) (fun hb => ?_)
        · rw [if_pos hb] at hf15
          cases hf15
          refine e_drop (i := 3) ?_
          exact hk15 _ (hx15 _ rfl)
        · rw [if_neg hb] at hf15
          refine e_iconst (pc := 75) dX12_share_75 (x_R rfl) ?_
          refine e_istore (pc := 76) (i := 4) dX12_share_76 (by decide) rfl ?_
          show Ev g _ _ _ _ _ _ 78 [some (x_r (16 * 32 + 0)), some (x_i a), some (x_i b), some (x_i v12), some (x_i 0), none] [] (al, ro, fl (ml M [32] [S13])) _ _ _ _
          refine e_iconst (pc := 78) dX12_share_78 (x_R rfl) ?_
          refine e_istore (pc := 79) (i := 5) dX12_share_79 (by decide) rfl ?_
          show Ev g _ _ _ _ _ _ 81 [some (x_r (16 * 32 + 0)), some (x_i a), some (x_i b), some (x_i v12), some (x_i 0), some (x_i 1)] [] (al, ro, fl (ml M [32] [S13])) _ _ _ _
          obtain ⟨v19, hl20, hf15⟩ := x_bd1 hf15
          have hk20 : ∀ q : Int, q = v19 → Ev g yX12_share cX12_share 6 (some .int) [] 2 114 [some (x_r (16 * 32 + 0)), some (x_i a), some (x_i b), some (x_i v12), some (x_i q), none] [] (al, ro, fl (ml M [32] [S13])) 0 0 (.inl (some (x_i t.1))) (al, ro, fl (ml M [32] [t.2])) := by
            intro q hq
            replace hq := hq.symm
            subst hq
            refine e_aloadn (pc := 114) (i := 0) dX12_share_114 rfl rfl ?_
            refine f_getr (pc := 115) (u := 32) (q := 0) dX12_share_115 xf12_55 (sa_32_0 hs) rfl (sr_32_0_26 hs) ?_
            refine e_iload (pc := 118) dX12_share_118 rfl ?_
            refine e_sipush (pc := 120) dX12_share_120 (by decide +kernel) (x_R rfl) ?_
            refine e_aloadn (pc := 123) (i := 0) dX12_share_123 rfl rfl ?_
            refine f_getr (pc := 124) (u := 32) (q := 0) dX12_share_124 xf12_55 (sa_32_0 hs) rfl (sr_32_0_26 hs) ?_
            refine e_iload (pc := 127) dX12_share_127 rfl ?_
            obtain ⟨hc0, hf15⟩ := x_gd_some hf15
            refine f_iald (pc := 129) (k := 0) (u := 32) (q := 14) (len := 4) dX12_share_129 (sa_32_14 hs) hc0 hn rfl rfl (by decide) ?_
            show Ev g _ _ _ _ _ _ 130 [some (x_r (16 * 32 + 0)), some (x_i a), some (x_i b), some (x_i v12), some (x_i v19), none] [x_i (S13 14 (v19).toNat), x_i 999, x_i v19, x_r (16 * 32 + 14)] (al, ro, fl (ml M [32] [S13])) _ _ _ _
            refine e_iconst (pc := 130) dX12_share_130 (x_R rfl) ?_
            refine e_iadd (pc := 131) dX12_share_131 ?_
            obtain ⟨v24, hq24, hf15⟩ := x_bd1 hf15
            refine e_invS (pc := 132) (K1 := 0) (S1 := 0) (K := 0) (S := 0) (dd2 := 0) (av := [x_i 999, x_i (x_add (S13 14 (v19).toNat) 1)]) (st := [x_i v19, x_r (16 * 32 + 14)]) dX12_share_132 xmX12_73 rfl (f_cal (M := M) (us2 := []) [] hn rfl trivial rfl rfl rfl (c_X12_lesser hst hs   hq24)) (by decide) (Nat.le_of_ble_eq_true rfl) (Or.inl rfl) ?_
            show Ev g _ _ _ _ _ _ 135 [some (x_r (16 * 32 + 0)), some (x_i a), some (x_i b), some (x_i v12), some (x_i v19), none] [x_i v24, x_i v19, x_r (16 * 32 + 14)] (al, ro, fl (ml M [32] [S13])) _ _ _ _
            obtain ⟨hc0, hf15⟩ := x_gd_some hf15
            refine f_iast (pc := 135) (k := 0) (u := 32) (q := 14) (len := 4) dX12_share_135 (sa_32_14 hs) hc0 hn rfl rfl rfl (by decide) ?_
            show Ev g _ _ _ _ _ _ 136 [some (x_r (16 * 32 + 0)), some (x_i a), some (x_i b), some (x_i v12), some (x_i v19), none] [] (al, ro, fl (ml M [32] [(x_up S13 14 (v19).toNat v24)])) _ _ _ _
            refine e_iinc (pc := 136) dX12_share_136 rfl (by decide) rfl ?_
            show Ev g _ _ _ _ _ _ 139 [some (x_r (16 * 32 + 0)), some (x_i a), some (x_i b), some (x_i (x_add v12 1)), some (x_i v19), none] [] (al, ro, fl (ml M [32] [(x_up S13 14 (v19).toNat v24)])) _ _ _ _
            refine e_goto (pc := 139) (tgt := 70) dX12_share_139 (by decide) ?_
            cases hf15
            refine e_drop (i := 4) ?_
            exact hi15 _ rfl
          clear hf15
          refine e_whl (G12_share_L81 S13) (fun z : (Int × Int) => Ev g yX12_share cX12_share 6 (some .int) [] 2 81 [some (x_r (16 * 32 + 0)), some (x_i a), some (x_i b), some (x_i v12), some (x_i z.1), some (x_i z.2)] [] (al, ro, fl (ml M [32] [S13])) 0 0 (.inl (some (x_i t.1))) (al, ro, fl (ml M [32] [t.2]))) (fun q => q = v19) ?_ xFU (0, 1) _ hl20 rfl
          intro z t20 hf20 hi20 hx20
          obtain ⟨v17, v18⟩ := z
          rw [G12_share_L81] at hf20
          show Ev g _ _ _ _ _ _ 81 [some (x_r (16 * 32 + 0)), some (x_i a), some (x_i b), some (x_i v12), some (x_i v17), some (x_i v18)] [] (al, ro, fl (ml M [32] [S13])) _ _ _ _
          refine e_iload (pc := 81) dX12_share_81 rfl ?_
          refine e_iconst (pc := 83) dX12_share_83 (x_R rfl) ?_
          refine e_icmp_ge (pc := 84) (tgt := 114) dX12_share_84 (by decide) (fun hb => ?_) (fun hb => ?_)
          · rw [if_pos hb] at hf20
            cases hf20
            refine e_drop (i := 5) ?_
            exact hk20 _ (hx20 _ rfl)
          · rw [if_neg hb] at hf20
            refine e_aloadn (pc := 87) (i := 0) dX12_share_87 rfl rfl ?_
            refine f_getr (pc := 88) (u := 32) (q := 0) dX12_share_88 xf12_55 (sa_32_0 hs) rfl (sr_32_0_26 hs) ?_
            refine e_iload (pc := 91) dX12_share_91 rfl ?_
            obtain ⟨hc0, hf20⟩ := x_gd_some hf20
            refine f_iald (pc := 93) (k := 0) (u := 32) (q := 14) (len := 4) dX12_share_93 (sa_32_14 hs) hc0 hn rfl rfl (by decide) ?_
            show Ev g _ _ _ _ _ _ 94 [some (x_r (16 * 32 + 0)), some (x_i a), some (x_i b), some (x_i v12), some (x_i v17), some (x_i v18)] [x_i (S13 14 (v18).toNat)] (al, ro, fl (ml M [32] [S13])) _ _ _ _
            refine e_aloadn (pc := 94) (i := 0) dX12_share_94 rfl rfl ?_
            refine f_getr (pc := 95) (u := 32) (q := 0) dX12_share_95 xf12_55 (sa_32_0 hs) rfl (sr_32_0_26 hs) ?_
            refine e_iload (pc := 98) dX12_share_98 rfl ?_
            obtain ⟨hc0, hf20⟩ := x_gd_some hf20
            refine f_iald (pc := 100) (k := 0) (u := 32) (q := 14) (len := 4) dX12_share_100 (sa_32_14 hs) hc0 hn rfl rfl (by decide) ?_
            show Ev g _ _ _ _ _ _ 101 [some (x_r (16 * 32 + 0)), some (x_i a), some (x_i b), some (x_i v12), some (x_i v17), some (x_i v18)] [x_i (S13 14 (v17).toNat), x_i (S13 14 (v18).toNat)] (al, ro, fl (ml M [32] [S13])) _ _ _ _
            obtain ⟨v22, hr22, hf20⟩ := x_bd1 hf20
            have hjhr22 : Ev g yX12_share cX12_share 6 (some .int) [] 2 108 [some (x_r (16 * 32 + 0)), some (x_i a), some (x_i b), some (x_i v12), some (x_i v22), some (x_i v18)] [] (al, ro, fl (ml M [32] [S13])) 0 0 (.inl (some (x_i t.1))) (al, ro, fl (ml M [32] [t.2])) := by
              refine e_iinc (pc := 108) dX12_share_108 rfl (by decide) rfl ?_
              show Ev g _ _ _ _ _ _ 111 [some (x_r (16 * 32 + 0)), some (x_i a), some (x_i b), some (x_i v12), some (x_i v22), some (x_i (x_add v18 1))] [] (al, ro, fl (ml M [32] [S13])) _ _ _ _
              refine e_goto (pc := 111) (tgt := 81) dX12_share_111 (by decide) ?_
              cases hf20
              exact hi20 _ rfl
            clear hf20
            refine e_icmp_ge (pc := 101) (tgt := 108) dX12_share_101 (by decide) (fun hb => ?_) (fun hb => ?_)
            · rw [if_pos hb] at hr22
              cases hr22
              exact hjhr22
            · rw [if_neg hb] at hr22
              refine e_iload (pc := 104) dX12_share_104 rfl ?_
              refine e_istore (pc := 106) (i := 4) dX12_share_106 (by decide) rfl ?_
              show Ev g _ _ _ _ _ _ 108 [some (x_r (16 * 32 + 0)), some (x_i a), some (x_i b), some (x_i v12), some (x_i v18), some (x_i v18)] [] (al, ro, fl (ml M [32] [S13])) _ _ _ _
              cases hr22
              exact hjhr22
      clear hG
      refine e_whl G12_share_L42 (fun z : (Int × xU) => Ev g yX12_share cX12_share 6 (some .int) [] 2 42 [some (x_r (16 * 32 + 0)), some (x_i a), some (x_i b), some (x_i z.1), none, none] [] (al, ro, fl (ml M [32] [z.2])) 0 0 (.inl (some (x_i t.1))) (al, ro, fl (ml M [32] [t.2]))) (fun q => q = S9) ?_ xFU (0, (x_up S 0 0 v3)) _ hl10 rfl
      intro z t10 hf10 hi10 hx10
      obtain ⟨v7, S8⟩ := z
      rw [G12_share_L42] at hf10
      show Ev g _ _ _ _ _ _ 42 [some (x_r (16 * 32 + 0)), some (x_i a), some (x_i b), some (x_i v7), none, none] [] (al, ro, fl (ml M [32] [S8])) _ _ _ _
      refine e_iloadn (pc := 42) (i := 3) dX12_share_42 rfl rfl ?_
      refine e_iconst (pc := 43) dX12_share_43 (x_R rfl) ?_
      refine e_icmp_ge (pc := 44) (tgt := 68) dX12_share_44 (by decide) (fun hb => ?_) (fun hb => ?_)
      · rw [if_pos hb] at hf10
        cases hf10
        refine e_drop (i := 3) ?_
        exact hk10 _ (hx10 _ rfl)
      · rw [if_neg hb] at hf10
        refine e_aloadn (pc := 47) (i := 0) dX12_share_47 rfl rfl ?_
        refine f_getr (pc := 48) (u := 32) (q := 0) dX12_share_48 xf12_55 (sa_32_0 hs) rfl (sr_32_0_26 hs) ?_
        refine e_iloadn (pc := 51) (i := 3) dX12_share_51 rfl rfl ?_
        refine e_aloadn (pc := 52) (i := 0) dX12_share_52 rfl rfl ?_
        refine f_getr (pc := 53) (u := 32) (q := 0) dX12_share_53 xf12_7 (sa_32_0 hs) rfl (sr_32_0_1 hs) ?_
        refine e_bipush (pc := 56) dX12_share_56 (by decide +kernel) (x_R rfl) ?_
        refine e_iloadn (pc := 58) (i := 3) dX12_share_58 rfl rfl ?_
        refine e_iadd (pc := 59) dX12_share_59 ?_
        obtain ⟨hc0, hf10⟩ := x_gd_some hf10
        refine f_iald (pc := 60) (k := 0) (u := 32) (q := 1) (len := 772) dX12_share_60 (sa_32_1 hs) hc0 hn rfl rfl (by decide) ?_
        show Ev g _ _ _ _ _ _ 61 [some (x_r (16 * 32 + 0)), some (x_i a), some (x_i b), some (x_i v7), none, none] [x_i (S8 1 ((x_add 12 v7)).toNat), x_i v7, x_r (16 * 32 + 14)] (al, ro, fl (ml M [32] [S8])) _ _ _ _
        obtain ⟨hc0, hf10⟩ := x_gd_some hf10
        refine f_iast (pc := 61) (k := 0) (u := 32) (q := 14) (len := 4) dX12_share_61 (sa_32_14 hs) hc0 hn rfl rfl rfl (by decide) ?_
        show Ev g _ _ _ _ _ _ 62 [some (x_r (16 * 32 + 0)), some (x_i a), some (x_i b), some (x_i v7), none, none] [] (al, ro, fl (ml M [32] [(x_up S8 14 (v7).toNat (S8 1 ((x_add 12 v7)).toNat))])) _ _ _ _
        refine e_iinc (pc := 62) dX12_share_62 rfl (by decide) rfl ?_
        show Ev g _ _ _ _ _ _ 65 [some (x_r (16 * 32 + 0)), some (x_i a), some (x_i b), some (x_i (x_add v7 1)), none, none] [] (al, ro, fl (ml M [32] [(x_up S8 14 (v7).toNat (S8 1 ((x_add 12 v7)).toNat))])) _ _ _ _
        refine e_goto (pc := 65) (tgt := 42) dX12_share_65 (by decide) ?_
        cases hf10
        exact hi10 _ rfl
    · rw [if_neg hb] at hG
      refine e_iconst (pc := 38) dX12_share_38 (x_R rfl) ?_
      cases hG
      exact (e_ireturn rfl dX12_share_39 rfl)
  clear hG
  refine e_if_ne (pc := 5) (tgt := 12) dX12_share_5 (by decide) (fun hb => ?_) (fun hb => ?_)
  · rw [if_neg hb] at hr3
    refine e_iloadn (pc := 12) (i := 2) dX12_share_12 rfl rfl ?_
    refine e_iconst (pc := 13) dX12_share_13 (x_R rfl) ?_
    refine e_sipush (pc := 14) dX12_share_14 (by decide +kernel) (x_R rfl) ?_
    obtain ⟨v5, hq5, hr3⟩ := x_bd1 hr3
    refine e_invS (pc := 17) (K1 := 0) (S1 := 0) (K := 0) (S := 0) (dd2 := 0) (av := [x_i b, x_i 0, x_i 999]) (st := [x_r (16 * 32 + 0)]) dX12_share_17 xmX12_61 rfl (f_cal (M := M) (us2 := []) [] hn rfl trivial rfl rfl rfl (c_X12_isIn hst hs   hq5)) (by decide) (Nat.le_of_ble_eq_true rfl) (Or.inl rfl) ?_
    show Ev g _ _ _ _ _ _ 20 [some (x_r (16 * 32 + 0)), some (x_i a), some (x_i b), none, none, none] [x_i v5, x_r (16 * 32 + 0)] (al, ro, fl (ml M [32] [S])) _ _ _ _
    refine e_if_ne (pc := 20) (tgt := 27) dX12_share_20 (by decide) (fun hb => ?_) (fun hb => ?_)
    · rw [if_neg hb] at hr3
      refine e_iconst (pc := 27) dX12_share_27 (x_R rfl) ?_
      cases hr3
      exact hjhr3
    · rw [if_pos hb] at hr3
      refine e_iconst (pc := 23) dX12_share_23 (x_R rfl) ?_
      refine e_goto (pc := 24) (tgt := 28) dX12_share_24 (by decide) ?_
      cases hr3
      exact hjhr3
  · rw [if_pos hb] at hr3
    refine e_iconst (pc := 8) dX12_share_8 (x_R rfl) ?_
    refine e_goto (pc := 9) (tgt := 28) dX12_share_9 (by decide) ?_
    cases hr3
    exact hjhr3
def G12_inWalk_L5 (a : Int) (b : Int) (S : xU) : (Int × Int) → Option ((Int × Int) ⊕ Int)
  | (v1, v2) => (if (S 1 3) ≤ v2 then (some (.inr v1)) else (x_b1 (G12_of v2 0 S) fun (v6 : Int) => (x_b1 (if (x_div v6 4) = a then (if b = 0 then (x_b1 (G12_isLost v2 S) fun (v10 : Int) => (if v10 = 0 then (some 1) else (some 0))) else (some 1)) else (some 0)) fun (v8 : Int) => (some (.inl ((x_add v1 v8), (x_add v2 1)))))))
def G12_inWalk (a : Int) (b : Int) (S : xU) : Option Int :=
  (x_b1 (whl xFU (G12_inWalk_L5 a b S) (0, 0)) fun (v3 : Int) => (some v3))
set_option maxRecDepth 100000 in
set_option maxHeartbeats 4000000 in
theorem c_X12_inWalk {g : xG} {al : List (Nat × Nat × Nat)} {ro : Nat → Nat → Option Nat} (hst : g.1.stackTraces = false) (hs : SH al ro) {M : Nat → xU} {a : Int} {b : Int} {S : xU} {t : Int} (hG : G12_inWalk a b S = some t) :
    Cal g yX12_inWalk cX12_inWalk 5 (some .int) 2 [x_r (16 * 32 + 0), x_i a, x_i b] (al, ro, fl (ml M [32] [S])) 0 0 (.inl (some (x_i t))) (al, ro, fl (ml M [32] [S])) := by
  have hn : ([32] : List Nat).Nodup := by decide
  refine cal_of_ev (by decide) (x_c1 rfl) (Nat.le_of_ble_eq_true rfl) hst ?_
  show Ev g _ _ _ _ _ _ 0 [some (x_r (16 * 32 + 0)), some (x_i a), some (x_i b), none, none] [] (al, ro, fl (ml M [32] [S])) _ _ _ _
  rw [G12_inWalk] at hG
  refine e_iconst (pc := 0) dX12_inWalk_0 (x_R rfl) ?_
  refine e_istoren (pc := 1) (i := 3) dX12_inWalk_1 rfl (by decide) rfl ?_
  show Ev g _ _ _ _ _ _ 2 [some (x_r (16 * 32 + 0)), some (x_i a), some (x_i b), some (x_i 0), none] [] (al, ro, fl (ml M [32] [S])) _ _ _ _
  refine e_iconst (pc := 2) dX12_inWalk_2 (x_R rfl) ?_
  refine e_istore (pc := 3) (i := 4) dX12_inWalk_3 (by decide) rfl ?_
  show Ev g _ _ _ _ _ _ 5 [some (x_r (16 * 32 + 0)), some (x_i a), some (x_i b), some (x_i 0), some (x_i 0)] [] (al, ro, fl (ml M [32] [S])) _ _ _ _
  obtain ⟨v3, hl4, hG⟩ := x_bd1 hG
  have hk4 : ∀ q : Int, q = v3 → Ev g yX12_inWalk cX12_inWalk 5 (some .int) [] 2 56 [some (x_r (16 * 32 + 0)), some (x_i a), some (x_i b), some (x_i q), none] [] (al, ro, fl (ml M [32] [S])) 0 0 (.inl (some (x_i t))) (al, ro, fl (ml M [32] [S])) := by
    intro q hq
    replace hq := hq.symm
    subst hq
    refine e_iloadn (pc := 56) (i := 3) dX12_inWalk_56 rfl rfl ?_
    cases hG
    exact (e_ireturn rfl dX12_inWalk_57 rfl)
  clear hG
  refine e_whl (G12_inWalk_L5 a b S) (fun z : (Int × Int) => Ev g yX12_inWalk cX12_inWalk 5 (some .int) [] 2 5 [some (x_r (16 * 32 + 0)), some (x_i a), some (x_i b), some (x_i z.1), some (x_i z.2)] [] (al, ro, fl (ml M [32] [S])) 0 0 (.inl (some (x_i t))) (al, ro, fl (ml M [32] [S]))) (fun q => q = v3) ?_ xFU (0, 0) _ hl4 rfl
  intro z t4 hf4 hi4 hx4
  obtain ⟨v1, v2⟩ := z
  rw [G12_inWalk_L5] at hf4
  show Ev g _ _ _ _ _ _ 5 [some (x_r (16 * 32 + 0)), some (x_i a), some (x_i b), some (x_i v1), some (x_i v2)] [] (al, ro, fl (ml M [32] [S])) _ _ _ _
  refine e_iload (pc := 5) dX12_inWalk_5 rfl ?_
  refine e_aloadn (pc := 7) (i := 0) dX12_inWalk_7 rfl rfl ?_
  refine f_getr (pc := 8) (u := 32) (q := 0) dX12_inWalk_8 xf12_7 (sa_32_0 hs) rfl (sr_32_0_1 hs) ?_
  refine e_iconst (pc := 11) dX12_inWalk_11 (x_R rfl) ?_
  refine f_iald (pc := 12) (k := 0) (u := 32) (q := 1) (len := 772) dX12_inWalk_12 (sa_32_1 hs) (by decide) hn rfl rfl (by decide) ?_
  show Ev g _ _ _ _ _ _ 13 [some (x_r (16 * 32 + 0)), some (x_i a), some (x_i b), some (x_i v1), some (x_i v2)] [x_i (S 1 3), x_i v2] (al, ro, fl (ml M [32] [S])) _ _ _ _
  refine e_icmp_ge (pc := 13) (tgt := 56) dX12_inWalk_13 (by decide) (fun hb => ?_) (fun hb => ?_)
  · rw [if_pos hb] at hf4
    cases hf4
    refine e_drop (i := 4) ?_
    exact hk4 _ (hx4 _ rfl)
  · rw [if_neg hb] at hf4
    refine e_iloadn (pc := 16) (i := 3) dX12_inWalk_16 rfl rfl ?_
    refine e_aloadn (pc := 17) (i := 0) dX12_inWalk_17 rfl rfl ?_
    refine e_iload (pc := 18) dX12_inWalk_18 rfl ?_
    refine e_iconst (pc := 20) dX12_inWalk_20 (x_R rfl) ?_
    obtain ⟨v6, hq6, hf4⟩ := x_bd1 hf4
    refine e_invV (pc := 21) (K1 := 0) (S1 := 0) (K := 0) (S := 0) (dd2 := 0) (av := [x_i v2, x_i 0]) (st := [x_i v1]) (id := 16 * 32 + 0) dX12_inWalk_21 xmX12_65 rfl (Or.inl ⟨10, 27, TX12, (sa_32_0 hs), rfl, by decide⟩) (f_cal (M := M) (us2 := [32]) [0] hn rfl (And.intro rfl trivial) rfl rfl rfl (c_X12_of hst hs   hq6)) (by decide) (Nat.le_of_ble_eq_true rfl) (Or.inl rfl) ?_
    show Ev g _ _ _ _ _ _ 24 [some (x_r (16 * 32 + 0)), some (x_i a), some (x_i b), some (x_i v1), some (x_i v2)] [x_i v6, x_i v1] (al, ro, fl (ml M [32] [S])) _ _ _ _
    refine e_iconst (pc := 24) dX12_inWalk_24 (x_R rfl) ?_
    refine e_idiv (pc := 25) dX12_inWalk_25 (by decide) ?_
    refine e_iloadn (pc := 26) (i := 1) dX12_inWalk_26 rfl rfl ?_
    obtain ⟨v8, hr8, hf4⟩ := x_bd1 hf4
    have hjhr8 : Ev g yX12_inWalk cX12_inWalk 5 (some .int) [] 2 48 [some (x_r (16 * 32 + 0)), some (x_i a), some (x_i b), some (x_i v1), some (x_i v2)] [x_i v8, x_i v1] (al, ro, fl (ml M [32] [S])) 0 0 (.inl (some (x_i t))) (al, ro, fl (ml M [32] [S])) := by
      refine e_iadd (pc := 48) dX12_inWalk_48 ?_
      refine e_istoren (pc := 49) (i := 3) dX12_inWalk_49 rfl (by decide) rfl ?_
      show Ev g _ _ _ _ _ _ 50 [some (x_r (16 * 32 + 0)), some (x_i a), some (x_i b), some (x_i (x_add v1 v8)), some (x_i v2)] [] (al, ro, fl (ml M [32] [S])) _ _ _ _
      refine e_iinc (pc := 50) dX12_inWalk_50 rfl (by decide) rfl ?_
      show Ev g _ _ _ _ _ _ 53 [some (x_r (16 * 32 + 0)), some (x_i a), some (x_i b), some (x_i (x_add v1 v8)), some (x_i (x_add v2 1))] [] (al, ro, fl (ml M [32] [S])) _ _ _ _
      refine e_goto (pc := 53) (tgt := 5) dX12_inWalk_53 (by decide) ?_
      cases hf4
      exact hi4 _ rfl
    clear hf4
    refine e_icmp_ne (pc := 27) (tgt := 47) dX12_inWalk_27 (by decide) (fun hb => ?_) (fun hb => ?_)
    · rw [if_neg hb] at hr8
      refine e_iconst (pc := 47) dX12_inWalk_47 (x_R rfl) ?_
      cases hr8
      exact hjhr8
    · rw [if_pos hb] at hr8
      refine e_iloadn (pc := 30) (i := 2) dX12_inWalk_30 rfl rfl ?_
      refine e_if_ne (pc := 31) (tgt := 43) dX12_inWalk_31 (by decide) (fun hb => ?_) (fun hb => ?_)
      · rw [if_neg hb] at hr8
        refine e_iconst (pc := 43) dX12_inWalk_43 (x_R rfl) ?_
        refine e_goto (pc := 44) (tgt := 48) dX12_inWalk_44 (by decide) ?_
        cases hr8
        exact hjhr8
      · rw [if_pos hb] at hr8
        refine e_aloadn (pc := 34) (i := 0) dX12_inWalk_34 rfl rfl ?_
        refine e_iload (pc := 35) dX12_inWalk_35 rfl ?_
        obtain ⟨v10, hq10, hr8⟩ := x_bd1 hr8
        refine e_invV (pc := 37) (K1 := 0) (S1 := 0) (K := 0) (S := 0) (dd2 := 1) (av := [x_i v2]) (st := [x_i v1]) (id := 16 * 32 + 0) dX12_inWalk_37 xmX12_69 rfl (Or.inl ⟨10, 27, TX12, (sa_32_0 hs), rfl, by decide⟩) (f_cal (M := M) (us2 := [32]) [0] hn rfl (And.intro rfl trivial) rfl rfl rfl (c_X12_isLost hst hs   hq10)) (by decide) (Nat.le_of_ble_eq_true rfl) (Or.inl rfl) ?_
        show Ev g _ _ _ _ _ _ 40 [some (x_r (16 * 32 + 0)), some (x_i a), some (x_i b), some (x_i v1), some (x_i v2)] [x_i v10, x_i v1] (al, ro, fl (ml M [32] [S])) _ _ _ _
        refine e_if_ne (pc := 40) (tgt := 47) dX12_inWalk_40 (by decide) (fun hb => ?_) (fun hb => ?_)
        · rw [if_neg hb] at hr8
          refine e_iconst (pc := 47) dX12_inWalk_47 (x_R rfl) ?_
          cases hr8
          exact hjhr8
        · rw [if_pos hb] at hr8
          refine e_iconst (pc := 43) dX12_inWalk_43 (x_R rfl) ?_
          refine e_goto (pc := 44) (tgt := 48) dX12_inWalk_44 (by decide) ?_
          cases hr8
          exact hjhr8
def G12_feeds (a : Int) (S : xU) : Option (Int × xU) :=
  (x_b1 (G12_isWalk a) fun (v1 : Int) => (x_b1 (if v1 = 0 then (some 1) else (some 0)) fun (v3 : Int) => (if ((x_up S 0 0 v3) 0 0) ≤ 0 then (x_b1 (G12_inWalk a 0 (x_up S 0 0 v3)) fun (v5 : Int) => (x_b1 (if v5 = 0 then (some (-1)) else (x_gd ((0 : Int) ≤ (x_add 12 a) ∧ (x_add 12 a) < 772) (x_gd (v5 ≠ 0) (some (x_div ((x_up S 0 0 v3) 1 ((x_add 12 a)).toNat) v5))))) fun (v7 : Int) => (some (v7, (x_up S 0 0 v3))))) else (some (0, (x_up S 0 0 v3))))))
set_option maxRecDepth 100000 in
set_option maxHeartbeats 4000000 in
theorem c_X12_feeds {g : xG} {al : List (Nat × Nat × Nat)} {ro : Nat → Nat → Option Nat} (hst : g.1.stackTraces = false) (hs : SH al ro) {M : Nat → xU} {a : Int} {S : xU} {t : (Int × xU)} (hG : G12_feeds a S = some t) :
    Cal g yX12_feeds cX12_feeds 3 (some .int) 3 [x_r (16 * 32 + 0), x_i a] (al, ro, fl (ml M [32] [S])) 0 0 (.inl (some (x_i t.1))) (al, ro, fl (ml M [32] [t.2])) := by
  have hn : ([32] : List Nat).Nodup := by decide
  refine cal_of_ev (by decide) (x_c1 rfl) (Nat.le_of_ble_eq_true rfl) hst ?_
  show Ev g _ _ _ _ _ _ 0 [some (x_r (16 * 32 + 0)), some (x_i a), none] [] (al, ro, fl (ml M [32] [S])) _ _ _ _
  rw [G12_feeds] at hG
  refine e_aloadn (pc := 0) (i := 0) dX12_feeds_0 rfl rfl ?_
  refine e_iloadn (pc := 1) (i := 1) dX12_feeds_1 rfl rfl ?_
  obtain ⟨v1, hq1, hG⟩ := x_bd1 hG
  refine e_invS (pc := 2) (K1 := 0) (S1 := 0) (K := 0) (S := 0) (dd2 := 1) (av := [x_i a]) (st := [x_r (16 * 32 + 0)]) dX12_feeds_2 xmX12_301 rfl (f_cal (M := M) (us2 := []) [] hn rfl trivial rfl rfl rfl (c_X12_isWalk hst hs   hq1)) (by decide) (Nat.le_of_ble_eq_true rfl) (Or.inl rfl) ?_
  show Ev g _ _ _ _ _ _ 5 [some (x_r (16 * 32 + 0)), some (x_i a), none] [x_i v1, x_r (16 * 32 + 0)] (al, ro, fl (ml M [32] [S])) _ _ _ _
  obtain ⟨v3, hr3, hG⟩ := x_bd1 hG
  have hjhr3 : Ev g yX12_feeds cX12_feeds 3 (some .int) [] 3 13 [some (x_r (16 * 32 + 0)), some (x_i a), none] [x_i v3, x_r (16 * 32 + 0)] (al, ro, fl (ml M [32] [S])) 0 0 (.inl (some (x_i t.1))) (al, ro, fl (ml M [32] [t.2])) := by
    refine f_puti (pc := 13) (k := 0) (u := 32) (q := 0) dX12_feeds_13 xf12_58 xw10_0 (sa_32_0 hs) hn rfl rfl rfl (by decide) ?_
    show Ev g _ _ _ _ _ _ 16 [some (x_r (16 * 32 + 0)), some (x_i a), none] [] (al, ro, fl (ml M [32] [(x_up S 0 0 v3)])) _ _ _ _
    refine e_aloadn (pc := 16) (i := 0) dX12_feeds_16 rfl rfl ?_
    refine f_geti (pc := 17) (k := 0) (u := 32) (q := 0) dX12_feeds_17 xf12_58 (sa_32_0 hs) rfl hn rfl rfl (by decide) ?_
    show Ev g _ _ _ _ _ _ 20 [some (x_r (16 * 32 + 0)), some (x_i a), none] [x_i ((x_up S 0 0 v3) 0 0)] (al, ro, fl (ml M [32] [(x_up S 0 0 v3)])) _ _ _ _
    refine e_if_le (pc := 20) (tgt := 25) dX12_feeds_20 (by decide) (fun hb => ?_) (fun hb => ?_)
    · rw [if_pos hb] at hG
      refine e_aloadn (pc := 25) (i := 0) dX12_feeds_25 rfl rfl ?_
      refine e_iloadn (pc := 26) (i := 1) dX12_feeds_26 rfl rfl ?_
      refine e_iconst (pc := 27) dX12_feeds_27 (x_R rfl) ?_
      obtain ⟨v5, hq5, hG⟩ := x_bd1 hG
      refine e_invV (pc := 28) (K1 := 0) (S1 := 0) (K := 0) (S := 0) (dd2 := 2) (av := [x_i a, x_i 0]) (st := []) (id := 16 * 32 + 0) dX12_feeds_28 xmX12_382 rfl (Or.inl ⟨10, 27, TX12, (sa_32_0 hs), rfl, by decide⟩) (f_cal (M := M) (us2 := [32]) [0] hn rfl (And.intro rfl trivial) rfl rfl rfl (c_X12_inWalk hst hs   hq5)) (by decide) (Nat.le_of_ble_eq_true rfl) (Or.inl rfl) ?_
      show Ev g _ _ _ _ _ _ 31 [some (x_r (16 * 32 + 0)), some (x_i a), none] [x_i v5] (al, ro, fl (ml M [32] [(x_up S 0 0 v3)])) _ _ _ _
      refine e_istoren (pc := 31) (i := 2) dX12_feeds_31 rfl (by decide) rfl ?_
      show Ev g _ _ _ _ _ _ 32 [some (x_r (16 * 32 + 0)), some (x_i a), some (x_i v5)] [] (al, ro, fl (ml M [32] [(x_up S 0 0 v3)])) _ _ _ _
      refine e_iloadn (pc := 32) (i := 2) dX12_feeds_32 rfl rfl ?_
      obtain ⟨v7, hr7, hG⟩ := x_bd1 hG
      have hjhr7 : Ev g yX12_feeds cX12_feeds 3 (some .int) [] 3 51 [some (x_r (16 * 32 + 0)), some (x_i a), some (x_i v5)] [x_i v7] (al, ro, fl (ml M [32] [(x_up S 0 0 v3)])) 0 0 (.inl (some (x_i t.1))) (al, ro, fl (ml M [32] [t.2])) := by
        cases hG
        exact (e_ireturn rfl dX12_feeds_51 rfl)
      clear hG
      refine e_if_ne (pc := 33) (tgt := 40) dX12_feeds_33 (by decide) (fun hb => ?_) (fun hb => ?_)
      · rw [if_neg hb] at hr7
        refine e_aloadn (pc := 40) (i := 0) dX12_feeds_40 rfl rfl ?_
        refine f_getr (pc := 41) (u := 32) (q := 0) dX12_feeds_41 xf12_7 (sa_32_0 hs) rfl (sr_32_0_1 hs) ?_
        refine e_bipush (pc := 44) dX12_feeds_44 (by decide +kernel) (x_R rfl) ?_
        refine e_iloadn (pc := 46) (i := 1) dX12_feeds_46 rfl rfl ?_
        refine e_iadd (pc := 47) dX12_feeds_47 ?_
        obtain ⟨hc0, hr7⟩ := x_gd_some hr7
        refine f_iald (pc := 48) (k := 0) (u := 32) (q := 1) (len := 772) dX12_feeds_48 (sa_32_1 hs) hc0 hn rfl rfl (by decide) ?_
        show Ev g _ _ _ _ _ _ 49 [some (x_r (16 * 32 + 0)), some (x_i a), some (x_i v5)] [x_i ((x_up S 0 0 v3) 1 ((x_add 12 a)).toNat)] (al, ro, fl (ml M [32] [(x_up S 0 0 v3)])) _ _ _ _
        refine e_iloadn (pc := 49) (i := 2) dX12_feeds_49 rfl rfl ?_
        obtain ⟨hc0, hr7⟩ := x_gd_some hr7
        refine e_idiv (pc := 50) dX12_feeds_50 hc0 ?_
        cases hr7
        exact hjhr7
      · rw [if_pos hb] at hr7
        refine e_iconst (pc := 36) dX12_feeds_36 (x_R rfl) ?_
        refine e_goto (pc := 37) (tgt := 51) dX12_feeds_37 (by decide) ?_
        cases hr7
        exact hjhr7
    · rw [if_neg hb] at hG
      refine e_iconst (pc := 23) dX12_feeds_23 (x_R rfl) ?_
      cases hG
      exact (e_ireturn rfl dX12_feeds_24 rfl)
  clear hG
  refine e_if_ne (pc := 5) (tgt := 12) dX12_feeds_5 (by decide) (fun hb => ?_) (fun hb => ?_)
  · rw [if_neg hb] at hr3
    refine e_iconst (pc := 12) dX12_feeds_12 (x_R rfl) ?_
    cases hr3
    exact hjhr3
  · rw [if_pos hb] at hr3
    refine e_iconst (pc := 8) dX12_feeds_8 (x_R rfl) ?_
    refine e_goto (pc := 9) (tgt := 13) dX12_feeds_9 (by decide) ?_
    cases hr3
    exact hjhr3
def G12_both (a : Int) (b : Int) (S : xU) : Option Int :=
  (x_b1 (G12_of a 3 S) fun (v1 : Int) => (x_b1 (G12_of b 3 S) fun (v3 : Int) => (x_b1 (G12_bits (x_and v1 v3)) fun (v5 : Int) => (some v5))))
set_option maxRecDepth 100000 in
set_option maxHeartbeats 4000000 in
theorem c_X12_both {g : xG} {al : List (Nat × Nat × Nat)} {ro : Nat → Nat → Option Nat} (hst : g.1.stackTraces = false) (hs : SH al ro) {M : Nat → xU} {a : Int} {b : Int} {S : xU} {t : Int} (hG : G12_both a b S = some t) :
    Cal g yX12_both cX12_both 3 (some .int) 1 [x_r (16 * 32 + 0), x_i a, x_i b] (al, ro, fl (ml M [32] [S])) 0 0 (.inl (some (x_i t))) (al, ro, fl (ml M [32] [S])) := by
  have hn : ([32] : List Nat).Nodup := by decide
  refine cal_of_ev (by decide) (x_c1 rfl) (Nat.le_of_ble_eq_true rfl) hst ?_
  show Ev g _ _ _ _ _ _ 0 [some (x_r (16 * 32 + 0)), some (x_i a), some (x_i b)] [] (al, ro, fl (ml M [32] [S])) _ _ _ _
  rw [G12_both] at hG
  refine e_aloadn (pc := 0) (i := 0) dX12_both_0 rfl rfl ?_
  refine e_iloadn (pc := 1) (i := 1) dX12_both_1 rfl rfl ?_
  refine e_iconst (pc := 2) dX12_both_2 (x_R rfl) ?_
  obtain ⟨v1, hq1, hG⟩ := x_bd1 hG
  refine e_invV (pc := 3) (K1 := 0) (S1 := 0) (K := 0) (S := 0) (dd2 := 0) (av := [x_i a, x_i 3]) (st := []) (id := 16 * 32 + 0) dX12_both_3 xmX12_65 rfl (Or.inl ⟨10, 27, TX12, (sa_32_0 hs), rfl, by decide⟩) (f_cal (M := M) (us2 := [32]) [0] hn rfl (And.intro rfl trivial) rfl rfl rfl (c_X12_of hst hs   hq1)) (by decide) (Nat.le_of_ble_eq_true rfl) (Or.inl rfl) ?_
  show Ev g _ _ _ _ _ _ 6 [some (x_r (16 * 32 + 0)), some (x_i a), some (x_i b)] [x_i v1] (al, ro, fl (ml M [32] [S])) _ _ _ _
  refine e_aloadn (pc := 6) (i := 0) dX12_both_6 rfl rfl ?_
  refine e_iloadn (pc := 7) (i := 2) dX12_both_7 rfl rfl ?_
  refine e_iconst (pc := 8) dX12_both_8 (x_R rfl) ?_
  obtain ⟨v3, hq3, hG⟩ := x_bd1 hG
  refine e_invV (pc := 9) (K1 := 0) (S1 := 0) (K := 0) (S := 0) (dd2 := 0) (av := [x_i b, x_i 3]) (st := [x_i v1]) (id := 16 * 32 + 0) dX12_both_9 xmX12_65 rfl (Or.inl ⟨10, 27, TX12, (sa_32_0 hs), rfl, by decide⟩) (f_cal (M := M) (us2 := [32]) [0] hn rfl (And.intro rfl trivial) rfl rfl rfl (c_X12_of hst hs   hq3)) (by decide) (Nat.le_of_ble_eq_true rfl) (Or.inl rfl) ?_
  show Ev g _ _ _ _ _ _ 12 [some (x_r (16 * 32 + 0)), some (x_i a), some (x_i b)] [x_i v3, x_i v1] (al, ro, fl (ml M [32] [S])) _ _ _ _
  refine e_iand (pc := 12) dX12_both_12 ?_
  obtain ⟨v5, hq5, hG⟩ := x_bd1 hG
  refine e_invS (pc := 13) (K1 := 0) (S1 := 0) (K := 0) (S := 0) (dd2 := 0) (av := [x_i (x_and v1 v3)]) (st := []) dX12_both_13 xmX12_352 rfl (f_cal (M := M) (us2 := []) [] hn rfl trivial rfl rfl rfl (c_X12_bits hst hs   hq5)) (by decide) (Nat.le_of_ble_eq_true rfl) (Or.inl rfl) ?_
  show Ev g _ _ _ _ _ _ 16 [some (x_r (16 * 32 + 0)), some (x_i a), some (x_i b)] [x_i v5] (al, ro, fl (ml M [32] [S])) _ _ _ _
  cases hG
  exact (e_ireturn rfl dX12_both_16 rfl)
def G12_lowest_L2 (a : Int) : Int → Option (Int ⊕ Int)
  | v1 => (x_b1 (G12_isOf a v1) fun (v5 : Int) => (if v5 = 0 then (some (.inl (x_add v1 1))) else (some (.inr v1))))
def G12_lowest (a : Int) : Option Int :=
  (x_b1 (whl xFU (G12_lowest_L2 a) 0) fun (v2 : Int) => (some v2))
set_option maxRecDepth 100000 in
set_option maxHeartbeats 4000000 in
theorem c_X12_lowest {g : xG} {al : List (Nat × Nat × Nat)} {ro : Nat → Nat → Option Nat} (hst : g.1.stackTraces = false) (hs : SH al ro) {M : Nat → xU} {a : Int} {t : Int} (hG : G12_lowest a = some t) :
    Cal g yX12_lowest cX12_lowest 2 (some .int) 1 [x_i a] (al, ro, fl (ml M [] [])) 0 0 (.inl (some (x_i t))) (al, ro, fl (ml M [] [])) := by
  have hn : ([] : List Nat).Nodup := by decide
  refine cal_of_ev (by decide) (x_c1 rfl) (Nat.le_of_ble_eq_true rfl) hst ?_
  show Ev g _ _ _ _ _ _ 0 [some (x_i a), none] [] (al, ro, fl (ml M [] [])) _ _ _ _
  rw [G12_lowest] at hG
  refine e_iconst (pc := 0) dX12_lowest_0 (x_R rfl) ?_
  refine e_istoren (pc := 1) (i := 1) dX12_lowest_1 rfl (by decide) rfl ?_
  show Ev g _ _ _ _ _ _ 2 [some (x_i a), some (x_i 0)] [] (al, ro, fl (ml M [] [])) _ _ _ _
  obtain ⟨v2, hl3, hG⟩ := x_bd1 hG
  have hk3 : ∀ q : Int, q = v2 → Ev g yX12_lowest cX12_lowest 2 (some .int) [] 1 16 [some (x_i a), some (x_i q)] [] (al, ro, fl (ml M [] [])) 0 0 (.inl (some (x_i t))) (al, ro, fl (ml M [] [])) := by
    intro q hq
    replace hq := hq.symm
    subst hq
    refine e_iloadn (pc := 16) (i := 1) dX12_lowest_16 rfl rfl ?_
    cases hG
    exact (e_ireturn rfl dX12_lowest_17 rfl)
  clear hG
  refine e_whl (G12_lowest_L2 a) (fun z : Int => Ev g yX12_lowest cX12_lowest 2 (some .int) [] 1 2 [some (x_i a), some (x_i z)] [] (al, ro, fl (ml M [] [])) 0 0 (.inl (some (x_i t))) (al, ro, fl (ml M [] []))) (fun q => q = v2) ?_ xFU 0 _ hl3 rfl
  intro z t3 hf3 hi3 hx3
  obtain ⟨v1, hzz⟩ : ∃ y, y = z := ⟨z, rfl⟩
  subst hzz
  rw [G12_lowest_L2] at hf3
  show Ev g _ _ _ _ _ _ 2 [some (x_i a), some (x_i v1)] [] (al, ro, fl (ml M [] [])) _ _ _ _
  refine e_iloadn (pc := 2) (i := 0) dX12_lowest_2 rfl rfl ?_
  refine e_iloadn (pc := 3) (i := 1) dX12_lowest_3 rfl rfl ?_
  obtain ⟨v5, hq5, hf3⟩ := x_bd1 hf3
  refine e_invS (pc := 4) (K1 := 0) (S1 := 0) (K := 0) (S := 0) (dd2 := 0) (av := [x_i a, x_i v1]) (st := []) dX12_lowest_4 xmX12_119 rfl (f_cal (M := M) (us2 := []) [] hn rfl trivial rfl rfl rfl (c_X12_isOf hst hs   hq5)) (by decide) (Nat.le_of_ble_eq_true rfl) (Or.inl rfl) ?_
  show Ev g _ _ _ _ _ _ 7 [some (x_i a), some (x_i v1)] [x_i v5] (al, ro, fl (ml M [] [])) _ _ _ _
  refine e_if_ne (pc := 7) (tgt := 16) dX12_lowest_7 (by decide) (fun hb => ?_) (fun hb => ?_)
  · rw [if_neg hb] at hf3
    cases hf3
    exact hk3 _ (hx3 _ rfl)
  · rw [if_pos hb] at hf3
    refine e_iinc (pc := 10) dX12_lowest_10 rfl (by decide) rfl ?_
    show Ev g _ _ _ _ _ _ 13 [some (x_i a), some (x_i (x_add v1 1))] [] (al, ro, fl (ml M [] [])) _ _ _ _
    refine e_goto (pc := 13) (tgt := 2) dX12_lowest_13 (by decide) ?_
    cases hf3
    exact hi3 _ rfl
def G12_allBest_L47 (v1 : Int) (v8 : Int) : (Int × xU) → Option ((Int × xU) ⊕ xU)
  | (v10, S11) => (if (S11 1 3) ≤ v10 then (some (.inr S11)) else (x_b1 (G12_isOf (x_and v1 (x_xor (x_shl 1 v8) (-1))) v10) fun (v15 : Int) => (x_b1 (if v15 = 0 then (some S11) else (x_gd ((0 : Int) ≤ v1 ∧ v1 < 128) (x_b1 (G12_both v8 v10 S11) fun (v19 : Int) => (x_gd ((0 : Int) ≤ (x_and (x_and v1 (x_xor (x_shl 1 v8) (-1))) (x_xor (x_shl 1 v10) (-1))) ∧ (x_and (x_and v1 (x_xor (x_shl 1 v8) (-1))) (x_xor (x_shl 1 v10) (-1))) < 128) (x_b1 (G12_greater (S11 9 (v1).toNat) (x_add v19 (S11 9 ((x_and (x_and v1 (x_xor (x_shl 1 v8) (-1))) (x_xor (x_shl 1 v10) (-1)))).toNat))) fun (v21 : Int) => (x_gd ((0 : Int) ≤ v1 ∧ v1 < 128) (some (x_up S11 9 (v1).toNat v21)))))))) fun (S17 : xU) => (some (.inl ((x_add v10 1), S17))))))
def G12_allBest_L9  : (Int × xU) → Option ((Int × xU) ⊕ xU)
  | (v1, S2) => (x_b1 (G12_all S2) fun (v6 : Int) => (if v6 < v1 then (some (.inr S2)) else (x_b1 (G12_lowest v1) fun (v8 : Int) => (x_gd ((0 : Int) ≤ (x_and v1 (x_xor (x_shl 1 v8) (-1))) ∧ (x_and v1 (x_xor (x_shl 1 v8) (-1))) < 128) (x_gd ((0 : Int) ≤ v1 ∧ v1 < 128) (x_b1 (whl xFU (G12_allBest_L47 v1 v8) ((x_add v8 1), (x_up S2 9 (v1).toNat (S2 9 ((x_and v1 (x_xor (x_shl 1 v8) (-1)))).toNat)))) fun (S12 : xU) => (some (.inl ((x_add v1 1), S12)))))))))
def G12_allBest (S : xU) : Option xU :=
  (x_b1 (whl xFU G12_allBest_L9 (1, (x_up S 9 0 0))) fun (S3 : xU) => (some S3))
set_option maxRecDepth 100000 in
set_option maxHeartbeats 4000000 in
theorem c_X12_allBest {g : xG} {al : List (Nat × Nat × Nat)} {ro : Nat → Nat → Option Nat} (hst : g.1.stackTraces = false) (hs : SH al ro) {M : Nat → xU} {S : xU} {t : xU} (hG : G12_allBest S = some t) :
    Cal g yX12_allBest cX12_allBest 5 none 2 [x_r (16 * 32 + 0)] (al, ro, fl (ml M [32] [S])) 0 0 (.inl none) (al, ro, fl (ml M [32] [t])) := by
  have hn : ([32] : List Nat).Nodup := by decide
  refine cal_of_ev (by decide) (x_c1 rfl) (Nat.le_of_ble_eq_true rfl) hst ?_
  show Ev g _ _ _ _ _ _ 0 [some (x_r (16 * 32 + 0)), none, none, none, none] [] (al, ro, fl (ml M [32] [S])) _ _ _ _
  rw [G12_allBest] at hG
  refine e_aloadn (pc := 0) (i := 0) dX12_allBest_0 rfl rfl ?_
  refine f_getr (pc := 1) (u := 32) (q := 0) dX12_allBest_1 xf12_39 (sa_32_0 hs) rfl (sr_32_0_21 hs) ?_
  refine e_iconst (pc := 4) dX12_allBest_4 (x_R rfl) ?_
  refine e_iconst (pc := 5) dX12_allBest_5 (x_R rfl) ?_
  refine f_iast (pc := 6) (k := 0) (u := 32) (q := 9) (len := 128) dX12_allBest_6 (sa_32_9 hs) (by decide) hn rfl rfl rfl (by decide) ?_
  show Ev g _ _ _ _ _ _ 7 [some (x_r (16 * 32 + 0)), none, none, none, none] [] (al, ro, fl (ml M [32] [(x_up S 9 0 0)])) _ _ _ _
  refine e_iconst (pc := 7) dX12_allBest_7 (x_R rfl) ?_
  refine e_istoren (pc := 8) (i := 1) dX12_allBest_8 rfl (by decide) rfl ?_
  show Ev g _ _ _ _ _ _ 9 [some (x_r (16 * 32 + 0)), some (x_i 1), none, none, none] [] (al, ro, fl (ml M [32] [(x_up S 9 0 0)])) _ _ _ _
  obtain ⟨S3, hl4, hG⟩ := x_bd1 hG
  have hk4 : ∀ q : xU, q = S3 → Ev g yX12_allBest cX12_allBest 5 none [] 2 115 [some (x_r (16 * 32 + 0)), none, none, none, none] [] (al, ro, fl (ml M [32] [q])) 0 0 (.inl none) (al, ro, fl (ml M [32] [t])) := by
    intro q hq
    replace hq := hq.symm
    subst hq
    cases hG
    exact (e_return rfl dX12_allBest_115)
  clear hG
  refine e_whl G12_allBest_L9 (fun z : (Int × xU) => Ev g yX12_allBest cX12_allBest 5 none [] 2 9 [some (x_r (16 * 32 + 0)), some (x_i z.1), none, none, none] [] (al, ro, fl (ml M [32] [z.2])) 0 0 (.inl none) (al, ro, fl (ml M [32] [t]))) (fun q => q = S3) ?_ xFU (1, (x_up S 9 0 0)) _ hl4 rfl
  intro z t4 hf4 hi4 hx4
  obtain ⟨v1, S2⟩ := z
  rw [G12_allBest_L9] at hf4
  show Ev g _ _ _ _ _ _ 9 [some (x_r (16 * 32 + 0)), some (x_i v1), none, none, none] [] (al, ro, fl (ml M [32] [S2])) _ _ _ _
  refine e_iloadn (pc := 9) (i := 1) dX12_allBest_9 rfl rfl ?_
  refine e_aloadn (pc := 10) (i := 0) dX12_allBest_10 rfl rfl ?_
  obtain ⟨v6, hq6, hf4⟩ := x_bd1 hf4
  refine e_invV (pc := 11) (K1 := 0) (S1 := 0) (K := 0) (S := 0) (dd2 := 0) (av := []) (st := [x_i v1]) (id := 16 * 32 + 0) dX12_allBest_11 xmX12_346 rfl (Or.inl ⟨10, 27, TX12, (sa_32_0 hs), rfl, by decide⟩) (f_cal (M := M) (us2 := [32]) [0] hn rfl (And.intro rfl trivial) rfl rfl rfl (c_X12_all hst hs   hq6)) (by decide) (Nat.le_of_ble_eq_true rfl) (Or.inl rfl) ?_
  show Ev g _ _ _ _ _ _ 14 [some (x_r (16 * 32 + 0)), some (x_i v1), none, none, none] [x_i v6, x_i v1] (al, ro, fl (ml M [32] [S2])) _ _ _ _
  refine e_icmp_gt (pc := 14) (tgt := 115) dX12_allBest_14 (by decide) (fun hb => ?_) (fun hb => ?_)
  · rw [if_pos hb] at hf4
    cases hf4
    refine e_drop (i := 1) ?_
    exact hk4 _ (hx4 _ rfl)
  · rw [if_neg hb] at hf4
    refine e_iloadn (pc := 17) (i := 1) dX12_allBest_17 rfl rfl ?_
    obtain ⟨v8, hq8, hf4⟩ := x_bd1 hf4
    refine e_invS (pc := 18) (K1 := 0) (S1 := 0) (K := 0) (S := 0) (dd2 := 1) (av := [x_i v1]) (st := []) dX12_allBest_18 xmX12_385 rfl (f_cal (M := M) (us2 := []) [] hn rfl trivial rfl rfl rfl (c_X12_lowest hst hs   hq8)) (by decide) (Nat.le_of_ble_eq_true rfl) (Or.inl rfl) ?_
    show Ev g _ _ _ _ _ _ 21 [some (x_r (16 * 32 + 0)), some (x_i v1), none, none, none] [x_i v8] (al, ro, fl (ml M [32] [S2])) _ _ _ _
    refine e_istoren (pc := 21) (i := 2) dX12_allBest_21 rfl (by decide) rfl ?_
    show Ev g _ _ _ _ _ _ 22 [some (x_r (16 * 32 + 0)), some (x_i v1), some (x_i v8), none, none] [] (al, ro, fl (ml M [32] [S2])) _ _ _ _
    refine e_iloadn (pc := 22) (i := 1) dX12_allBest_22 rfl rfl ?_
    refine e_iconst (pc := 23) dX12_allBest_23 (x_R rfl) ?_
    refine e_iloadn (pc := 24) (i := 2) dX12_allBest_24 rfl rfl ?_
    refine e_ishl (pc := 25) dX12_allBest_25 ?_
    refine e_iconst (pc := 26) dX12_allBest_26 (x_R rfl) ?_
    refine e_ixor (pc := 27) dX12_allBest_27 ?_
    refine e_iand (pc := 28) dX12_allBest_28 ?_
    refine e_istoren (pc := 29) (i := 3) dX12_allBest_29 rfl (by decide) rfl ?_
    show Ev g _ _ _ _ _ _ 30 [some (x_r (16 * 32 + 0)), some (x_i v1), some (x_i v8), some (x_i (x_and v1 (x_xor (x_shl 1 v8) (-1)))), none] [] (al, ro, fl (ml M [32] [S2])) _ _ _ _
    refine e_aloadn (pc := 30) (i := 0) dX12_allBest_30 rfl rfl ?_
    refine f_getr (pc := 31) (u := 32) (q := 0) dX12_allBest_31 xf12_39 (sa_32_0 hs) rfl (sr_32_0_21 hs) ?_
    refine e_iloadn (pc := 34) (i := 1) dX12_allBest_34 rfl rfl ?_
    refine e_aloadn (pc := 35) (i := 0) dX12_allBest_35 rfl rfl ?_
    refine f_getr (pc := 36) (u := 32) (q := 0) dX12_allBest_36 xf12_39 (sa_32_0 hs) rfl (sr_32_0_21 hs) ?_
    refine e_iloadn (pc := 39) (i := 3) dX12_allBest_39 rfl rfl ?_
    obtain ⟨hc0, hf4⟩ := x_gd_some hf4
    refine f_iald (pc := 40) (k := 0) (u := 32) (q := 9) (len := 128) dX12_allBest_40 (sa_32_9 hs) hc0 hn rfl rfl (by decide) ?_
    show Ev g _ _ _ _ _ _ 41 [some (x_r (16 * 32 + 0)), some (x_i v1), some (x_i v8), some (x_i (x_and v1 (x_xor (x_shl 1 v8) (-1)))), none] [x_i (S2 9 ((x_and v1 (x_xor (x_shl 1 v8) (-1)))).toNat), x_i v1, x_r (16 * 32 + 9)] (al, ro, fl (ml M [32] [S2])) _ _ _ _
    obtain ⟨hc0, hf4⟩ := x_gd_some hf4
    refine f_iast (pc := 41) (k := 0) (u := 32) (q := 9) (len := 128) dX12_allBest_41 (sa_32_9 hs) hc0 hn rfl rfl rfl (by decide) ?_
    show Ev g _ _ _ _ _ _ 42 [some (x_r (16 * 32 + 0)), some (x_i v1), some (x_i v8), some (x_i (x_and v1 (x_xor (x_shl 1 v8) (-1)))), none] [] (al, ro, fl (ml M [32] [(x_up S2 9 (v1).toNat (S2 9 ((x_and v1 (x_xor (x_shl 1 v8) (-1)))).toNat))])) _ _ _ _
    refine e_iloadn (pc := 42) (i := 2) dX12_allBest_42 rfl rfl ?_
    refine e_iconst (pc := 43) dX12_allBest_43 (x_R rfl) ?_
    refine e_iadd (pc := 44) dX12_allBest_44 ?_
    refine e_istore (pc := 45) (i := 4) dX12_allBest_45 (by decide) rfl ?_
    show Ev g _ _ _ _ _ _ 47 [some (x_r (16 * 32 + 0)), some (x_i v1), some (x_i v8), some (x_i (x_and v1 (x_xor (x_shl 1 v8) (-1)))), some (x_i (x_add v8 1))] [] (al, ro, fl (ml M [32] [(x_up S2 9 (v1).toNat (S2 9 ((x_and v1 (x_xor (x_shl 1 v8) (-1)))).toNat))])) _ _ _ _
    obtain ⟨S12, hl13, hf4⟩ := x_bd1 hf4
    have hk13 : ∀ q : xU, q = S12 → Ev g yX12_allBest cX12_allBest 5 none [] 2 109 [some (x_r (16 * 32 + 0)), some (x_i v1), some (x_i v8), some (x_i (x_and v1 (x_xor (x_shl 1 v8) (-1)))), none] [] (al, ro, fl (ml M [32] [q])) 0 0 (.inl none) (al, ro, fl (ml M [32] [t])) := by
      intro q hq
      replace hq := hq.symm
      subst hq
      refine e_iinc (pc := 109) dX12_allBest_109 rfl (by decide) rfl ?_
      show Ev g _ _ _ _ _ _ 112 [some (x_r (16 * 32 + 0)), some (x_i (x_add v1 1)), some (x_i v8), some (x_i (x_and v1 (x_xor (x_shl 1 v8) (-1)))), none] [] (al, ro, fl (ml M [32] [S12])) _ _ _ _
      refine e_goto (pc := 112) (tgt := 9) dX12_allBest_112 (by decide) ?_
      cases hf4
      refine e_drop (i := 2) ?_
      refine e_drop (i := 3) ?_
      exact hi4 _ rfl
    clear hf4
    refine e_whl (G12_allBest_L47 v1 v8) (fun z : (Int × xU) => Ev g yX12_allBest cX12_allBest 5 none [] 2 47 [some (x_r (16 * 32 + 0)), some (x_i v1), some (x_i v8), some (x_i (x_and v1 (x_xor (x_shl 1 v8) (-1)))), some (x_i z.1)] [] (al, ro, fl (ml M [32] [z.2])) 0 0 (.inl none) (al, ro, fl (ml M [32] [t]))) (fun q => q = S12) ?_ xFU ((x_add v8 1), (x_up S2 9 (v1).toNat (S2 9 ((x_and v1 (x_xor (x_shl 1 v8) (-1)))).toNat))) _ hl13 rfl
    intro z t13 hf13 hi13 hx13
    obtain ⟨v10, S11⟩ := z
    rw [G12_allBest_L47] at hf13
    show Ev g _ _ _ _ _ _ 47 [some (x_r (16 * 32 + 0)), some (x_i v1), some (x_i v8), some (x_i (x_and v1 (x_xor (x_shl 1 v8) (-1)))), some (x_i v10)] [] (al, ro, fl (ml M [32] [S11])) _ _ _ _
    refine e_iload (pc := 47) dX12_allBest_47 rfl ?_
    refine e_aloadn (pc := 49) (i := 0) dX12_allBest_49 rfl rfl ?_
    refine f_getr (pc := 50) (u := 32) (q := 0) dX12_allBest_50 xf12_7 (sa_32_0 hs) rfl (sr_32_0_1 hs) ?_
    refine e_iconst (pc := 53) dX12_allBest_53 (x_R rfl) ?_
    refine f_iald (pc := 54) (k := 0) (u := 32) (q := 1) (len := 772) dX12_allBest_54 (sa_32_1 hs) (by decide) hn rfl rfl (by decide) ?_
    show Ev g _ _ _ _ _ _ 55 [some (x_r (16 * 32 + 0)), some (x_i v1), some (x_i v8), some (x_i (x_and v1 (x_xor (x_shl 1 v8) (-1)))), some (x_i v10)] [x_i (S11 1 3), x_i v10] (al, ro, fl (ml M [32] [S11])) _ _ _ _
    refine e_icmp_ge (pc := 55) (tgt := 109) dX12_allBest_55 (by decide) (fun hb => ?_) (fun hb => ?_)
    · rw [if_pos hb] at hf13
      cases hf13
      refine e_drop (i := 4) ?_
      exact hk13 _ (hx13 _ rfl)
    · rw [if_neg hb] at hf13
      refine e_iloadn (pc := 58) (i := 3) dX12_allBest_58 rfl rfl ?_
      refine e_iload (pc := 59) dX12_allBest_59 rfl ?_
      obtain ⟨v15, hq15, hf13⟩ := x_bd1 hf13
      refine e_invS (pc := 61) (K1 := 0) (S1 := 0) (K := 0) (S := 0) (dd2 := 0) (av := [x_i (x_and v1 (x_xor (x_shl 1 v8) (-1))), x_i v10]) (st := []) dX12_allBest_61 xmX12_119 rfl (f_cal (M := M) (us2 := []) [] hn rfl trivial rfl rfl rfl (c_X12_isOf hst hs   hq15)) (by decide) (Nat.le_of_ble_eq_true rfl) (Or.inl rfl) ?_
      show Ev g _ _ _ _ _ _ 64 [some (x_r (16 * 32 + 0)), some (x_i v1), some (x_i v8), some (x_i (x_and v1 (x_xor (x_shl 1 v8) (-1)))), some (x_i v10)] [x_i v15] (al, ro, fl (ml M [32] [S11])) _ _ _ _
      obtain ⟨S17, hr17, hf13⟩ := x_bd1 hf13
      have hjhr17 : Ev g yX12_allBest cX12_allBest 5 none [] 2 103 [some (x_r (16 * 32 + 0)), some (x_i v1), some (x_i v8), some (x_i (x_and v1 (x_xor (x_shl 1 v8) (-1)))), some (x_i v10)] [] (al, ro, fl (ml M [32] [S17])) 0 0 (.inl none) (al, ro, fl (ml M [32] [t])) := by
        refine e_iinc (pc := 103) dX12_allBest_103 rfl (by decide) rfl ?_
        show Ev g _ _ _ _ _ _ 106 [some (x_r (16 * 32 + 0)), some (x_i v1), some (x_i v8), some (x_i (x_and v1 (x_xor (x_shl 1 v8) (-1)))), some (x_i (x_add v10 1))] [] (al, ro, fl (ml M [32] [S17])) _ _ _ _
        refine e_goto (pc := 106) (tgt := 47) dX12_allBest_106 (by decide) ?_
        cases hf13
        exact hi13 _ rfl
      clear hf13
      refine e_if_eq (pc := 64) (tgt := 103) dX12_allBest_64 (by decide) (fun hb => ?_) (fun hb => ?_)
      · rw [if_pos hb] at hr17
        cases hr17
        exact hjhr17
      · rw [if_neg hb] at hr17
        refine e_aloadn (pc := 67) (i := 0) dX12_allBest_67 rfl rfl ?_
        refine f_getr (pc := 68) (u := 32) (q := 0) dX12_allBest_68 xf12_39 (sa_32_0 hs) rfl (sr_32_0_21 hs) ?_
        refine e_iloadn (pc := 71) (i := 1) dX12_allBest_71 rfl rfl ?_
        refine e_aloadn (pc := 72) (i := 0) dX12_allBest_72 rfl rfl ?_
        refine f_getr (pc := 73) (u := 32) (q := 0) dX12_allBest_73 xf12_39 (sa_32_0 hs) rfl (sr_32_0_21 hs) ?_
        refine e_iloadn (pc := 76) (i := 1) dX12_allBest_76 rfl rfl ?_
        obtain ⟨hc0, hr17⟩ := x_gd_some hr17
        refine f_iald (pc := 77) (k := 0) (u := 32) (q := 9) (len := 128) dX12_allBest_77 (sa_32_9 hs) hc0 hn rfl rfl (by decide) ?_
        show Ev g _ _ _ _ _ _ 78 [some (x_r (16 * 32 + 0)), some (x_i v1), some (x_i v8), some (x_i (x_and v1 (x_xor (x_shl 1 v8) (-1)))), some (x_i v10)] [x_i (S11 9 (v1).toNat), x_i v1, x_r (16 * 32 + 9)] (al, ro, fl (ml M [32] [S11])) _ _ _ _
        refine e_aloadn (pc := 78) (i := 0) dX12_allBest_78 rfl rfl ?_
        refine e_iloadn (pc := 79) (i := 2) dX12_allBest_79 rfl rfl ?_
        refine e_iload (pc := 80) dX12_allBest_80 rfl ?_
        obtain ⟨v19, hq19, hr17⟩ := x_bd1 hr17
        refine e_invV (pc := 82) (K1 := 0) (S1 := 0) (K := 0) (S := 0) (dd2 := 1) (av := [x_i v8, x_i v10]) (st := [x_i (S11 9 (v1).toNat), x_i v1, x_r (16 * 32 + 9)]) (id := 16 * 32 + 0) dX12_allBest_82 xmX12_388 rfl (Or.inl ⟨10, 27, TX12, (sa_32_0 hs), rfl, by decide⟩) (f_cal (M := M) (us2 := [32]) [0] hn rfl (And.intro rfl trivial) rfl rfl rfl (c_X12_both hst hs   hq19)) (by decide) (Nat.le_of_ble_eq_true rfl) (Or.inl rfl) ?_
        show Ev g _ _ _ _ _ _ 85 [some (x_r (16 * 32 + 0)), some (x_i v1), some (x_i v8), some (x_i (x_and v1 (x_xor (x_shl 1 v8) (-1)))), some (x_i v10)] [x_i v19, x_i (S11 9 (v1).toNat), x_i v1, x_r (16 * 32 + 9)] (al, ro, fl (ml M [32] [S11])) _ _ _ _
        refine e_aloadn (pc := 85) (i := 0) dX12_allBest_85 rfl rfl ?_
        refine f_getr (pc := 86) (u := 32) (q := 0) dX12_allBest_86 xf12_39 (sa_32_0 hs) rfl (sr_32_0_21 hs) ?_
        refine e_iloadn (pc := 89) (i := 3) dX12_allBest_89 rfl rfl ?_
        refine e_iconst (pc := 90) dX12_allBest_90 (x_R rfl) ?_
        refine e_iload (pc := 91) dX12_allBest_91 rfl ?_
        refine e_ishl (pc := 93) dX12_allBest_93 ?_
        refine e_iconst (pc := 94) dX12_allBest_94 (x_R rfl) ?_
        refine e_ixor (pc := 95) dX12_allBest_95 ?_
        refine e_iand (pc := 96) dX12_allBest_96 ?_
        obtain ⟨hc0, hr17⟩ := x_gd_some hr17
        refine f_iald (pc := 97) (k := 0) (u := 32) (q := 9) (len := 128) dX12_allBest_97 (sa_32_9 hs) hc0 hn rfl rfl (by decide) ?_
        show Ev g _ _ _ _ _ _ 98 [some (x_r (16 * 32 + 0)), some (x_i v1), some (x_i v8), some (x_i (x_and v1 (x_xor (x_shl 1 v8) (-1)))), some (x_i v10)] [x_i (S11 9 ((x_and (x_and v1 (x_xor (x_shl 1 v8) (-1))) (x_xor (x_shl 1 v10) (-1)))).toNat), x_i v19, x_i (S11 9 (v1).toNat), x_i v1, x_r (16 * 32 + 9)] (al, ro, fl (ml M [32] [S11])) _ _ _ _
        refine e_iadd (pc := 98) dX12_allBest_98 ?_
        obtain ⟨v21, hq21, hr17⟩ := x_bd1 hr17
        refine e_invS (pc := 99) (K1 := 0) (S1 := 0) (K := 0) (S := 0) (dd2 := 0) (av := [x_i (S11 9 (v1).toNat), x_i (x_add v19 (S11 9 ((x_and (x_and v1 (x_xor (x_shl 1 v8) (-1))) (x_xor (x_shl 1 v10) (-1)))).toNat))]) (st := [x_i v1, x_r (16 * 32 + 9)]) dX12_allBest_99 xmX12_266 rfl (f_cal (M := M) (us2 := []) [] hn rfl trivial rfl rfl rfl (c_X12_greater hst hs   hq21)) (by decide) (Nat.le_of_ble_eq_true rfl) (Or.inl rfl) ?_
        show Ev g _ _ _ _ _ _ 102 [some (x_r (16 * 32 + 0)), some (x_i v1), some (x_i v8), some (x_i (x_and v1 (x_xor (x_shl 1 v8) (-1)))), some (x_i v10)] [x_i v21, x_i v1, x_r (16 * 32 + 9)] (al, ro, fl (ml M [32] [S11])) _ _ _ _
        obtain ⟨hc0, hr17⟩ := x_gd_some hr17
        refine f_iast (pc := 102) (k := 0) (u := 32) (q := 9) (len := 128) dX12_allBest_102 (sa_32_9 hs) hc0 hn rfl rfl rfl (by decide) ?_
        show Ev g _ _ _ _ _ _ 103 [some (x_r (16 * 32 + 0)), some (x_i v1), some (x_i v8), some (x_i (x_and v1 (x_xor (x_shl 1 v8) (-1)))), some (x_i v10)] [] (al, ro, fl (ml M [32] [(x_up S11 9 (v1).toNat v21)])) _ _ _ _
        cases hr17
        exact hjhr17
def G12_pairs_L86 (S5 : xU) (v9 : Int) (v12 : Int) : (Int × Int) → Option ((Int × Int) ⊕ Int)
  | (v14, v15) => (if v15 ≤ v12 then (some (.inr v14)) else (x_gd ((0 : Int) ≤ (x_and v9 (x_xor (x_shl 1 v12) (-1))) ∧ (x_and v9 (x_xor (x_shl 1 v12) (-1))) < 128) (x_gd ((0 : Int) ≤ v9 ∧ v9 < 128) (if (S5 9 ((x_and v9 (x_xor (x_shl 1 v12) (-1)))).toNat) = (S5 9 (v9).toNat) then (some (.inr v14)) else (x_b1 (G12_isOf (x_and v9 (x_xor (x_shl 1 v12) (-1))) v15) fun (v19 : Int) => (x_b1 (if v19 = 0 then (some v14) else (x_b1 (G12_both v12 v15 S5) fun (v23 : Int) => (x_gd ((0 : Int) ≤ (x_and (x_and v9 (x_xor (x_shl 1 v12) (-1))) (x_xor (x_shl 1 v15) (-1))) ∧ (x_and (x_and v9 (x_xor (x_shl 1 v12) (-1))) (x_xor (x_shl 1 v15) (-1))) < 128) (x_gd ((0 : Int) ≤ v9 ∧ v9 < 128) (if (x_add v23 (S5 9 ((x_and (x_and v9 (x_xor (x_shl 1 v12) (-1))) (x_xor (x_shl 1 v15) (-1)))).toNat)) = (S5 9 (v9).toNat) then (some v15) else (some v14)))))) fun (v21 : Int) => (some (.inl (v21, (x_add v15 (-1)))))))))))
def G12_pairs_L55 (a : Int) (S5 : xU) : Int → Option (Int ⊕ (Unit ⊕ (Int × xU)))
  | v9 => (if v9 = 0 then (some (.inr (.inl ()))) else (x_b1 (G12_lowest v9) fun (v12 : Int) => (x_b1 (whl xFU (G12_pairs_L86 S5 v9 v12) ((-1), (x_sub (S5 1 3) 1))) fun (v16 : Int) => (if v12 = a then (some (.inr (.inr (v16, S5)))) else (if v16 = a then (some (.inr (.inr (v12, S5)))) else (x_b1 (if v16 = (-1) then (some (x_and v9 (x_xor (x_shl 1 v12) (-1)))) else (some (x_and (x_and v9 (x_xor (x_shl 1 v12) (-1))) (x_xor (x_shl 1 v16) (-1))))) fun (v25 : Int) => (some (.inl v25))))))))
def G12_pairs (a : Int) (S : xU) : Option (Int × xU) :=
  (x_b1 (if a = (-1) then (some 0) else (x_b1 (G12_isMonk a S) fun (v3 : Int) => (if v3 = 0 then (some 1) else (some 0)))) fun (v1 : Int) => (if ((x_up S 0 0 v1) 0 0) ≤ 0 then (x_b1 (G12_allBest (x_up S 0 0 v1)) fun (S5 : xU) => (if a = (-1) then (x_b1 (G12_all S5) fun (v27 : Int) => (x_gd ((0 : Int) ≤ v27 ∧ v27 < 128) (some ((S5 9 (v27).toNat), S5)))) else (x_b1 (G12_all S5) fun (v7 : Int) => (x_lr (whl xFU (G12_pairs_L55 a S5) v7) (fun (q : Unit) => x_e1 q fun (_q : Unit) => (some ((-1), S5))) (fun (q : (Int × xU)) => some q))))) else (some (0, (x_up S 0 0 v1)))))
set_option maxRecDepth 100000 in
set_option maxHeartbeats 4000000 in
theorem c_X12_pairs {g : xG} {al : List (Nat × Nat × Nat)} {ro : Nat → Nat → Option Nat} (hst : g.1.stackTraces = false) (hs : SH al ro) {M : Nat → xU} {a : Int} {S : xU} {t : (Int × xU)} (hG : G12_pairs a S = some t) :
    Cal g yX12_pairs cX12_pairs 7 (some .int) 3 [x_r (16 * 32 + 0), x_i a] (al, ro, fl (ml M [32] [S])) 0 0 (.inl (some (x_i t.1))) (al, ro, fl (ml M [32] [t.2])) := by
  have hn : ([32] : List Nat).Nodup := by decide
  refine cal_of_ev (by decide) (x_c1 rfl) (Nat.le_of_ble_eq_true rfl) hst ?_
  show Ev g _ _ _ _ _ _ 0 [some (x_r (16 * 32 + 0)), some (x_i a), none, none, none, none, none] [] (al, ro, fl (ml M [32] [S])) _ _ _ _
  rw [G12_pairs] at hG
  refine e_aloadn (pc := 0) (i := 0) dX12_pairs_0 rfl rfl ?_
  refine e_iloadn (pc := 1) (i := 1) dX12_pairs_1 rfl rfl ?_
  refine e_iconst (pc := 2) dX12_pairs_2 (x_R rfl) ?_
  obtain ⟨v1, hr1, hG⟩ := x_bd1 hG
  have hjhr1 : Ev g yX12_pairs cX12_pairs 7 (some .int) [] 3 19 [some (x_r (16 * 32 + 0)), some (x_i a), none, none, none, none, none] [x_i v1, x_r (16 * 32 + 0)] (al, ro, fl (ml M [32] [S])) 0 0 (.inl (some (x_i t.1))) (al, ro, fl (ml M [32] [t.2])) := by
    refine f_puti (pc := 19) (k := 0) (u := 32) (q := 0) dX12_pairs_19 xf12_58 xw10_0 (sa_32_0 hs) hn rfl rfl rfl (by decide) ?_
    show Ev g _ _ _ _ _ _ 22 [some (x_r (16 * 32 + 0)), some (x_i a), none, none, none, none, none] [] (al, ro, fl (ml M [32] [(x_up S 0 0 v1)])) _ _ _ _
    refine e_aloadn (pc := 22) (i := 0) dX12_pairs_22 rfl rfl ?_
    refine f_geti (pc := 23) (k := 0) (u := 32) (q := 0) dX12_pairs_23 xf12_58 (sa_32_0 hs) rfl hn rfl rfl (by decide) ?_
    show Ev g _ _ _ _ _ _ 26 [some (x_r (16 * 32 + 0)), some (x_i a), none, none, none, none, none] [x_i ((x_up S 0 0 v1) 0 0)] (al, ro, fl (ml M [32] [(x_up S 0 0 v1)])) _ _ _ _
    refine e_if_le (pc := 26) (tgt := 31) dX12_pairs_26 (by decide) (fun hb => ?_) (fun hb => ?_)
    · rw [if_pos hb] at hG
      refine e_aloadn (pc := 31) (i := 0) dX12_pairs_31 rfl rfl ?_
      obtain ⟨S5, hq5, hG⟩ := x_bd1 hG
      refine e_invV (pc := 32) (K1 := 0) (S1 := 0) (K := 0) (S := 0) (dd2 := 2) (av := []) (st := []) (id := 16 * 32 + 0) dX12_pairs_32 xmX12_391 rfl (Or.inl ⟨10, 27, TX12, (sa_32_0 hs), rfl, by decide⟩) (f_cal (M := M) (us2 := [32]) [0] hn rfl (And.intro rfl trivial) rfl rfl rfl (c_X12_allBest hst hs   hq5)) (by decide) (Nat.le_of_ble_eq_true rfl) (Or.inl rfl) ?_
      show Ev g _ _ _ _ _ _ 35 [some (x_r (16 * 32 + 0)), some (x_i a), none, none, none, none, none] [] (al, ro, fl (ml M [32] [S5])) _ _ _ _
      refine e_iloadn (pc := 35) (i := 1) dX12_pairs_35 rfl rfl ?_
      refine e_iconst (pc := 36) dX12_pairs_36 (x_R rfl) ?_
      refine e_icmp_ne (pc := 37) (tgt := 50) dX12_pairs_37 (by decide) (fun hb => ?_) (fun hb => ?_)
      · rw [if_neg hb] at hG
        refine e_aloadn (pc := 50) (i := 0) dX12_pairs_50 rfl rfl ?_
        obtain ⟨v7, hq7, hG⟩ := x_bd1 hG
        refine e_invV (pc := 51) (K1 := 0) (S1 := 0) (K := 0) (S := 0) (dd2 := 0) (av := []) (st := []) (id := 16 * 32 + 0) dX12_pairs_51 xmX12_346 rfl (Or.inl ⟨10, 27, TX12, (sa_32_0 hs), rfl, by decide⟩) (f_cal (M := M) (us2 := [32]) [0] hn rfl (And.intro rfl trivial) rfl rfl rfl (c_X12_all hst hs   hq7)) (by decide) (Nat.le_of_ble_eq_true rfl) (Or.inl rfl) ?_
        show Ev g _ _ _ _ _ _ 54 [some (x_r (16 * 32 + 0)), some (x_i a), none, none, none, none, none] [x_i v7] (al, ro, fl (ml M [32] [S5])) _ _ _ _
        refine e_istoren (pc := 54) (i := 2) dX12_pairs_54 rfl (by decide) rfl ?_
        show Ev g _ _ _ _ _ _ 55 [some (x_r (16 * 32 + 0)), some (x_i a), some (x_i v7), none, none, none, none] [] (al, ro, fl (ml M [32] [S5])) _ _ _ _
        obtain ⟨r10, hl10, hG⟩ := x_lrd hG
        have hk10 : ∀ q : Unit, r10 = .inl q → Ev g yX12_pairs cX12_pairs 7 (some .int) [] 3 199 [some (x_r (16 * 32 + 0)), some (x_i a), none, none, none, none, none] [] (al, ro, fl (ml M [32] [S5])) 0 0 (.inl (some (x_i t.1))) (al, ro, fl (ml M [32] [t.2])) := by
          intro q hq
          subst hq
          replace hG := x_lr_l hG
          replace hG := x_ed1 hG
          refine e_iconst (pc := 199) dX12_pairs_199 (x_R rfl) ?_
          cases hG
          exact (e_ireturn rfl dX12_pairs_200 rfl)
        have hv10 : ∀ q : (Int × xU), r10 = .inr q → some q = some t := by
          intro q hq
          subst hq
          exact x_lr_r hG
        clear hG
        refine e_whl (G12_pairs_L55 a S5) (fun z : Int => Ev g yX12_pairs cX12_pairs 7 (some .int) [] 3 55 [some (x_r (16 * 32 + 0)), some (x_i a), some (x_i z), none, none, none, none] [] (al, ro, fl (ml M [32] [S5])) 0 0 (.inl (some (x_i t.1))) (al, ro, fl (ml M [32] [t.2]))) (fun q => q = r10) ?_ xFU v7 _ hl10 rfl
        intro z t10 hf10 hi10 hx10
        obtain ⟨v9, hzz⟩ : ∃ y, y = z := ⟨z, rfl⟩
        subst hzz
        rw [G12_pairs_L55] at hf10
        show Ev g _ _ _ _ _ _ 55 [some (x_r (16 * 32 + 0)), some (x_i a), some (x_i v9), none, none, none, none] [] (al, ro, fl (ml M [32] [S5])) _ _ _ _
        refine e_iloadn (pc := 55) (i := 2) dX12_pairs_55 rfl rfl ?_
        refine e_if_eq (pc := 56) (tgt := 199) dX12_pairs_56 (by decide) (fun hb => ?_) (fun hb => ?_)
        · rw [if_pos hb] at hf10
          cases hf10
          refine e_drop (i := 2) ?_
          exact hk10 _ (hx10 _ rfl).symm
        · rw [if_neg hb] at hf10
          refine e_iloadn (pc := 59) (i := 2) dX12_pairs_59 rfl rfl ?_
          obtain ⟨v12, hq12, hf10⟩ := x_bd1 hf10
          refine e_invS (pc := 60) (K1 := 0) (S1 := 0) (K := 0) (S := 0) (dd2 := 1) (av := [x_i v9]) (st := []) dX12_pairs_60 xmX12_385 rfl (f_cal (M := M) (us2 := []) [] hn rfl trivial rfl rfl rfl (c_X12_lowest hst hs   hq12)) (by decide) (Nat.le_of_ble_eq_true rfl) (Or.inl rfl) ?_
          show Ev g _ _ _ _ _ _ 63 [some (x_r (16 * 32 + 0)), some (x_i a), some (x_i v9), none, none, none, none] [x_i v12] (al, ro, fl (ml M [32] [S5])) _ _ _ _
          refine e_istoren (pc := 63) (i := 3) dX12_pairs_63 rfl (by decide) rfl ?_
          show Ev g _ _ _ _ _ _ 64 [some (x_r (16 * 32 + 0)), some (x_i a), some (x_i v9), some (x_i v12), none, none, none] [] (al, ro, fl (ml M [32] [S5])) _ _ _ _
          refine e_iloadn (pc := 64) (i := 2) dX12_pairs_64 rfl rfl ?_
          refine e_iconst (pc := 65) dX12_pairs_65 (x_R rfl) ?_
          refine e_iloadn (pc := 66) (i := 3) dX12_pairs_66 rfl rfl ?_
          refine e_ishl (pc := 67) dX12_pairs_67 ?_
          refine e_iconst (pc := 68) dX12_pairs_68 (x_R rfl) ?_
          refine e_ixor (pc := 69) dX12_pairs_69 ?_
          refine e_iand (pc := 70) dX12_pairs_70 ?_
          refine e_istore (pc := 71) (i := 4) dX12_pairs_71 (by decide) rfl ?_
          show Ev g _ _ _ _ _ _ 73 [some (x_r (16 * 32 + 0)), some (x_i a), some (x_i v9), some (x_i v12), some (x_i (x_and v9 (x_xor (x_shl 1 v12) (-1)))), none, none] [] (al, ro, fl (ml M [32] [S5])) _ _ _ _
          refine e_iconst (pc := 73) dX12_pairs_73 (x_R rfl) ?_
          refine e_istore (pc := 74) (i := 5) dX12_pairs_74 (by decide) rfl ?_
          show Ev g _ _ _ _ _ _ 76 [some (x_r (16 * 32 + 0)), some (x_i a), some (x_i v9), some (x_i v12), some (x_i (x_and v9 (x_xor (x_shl 1 v12) (-1)))), some (x_i (-1)), none] [] (al, ro, fl (ml M [32] [S5])) _ _ _ _
          refine e_aloadn (pc := 76) (i := 0) dX12_pairs_76 rfl rfl ?_
          refine f_getr (pc := 77) (u := 32) (q := 0) dX12_pairs_77 xf12_7 (sa_32_0 hs) rfl (sr_32_0_1 hs) ?_
          refine e_iconst (pc := 80) dX12_pairs_80 (x_R rfl) ?_
          refine f_iald (pc := 81) (k := 0) (u := 32) (q := 1) (len := 772) dX12_pairs_81 (sa_32_1 hs) (by decide) hn rfl rfl (by decide) ?_
          show Ev g _ _ _ _ _ _ 82 [some (x_r (16 * 32 + 0)), some (x_i a), some (x_i v9), some (x_i v12), some (x_i (x_and v9 (x_xor (x_shl 1 v12) (-1)))), some (x_i (-1)), none] [x_i (S5 1 3)] (al, ro, fl (ml M [32] [S5])) _ _ _ _
          refine e_iconst (pc := 82) dX12_pairs_82 (x_R rfl) ?_
          refine e_isub (pc := 83) dX12_pairs_83 ?_
          refine e_istore (pc := 84) (i := 6) dX12_pairs_84 (by decide) rfl ?_
          show Ev g _ _ _ _ _ _ 86 [some (x_r (16 * 32 + 0)), some (x_i a), some (x_i v9), some (x_i v12), some (x_i (x_and v9 (x_xor (x_shl 1 v12) (-1)))), some (x_i (-1)), some (x_i (x_sub (S5 1 3) 1))] [] (al, ro, fl (ml M [32] [S5])) _ _ _ _
          obtain ⟨v16, hl17, hf10⟩ := x_bd1 hf10
          have hk17 : ∀ q : Int, q = v16 → Ev g yX12_pairs cX12_pairs 7 (some .int) [] 3 159 [some (x_r (16 * 32 + 0)), some (x_i a), some (x_i v9), some (x_i v12), some (x_i (x_and v9 (x_xor (x_shl 1 v12) (-1)))), some (x_i q), none] [] (al, ro, fl (ml M [32] [S5])) 0 0 (.inl (some (x_i t.1))) (al, ro, fl (ml M [32] [t.2])) := by
            intro q hq
            replace hq := hq.symm
            subst hq
            refine e_iloadn (pc := 159) (i := 3) dX12_pairs_159 rfl rfl ?_
            refine e_iloadn (pc := 160) (i := 1) dX12_pairs_160 rfl rfl ?_
            refine e_icmp_ne (pc := 161) (tgt := 167) dX12_pairs_161 (by decide) (fun hb => ?_) (fun hb => ?_)
            · rw [if_neg hb] at hf10
              refine e_iload (pc := 167) dX12_pairs_167 rfl ?_
              refine e_iloadn (pc := 169) (i := 1) dX12_pairs_169 rfl rfl ?_
              refine e_icmp_ne (pc := 170) (tgt := 175) dX12_pairs_170 (by decide) (fun hb => ?_) (fun hb => ?_)
              · rw [if_neg hb] at hf10
                refine e_iload (pc := 175) dX12_pairs_175 rfl ?_
                refine e_iconst (pc := 177) dX12_pairs_177 (x_R rfl) ?_
                obtain ⟨v25, hr25, hf10⟩ := x_bd1 hf10
                have hjhr25 : Ev g yX12_pairs cX12_pairs 7 (some .int) [] 3 195 [some (x_r (16 * 32 + 0)), some (x_i a), some (x_i v9), some (x_i v12), some (x_i (x_and v9 (x_xor (x_shl 1 v12) (-1)))), some (x_i v16), none] [x_i v25] (al, ro, fl (ml M [32] [S5])) 0 0 (.inl (some (x_i t.1))) (al, ro, fl (ml M [32] [t.2])) := by
                  refine e_istoren (pc := 195) (i := 2) dX12_pairs_195 rfl (by decide) rfl ?_
                  show Ev g _ _ _ _ _ _ 196 [some (x_r (16 * 32 + 0)), some (x_i a), some (x_i v25), some (x_i v12), some (x_i (x_and v9 (x_xor (x_shl 1 v12) (-1)))), some (x_i v16), none] [] (al, ro, fl (ml M [32] [S5])) _ _ _ _
                  refine e_goto (pc := 196) (tgt := 55) dX12_pairs_196 (by decide) ?_
                  cases hf10
                  refine e_drop (i := 3) ?_
                  refine e_drop (i := 4) ?_
                  refine e_drop (i := 5) ?_
                  exact hi10 _ rfl
                clear hf10
                refine e_icmp_ne (pc := 178) (tgt := 186) dX12_pairs_178 (by decide) (fun hb => ?_) (fun hb => ?_)
                · rw [if_neg hb] at hr25
                  refine e_iload (pc := 186) dX12_pairs_186 rfl ?_
                  refine e_iconst (pc := 188) dX12_pairs_188 (x_R rfl) ?_
                  refine e_iload (pc := 189) dX12_pairs_189 rfl ?_
                  refine e_ishl (pc := 191) dX12_pairs_191 ?_
                  refine e_iconst (pc := 192) dX12_pairs_192 (x_R rfl) ?_
                  refine e_ixor (pc := 193) dX12_pairs_193 ?_
                  refine e_iand (pc := 194) dX12_pairs_194 ?_
                  cases hr25
                  exact hjhr25
                · rw [if_pos hb] at hr25
                  refine e_iload (pc := 181) dX12_pairs_181 rfl ?_
                  refine e_goto (pc := 183) (tgt := 195) dX12_pairs_183 (by decide) ?_
                  cases hr25
                  exact hjhr25
              · rw [if_pos hb] at hf10
                refine e_iloadn (pc := 173) (i := 3) dX12_pairs_173 rfl rfl ?_
                cases hf10
                have hz := hv10 _ (hx10 _ rfl).symm
                cases hz
                exact (e_ireturn rfl dX12_pairs_174 rfl)
            · rw [if_pos hb] at hf10
              refine e_iload (pc := 164) dX12_pairs_164 rfl ?_
              cases hf10
              have hz := hv10 _ (hx10 _ rfl).symm
              cases hz
              exact (e_ireturn rfl dX12_pairs_166 rfl)
          clear hf10
          refine e_whl (G12_pairs_L86 S5 v9 v12) (fun z : (Int × Int) => Ev g yX12_pairs cX12_pairs 7 (some .int) [] 3 86 [some (x_r (16 * 32 + 0)), some (x_i a), some (x_i v9), some (x_i v12), some (x_i (x_and v9 (x_xor (x_shl 1 v12) (-1)))), some (x_i z.1), some (x_i z.2)] [] (al, ro, fl (ml M [32] [S5])) 0 0 (.inl (some (x_i t.1))) (al, ro, fl (ml M [32] [t.2]))) (fun q => q = v16) ?_ xFU ((-1), (x_sub (S5 1 3) 1)) _ hl17 rfl
          intro z t17 hf17 hi17 hx17
          obtain ⟨v14, v15⟩ := z
          rw [G12_pairs_L86] at hf17
          show Ev g _ _ _ _ _ _ 86 [some (x_r (16 * 32 + 0)), some (x_i a), some (x_i v9), some (x_i v12), some (x_i (x_and v9 (x_xor (x_shl 1 v12) (-1)))), some (x_i v14), some (x_i v15)] [] (al, ro, fl (ml M [32] [S5])) _ _ _ _
          refine e_iload (pc := 86) dX12_pairs_86 rfl ?_
          refine e_iloadn (pc := 88) (i := 3) dX12_pairs_88 rfl rfl ?_
          refine e_icmp_le (pc := 89) (tgt := 159) dX12_pairs_89 (by decide) (fun hb => ?_) (fun hb => ?_)
          · rw [if_pos hb] at hf17
            cases hf17
            refine e_drop (i := 6) ?_
            exact hk17 _ (hx17 _ rfl)
          · rw [if_neg hb] at hf17
            refine e_aloadn (pc := 92) (i := 0) dX12_pairs_92 rfl rfl ?_
            refine f_getr (pc := 93) (u := 32) (q := 0) dX12_pairs_93 xf12_39 (sa_32_0 hs) rfl (sr_32_0_21 hs) ?_
            refine e_iload (pc := 96) dX12_pairs_96 rfl ?_
            obtain ⟨hc0, hf17⟩ := x_gd_some hf17
            refine f_iald (pc := 98) (k := 0) (u := 32) (q := 9) (len := 128) dX12_pairs_98 (sa_32_9 hs) hc0 hn rfl rfl (by decide) ?_
            show Ev g _ _ _ _ _ _ 99 [some (x_r (16 * 32 + 0)), some (x_i a), some (x_i v9), some (x_i v12), some (x_i (x_and v9 (x_xor (x_shl 1 v12) (-1)))), some (x_i v14), some (x_i v15)] [x_i (S5 9 ((x_and v9 (x_xor (x_shl 1 v12) (-1)))).toNat)] (al, ro, fl (ml M [32] [S5])) _ _ _ _
            refine e_aloadn (pc := 99) (i := 0) dX12_pairs_99 rfl rfl ?_
            refine f_getr (pc := 100) (u := 32) (q := 0) dX12_pairs_100 xf12_39 (sa_32_0 hs) rfl (sr_32_0_21 hs) ?_
            refine e_iloadn (pc := 103) (i := 2) dX12_pairs_103 rfl rfl ?_
            obtain ⟨hc0, hf17⟩ := x_gd_some hf17
            refine f_iald (pc := 104) (k := 0) (u := 32) (q := 9) (len := 128) dX12_pairs_104 (sa_32_9 hs) hc0 hn rfl rfl (by decide) ?_
            show Ev g _ _ _ _ _ _ 105 [some (x_r (16 * 32 + 0)), some (x_i a), some (x_i v9), some (x_i v12), some (x_i (x_and v9 (x_xor (x_shl 1 v12) (-1)))), some (x_i v14), some (x_i v15)] [x_i (S5 9 (v9).toNat), x_i (S5 9 ((x_and v9 (x_xor (x_shl 1 v12) (-1)))).toNat)] (al, ro, fl (ml M [32] [S5])) _ _ _ _
            refine e_icmp_eq (pc := 105) (tgt := 159) dX12_pairs_105 (by decide) (fun hb => ?_) (fun hb => ?_)
            · rw [if_pos hb] at hf17
              cases hf17
              refine e_drop (i := 6) ?_
              exact hk17 _ (hx17 _ rfl)
            · rw [if_neg hb] at hf17
              refine e_iload (pc := 108) dX12_pairs_108 rfl ?_
              refine e_iload (pc := 110) dX12_pairs_110 rfl ?_
              obtain ⟨v19, hq19, hf17⟩ := x_bd1 hf17
              refine e_invS (pc := 112) (K1 := 0) (S1 := 0) (K := 0) (S := 0) (dd2 := 0) (av := [x_i (x_and v9 (x_xor (x_shl 1 v12) (-1))), x_i v15]) (st := []) dX12_pairs_112 xmX12_119 rfl (f_cal (M := M) (us2 := []) [] hn rfl trivial rfl rfl rfl (c_X12_isOf hst hs   hq19)) (by decide) (Nat.le_of_ble_eq_true rfl) (Or.inl rfl) ?_
              show Ev g _ _ _ _ _ _ 115 [some (x_r (16 * 32 + 0)), some (x_i a), some (x_i v9), some (x_i v12), some (x_i (x_and v9 (x_xor (x_shl 1 v12) (-1)))), some (x_i v14), some (x_i v15)] [x_i v19] (al, ro, fl (ml M [32] [S5])) _ _ _ _
              obtain ⟨v21, hr21, hf17⟩ := x_bd1 hf17
              have hjhr21 : Ev g yX12_pairs cX12_pairs 7 (some .int) [] 3 153 [some (x_r (16 * 32 + 0)), some (x_i a), some (x_i v9), some (x_i v12), some (x_i (x_and v9 (x_xor (x_shl 1 v12) (-1)))), some (x_i v21), some (x_i v15)] [] (al, ro, fl (ml M [32] [S5])) 0 0 (.inl (some (x_i t.1))) (al, ro, fl (ml M [32] [t.2])) := by
                refine e_iinc (pc := 153) dX12_pairs_153 rfl (by decide) rfl ?_
                show Ev g _ _ _ _ _ _ 156 [some (x_r (16 * 32 + 0)), some (x_i a), some (x_i v9), some (x_i v12), some (x_i (x_and v9 (x_xor (x_shl 1 v12) (-1)))), some (x_i v21), some (x_i (x_add v15 (-1)))] [] (al, ro, fl (ml M [32] [S5])) _ _ _ _
                refine e_goto (pc := 156) (tgt := 86) dX12_pairs_156 (by decide) ?_
                cases hf17
                exact hi17 _ rfl
              clear hf17
              refine e_if_eq (pc := 115) (tgt := 153) dX12_pairs_115 (by decide) (fun hb => ?_) (fun hb => ?_)
              · rw [if_pos hb] at hr21
                cases hr21
                exact hjhr21
              · rw [if_neg hb] at hr21
                refine e_aloadn (pc := 118) (i := 0) dX12_pairs_118 rfl rfl ?_
                refine e_iloadn (pc := 119) (i := 3) dX12_pairs_119 rfl rfl ?_
                refine e_iload (pc := 120) dX12_pairs_120 rfl ?_
                obtain ⟨v23, hq23, hr21⟩ := x_bd1 hr21
                refine e_invV (pc := 122) (K1 := 0) (S1 := 0) (K := 0) (S := 0) (dd2 := 1) (av := [x_i v12, x_i v15]) (st := []) (id := 16 * 32 + 0) dX12_pairs_122 xmX12_388 rfl (Or.inl ⟨10, 27, TX12, (sa_32_0 hs), rfl, by decide⟩) (f_cal (M := M) (us2 := [32]) [0] hn rfl (And.intro rfl trivial) rfl rfl rfl (c_X12_both hst hs   hq23)) (by decide) (Nat.le_of_ble_eq_true rfl) (Or.inl rfl) ?_
                show Ev g _ _ _ _ _ _ 125 [some (x_r (16 * 32 + 0)), some (x_i a), some (x_i v9), some (x_i v12), some (x_i (x_and v9 (x_xor (x_shl 1 v12) (-1)))), some (x_i v14), some (x_i v15)] [x_i v23] (al, ro, fl (ml M [32] [S5])) _ _ _ _
                refine e_aloadn (pc := 125) (i := 0) dX12_pairs_125 rfl rfl ?_
                refine f_getr (pc := 126) (u := 32) (q := 0) dX12_pairs_126 xf12_39 (sa_32_0 hs) rfl (sr_32_0_21 hs) ?_
                refine e_iload (pc := 129) dX12_pairs_129 rfl ?_
                refine e_iconst (pc := 131) dX12_pairs_131 (x_R rfl) ?_
                refine e_iload (pc := 132) dX12_pairs_132 rfl ?_
                refine e_ishl (pc := 134) dX12_pairs_134 ?_
                refine e_iconst (pc := 135) dX12_pairs_135 (x_R rfl) ?_
                refine e_ixor (pc := 136) dX12_pairs_136 ?_
                refine e_iand (pc := 137) dX12_pairs_137 ?_
                obtain ⟨hc0, hr21⟩ := x_gd_some hr21
                refine f_iald (pc := 138) (k := 0) (u := 32) (q := 9) (len := 128) dX12_pairs_138 (sa_32_9 hs) hc0 hn rfl rfl (by decide) ?_
                show Ev g _ _ _ _ _ _ 139 [some (x_r (16 * 32 + 0)), some (x_i a), some (x_i v9), some (x_i v12), some (x_i (x_and v9 (x_xor (x_shl 1 v12) (-1)))), some (x_i v14), some (x_i v15)] [x_i (S5 9 ((x_and (x_and v9 (x_xor (x_shl 1 v12) (-1))) (x_xor (x_shl 1 v15) (-1)))).toNat), x_i v23] (al, ro, fl (ml M [32] [S5])) _ _ _ _
                refine e_iadd (pc := 139) dX12_pairs_139 ?_
                refine e_aloadn (pc := 140) (i := 0) dX12_pairs_140 rfl rfl ?_
                refine f_getr (pc := 141) (u := 32) (q := 0) dX12_pairs_141 xf12_39 (sa_32_0 hs) rfl (sr_32_0_21 hs) ?_
                refine e_iloadn (pc := 144) (i := 2) dX12_pairs_144 rfl rfl ?_
                obtain ⟨hc0, hr21⟩ := x_gd_some hr21
                refine f_iald (pc := 145) (k := 0) (u := 32) (q := 9) (len := 128) dX12_pairs_145 (sa_32_9 hs) hc0 hn rfl rfl (by decide) ?_
                show Ev g _ _ _ _ _ _ 146 [some (x_r (16 * 32 + 0)), some (x_i a), some (x_i v9), some (x_i v12), some (x_i (x_and v9 (x_xor (x_shl 1 v12) (-1)))), some (x_i v14), some (x_i v15)] [x_i (S5 9 (v9).toNat), x_i (x_add v23 (S5 9 ((x_and (x_and v9 (x_xor (x_shl 1 v12) (-1))) (x_xor (x_shl 1 v15) (-1)))).toNat))] (al, ro, fl (ml M [32] [S5])) _ _ _ _
                refine e_icmp_ne (pc := 146) (tgt := 153) dX12_pairs_146 (by decide) (fun hb => ?_) (fun hb => ?_)
                · rw [if_neg hb] at hr21
                  cases hr21
                  exact hjhr21
                · rw [if_pos hb] at hr21
                  refine e_iload (pc := 149) dX12_pairs_149 rfl ?_
                  refine e_istore (pc := 151) (i := 5) dX12_pairs_151 (by decide) rfl ?_
                  show Ev g _ _ _ _ _ _ 153 [some (x_r (16 * 32 + 0)), some (x_i a), some (x_i v9), some (x_i v12), some (x_i (x_and v9 (x_xor (x_shl 1 v12) (-1)))), some (x_i v15), some (x_i v15)] [] (al, ro, fl (ml M [32] [S5])) _ _ _ _
                  cases hr21
                  exact hjhr21
      · rw [if_pos hb] at hG
        refine e_aloadn (pc := 40) (i := 0) dX12_pairs_40 rfl rfl ?_
        refine f_getr (pc := 41) (u := 32) (q := 0) dX12_pairs_41 xf12_39 (sa_32_0 hs) rfl (sr_32_0_21 hs) ?_
        refine e_aloadn (pc := 44) (i := 0) dX12_pairs_44 rfl rfl ?_
        obtain ⟨v27, hq27, hG⟩ := x_bd1 hG
        refine e_invV (pc := 45) (K1 := 0) (S1 := 0) (K := 0) (S := 0) (dd2 := 0) (av := []) (st := [x_r (16 * 32 + 9)]) (id := 16 * 32 + 0) dX12_pairs_45 xmX12_346 rfl (Or.inl ⟨10, 27, TX12, (sa_32_0 hs), rfl, by decide⟩) (f_cal (M := M) (us2 := [32]) [0] hn rfl (And.intro rfl trivial) rfl rfl rfl (c_X12_all hst hs   hq27)) (by decide) (Nat.le_of_ble_eq_true rfl) (Or.inl rfl) ?_
        show Ev g _ _ _ _ _ _ 48 [some (x_r (16 * 32 + 0)), some (x_i a), none, none, none, none, none] [x_i v27, x_r (16 * 32 + 9)] (al, ro, fl (ml M [32] [S5])) _ _ _ _
        obtain ⟨hc0, hG⟩ := x_gd_some hG
        refine f_iald (pc := 48) (k := 0) (u := 32) (q := 9) (len := 128) dX12_pairs_48 (sa_32_9 hs) hc0 hn rfl rfl (by decide) ?_
        show Ev g _ _ _ _ _ _ 49 [some (x_r (16 * 32 + 0)), some (x_i a), none, none, none, none, none] [x_i (S5 9 (v27).toNat)] (al, ro, fl (ml M [32] [S5])) _ _ _ _
        cases hG
        exact (e_ireturn rfl dX12_pairs_49 rfl)
    · rw [if_neg hb] at hG
      refine e_iconst (pc := 29) dX12_pairs_29 (x_R rfl) ?_
      cases hG
      exact (e_ireturn rfl dX12_pairs_30 rfl)
  clear hG
  refine e_icmp_eq (pc := 3) (tgt := 18) dX12_pairs_3 (by decide) (fun hb => ?_) (fun hb => ?_)
  · rw [if_pos hb] at hr1
    refine e_iconst (pc := 18) dX12_pairs_18 (x_R rfl) ?_
    cases hr1
    exact hjhr1
  · rw [if_neg hb] at hr1
    refine e_aloadn (pc := 6) (i := 0) dX12_pairs_6 rfl rfl ?_
    refine e_iloadn (pc := 7) (i := 1) dX12_pairs_7 rfl rfl ?_
    obtain ⟨v3, hq3, hr1⟩ := x_bd1 hr1
    refine e_invV (pc := 8) (K1 := 0) (S1 := 0) (K := 0) (S := 0) (dd2 := 1) (av := [x_i a]) (st := [x_r (16 * 32 + 0)]) (id := 16 * 32 + 0) dX12_pairs_8 xmX12_295 rfl (Or.inl ⟨10, 27, TX12, (sa_32_0 hs), rfl, by decide⟩) (f_cal (M := M) (us2 := [32]) [0] hn rfl (And.intro rfl trivial) rfl rfl rfl (c_X12_isMonk hst hs   hq3)) (by decide) (Nat.le_of_ble_eq_true rfl) (Or.inl rfl) ?_
    show Ev g _ _ _ _ _ _ 11 [some (x_r (16 * 32 + 0)), some (x_i a), none, none, none, none, none] [x_i v3, x_r (16 * 32 + 0)] (al, ro, fl (ml M [32] [S])) _ _ _ _
    refine e_if_ne (pc := 11) (tgt := 18) dX12_pairs_11 (by decide) (fun hb => ?_) (fun hb => ?_)
    · rw [if_neg hb] at hr1
      refine e_iconst (pc := 18) dX12_pairs_18 (x_R rfl) ?_
      cases hr1
      exact hjhr1
    · rw [if_pos hb] at hr1
      refine e_iconst (pc := 14) dX12_pairs_14 (x_R rfl) ?_
      refine e_goto (pc := 15) (tgt := 19) dX12_pairs_15 (by decide) ?_
      cases hr1
      exact hjhr1
def G12_watches_L24 (a : Int) (S : xU) (v2 : Int) : (Int × Int) → Option ((Int × Int) ⊕ Int)
  | (v6, v7) => (if (S 1 3) ≤ v7 then (some (.inr v6)) else (x_b1 (if v6 = 0 then (x_b1 (G12_isOf a v7) fun (v13 : Int) => (if v13 = 0 then (some 0) else (x_b1 (G12_isLost v7 S) fun (v15 : Int) => (if v15 = 0 then (x_b1 (G12_of v2 0 S) fun (v17 : Int) => (x_b1 (G12_of v7 0 S) fun (v19 : Int) => (x_b1 (G12_steps v17 v19) fun (v21 : Int) => (if 2 < v21 then (some 0) else (some 1))))) else (some 0))))) else (some 1)) fun (v11 : Int) => (some (.inl (v11, (x_add v7 1))))))
def G12_watches_L4 (a : Int) (S : xU) : (Int × Int) → Option ((Int × Int) ⊕ Int)
  | (v1, v2) => (if (S 1 3) ≤ v2 then (some (.inr v1)) else (if v1 = 0 then (some (.inr v1)) else (x_b1 (whl xFU (G12_watches_L24 a S v2) (0, 0)) fun (v8 : Int) => (some (.inl (v8, (x_add v2 1)))))))
def G12_watches (a : Int) (S : xU) : Option Int :=
  (x_b1 (whl xFU (G12_watches_L4 a S) (1, 0)) fun (v3 : Int) => (x_gd (v3 = 0 ∨ v3 = 1) (some v3)))
set_option maxRecDepth 100000 in
set_option maxHeartbeats 4000000 in
theorem c_X12_watches {g : xG} {al : List (Nat × Nat × Nat)} {ro : Nat → Nat → Option Nat} (hst : g.1.stackTraces = false) (hs : SH al ro) {M : Nat → xU} {a : Int} {S : xU} {t : Int} (hG : G12_watches a S = some t) :
    Cal g yX12_watches cX12_watches 6 (some .boolean) 2 [x_r (16 * 32 + 0), x_i a] (al, ro, fl (ml M [32] [S])) 0 0 (.inl (some (x_i t))) (al, ro, fl (ml M [32] [S])) := by
  have hn : ([32] : List Nat).Nodup := by decide
  refine cal_of_ev (by decide) (x_c1 rfl) (Nat.le_of_ble_eq_true rfl) hst ?_
  show Ev g _ _ _ _ _ _ 0 [some (x_r (16 * 32 + 0)), some (x_i a), none, none, none, none] [] (al, ro, fl (ml M [32] [S])) _ _ _ _
  rw [G12_watches] at hG
  refine e_iconst (pc := 0) dX12_watches_0 (x_R rfl) ?_
  refine e_istoren (pc := 1) (i := 2) dX12_watches_1 rfl (by decide) rfl ?_
  show Ev g _ _ _ _ _ _ 2 [some (x_r (16 * 32 + 0)), some (x_i a), some (x_i 1), none, none, none] [] (al, ro, fl (ml M [32] [S])) _ _ _ _
  refine e_iconst (pc := 2) dX12_watches_2 (x_R rfl) ?_
  refine e_istoren (pc := 3) (i := 3) dX12_watches_3 rfl (by decide) rfl ?_
  show Ev g _ _ _ _ _ _ 4 [some (x_r (16 * 32 + 0)), some (x_i a), some (x_i 1), some (x_i 0), none, none] [] (al, ro, fl (ml M [32] [S])) _ _ _ _
  obtain ⟨v3, hl4, hG⟩ := x_bd1 hG
  have hk4 : ∀ q : Int, q = v3 → Ev g yX12_watches cX12_watches 6 (some .boolean) [] 2 100 [some (x_r (16 * 32 + 0)), some (x_i a), some (x_i q), none, none, none] [] (al, ro, fl (ml M [32] [S])) 0 0 (.inl (some (x_i t))) (al, ro, fl (ml M [32] [S])) := by
    intro q hq
    replace hq := hq.symm
    subst hq
    refine e_iloadn (pc := 100) (i := 2) dX12_watches_100 rfl rfl ?_
    obtain ⟨hc0, hG⟩ := x_gd_some hG
    cases hG
    exact (e_ireturn rfl dX12_watches_101 (x_bool hc0).1)
  clear hG
  refine e_whl (G12_watches_L4 a S) (fun z : (Int × Int) => Ev g yX12_watches cX12_watches 6 (some .boolean) [] 2 4 [some (x_r (16 * 32 + 0)), some (x_i a), some (x_i z.1), some (x_i z.2), none, none] [] (al, ro, fl (ml M [32] [S])) 0 0 (.inl (some (x_i t))) (al, ro, fl (ml M [32] [S]))) (fun q => q = v3) ?_ xFU (1, 0) _ hl4 rfl
  intro z t4 hf4 hi4 hx4
  obtain ⟨v1, v2⟩ := z
  rw [G12_watches_L4] at hf4
  show Ev g _ _ _ _ _ _ 4 [some (x_r (16 * 32 + 0)), some (x_i a), some (x_i v1), some (x_i v2), none, none] [] (al, ro, fl (ml M [32] [S])) _ _ _ _
  refine e_iloadn (pc := 4) (i := 3) dX12_watches_4 rfl rfl ?_
  refine e_aloadn (pc := 5) (i := 0) dX12_watches_5 rfl rfl ?_
  refine f_getr (pc := 6) (u := 32) (q := 0) dX12_watches_6 xf12_7 (sa_32_0 hs) rfl (sr_32_0_1 hs) ?_
  refine e_iconst (pc := 9) dX12_watches_9 (x_R rfl) ?_
  refine f_iald (pc := 10) (k := 0) (u := 32) (q := 1) (len := 772) dX12_watches_10 (sa_32_1 hs) (by decide) hn rfl rfl (by decide) ?_
  show Ev g _ _ _ _ _ _ 11 [some (x_r (16 * 32 + 0)), some (x_i a), some (x_i v1), some (x_i v2), none, none] [x_i (S 1 3), x_i v2] (al, ro, fl (ml M [32] [S])) _ _ _ _
  refine e_icmp_ge (pc := 11) (tgt := 100) dX12_watches_11 (by decide) (fun hb => ?_) (fun hb => ?_)
  · rw [if_pos hb] at hf4
    cases hf4
    refine e_drop (i := 3) ?_
    exact hk4 _ (hx4 _ rfl)
  · rw [if_neg hb] at hf4
    refine e_iloadn (pc := 14) (i := 2) dX12_watches_14 rfl rfl ?_
    refine e_if_eq (pc := 15) (tgt := 100) dX12_watches_15 (by decide) (fun hb => ?_) (fun hb => ?_)
    · rw [if_pos hb] at hf4
      cases hf4
      refine e_drop (i := 3) ?_
      exact hk4 _ (hx4 _ rfl)
    · rw [if_neg hb] at hf4
      refine e_iconst (pc := 18) dX12_watches_18 (x_R rfl) ?_
      refine e_istore (pc := 19) (i := 4) dX12_watches_19 (by decide) rfl ?_
      show Ev g _ _ _ _ _ _ 21 [some (x_r (16 * 32 + 0)), some (x_i a), some (x_i v1), some (x_i v2), some (x_i 0), none] [] (al, ro, fl (ml M [32] [S])) _ _ _ _
      refine e_iconst (pc := 21) dX12_watches_21 (x_R rfl) ?_
      refine e_istore (pc := 22) (i := 5) dX12_watches_22 (by decide) rfl ?_
      show Ev g _ _ _ _ _ _ 24 [some (x_r (16 * 32 + 0)), some (x_i a), some (x_i v1), some (x_i v2), some (x_i 0), some (x_i 0)] [] (al, ro, fl (ml M [32] [S])) _ _ _ _
      obtain ⟨v8, hl9, hf4⟩ := x_bd1 hf4
      have hk9 : ∀ q : Int, q = v8 → Ev g yX12_watches cX12_watches 6 (some .boolean) [] 2 91 [some (x_r (16 * 32 + 0)), some (x_i a), some (x_i v1), some (x_i v2), some (x_i q), none] [] (al, ro, fl (ml M [32] [S])) 0 0 (.inl (some (x_i t))) (al, ro, fl (ml M [32] [S])) := by
        intro q hq
        replace hq := hq.symm
        subst hq
        refine e_iload (pc := 91) dX12_watches_91 rfl ?_
        refine e_istoren (pc := 93) (i := 2) dX12_watches_93 rfl (by decide) rfl ?_
        show Ev g _ _ _ _ _ _ 94 [some (x_r (16 * 32 + 0)), some (x_i a), some (x_i v8), some (x_i v2), some (x_i v8), none] [] (al, ro, fl (ml M [32] [S])) _ _ _ _
        refine e_iinc (pc := 94) dX12_watches_94 rfl (by decide) rfl ?_
        show Ev g _ _ _ _ _ _ 97 [some (x_r (16 * 32 + 0)), some (x_i a), some (x_i v8), some (x_i (x_add v2 1)), some (x_i v8), none] [] (al, ro, fl (ml M [32] [S])) _ _ _ _
        refine e_goto (pc := 97) (tgt := 4) dX12_watches_97 (by decide) ?_
        cases hf4
        refine e_drop (i := 4) ?_
        exact hi4 _ rfl
      clear hf4
      refine e_whl (G12_watches_L24 a S v2) (fun z : (Int × Int) => Ev g yX12_watches cX12_watches 6 (some .boolean) [] 2 24 [some (x_r (16 * 32 + 0)), some (x_i a), some (x_i v1), some (x_i v2), some (x_i z.1), some (x_i z.2)] [] (al, ro, fl (ml M [32] [S])) 0 0 (.inl (some (x_i t))) (al, ro, fl (ml M [32] [S]))) (fun q => q = v8) ?_ xFU (0, 0) _ hl9 rfl
      intro z t9 hf9 hi9 hx9
      obtain ⟨v6, v7⟩ := z
      rw [G12_watches_L24] at hf9
      show Ev g _ _ _ _ _ _ 24 [some (x_r (16 * 32 + 0)), some (x_i a), some (x_i v1), some (x_i v2), some (x_i v6), some (x_i v7)] [] (al, ro, fl (ml M [32] [S])) _ _ _ _
      refine e_iload (pc := 24) dX12_watches_24 rfl ?_
      refine e_aloadn (pc := 26) (i := 0) dX12_watches_26 rfl rfl ?_
      refine f_getr (pc := 27) (u := 32) (q := 0) dX12_watches_27 xf12_7 (sa_32_0 hs) rfl (sr_32_0_1 hs) ?_
      refine e_iconst (pc := 30) dX12_watches_30 (x_R rfl) ?_
      refine f_iald (pc := 31) (k := 0) (u := 32) (q := 1) (len := 772) dX12_watches_31 (sa_32_1 hs) (by decide) hn rfl rfl (by decide) ?_
      show Ev g _ _ _ _ _ _ 32 [some (x_r (16 * 32 + 0)), some (x_i a), some (x_i v1), some (x_i v2), some (x_i v6), some (x_i v7)] [x_i (S 1 3), x_i v7] (al, ro, fl (ml M [32] [S])) _ _ _ _
      refine e_icmp_ge (pc := 32) (tgt := 91) dX12_watches_32 (by decide) (fun hb => ?_) (fun hb => ?_)
      · rw [if_pos hb] at hf9
        cases hf9
        refine e_drop (i := 5) ?_
        exact hk9 _ (hx9 _ rfl)
      · rw [if_neg hb] at hf9
        refine e_iload (pc := 35) dX12_watches_35 rfl ?_
        obtain ⟨v11, hr11, hf9⟩ := x_bd1 hf9
        have hjhr11 : Ev g yX12_watches cX12_watches 6 (some .boolean) [] 2 83 [some (x_r (16 * 32 + 0)), some (x_i a), some (x_i v1), some (x_i v2), some (x_i v6), some (x_i v7)] [x_i v11] (al, ro, fl (ml M [32] [S])) 0 0 (.inl (some (x_i t))) (al, ro, fl (ml M [32] [S])) := by
          refine e_istore (pc := 83) (i := 4) dX12_watches_83 (by decide) rfl ?_
          show Ev g _ _ _ _ _ _ 85 [some (x_r (16 * 32 + 0)), some (x_i a), some (x_i v1), some (x_i v2), some (x_i v11), some (x_i v7)] [] (al, ro, fl (ml M [32] [S])) _ _ _ _
          refine e_iinc (pc := 85) dX12_watches_85 rfl (by decide) rfl ?_
          show Ev g _ _ _ _ _ _ 88 [some (x_r (16 * 32 + 0)), some (x_i a), some (x_i v1), some (x_i v2), some (x_i v11), some (x_i (x_add v7 1))] [] (al, ro, fl (ml M [32] [S])) _ _ _ _
          refine e_goto (pc := 88) (tgt := 24) dX12_watches_88 (by decide) ?_
          cases hf9
          exact hi9 _ rfl
        clear hf9
        refine e_if_ne (pc := 37) (tgt := 78) dX12_watches_37 (by decide) (fun hb => ?_) (fun hb => ?_)
        · rw [if_neg hb] at hr11
          refine e_iconst (pc := 78) dX12_watches_78 (x_R rfl) ?_
          refine e_goto (pc := 79) (tgt := 83) dX12_watches_79 (by decide) ?_
          cases hr11
          exact hjhr11
        · rw [if_pos hb] at hr11
          refine e_iloadn (pc := 40) (i := 1) dX12_watches_40 rfl rfl ?_
          refine e_iload (pc := 41) dX12_watches_41 rfl ?_
          obtain ⟨v13, hq13, hr11⟩ := x_bd1 hr11
          refine e_invS (pc := 43) (K1 := 0) (S1 := 0) (K := 0) (S := 0) (dd2 := 0) (av := [x_i a, x_i v7]) (st := []) dX12_watches_43 xmX12_119 rfl (f_cal (M := M) (us2 := []) [] hn rfl trivial rfl rfl rfl (c_X12_isOf hst hs   hq13)) (by decide) (Nat.le_of_ble_eq_true rfl) (Or.inl rfl) ?_
          show Ev g _ _ _ _ _ _ 46 [some (x_r (16 * 32 + 0)), some (x_i a), some (x_i v1), some (x_i v2), some (x_i v6), some (x_i v7)] [x_i v13] (al, ro, fl (ml M [32] [S])) _ _ _ _
          refine e_if_eq (pc := 46) (tgt := 82) dX12_watches_46 (by decide) (fun hb => ?_) (fun hb => ?_)
          · rw [if_pos hb] at hr11
            refine e_iconst (pc := 82) dX12_watches_82 (x_R rfl) ?_
            cases hr11
            exact hjhr11
          · rw [if_neg hb] at hr11
            refine e_aloadn (pc := 49) (i := 0) dX12_watches_49 rfl rfl ?_
            refine e_iload (pc := 50) dX12_watches_50 rfl ?_
            obtain ⟨v15, hq15, hr11⟩ := x_bd1 hr11
            refine e_invV (pc := 52) (K1 := 0) (S1 := 0) (K := 0) (S := 0) (dd2 := 1) (av := [x_i v7]) (st := []) (id := 16 * 32 + 0) dX12_watches_52 xmX12_69 rfl (Or.inl ⟨10, 27, TX12, (sa_32_0 hs), rfl, by decide⟩) (f_cal (M := M) (us2 := [32]) [0] hn rfl (And.intro rfl trivial) rfl rfl rfl (c_X12_isLost hst hs   hq15)) (by decide) (Nat.le_of_ble_eq_true rfl) (Or.inl rfl) ?_
            show Ev g _ _ _ _ _ _ 55 [some (x_r (16 * 32 + 0)), some (x_i a), some (x_i v1), some (x_i v2), some (x_i v6), some (x_i v7)] [x_i v15] (al, ro, fl (ml M [32] [S])) _ _ _ _
            refine e_if_ne (pc := 55) (tgt := 82) dX12_watches_55 (by decide) (fun hb => ?_) (fun hb => ?_)
            · rw [if_neg hb] at hr11
              refine e_iconst (pc := 82) dX12_watches_82 (x_R rfl) ?_
              cases hr11
              exact hjhr11
            · rw [if_pos hb] at hr11
              refine e_aloadn (pc := 58) (i := 0) dX12_watches_58 rfl rfl ?_
              refine e_iloadn (pc := 59) (i := 3) dX12_watches_59 rfl rfl ?_
              refine e_iconst (pc := 60) dX12_watches_60 (x_R rfl) ?_
              obtain ⟨v17, hq17, hr11⟩ := x_bd1 hr11
              refine e_invV (pc := 61) (K1 := 0) (S1 := 0) (K := 0) (S := 0) (dd2 := 0) (av := [x_i v2, x_i 0]) (st := []) (id := 16 * 32 + 0) dX12_watches_61 xmX12_65 rfl (Or.inl ⟨10, 27, TX12, (sa_32_0 hs), rfl, by decide⟩) (f_cal (M := M) (us2 := [32]) [0] hn rfl (And.intro rfl trivial) rfl rfl rfl (c_X12_of hst hs   hq17)) (by decide) (Nat.le_of_ble_eq_true rfl) (Or.inl rfl) ?_
              show Ev g _ _ _ _ _ _ 64 [some (x_r (16 * 32 + 0)), some (x_i a), some (x_i v1), some (x_i v2), some (x_i v6), some (x_i v7)] [x_i v17] (al, ro, fl (ml M [32] [S])) _ _ _ _
              refine e_aloadn (pc := 64) (i := 0) dX12_watches_64 rfl rfl ?_
              refine e_iload (pc := 65) dX12_watches_65 rfl ?_
              refine e_iconst (pc := 67) dX12_watches_67 (x_R rfl) ?_
              obtain ⟨v19, hq19, hr11⟩ := x_bd1 hr11
              refine e_invV (pc := 68) (K1 := 0) (S1 := 0) (K := 0) (S := 0) (dd2 := 0) (av := [x_i v7, x_i 0]) (st := [x_i v17]) (id := 16 * 32 + 0) dX12_watches_68 xmX12_65 rfl (Or.inl ⟨10, 27, TX12, (sa_32_0 hs), rfl, by decide⟩) (f_cal (M := M) (us2 := [32]) [0] hn rfl (And.intro rfl trivial) rfl rfl rfl (c_X12_of hst hs   hq19)) (by decide) (Nat.le_of_ble_eq_true rfl) (Or.inl rfl) ?_
              show Ev g _ _ _ _ _ _ 71 [some (x_r (16 * 32 + 0)), some (x_i a), some (x_i v1), some (x_i v2), some (x_i v6), some (x_i v7)] [x_i v19, x_i v17] (al, ro, fl (ml M [32] [S])) _ _ _ _
              obtain ⟨v21, hq21, hr11⟩ := x_bd1 hr11
              refine e_invS (pc := 71) (K1 := 0) (S1 := 0) (K := 0) (S := 0) (dd2 := 1) (av := [x_i v17, x_i v19]) (st := []) dX12_watches_71 xmX12_331 rfl (f_cal (M := M) (us2 := []) [] hn rfl trivial rfl rfl rfl (c_X12_steps hst hs   hq21)) (by decide) (Nat.le_of_ble_eq_true rfl) (Or.inl rfl) ?_
              show Ev g _ _ _ _ _ _ 74 [some (x_r (16 * 32 + 0)), some (x_i a), some (x_i v1), some (x_i v2), some (x_i v6), some (x_i v7)] [x_i v21] (al, ro, fl (ml M [32] [S])) _ _ _ _
              refine e_iconst (pc := 74) dX12_watches_74 (x_R rfl) ?_
              refine e_icmp_gt (pc := 75) (tgt := 82) dX12_watches_75 (by decide) (fun hb => ?_) (fun hb => ?_)
              · rw [if_pos hb] at hr11
                refine e_iconst (pc := 82) dX12_watches_82 (x_R rfl) ?_
                cases hr11
                exact hjhr11
              · rw [if_neg hb] at hr11
                refine e_iconst (pc := 78) dX12_watches_78 (x_R rfl) ?_
                refine e_goto (pc := 79) (tgt := 83) dX12_watches_79 (by decide) ?_
                cases hr11
                exact hjhr11
def G12_goneOnes_L4 (S : xU) : (Int × Int) → Option ((Int × Int) ⊕ Int)
  | (v1, v2) => (if (S 1 3) ≤ v2 then (some (.inr v1)) else (x_b1 (G12_isLost v2 S) fun (v6 : Int) => (x_b1 (if v6 = 0 then (some 0) else (some (x_shl 1 v2))) fun (v8 : Int) => (some (.inl ((x_or v1 v8), (x_add v2 1)))))))
def G12_goneOnes (S : xU) : Option Int :=
  (x_b1 (whl xFU (G12_goneOnes_L4 S) (0, 0)) fun (v3 : Int) => (some v3))
set_option maxRecDepth 100000 in
set_option maxHeartbeats 4000000 in
theorem c_X12_goneOnes {g : xG} {al : List (Nat × Nat × Nat)} {ro : Nat → Nat → Option Nat} (hst : g.1.stackTraces = false) (hs : SH al ro) {M : Nat → xU} {S : xU} {t : Int} (hG : G12_goneOnes S = some t) :
    Cal g yX12_goneOnes cX12_goneOnes 3 (some .int) 2 [x_r (16 * 32 + 0)] (al, ro, fl (ml M [32] [S])) 0 0 (.inl (some (x_i t))) (al, ro, fl (ml M [32] [S])) := by
  have hn : ([32] : List Nat).Nodup := by decide
  refine cal_of_ev (by decide) (x_c1 rfl) (Nat.le_of_ble_eq_true rfl) hst ?_
  show Ev g _ _ _ _ _ _ 0 [some (x_r (16 * 32 + 0)), none, none] [] (al, ro, fl (ml M [32] [S])) _ _ _ _
  rw [G12_goneOnes] at hG
  refine e_iconst (pc := 0) dX12_goneOnes_0 (x_R rfl) ?_
  refine e_istoren (pc := 1) (i := 1) dX12_goneOnes_1 rfl (by decide) rfl ?_
  show Ev g _ _ _ _ _ _ 2 [some (x_r (16 * 32 + 0)), some (x_i 0), none] [] (al, ro, fl (ml M [32] [S])) _ _ _ _
  refine e_iconst (pc := 2) dX12_goneOnes_2 (x_R rfl) ?_
  refine e_istoren (pc := 3) (i := 2) dX12_goneOnes_3 rfl (by decide) rfl ?_
  show Ev g _ _ _ _ _ _ 4 [some (x_r (16 * 32 + 0)), some (x_i 0), some (x_i 0)] [] (al, ro, fl (ml M [32] [S])) _ _ _ _
  obtain ⟨v3, hl4, hG⟩ := x_bd1 hG
  have hk4 : ∀ q : Int, q = v3 → Ev g yX12_goneOnes cX12_goneOnes 3 (some .int) [] 2 38 [some (x_r (16 * 32 + 0)), some (x_i q), none] [] (al, ro, fl (ml M [32] [S])) 0 0 (.inl (some (x_i t))) (al, ro, fl (ml M [32] [S])) := by
    intro q hq
    replace hq := hq.symm
    subst hq
    refine e_iloadn (pc := 38) (i := 1) dX12_goneOnes_38 rfl rfl ?_
    cases hG
    exact (e_ireturn rfl dX12_goneOnes_39 rfl)
  clear hG
  refine e_whl (G12_goneOnes_L4 S) (fun z : (Int × Int) => Ev g yX12_goneOnes cX12_goneOnes 3 (some .int) [] 2 4 [some (x_r (16 * 32 + 0)), some (x_i z.1), some (x_i z.2)] [] (al, ro, fl (ml M [32] [S])) 0 0 (.inl (some (x_i t))) (al, ro, fl (ml M [32] [S]))) (fun q => q = v3) ?_ xFU (0, 0) _ hl4 rfl
  intro z t4 hf4 hi4 hx4
  obtain ⟨v1, v2⟩ := z
  rw [G12_goneOnes_L4] at hf4
  show Ev g _ _ _ _ _ _ 4 [some (x_r (16 * 32 + 0)), some (x_i v1), some (x_i v2)] [] (al, ro, fl (ml M [32] [S])) _ _ _ _
  refine e_iloadn (pc := 4) (i := 2) dX12_goneOnes_4 rfl rfl ?_
  refine e_aloadn (pc := 5) (i := 0) dX12_goneOnes_5 rfl rfl ?_
  refine f_getr (pc := 6) (u := 32) (q := 0) dX12_goneOnes_6 xf12_7 (sa_32_0 hs) rfl (sr_32_0_1 hs) ?_
  refine e_iconst (pc := 9) dX12_goneOnes_9 (x_R rfl) ?_
  refine f_iald (pc := 10) (k := 0) (u := 32) (q := 1) (len := 772) dX12_goneOnes_10 (sa_32_1 hs) (by decide) hn rfl rfl (by decide) ?_
  show Ev g _ _ _ _ _ _ 11 [some (x_r (16 * 32 + 0)), some (x_i v1), some (x_i v2)] [x_i (S 1 3), x_i v2] (al, ro, fl (ml M [32] [S])) _ _ _ _
  refine e_icmp_ge (pc := 11) (tgt := 38) dX12_goneOnes_11 (by decide) (fun hb => ?_) (fun hb => ?_)
  · rw [if_pos hb] at hf4
    cases hf4
    refine e_drop (i := 2) ?_
    exact hk4 _ (hx4 _ rfl)
  · rw [if_neg hb] at hf4
    refine e_iloadn (pc := 14) (i := 1) dX12_goneOnes_14 rfl rfl ?_
    refine e_aloadn (pc := 15) (i := 0) dX12_goneOnes_15 rfl rfl ?_
    refine e_iloadn (pc := 16) (i := 2) dX12_goneOnes_16 rfl rfl ?_
    obtain ⟨v6, hq6, hf4⟩ := x_bd1 hf4
    refine e_invV (pc := 17) (K1 := 0) (S1 := 0) (K := 0) (S := 0) (dd2 := 1) (av := [x_i v2]) (st := [x_i v1]) (id := 16 * 32 + 0) dX12_goneOnes_17 xmX12_69 rfl (Or.inl ⟨10, 27, TX12, (sa_32_0 hs), rfl, by decide⟩) (f_cal (M := M) (us2 := [32]) [0] hn rfl (And.intro rfl trivial) rfl rfl rfl (c_X12_isLost hst hs   hq6)) (by decide) (Nat.le_of_ble_eq_true rfl) (Or.inl rfl) ?_
    show Ev g _ _ _ _ _ _ 20 [some (x_r (16 * 32 + 0)), some (x_i v1), some (x_i v2)] [x_i v6, x_i v1] (al, ro, fl (ml M [32] [S])) _ _ _ _
    obtain ⟨v8, hr8, hf4⟩ := x_bd1 hf4
    have hjhr8 : Ev g yX12_goneOnes cX12_goneOnes 3 (some .int) [] 2 30 [some (x_r (16 * 32 + 0)), some (x_i v1), some (x_i v2)] [x_i v8, x_i v1] (al, ro, fl (ml M [32] [S])) 0 0 (.inl (some (x_i t))) (al, ro, fl (ml M [32] [S])) := by
      refine e_ior (pc := 30) dX12_goneOnes_30 ?_
      refine e_istoren (pc := 31) (i := 1) dX12_goneOnes_31 rfl (by decide) rfl ?_
      show Ev g _ _ _ _ _ _ 32 [some (x_r (16 * 32 + 0)), some (x_i (x_or v1 v8)), some (x_i v2)] [] (al, ro, fl (ml M [32] [S])) _ _ _ _
      refine e_iinc (pc := 32) dX12_goneOnes_32 rfl (by decide) rfl ?_
      show Ev g _ _ _ _ _ _ 35 [some (x_r (16 * 32 + 0)), some (x_i (x_or v1 v8)), some (x_i (x_add v2 1))] [] (al, ro, fl (ml M [32] [S])) _ _ _ _
      refine e_goto (pc := 35) (tgt := 4) dX12_goneOnes_35 (by decide) ?_
      cases hf4
      exact hi4 _ rfl
    clear hf4
    refine e_if_eq (pc := 20) (tgt := 29) dX12_goneOnes_20 (by decide) (fun hb => ?_) (fun hb => ?_)
    · rw [if_pos hb] at hr8
      refine e_iconst (pc := 29) dX12_goneOnes_29 (x_R rfl) ?_
      cases hr8
      exact hjhr8
    · rw [if_neg hb] at hr8
      refine e_iconst (pc := 23) dX12_goneOnes_23 (x_R rfl) ?_
      refine e_iloadn (pc := 24) (i := 2) dX12_goneOnes_24 rfl rfl ?_
      refine e_ishl (pc := 25) dX12_goneOnes_25 ?_
      refine e_goto (pc := 26) (tgt := 30) dX12_goneOnes_26 (by decide) ?_
      cases hr8
      exact hjhr8
def G12_watch_L14 (S : xU) (v1 : Int) : (Int × Int) → Option ((Int × Int) ⊕ Int)
  | (v3, v4) => (x_b1 (G12_all (x_up S 0 0 0)) fun (v8 : Int) => (if v8 < v4 then (some (.inr v3)) else (x_b1 (if (x_and v4 v1) = 0 then (if v3 = (-1) then (x_b1 (G12_watches v4 (x_up S 0 0 0)) fun (v12 : Int) => (if v12 = 0 then (some v3) else (some v4))) else (x_b1 (G12_bits v4) fun (v14 : Int) => (x_b1 (G12_bits v3) fun (v16 : Int) => (if v16 ≤ v14 then (some v3) else (x_b1 (G12_watches v4 (x_up S 0 0 0)) fun (v18 : Int) => (if v18 = 0 then (some v3) else (some v4))))))) else (some v3)) fun (v10 : Int) => (some (.inl (v10, (x_add v4 1)))))))
def G12_watch (S : xU) : Option (Int × xU) :=
  (x_b1 (G12_goneOnes (x_up S 0 0 0)) fun (v1 : Int) => (x_b1 (whl xFU (G12_watch_L14 S v1) ((-1), 0)) fun (v5 : Int) => (some (v5, (x_up S 0 0 0)))))
set_option maxRecDepth 100000 in
set_option maxHeartbeats 4000000 in
theorem c_X12_watch {g : xG} {al : List (Nat × Nat × Nat)} {ro : Nat → Nat → Option Nat} (hst : g.1.stackTraces = false) (hs : SH al ro) {M : Nat → xU} {S : xU} {t : (Int × xU)} (hG : G12_watch S = some t) :
    Cal g yX12_watch cX12_watch 4 (some .int) 3 [x_r (16 * 32 + 0)] (al, ro, fl (ml M [32] [S])) 0 0 (.inl (some (x_i t.1))) (al, ro, fl (ml M [32] [t.2])) := by
  have hn : ([32] : List Nat).Nodup := by decide
  refine cal_of_ev (by decide) (x_c1 rfl) (Nat.le_of_ble_eq_true rfl) hst ?_
  show Ev g _ _ _ _ _ _ 0 [some (x_r (16 * 32 + 0)), none, none, none] [] (al, ro, fl (ml M [32] [S])) _ _ _ _
  rw [G12_watch] at hG
  refine e_aloadn (pc := 0) (i := 0) dX12_watch_0 rfl rfl ?_
  refine e_iconst (pc := 1) dX12_watch_1 (x_R rfl) ?_
  refine f_puti (pc := 2) (k := 0) (u := 32) (q := 0) dX12_watch_2 xf12_58 xw10_0 (sa_32_0 hs) hn rfl rfl rfl (by decide) ?_
  show Ev g _ _ _ _ _ _ 5 [some (x_r (16 * 32 + 0)), none, none, none] [] (al, ro, fl (ml M [32] [(x_up S 0 0 0)])) _ _ _ _
  refine e_aloadn (pc := 5) (i := 0) dX12_watch_5 rfl rfl ?_
  obtain ⟨v1, hq1, hG⟩ := x_bd1 hG
  refine e_invV (pc := 6) (K1 := 0) (S1 := 0) (K := 0) (S := 0) (dd2 := 2) (av := []) (st := []) (id := 16 * 32 + 0) dX12_watch_6 xmX12_394 rfl (Or.inl ⟨10, 27, TX12, (sa_32_0 hs), rfl, by decide⟩) (f_cal (M := M) (us2 := [32]) [0] hn rfl (And.intro rfl trivial) rfl rfl rfl (c_X12_goneOnes hst hs   hq1)) (by decide) (Nat.le_of_ble_eq_true rfl) (Or.inl rfl) ?_
  show Ev g _ _ _ _ _ _ 9 [some (x_r (16 * 32 + 0)), none, none, none] [x_i v1] (al, ro, fl (ml M [32] [(x_up S 0 0 0)])) _ _ _ _
  refine e_istoren (pc := 9) (i := 1) dX12_watch_9 rfl (by decide) rfl ?_
  show Ev g _ _ _ _ _ _ 10 [some (x_r (16 * 32 + 0)), some (x_i v1), none, none] [] (al, ro, fl (ml M [32] [(x_up S 0 0 0)])) _ _ _ _
  refine e_iconst (pc := 10) dX12_watch_10 (x_R rfl) ?_
  refine e_istoren (pc := 11) (i := 2) dX12_watch_11 rfl (by decide) rfl ?_
  show Ev g _ _ _ _ _ _ 12 [some (x_r (16 * 32 + 0)), some (x_i v1), some (x_i (-1)), none] [] (al, ro, fl (ml M [32] [(x_up S 0 0 0)])) _ _ _ _
  refine e_iconst (pc := 12) dX12_watch_12 (x_R rfl) ?_
  refine e_istoren (pc := 13) (i := 3) dX12_watch_13 rfl (by decide) rfl ?_
  show Ev g _ _ _ _ _ _ 14 [some (x_r (16 * 32 + 0)), some (x_i v1), some (x_i (-1)), some (x_i 0)] [] (al, ro, fl (ml M [32] [(x_up S 0 0 0)])) _ _ _ _
  obtain ⟨v5, hl6, hG⟩ := x_bd1 hG
  have hk6 : ∀ q : Int, q = v5 → Ev g yX12_watch cX12_watch 4 (some .int) [] 3 60 [some (x_r (16 * 32 + 0)), some (x_i v1), some (x_i q), none] [] (al, ro, fl (ml M [32] [(x_up S 0 0 0)])) 0 0 (.inl (some (x_i t.1))) (al, ro, fl (ml M [32] [t.2])) := by
    intro q hq
    replace hq := hq.symm
    subst hq
    refine e_iloadn (pc := 60) (i := 2) dX12_watch_60 rfl rfl ?_
    cases hG
    exact (e_ireturn rfl dX12_watch_61 rfl)
  clear hG
  refine e_whl (G12_watch_L14 S v1) (fun z : (Int × Int) => Ev g yX12_watch cX12_watch 4 (some .int) [] 3 14 [some (x_r (16 * 32 + 0)), some (x_i v1), some (x_i z.1), some (x_i z.2)] [] (al, ro, fl (ml M [32] [(x_up S 0 0 0)])) 0 0 (.inl (some (x_i t.1))) (al, ro, fl (ml M [32] [t.2]))) (fun q => q = v5) ?_ xFU ((-1), 0) _ hl6 rfl
  intro z t6 hf6 hi6 hx6
  obtain ⟨v3, v4⟩ := z
  rw [G12_watch_L14] at hf6
  show Ev g _ _ _ _ _ _ 14 [some (x_r (16 * 32 + 0)), some (x_i v1), some (x_i v3), some (x_i v4)] [] (al, ro, fl (ml M [32] [(x_up S 0 0 0)])) _ _ _ _
  refine e_iloadn (pc := 14) (i := 3) dX12_watch_14 rfl rfl ?_
  refine e_aloadn (pc := 15) (i := 0) dX12_watch_15 rfl rfl ?_
  obtain ⟨v8, hq8, hf6⟩ := x_bd1 hf6
  refine e_invV (pc := 16) (K1 := 0) (S1 := 0) (K := 0) (S := 0) (dd2 := 0) (av := []) (st := [x_i v4]) (id := 16 * 32 + 0) dX12_watch_16 xmX12_346 rfl (Or.inl ⟨10, 27, TX12, (sa_32_0 hs), rfl, by decide⟩) (f_cal (M := M) (us2 := [32]) [0] hn rfl (And.intro rfl trivial) rfl rfl rfl (c_X12_all hst hs   hq8)) (by decide) (Nat.le_of_ble_eq_true rfl) (Or.inl rfl) ?_
  show Ev g _ _ _ _ _ _ 19 [some (x_r (16 * 32 + 0)), some (x_i v1), some (x_i v3), some (x_i v4)] [x_i v8, x_i v4] (al, ro, fl (ml M [32] [(x_up S 0 0 0)])) _ _ _ _
  refine e_icmp_gt (pc := 19) (tgt := 60) dX12_watch_19 (by decide) (fun hb => ?_) (fun hb => ?_)
  · rw [if_pos hb] at hf6
    cases hf6
    refine e_drop (i := 3) ?_
    exact hk6 _ (hx6 _ rfl)
  · rw [if_neg hb] at hf6
    refine e_iloadn (pc := 22) (i := 3) dX12_watch_22 rfl rfl ?_
    refine e_iloadn (pc := 23) (i := 1) dX12_watch_23 rfl rfl ?_
    refine e_iand (pc := 24) dX12_watch_24 ?_
    obtain ⟨v10, hr10, hf6⟩ := x_bd1 hf6
    have hjhr10 : Ev g yX12_watch cX12_watch 4 (some .int) [] 3 54 [some (x_r (16 * 32 + 0)), some (x_i v1), some (x_i v10), some (x_i v4)] [] (al, ro, fl (ml M [32] [(x_up S 0 0 0)])) 0 0 (.inl (some (x_i t.1))) (al, ro, fl (ml M [32] [t.2])) := by
      refine e_iinc (pc := 54) dX12_watch_54 rfl (by decide) rfl ?_
      show Ev g _ _ _ _ _ _ 57 [some (x_r (16 * 32 + 0)), some (x_i v1), some (x_i v10), some (x_i (x_add v4 1))] [] (al, ro, fl (ml M [32] [(x_up S 0 0 0)])) _ _ _ _
      refine e_goto (pc := 57) (tgt := 14) dX12_watch_57 (by decide) ?_
      cases hf6
      exact hi6 _ rfl
    clear hf6
    refine e_if_ne (pc := 25) (tgt := 54) dX12_watch_25 (by decide) (fun hb => ?_) (fun hb => ?_)
    · rw [if_neg hb] at hr10
      cases hr10
      exact hjhr10
    · rw [if_pos hb] at hr10
      refine e_iloadn (pc := 28) (i := 2) dX12_watch_28 rfl rfl ?_
      refine e_iconst (pc := 29) dX12_watch_29 (x_R rfl) ?_
      refine e_icmp_eq (pc := 30) (tgt := 44) dX12_watch_30 (by decide) (fun hb => ?_) (fun hb => ?_)
      · rw [if_pos hb] at hr10
        refine e_aloadn (pc := 44) (i := 0) dX12_watch_44 rfl rfl ?_
        refine e_iloadn (pc := 45) (i := 3) dX12_watch_45 rfl rfl ?_
        obtain ⟨v12, hq12, hr10⟩ := x_bd1 hr10
        refine e_invV (pc := 46) (K1 := 0) (S1 := 0) (K := 0) (S := 0) (dd2 := 2) (av := [x_i v4]) (st := []) (id := 16 * 32 + 0) dX12_watch_46 xmX12_397 rfl (Or.inl ⟨10, 27, TX12, (sa_32_0 hs), rfl, by decide⟩) (f_cal (M := M) (us2 := [32]) [0] hn rfl (And.intro rfl trivial) rfl rfl rfl (c_X12_watches hst hs   hq12)) (by decide) (Nat.le_of_ble_eq_true rfl) (Or.inl rfl) ?_
        show Ev g _ _ _ _ _ _ 49 [some (x_r (16 * 32 + 0)), some (x_i v1), some (x_i v3), some (x_i v4)] [x_i v12] (al, ro, fl (ml M [32] [(x_up S 0 0 0)])) _ _ _ _
        refine e_if_eq (pc := 49) (tgt := 54) dX12_watch_49 (by decide) (fun hb => ?_) (fun hb => ?_)
        · rw [if_pos hb] at hr10
          cases hr10
          exact hjhr10
        · rw [if_neg hb] at hr10
          refine e_iloadn (pc := 52) (i := 3) dX12_watch_52 rfl rfl ?_
          refine e_istoren (pc := 53) (i := 2) dX12_watch_53 rfl (by decide) rfl ?_
          show Ev g _ _ _ _ _ _ 54 [some (x_r (16 * 32 + 0)), some (x_i v1), some (x_i v4), some (x_i v4)] [] (al, ro, fl (ml M [32] [(x_up S 0 0 0)])) _ _ _ _
          cases hr10
          exact hjhr10
      · rw [if_neg hb] at hr10
        refine e_iloadn (pc := 33) (i := 3) dX12_watch_33 rfl rfl ?_
        obtain ⟨v14, hq14, hr10⟩ := x_bd1 hr10
        refine e_invS (pc := 34) (K1 := 0) (S1 := 0) (K := 0) (S := 0) (dd2 := 0) (av := [x_i v4]) (st := []) dX12_watch_34 xmX12_352 rfl (f_cal (M := M) (us2 := []) [] hn rfl trivial rfl rfl rfl (c_X12_bits hst hs   hq14)) (by decide) (Nat.le_of_ble_eq_true rfl) (Or.inl rfl) ?_
        show Ev g _ _ _ _ _ _ 37 [some (x_r (16 * 32 + 0)), some (x_i v1), some (x_i v3), some (x_i v4)] [x_i v14] (al, ro, fl (ml M [32] [(x_up S 0 0 0)])) _ _ _ _
        refine e_iloadn (pc := 37) (i := 2) dX12_watch_37 rfl rfl ?_
        obtain ⟨v16, hq16, hr10⟩ := x_bd1 hr10
        refine e_invS (pc := 38) (K1 := 0) (S1 := 0) (K := 0) (S := 0) (dd2 := 0) (av := [x_i v3]) (st := [x_i v14]) dX12_watch_38 xmX12_352 rfl (f_cal (M := M) (us2 := []) [] hn rfl trivial rfl rfl rfl (c_X12_bits hst hs   hq16)) (by decide) (Nat.le_of_ble_eq_true rfl) (Or.inl rfl) ?_
        show Ev g _ _ _ _ _ _ 41 [some (x_r (16 * 32 + 0)), some (x_i v1), some (x_i v3), some (x_i v4)] [x_i v16, x_i v14] (al, ro, fl (ml M [32] [(x_up S 0 0 0)])) _ _ _ _
        refine e_icmp_ge (pc := 41) (tgt := 54) dX12_watch_41 (by decide) (fun hb => ?_) (fun hb => ?_)
        · rw [if_pos hb] at hr10
          cases hr10
          exact hjhr10
        · rw [if_neg hb] at hr10
          refine e_aloadn (pc := 44) (i := 0) dX12_watch_44 rfl rfl ?_
          refine e_iloadn (pc := 45) (i := 3) dX12_watch_45 rfl rfl ?_
          obtain ⟨v18, hq18, hr10⟩ := x_bd1 hr10
          refine e_invV (pc := 46) (K1 := 0) (S1 := 0) (K := 0) (S := 0) (dd2 := 2) (av := [x_i v4]) (st := []) (id := 16 * 32 + 0) dX12_watch_46 xmX12_397 rfl (Or.inl ⟨10, 27, TX12, (sa_32_0 hs), rfl, by decide⟩) (f_cal (M := M) (us2 := [32]) [0] hn rfl (And.intro rfl trivial) rfl rfl rfl (c_X12_watches hst hs   hq18)) (by decide) (Nat.le_of_ble_eq_true rfl) (Or.inl rfl) ?_
          show Ev g _ _ _ _ _ _ 49 [some (x_r (16 * 32 + 0)), some (x_i v1), some (x_i v3), some (x_i v4)] [x_i v18] (al, ro, fl (ml M [32] [(x_up S 0 0 0)])) _ _ _ _
          refine e_if_eq (pc := 49) (tgt := 54) dX12_watch_49 (by decide) (fun hb => ?_) (fun hb => ?_)
          · rw [if_pos hb] at hr10
            cases hr10
            exact hjhr10
          · rw [if_neg hb] at hr10
            refine e_iloadn (pc := 52) (i := 3) dX12_watch_52 rfl rfl ?_
            refine e_istoren (pc := 53) (i := 2) dX12_watch_53 rfl (by decide) rfl ?_
            show Ev g _ _ _ _ _ _ 54 [some (x_r (16 * 32 + 0)), some (x_i v1), some (x_i v4), some (x_i v4)] [] (al, ro, fl (ml M [32] [(x_up S 0 0 0)])) _ _ _ _
            cases hr10
            exact hjhr10
def G12_roundsOf_L4 (a : Int) (S : xU) : (Int × Int) → Option ((Int × Int) ⊕ Int)
  | (v1, v2) => (if (S 1 3) ≤ v2 then (some (.inr v1)) else (x_b1 (G12_isOf a v2) fun (v6 : Int) => (x_b1 (if v6 = 0 then (some 0) else (x_b1 (G12_of v2 7 S) fun (v10 : Int) => (some v10))) fun (v8 : Int) => (some (.inl ((x_add v1 v8), (x_add v2 1)))))))
def G12_roundsOf (a : Int) (S : xU) : Option Int :=
  (x_b1 (whl xFU (G12_roundsOf_L4 a S) (0, 0)) fun (v3 : Int) => (some v3))
set_option maxRecDepth 100000 in
set_option maxHeartbeats 4000000 in
theorem c_X12_roundsOf {g : xG} {al : List (Nat × Nat × Nat)} {ro : Nat → Nat → Option Nat} (hst : g.1.stackTraces = false) (hs : SH al ro) {M : Nat → xU} {a : Int} {S : xU} {t : Int} (hG : G12_roundsOf a S = some t) :
    Cal g yX12_roundsOf cX12_roundsOf 4 (some .int) 1 [x_r (16 * 32 + 0), x_i a] (al, ro, fl (ml M [32] [S])) 0 0 (.inl (some (x_i t))) (al, ro, fl (ml M [32] [S])) := by
  have hn : ([32] : List Nat).Nodup := by decide
  refine cal_of_ev (by decide) (x_c1 rfl) (Nat.le_of_ble_eq_true rfl) hst ?_
  show Ev g _ _ _ _ _ _ 0 [some (x_r (16 * 32 + 0)), some (x_i a), none, none] [] (al, ro, fl (ml M [32] [S])) _ _ _ _
  rw [G12_roundsOf] at hG
  refine e_iconst (pc := 0) dX12_roundsOf_0 (x_R rfl) ?_
  refine e_istoren (pc := 1) (i := 2) dX12_roundsOf_1 rfl (by decide) rfl ?_
  show Ev g _ _ _ _ _ _ 2 [some (x_r (16 * 32 + 0)), some (x_i a), some (x_i 0), none] [] (al, ro, fl (ml M [32] [S])) _ _ _ _
  refine e_iconst (pc := 2) dX12_roundsOf_2 (x_R rfl) ?_
  refine e_istoren (pc := 3) (i := 3) dX12_roundsOf_3 rfl (by decide) rfl ?_
  show Ev g _ _ _ _ _ _ 4 [some (x_r (16 * 32 + 0)), some (x_i a), some (x_i 0), some (x_i 0)] [] (al, ro, fl (ml M [32] [S])) _ _ _ _
  obtain ⟨v3, hl4, hG⟩ := x_bd1 hG
  have hk4 : ∀ q : Int, q = v3 → Ev g yX12_roundsOf cX12_roundsOf 4 (some .int) [] 1 42 [some (x_r (16 * 32 + 0)), some (x_i a), some (x_i q), none] [] (al, ro, fl (ml M [32] [S])) 0 0 (.inl (some (x_i t))) (al, ro, fl (ml M [32] [S])) := by
    intro q hq
    replace hq := hq.symm
    subst hq
    refine e_iloadn (pc := 42) (i := 2) dX12_roundsOf_42 rfl rfl ?_
    cases hG
    exact (e_ireturn rfl dX12_roundsOf_43 rfl)
  clear hG
  refine e_whl (G12_roundsOf_L4 a S) (fun z : (Int × Int) => Ev g yX12_roundsOf cX12_roundsOf 4 (some .int) [] 1 4 [some (x_r (16 * 32 + 0)), some (x_i a), some (x_i z.1), some (x_i z.2)] [] (al, ro, fl (ml M [32] [S])) 0 0 (.inl (some (x_i t))) (al, ro, fl (ml M [32] [S]))) (fun q => q = v3) ?_ xFU (0, 0) _ hl4 rfl
  intro z t4 hf4 hi4 hx4
  obtain ⟨v1, v2⟩ := z
  rw [G12_roundsOf_L4] at hf4
  show Ev g _ _ _ _ _ _ 4 [some (x_r (16 * 32 + 0)), some (x_i a), some (x_i v1), some (x_i v2)] [] (al, ro, fl (ml M [32] [S])) _ _ _ _
  refine e_iloadn (pc := 4) (i := 3) dX12_roundsOf_4 rfl rfl ?_
  refine e_aloadn (pc := 5) (i := 0) dX12_roundsOf_5 rfl rfl ?_
  refine f_getr (pc := 6) (u := 32) (q := 0) dX12_roundsOf_6 xf12_7 (sa_32_0 hs) rfl (sr_32_0_1 hs) ?_
  refine e_iconst (pc := 9) dX12_roundsOf_9 (x_R rfl) ?_
  refine f_iald (pc := 10) (k := 0) (u := 32) (q := 1) (len := 772) dX12_roundsOf_10 (sa_32_1 hs) (by decide) hn rfl rfl (by decide) ?_
  show Ev g _ _ _ _ _ _ 11 [some (x_r (16 * 32 + 0)), some (x_i a), some (x_i v1), some (x_i v2)] [x_i (S 1 3), x_i v2] (al, ro, fl (ml M [32] [S])) _ _ _ _
  refine e_icmp_ge (pc := 11) (tgt := 42) dX12_roundsOf_11 (by decide) (fun hb => ?_) (fun hb => ?_)
  · rw [if_pos hb] at hf4
    cases hf4
    refine e_drop (i := 3) ?_
    exact hk4 _ (hx4 _ rfl)
  · rw [if_neg hb] at hf4
    refine e_iloadn (pc := 14) (i := 2) dX12_roundsOf_14 rfl rfl ?_
    refine e_iloadn (pc := 15) (i := 1) dX12_roundsOf_15 rfl rfl ?_
    refine e_iloadn (pc := 16) (i := 3) dX12_roundsOf_16 rfl rfl ?_
    obtain ⟨v6, hq6, hf4⟩ := x_bd1 hf4
    refine e_invS (pc := 17) (K1 := 0) (S1 := 0) (K := 0) (S := 0) (dd2 := 0) (av := [x_i a, x_i v2]) (st := [x_i v1]) dX12_roundsOf_17 xmX12_119 rfl (f_cal (M := M) (us2 := []) [] hn rfl trivial rfl rfl rfl (c_X12_isOf hst hs   hq6)) (by decide) (Nat.le_of_ble_eq_true rfl) (Or.inl rfl) ?_
    show Ev g _ _ _ _ _ _ 20 [some (x_r (16 * 32 + 0)), some (x_i a), some (x_i v1), some (x_i v2)] [x_i v6, x_i v1] (al, ro, fl (ml M [32] [S])) _ _ _ _
    obtain ⟨v8, hr8, hf4⟩ := x_bd1 hf4
    have hjhr8 : Ev g yX12_roundsOf cX12_roundsOf 4 (some .int) [] 1 34 [some (x_r (16 * 32 + 0)), some (x_i a), some (x_i v1), some (x_i v2)] [x_i v8, x_i v1] (al, ro, fl (ml M [32] [S])) 0 0 (.inl (some (x_i t))) (al, ro, fl (ml M [32] [S])) := by
      refine e_iadd (pc := 34) dX12_roundsOf_34 ?_
      refine e_istoren (pc := 35) (i := 2) dX12_roundsOf_35 rfl (by decide) rfl ?_
      show Ev g _ _ _ _ _ _ 36 [some (x_r (16 * 32 + 0)), some (x_i a), some (x_i (x_add v1 v8)), some (x_i v2)] [] (al, ro, fl (ml M [32] [S])) _ _ _ _
      refine e_iinc (pc := 36) dX12_roundsOf_36 rfl (by decide) rfl ?_
      show Ev g _ _ _ _ _ _ 39 [some (x_r (16 * 32 + 0)), some (x_i a), some (x_i (x_add v1 v8)), some (x_i (x_add v2 1))] [] (al, ro, fl (ml M [32] [S])) _ _ _ _
      refine e_goto (pc := 39) (tgt := 4) dX12_roundsOf_39 (by decide) ?_
      cases hf4
      exact hi4 _ rfl
    clear hf4
    refine e_if_eq (pc := 20) (tgt := 33) dX12_roundsOf_20 (by decide) (fun hb => ?_) (fun hb => ?_)
    · rw [if_pos hb] at hr8
      refine e_iconst (pc := 33) dX12_roundsOf_33 (x_R rfl) ?_
      cases hr8
      exact hjhr8
    · rw [if_neg hb] at hr8
      refine e_aloadn (pc := 23) (i := 0) dX12_roundsOf_23 rfl rfl ?_
      refine e_iloadn (pc := 24) (i := 3) dX12_roundsOf_24 rfl rfl ?_
      refine e_bipush (pc := 25) dX12_roundsOf_25 (by decide +kernel) (x_R rfl) ?_
      obtain ⟨v10, hq10, hr8⟩ := x_bd1 hr8
      refine e_invV (pc := 27) (K1 := 0) (S1 := 0) (K := 0) (S := 0) (dd2 := 0) (av := [x_i v2, x_i 7]) (st := [x_i v1]) (id := 16 * 32 + 0) dX12_roundsOf_27 xmX12_65 rfl (Or.inl ⟨10, 27, TX12, (sa_32_0 hs), rfl, by decide⟩) (f_cal (M := M) (us2 := [32]) [0] hn rfl (And.intro rfl trivial) rfl rfl rfl (c_X12_of hst hs   hq10)) (by decide) (Nat.le_of_ble_eq_true rfl) (Or.inl rfl) ?_
      show Ev g _ _ _ _ _ _ 30 [some (x_r (16 * 32 + 0)), some (x_i a), some (x_i v1), some (x_i v2)] [x_i v10, x_i v1] (al, ro, fl (ml M [32] [S])) _ _ _ _
      refine e_goto (pc := 30) (tgt := 34) dX12_roundsOf_30 (by decide) ?_
      cases hr8
      exact hjhr8
def G12_carries (a : Int) (S : xU) : Option Int :=
  (x_b1 (G12_roundsOf a S) fun (v1 : Int) => (x_b1 (G12_all S) fun (v3 : Int) => (x_b1 (G12_roundsOf v3 S) fun (v5 : Int) => (x_b1 (if (x_mul 2 v1) ≤ v5 then (some 0) else (some 1)) fun (v7 : Int) => (x_gd (v7 = 0 ∨ v7 = 1) (some v7))))))
set_option maxRecDepth 100000 in
set_option maxHeartbeats 4000000 in
theorem c_X12_carries {g : xG} {al : List (Nat × Nat × Nat)} {ro : Nat → Nat → Option Nat} (hst : g.1.stackTraces = false) (hs : SH al ro) {M : Nat → xU} {a : Int} {S : xU} {t : Int} (hG : G12_carries a S = some t) :
    Cal g yX12_carries cX12_carries 2 (some .boolean) 2 [x_r (16 * 32 + 0), x_i a] (al, ro, fl (ml M [32] [S])) 0 0 (.inl (some (x_i t))) (al, ro, fl (ml M [32] [S])) := by
  have hn : ([32] : List Nat).Nodup := by decide
  refine cal_of_ev (by decide) (x_c1 rfl) (Nat.le_of_ble_eq_true rfl) hst ?_
  show Ev g _ _ _ _ _ _ 0 [some (x_r (16 * 32 + 0)), some (x_i a)] [] (al, ro, fl (ml M [32] [S])) _ _ _ _
  rw [G12_carries] at hG
  refine e_iconst (pc := 0) dX12_carries_0 (x_R rfl) ?_
  refine e_aloadn (pc := 1) (i := 0) dX12_carries_1 rfl rfl ?_
  refine e_iloadn (pc := 2) (i := 1) dX12_carries_2 rfl rfl ?_
  obtain ⟨v1, hq1, hG⟩ := x_bd1 hG
  refine e_invV (pc := 3) (K1 := 0) (S1 := 0) (K := 0) (S := 0) (dd2 := 1) (av := [x_i a]) (st := [x_i 2]) (id := 16 * 32 + 0) dX12_carries_3 xmX12_400 rfl (Or.inl ⟨10, 27, TX12, (sa_32_0 hs), rfl, by decide⟩) (f_cal (M := M) (us2 := [32]) [0] hn rfl (And.intro rfl trivial) rfl rfl rfl (c_X12_roundsOf hst hs   hq1)) (by decide) (Nat.le_of_ble_eq_true rfl) (Or.inl rfl) ?_
  show Ev g _ _ _ _ _ _ 6 [some (x_r (16 * 32 + 0)), some (x_i a)] [x_i v1, x_i 2] (al, ro, fl (ml M [32] [S])) _ _ _ _
  refine e_imul (pc := 6) dX12_carries_6 ?_
  refine e_aloadn (pc := 7) (i := 0) dX12_carries_7 rfl rfl ?_
  refine e_aloadn (pc := 8) (i := 0) dX12_carries_8 rfl rfl ?_
  obtain ⟨v3, hq3, hG⟩ := x_bd1 hG
  refine e_invV (pc := 9) (K1 := 0) (S1 := 0) (K := 0) (S := 0) (dd2 := 0) (av := []) (st := [x_r (16 * 32 + 0), x_i (x_mul 2 v1)]) (id := 16 * 32 + 0) dX12_carries_9 xmX12_346 rfl (Or.inl ⟨10, 27, TX12, (sa_32_0 hs), rfl, by decide⟩) (f_cal (M := M) (us2 := [32]) [0] hn rfl (And.intro rfl trivial) rfl rfl rfl (c_X12_all hst hs   hq3)) (by decide) (Nat.le_of_ble_eq_true rfl) (Or.inl rfl) ?_
  show Ev g _ _ _ _ _ _ 12 [some (x_r (16 * 32 + 0)), some (x_i a)] [x_i v3, x_r (16 * 32 + 0), x_i (x_mul 2 v1)] (al, ro, fl (ml M [32] [S])) _ _ _ _
  obtain ⟨v5, hq5, hG⟩ := x_bd1 hG
  refine e_invV (pc := 12) (K1 := 0) (S1 := 0) (K := 0) (S := 0) (dd2 := 1) (av := [x_i v3]) (st := [x_i (x_mul 2 v1)]) (id := 16 * 32 + 0) dX12_carries_12 xmX12_400 rfl (Or.inl ⟨10, 27, TX12, (sa_32_0 hs), rfl, by decide⟩) (f_cal (M := M) (us2 := [32]) [0] hn rfl (And.intro rfl trivial) rfl rfl rfl (c_X12_roundsOf hst hs   hq5)) (by decide) (Nat.le_of_ble_eq_true rfl) (Or.inl rfl) ?_
  show Ev g _ _ _ _ _ _ 15 [some (x_r (16 * 32 + 0)), some (x_i a)] [x_i v5, x_i (x_mul 2 v1)] (al, ro, fl (ml M [32] [S])) _ _ _ _
  obtain ⟨v7, hr7, hG⟩ := x_bd1 hG
  have hjhr7 : Ev g yX12_carries cX12_carries 2 (some .boolean) [] 2 23 [some (x_r (16 * 32 + 0)), some (x_i a)] [x_i v7] (al, ro, fl (ml M [32] [S])) 0 0 (.inl (some (x_i t))) (al, ro, fl (ml M [32] [S])) := by
    obtain ⟨hc0, hG⟩ := x_gd_some hG
    cases hG
    exact (e_ireturn rfl dX12_carries_23 (x_bool hc0).1)
  clear hG
  refine e_icmp_le (pc := 15) (tgt := 22) dX12_carries_15 (by decide) (fun hb => ?_) (fun hb => ?_)
  · rw [if_pos hb] at hr7
    refine e_iconst (pc := 22) dX12_carries_22 (x_R rfl) ?_
    cases hr7
    exact hjhr7
  · rw [if_neg hb] at hr7
    refine e_iconst (pc := 18) dX12_carries_18 (x_R rfl) ?_
    refine e_goto (pc := 19) (tgt := 23) dX12_carries_19 (by decide) ?_
    cases hr7
    exact hjhr7
def G12_chapter (a : Int) (S : xU) : Option (Int × xU) :=
  (x_b1 (G12_carries a (x_up S 0 0 0)) fun (v1 : Int) => (x_gd (v1 = 0 ∨ v1 = 1) (some (v1, (x_up S 0 0 0)))))
set_option maxRecDepth 100000 in
set_option maxHeartbeats 4000000 in
theorem c_X12_chapter {g : xG} {al : List (Nat × Nat × Nat)} {ro : Nat → Nat → Option Nat} (hst : g.1.stackTraces = false) (hs : SH al ro) {M : Nat → xU} {a : Int} {S : xU} {t : (Int × xU)} (hG : G12_chapter a S = some t) :
    Cal g yX12_chapter cX12_chapter 2 (some .boolean) 3 [x_r (16 * 32 + 0), x_i a] (al, ro, fl (ml M [32] [S])) 0 0 (.inl (some (x_i t.1))) (al, ro, fl (ml M [32] [t.2])) := by
  have hn : ([32] : List Nat).Nodup := by decide
  refine cal_of_ev (by decide) (x_c1 rfl) (Nat.le_of_ble_eq_true rfl) hst ?_
  show Ev g _ _ _ _ _ _ 0 [some (x_r (16 * 32 + 0)), some (x_i a)] [] (al, ro, fl (ml M [32] [S])) _ _ _ _
  rw [G12_chapter] at hG
  refine e_aloadn (pc := 0) (i := 0) dX12_chapter_0 rfl rfl ?_
  refine e_iconst (pc := 1) dX12_chapter_1 (x_R rfl) ?_
  refine f_puti (pc := 2) (k := 0) (u := 32) (q := 0) dX12_chapter_2 xf12_58 xw10_0 (sa_32_0 hs) hn rfl rfl rfl (by decide) ?_
  show Ev g _ _ _ _ _ _ 5 [some (x_r (16 * 32 + 0)), some (x_i a)] [] (al, ro, fl (ml M [32] [(x_up S 0 0 0)])) _ _ _ _
  refine e_aloadn (pc := 5) (i := 0) dX12_chapter_5 rfl rfl ?_
  refine e_iloadn (pc := 6) (i := 1) dX12_chapter_6 rfl rfl ?_
  obtain ⟨v1, hq1, hG⟩ := x_bd1 hG
  refine e_invV (pc := 7) (K1 := 0) (S1 := 0) (K := 0) (S := 0) (dd2 := 2) (av := [x_i a]) (st := []) (id := 16 * 32 + 0) dX12_chapter_7 xmX12_403 rfl (Or.inl ⟨10, 27, TX12, (sa_32_0 hs), rfl, by decide⟩) (f_cal (M := M) (us2 := [32]) [0] hn rfl (And.intro rfl trivial) rfl rfl rfl (c_X12_carries hst hs   hq1)) (by decide) (Nat.le_of_ble_eq_true rfl) (Or.inl rfl) ?_
  show Ev g _ _ _ _ _ _ 10 [some (x_r (16 * 32 + 0)), some (x_i a)] [x_i v1] (al, ro, fl (ml M [32] [(x_up S 0 0 0)])) _ _ _ _
  obtain ⟨hc0, hG⟩ := x_gd_some hG
  cases hG
  exact (e_ireturn rfl dX12_chapter_10 (x_bool hc0).1)
def G12_swingsOf_L4 (a : Int) (S : xU) : (Int × Int) → Option ((Int × Int) ⊕ Int)
  | (v1, v2) => (x_b1 (G12_all S) fun (v6 : Int) => (if v6 < v2 then (some (.inr v1)) else (x_b1 (G12_isOf v2 a) fun (v8 : Int) => (x_b1 (if v8 = 0 then (some 0) else (x_b1 (G12_carries v2 S) fun (v12 : Int) => (if v12 = 0 then (some 0) else (x_b1 (G12_carries (x_and v2 (x_xor (x_shl 1 a) (-1))) S) fun (v14 : Int) => (if v14 = 0 then (some 1) else (some 0)))))) fun (v10 : Int) => (some (.inl ((x_add v1 v10), (x_add v2 1))))))))
def G12_swingsOf (a : Int) (S : xU) : Option Int :=
  (x_b1 (whl xFU (G12_swingsOf_L4 a S) (0, 0)) fun (v3 : Int) => (some v3))
set_option maxRecDepth 100000 in
set_option maxHeartbeats 4000000 in
theorem c_X12_swingsOf {g : xG} {al : List (Nat × Nat × Nat)} {ro : Nat → Nat → Option Nat} (hst : g.1.stackTraces = false) (hs : SH al ro) {M : Nat → xU} {a : Int} {S : xU} {t : Int} (hG : G12_swingsOf a S = some t) :
    Cal g yX12_swingsOf cX12_swingsOf 4 (some .int) 3 [x_r (16 * 32 + 0), x_i a] (al, ro, fl (ml M [32] [S])) 0 0 (.inl (some (x_i t))) (al, ro, fl (ml M [32] [S])) := by
  have hn : ([32] : List Nat).Nodup := by decide
  refine cal_of_ev (by decide) (x_c1 rfl) (Nat.le_of_ble_eq_true rfl) hst ?_
  show Ev g _ _ _ _ _ _ 0 [some (x_r (16 * 32 + 0)), some (x_i a), none, none] [] (al, ro, fl (ml M [32] [S])) _ _ _ _
  rw [G12_swingsOf] at hG
  refine e_iconst (pc := 0) dX12_swingsOf_0 (x_R rfl) ?_
  refine e_istoren (pc := 1) (i := 2) dX12_swingsOf_1 rfl (by decide) rfl ?_
  show Ev g _ _ _ _ _ _ 2 [some (x_r (16 * 32 + 0)), some (x_i a), some (x_i 0), none] [] (al, ro, fl (ml M [32] [S])) _ _ _ _
  refine e_iconst (pc := 2) dX12_swingsOf_2 (x_R rfl) ?_
  refine e_istoren (pc := 3) (i := 3) dX12_swingsOf_3 rfl (by decide) rfl ?_
  show Ev g _ _ _ _ _ _ 4 [some (x_r (16 * 32 + 0)), some (x_i a), some (x_i 0), some (x_i 0)] [] (al, ro, fl (ml M [32] [S])) _ _ _ _
  obtain ⟨v3, hl4, hG⟩ := x_bd1 hG
  have hk4 : ∀ q : Int, q = v3 → Ev g yX12_swingsOf cX12_swingsOf 4 (some .int) [] 3 56 [some (x_r (16 * 32 + 0)), some (x_i a), some (x_i q), none] [] (al, ro, fl (ml M [32] [S])) 0 0 (.inl (some (x_i t))) (al, ro, fl (ml M [32] [S])) := by
    intro q hq
    replace hq := hq.symm
    subst hq
    refine e_iloadn (pc := 56) (i := 2) dX12_swingsOf_56 rfl rfl ?_
    cases hG
    exact (e_ireturn rfl dX12_swingsOf_57 rfl)
  clear hG
  refine e_whl (G12_swingsOf_L4 a S) (fun z : (Int × Int) => Ev g yX12_swingsOf cX12_swingsOf 4 (some .int) [] 3 4 [some (x_r (16 * 32 + 0)), some (x_i a), some (x_i z.1), some (x_i z.2)] [] (al, ro, fl (ml M [32] [S])) 0 0 (.inl (some (x_i t))) (al, ro, fl (ml M [32] [S]))) (fun q => q = v3) ?_ xFU (0, 0) _ hl4 rfl
  intro z t4 hf4 hi4 hx4
  obtain ⟨v1, v2⟩ := z
  rw [G12_swingsOf_L4] at hf4
  show Ev g _ _ _ _ _ _ 4 [some (x_r (16 * 32 + 0)), some (x_i a), some (x_i v1), some (x_i v2)] [] (al, ro, fl (ml M [32] [S])) _ _ _ _
  refine e_iloadn (pc := 4) (i := 3) dX12_swingsOf_4 rfl rfl ?_
  refine e_aloadn (pc := 5) (i := 0) dX12_swingsOf_5 rfl rfl ?_
  obtain ⟨v6, hq6, hf4⟩ := x_bd1 hf4
  refine e_invV (pc := 6) (K1 := 0) (S1 := 0) (K := 0) (S := 0) (dd2 := 0) (av := []) (st := [x_i v2]) (id := 16 * 32 + 0) dX12_swingsOf_6 xmX12_346 rfl (Or.inl ⟨10, 27, TX12, (sa_32_0 hs), rfl, by decide⟩) (f_cal (M := M) (us2 := [32]) [0] hn rfl (And.intro rfl trivial) rfl rfl rfl (c_X12_all hst hs   hq6)) (by decide) (Nat.le_of_ble_eq_true rfl) (Or.inl rfl) ?_
  show Ev g _ _ _ _ _ _ 9 [some (x_r (16 * 32 + 0)), some (x_i a), some (x_i v1), some (x_i v2)] [x_i v6, x_i v2] (al, ro, fl (ml M [32] [S])) _ _ _ _
  refine e_icmp_gt (pc := 9) (tgt := 56) dX12_swingsOf_9 (by decide) (fun hb => ?_) (fun hb => ?_)
  · rw [if_pos hb] at hf4
    cases hf4
    refine e_drop (i := 3) ?_
    exact hk4 _ (hx4 _ rfl)
  · rw [if_neg hb] at hf4
    refine e_iloadn (pc := 12) (i := 2) dX12_swingsOf_12 rfl rfl ?_
    refine e_iloadn (pc := 13) (i := 3) dX12_swingsOf_13 rfl rfl ?_
    refine e_iloadn (pc := 14) (i := 1) dX12_swingsOf_14 rfl rfl ?_
    obtain ⟨v8, hq8, hf4⟩ := x_bd1 hf4
    refine e_invS (pc := 15) (K1 := 0) (S1 := 0) (K := 0) (S := 0) (dd2 := 0) (av := [x_i v2, x_i a]) (st := [x_i v1]) dX12_swingsOf_15 xmX12_119 rfl (f_cal (M := M) (us2 := []) [] hn rfl trivial rfl rfl rfl (c_X12_isOf hst hs   hq8)) (by decide) (Nat.le_of_ble_eq_true rfl) (Or.inl rfl) ?_
    show Ev g _ _ _ _ _ _ 18 [some (x_r (16 * 32 + 0)), some (x_i a), some (x_i v1), some (x_i v2)] [x_i v8, x_i v1] (al, ro, fl (ml M [32] [S])) _ _ _ _
    obtain ⟨v10, hr10, hf4⟩ := x_bd1 hf4
    have hjhr10 : Ev g yX12_swingsOf cX12_swingsOf 4 (some .int) [] 3 48 [some (x_r (16 * 32 + 0)), some (x_i a), some (x_i v1), some (x_i v2)] [x_i v10, x_i v1] (al, ro, fl (ml M [32] [S])) 0 0 (.inl (some (x_i t))) (al, ro, fl (ml M [32] [S])) := by
      refine e_iadd (pc := 48) dX12_swingsOf_48 ?_
      refine e_istoren (pc := 49) (i := 2) dX12_swingsOf_49 rfl (by decide) rfl ?_
      show Ev g _ _ _ _ _ _ 50 [some (x_r (16 * 32 + 0)), some (x_i a), some (x_i (x_add v1 v10)), some (x_i v2)] [] (al, ro, fl (ml M [32] [S])) _ _ _ _
      refine e_iinc (pc := 50) dX12_swingsOf_50 rfl (by decide) rfl ?_
      show Ev g _ _ _ _ _ _ 53 [some (x_r (16 * 32 + 0)), some (x_i a), some (x_i (x_add v1 v10)), some (x_i (x_add v2 1))] [] (al, ro, fl (ml M [32] [S])) _ _ _ _
      refine e_goto (pc := 53) (tgt := 4) dX12_swingsOf_53 (by decide) ?_
      cases hf4
      exact hi4 _ rfl
    clear hf4
    refine e_if_eq (pc := 18) (tgt := 47) dX12_swingsOf_18 (by decide) (fun hb => ?_) (fun hb => ?_)
    · rw [if_pos hb] at hr10
      refine e_iconst (pc := 47) dX12_swingsOf_47 (x_R rfl) ?_
      cases hr10
      exact hjhr10
    · rw [if_neg hb] at hr10
      refine e_aloadn (pc := 21) (i := 0) dX12_swingsOf_21 rfl rfl ?_
      refine e_iloadn (pc := 22) (i := 3) dX12_swingsOf_22 rfl rfl ?_
      obtain ⟨v12, hq12, hr10⟩ := x_bd1 hr10
      refine e_invV (pc := 23) (K1 := 0) (S1 := 0) (K := 0) (S := 0) (dd2 := 2) (av := [x_i v2]) (st := [x_i v1]) (id := 16 * 32 + 0) dX12_swingsOf_23 xmX12_403 rfl (Or.inl ⟨10, 27, TX12, (sa_32_0 hs), rfl, by decide⟩) (f_cal (M := M) (us2 := [32]) [0] hn rfl (And.intro rfl trivial) rfl rfl rfl (c_X12_carries hst hs   hq12)) (by decide) (Nat.le_of_ble_eq_true rfl) (Or.inl rfl) ?_
      show Ev g _ _ _ _ _ _ 26 [some (x_r (16 * 32 + 0)), some (x_i a), some (x_i v1), some (x_i v2)] [x_i v12, x_i v1] (al, ro, fl (ml M [32] [S])) _ _ _ _
      refine e_if_eq (pc := 26) (tgt := 47) dX12_swingsOf_26 (by decide) (fun hb => ?_) (fun hb => ?_)
      · rw [if_pos hb] at hr10
        refine e_iconst (pc := 47) dX12_swingsOf_47 (x_R rfl) ?_
        cases hr10
        exact hjhr10
      · rw [if_neg hb] at hr10
        refine e_aloadn (pc := 29) (i := 0) dX12_swingsOf_29 rfl rfl ?_
        refine e_iloadn (pc := 30) (i := 3) dX12_swingsOf_30 rfl rfl ?_
        refine e_iconst (pc := 31) dX12_swingsOf_31 (x_R rfl) ?_
        refine e_iloadn (pc := 32) (i := 1) dX12_swingsOf_32 rfl rfl ?_
        refine e_ishl (pc := 33) dX12_swingsOf_33 ?_
        refine e_iconst (pc := 34) dX12_swingsOf_34 (x_R rfl) ?_
        refine e_ixor (pc := 35) dX12_swingsOf_35 ?_
        refine e_iand (pc := 36) dX12_swingsOf_36 ?_
        obtain ⟨v14, hq14, hr10⟩ := x_bd1 hr10
        refine e_invV (pc := 37) (K1 := 0) (S1 := 0) (K := 0) (S := 0) (dd2 := 2) (av := [x_i (x_and v2 (x_xor (x_shl 1 a) (-1)))]) (st := [x_i v1]) (id := 16 * 32 + 0) dX12_swingsOf_37 xmX12_403 rfl (Or.inl ⟨10, 27, TX12, (sa_32_0 hs), rfl, by decide⟩) (f_cal (M := M) (us2 := [32]) [0] hn rfl (And.intro rfl trivial) rfl rfl rfl (c_X12_carries hst hs   hq14)) (by decide) (Nat.le_of_ble_eq_true rfl) (Or.inl rfl) ?_
        show Ev g _ _ _ _ _ _ 40 [some (x_r (16 * 32 + 0)), some (x_i a), some (x_i v1), some (x_i v2)] [x_i v14, x_i v1] (al, ro, fl (ml M [32] [S])) _ _ _ _
        refine e_if_ne (pc := 40) (tgt := 47) dX12_swingsOf_40 (by decide) (fun hb => ?_) (fun hb => ?_)
        · rw [if_neg hb] at hr10
          refine e_iconst (pc := 47) dX12_swingsOf_47 (x_R rfl) ?_
          cases hr10
          exact hjhr10
        · rw [if_pos hb] at hr10
          refine e_iconst (pc := 43) dX12_swingsOf_43 (x_R rfl) ?_
          refine e_goto (pc := 44) (tgt := 48) dX12_swingsOf_44 (by decide) ?_
          cases hr10
          exact hjhr10
def G12_swings (a : Int) (S : xU) : Option (Int × xU) :=
  (x_b1 (G12_isMonk a S) fun (v1 : Int) => (x_b1 (if v1 = 0 then (some 1) else (some 0)) fun (v3 : Int) => (x_b1 (if ((x_up S 0 0 v3) 0 0) ≤ 0 then (x_b1 (G12_swingsOf a (x_up S 0 0 v3)) fun (v7 : Int) => (some v7)) else (some 0)) fun (v5 : Int) => (some (v5, (x_up S 0 0 v3))))))
set_option maxRecDepth 100000 in
set_option maxHeartbeats 4000000 in
theorem c_X12_swings {g : xG} {al : List (Nat × Nat × Nat)} {ro : Nat → Nat → Option Nat} (hst : g.1.stackTraces = false) (hs : SH al ro) {M : Nat → xU} {a : Int} {S : xU} {t : (Int × xU)} (hG : G12_swings a S = some t) :
    Cal g yX12_swings cX12_swings 2 (some .int) 4 [x_r (16 * 32 + 0), x_i a] (al, ro, fl (ml M [32] [S])) 0 0 (.inl (some (x_i t.1))) (al, ro, fl (ml M [32] [t.2])) := by
  have hn : ([32] : List Nat).Nodup := by decide
  refine cal_of_ev (by decide) (x_c1 rfl) (Nat.le_of_ble_eq_true rfl) hst ?_
  show Ev g _ _ _ _ _ _ 0 [some (x_r (16 * 32 + 0)), some (x_i a)] [] (al, ro, fl (ml M [32] [S])) _ _ _ _
  rw [G12_swings] at hG
  refine e_aloadn (pc := 0) (i := 0) dX12_swings_0 rfl rfl ?_
  refine e_aloadn (pc := 1) (i := 0) dX12_swings_1 rfl rfl ?_
  refine e_iloadn (pc := 2) (i := 1) dX12_swings_2 rfl rfl ?_
  obtain ⟨v1, hq1, hG⟩ := x_bd1 hG
  refine e_invV (pc := 3) (K1 := 0) (S1 := 0) (K := 0) (S := 0) (dd2 := 1) (av := [x_i a]) (st := [x_r (16 * 32 + 0)]) (id := 16 * 32 + 0) dX12_swings_3 xmX12_295 rfl (Or.inl ⟨10, 27, TX12, (sa_32_0 hs), rfl, by decide⟩) (f_cal (M := M) (us2 := [32]) [0] hn rfl (And.intro rfl trivial) rfl rfl rfl (c_X12_isMonk hst hs   hq1)) (by decide) (Nat.le_of_ble_eq_true rfl) (Or.inl rfl) ?_
  show Ev g _ _ _ _ _ _ 6 [some (x_r (16 * 32 + 0)), some (x_i a)] [x_i v1, x_r (16 * 32 + 0)] (al, ro, fl (ml M [32] [S])) _ _ _ _
  obtain ⟨v3, hr3, hG⟩ := x_bd1 hG
  have hjhr3 : Ev g yX12_swings cX12_swings 2 (some .int) [] 4 14 [some (x_r (16 * 32 + 0)), some (x_i a)] [x_i v3, x_r (16 * 32 + 0)] (al, ro, fl (ml M [32] [S])) 0 0 (.inl (some (x_i t.1))) (al, ro, fl (ml M [32] [t.2])) := by
    refine f_puti (pc := 14) (k := 0) (u := 32) (q := 0) dX12_swings_14 xf12_58 xw10_0 (sa_32_0 hs) hn rfl rfl rfl (by decide) ?_
    show Ev g _ _ _ _ _ _ 17 [some (x_r (16 * 32 + 0)), some (x_i a)] [] (al, ro, fl (ml M [32] [(x_up S 0 0 v3)])) _ _ _ _
    refine e_aloadn (pc := 17) (i := 0) dX12_swings_17 rfl rfl ?_
    refine f_geti (pc := 18) (k := 0) (u := 32) (q := 0) dX12_swings_18 xf12_58 (sa_32_0 hs) rfl hn rfl rfl (by decide) ?_
    show Ev g _ _ _ _ _ _ 21 [some (x_r (16 * 32 + 0)), some (x_i a)] [x_i ((x_up S 0 0 v3) 0 0)] (al, ro, fl (ml M [32] [(x_up S 0 0 v3)])) _ _ _ _
    obtain ⟨v5, hr5, hG⟩ := x_bd1 hG
    have hjhr5 : Ev g yX12_swings cX12_swings 2 (some .int) [] 4 33 [some (x_r (16 * 32 + 0)), some (x_i a)] [x_i v5] (al, ro, fl (ml M [32] [(x_up S 0 0 v3)])) 0 0 (.inl (some (x_i t.1))) (al, ro, fl (ml M [32] [t.2])) := by
      cases hG
      exact (e_ireturn rfl dX12_swings_33 rfl)
    clear hG
    refine e_if_le (pc := 21) (tgt := 28) dX12_swings_21 (by decide) (fun hb => ?_) (fun hb => ?_)
    · rw [if_pos hb] at hr5
      refine e_aloadn (pc := 28) (i := 0) dX12_swings_28 rfl rfl ?_
      refine e_iloadn (pc := 29) (i := 1) dX12_swings_29 rfl rfl ?_
      obtain ⟨v7, hq7, hr5⟩ := x_bd1 hr5
      refine e_invV (pc := 30) (K1 := 0) (S1 := 0) (K := 0) (S := 0) (dd2 := 3) (av := [x_i a]) (st := []) (id := 16 * 32 + 0) dX12_swings_30 xmX12_406 rfl (Or.inl ⟨10, 27, TX12, (sa_32_0 hs), rfl, by decide⟩) (f_cal (M := M) (us2 := [32]) [0] hn rfl (And.intro rfl trivial) rfl rfl rfl (c_X12_swingsOf hst hs   hq7)) (by decide) (Nat.le_of_ble_eq_true rfl) (Or.inl rfl) ?_
      show Ev g _ _ _ _ _ _ 33 [some (x_r (16 * 32 + 0)), some (x_i a)] [x_i v7] (al, ro, fl (ml M [32] [(x_up S 0 0 v3)])) _ _ _ _
      cases hr5
      exact hjhr5
    · rw [if_neg hb] at hr5
      refine e_iconst (pc := 24) dX12_swings_24 (x_R rfl) ?_
      refine e_goto (pc := 25) (tgt := 33) dX12_swings_25 (by decide) ?_
      cases hr5
      exact hjhr5
  clear hG
  refine e_if_ne (pc := 6) (tgt := 13) dX12_swings_6 (by decide) (fun hb => ?_) (fun hb => ?_)
  · rw [if_neg hb] at hr3
    refine e_iconst (pc := 13) dX12_swings_13 (x_R rfl) ?_
    cases hr3
    exact hjhr3
  · rw [if_pos hb] at hr3
    refine e_iconst (pc := 9) dX12_swings_9 (x_R rfl) ?_
    refine e_goto (pc := 10) (tgt := 14) dX12_swings_10 (by decide) ?_
    cases hr3
    exact hjhr3
def G12_elder_L11 (S : xU) : (Int × Int × Int) → Option ((Int × Int × Int) ⊕ Int)
  | (v1, v2, v3) => (if ((x_up S 0 0 0) 1 3) ≤ v3 then (some (.inr v1)) else (x_b1 (G12_swingsOf v3 (x_up S 0 0 0)) fun (v7 : Int) => (x_b2 (if v2 < v7 then (some (v3, v7)) else (some (v1, v2))) fun (v9 : Int) (v10 : Int) => (some (.inl (v9, v10, (x_add v3 1)))))))
def G12_elder (S : xU) : Option (Int × xU) :=
  (x_b1 (whl xFU (G12_elder_L11 S) ((-1), 0, 0)) fun (v4 : Int) => (some (v4, (x_up S 0 0 0))))
set_option maxRecDepth 100000 in
set_option maxHeartbeats 4000000 in
theorem c_X12_elder {g : xG} {al : List (Nat × Nat × Nat)} {ro : Nat → Nat → Option Nat} (hst : g.1.stackTraces = false) (hs : SH al ro) {M : Nat → xU} {S : xU} {t : (Int × xU)} (hG : G12_elder S = some t) :
    Cal g yX12_elder cX12_elder 5 (some .int) 4 [x_r (16 * 32 + 0)] (al, ro, fl (ml M [32] [S])) 0 0 (.inl (some (x_i t.1))) (al, ro, fl (ml M [32] [t.2])) := by
  have hn : ([32] : List Nat).Nodup := by decide
  refine cal_of_ev (by decide) (x_c1 rfl) (Nat.le_of_ble_eq_true rfl) hst ?_
  show Ev g _ _ _ _ _ _ 0 [some (x_r (16 * 32 + 0)), none, none, none, none] [] (al, ro, fl (ml M [32] [S])) _ _ _ _
  rw [G12_elder] at hG
  refine e_aloadn (pc := 0) (i := 0) dX12_elder_0 rfl rfl ?_
  refine e_iconst (pc := 1) dX12_elder_1 (x_R rfl) ?_
  refine f_puti (pc := 2) (k := 0) (u := 32) (q := 0) dX12_elder_2 xf12_58 xw10_0 (sa_32_0 hs) hn rfl rfl rfl (by decide) ?_
  show Ev g _ _ _ _ _ _ 5 [some (x_r (16 * 32 + 0)), none, none, none, none] [] (al, ro, fl (ml M [32] [(x_up S 0 0 0)])) _ _ _ _
  refine e_iconst (pc := 5) dX12_elder_5 (x_R rfl) ?_
  refine e_istoren (pc := 6) (i := 1) dX12_elder_6 rfl (by decide) rfl ?_
  show Ev g _ _ _ _ _ _ 7 [some (x_r (16 * 32 + 0)), some (x_i (-1)), none, none, none] [] (al, ro, fl (ml M [32] [(x_up S 0 0 0)])) _ _ _ _
  refine e_iconst (pc := 7) dX12_elder_7 (x_R rfl) ?_
  refine e_istoren (pc := 8) (i := 2) dX12_elder_8 rfl (by decide) rfl ?_
  show Ev g _ _ _ _ _ _ 9 [some (x_r (16 * 32 + 0)), some (x_i (-1)), some (x_i 0), none, none] [] (al, ro, fl (ml M [32] [(x_up S 0 0 0)])) _ _ _ _
  refine e_iconst (pc := 9) dX12_elder_9 (x_R rfl) ?_
  refine e_istoren (pc := 10) (i := 3) dX12_elder_10 rfl (by decide) rfl ?_
  show Ev g _ _ _ _ _ _ 11 [some (x_r (16 * 32 + 0)), some (x_i (-1)), some (x_i 0), some (x_i 0), none] [] (al, ro, fl (ml M [32] [(x_up S 0 0 0)])) _ _ _ _
  obtain ⟨v4, hl5, hG⟩ := x_bd1 hG
  have hk5 : ∀ q : Int, q = v4 → Ev g yX12_elder cX12_elder 5 (some .int) [] 4 48 [some (x_r (16 * 32 + 0)), some (x_i q), none, none, none] [] (al, ro, fl (ml M [32] [(x_up S 0 0 0)])) 0 0 (.inl (some (x_i t.1))) (al, ro, fl (ml M [32] [t.2])) := by
    intro q hq
    replace hq := hq.symm
    subst hq
    refine e_iloadn (pc := 48) (i := 1) dX12_elder_48 rfl rfl ?_
    cases hG
    exact (e_ireturn rfl dX12_elder_49 rfl)
  clear hG
  refine e_whl (G12_elder_L11 S) (fun z : (Int × Int × Int) => Ev g yX12_elder cX12_elder 5 (some .int) [] 4 11 [some (x_r (16 * 32 + 0)), some (x_i z.1), some (x_i z.2.1), some (x_i z.2.2), none] [] (al, ro, fl (ml M [32] [(x_up S 0 0 0)])) 0 0 (.inl (some (x_i t.1))) (al, ro, fl (ml M [32] [t.2]))) (fun q => q = v4) ?_ xFU ((-1), 0, 0) _ hl5 rfl
  intro z t5 hf5 hi5 hx5
  obtain ⟨v1, v2, v3⟩ := z
  rw [G12_elder_L11] at hf5
  show Ev g _ _ _ _ _ _ 11 [some (x_r (16 * 32 + 0)), some (x_i v1), some (x_i v2), some (x_i v3), none] [] (al, ro, fl (ml M [32] [(x_up S 0 0 0)])) _ _ _ _
  refine e_iloadn (pc := 11) (i := 3) dX12_elder_11 rfl rfl ?_
  refine e_aloadn (pc := 12) (i := 0) dX12_elder_12 rfl rfl ?_
  refine f_getr (pc := 13) (u := 32) (q := 0) dX12_elder_13 xf12_7 (sa_32_0 hs) rfl (sr_32_0_1 hs) ?_
  refine e_iconst (pc := 16) dX12_elder_16 (x_R rfl) ?_
  refine f_iald (pc := 17) (k := 0) (u := 32) (q := 1) (len := 772) dX12_elder_17 (sa_32_1 hs) (by decide) hn rfl rfl (by decide) ?_
  show Ev g _ _ _ _ _ _ 18 [some (x_r (16 * 32 + 0)), some (x_i v1), some (x_i v2), some (x_i v3), none] [x_i ((x_up S 0 0 0) 1 3), x_i v3] (al, ro, fl (ml M [32] [(x_up S 0 0 0)])) _ _ _ _
  refine e_icmp_ge (pc := 18) (tgt := 48) dX12_elder_18 (by decide) (fun hb => ?_) (fun hb => ?_)
  · rw [if_pos hb] at hf5
    cases hf5
    refine e_drop (i := 2) ?_
    refine e_drop (i := 3) ?_
    exact hk5 _ (hx5 _ rfl)
  · rw [if_neg hb] at hf5
    refine e_aloadn (pc := 21) (i := 0) dX12_elder_21 rfl rfl ?_
    refine e_iloadn (pc := 22) (i := 3) dX12_elder_22 rfl rfl ?_
    obtain ⟨v7, hq7, hf5⟩ := x_bd1 hf5
    refine e_invV (pc := 23) (K1 := 0) (S1 := 0) (K := 0) (S := 0) (dd2 := 3) (av := [x_i v3]) (st := []) (id := 16 * 32 + 0) dX12_elder_23 xmX12_406 rfl (Or.inl ⟨10, 27, TX12, (sa_32_0 hs), rfl, by decide⟩) (f_cal (M := M) (us2 := [32]) [0] hn rfl (And.intro rfl trivial) rfl rfl rfl (c_X12_swingsOf hst hs   hq7)) (by decide) (Nat.le_of_ble_eq_true rfl) (Or.inl rfl) ?_
    show Ev g _ _ _ _ _ _ 26 [some (x_r (16 * 32 + 0)), some (x_i v1), some (x_i v2), some (x_i v3), none] [x_i v7] (al, ro, fl (ml M [32] [(x_up S 0 0 0)])) _ _ _ _
    refine e_istore (pc := 26) (i := 4) dX12_elder_26 (by decide) rfl ?_
    show Ev g _ _ _ _ _ _ 28 [some (x_r (16 * 32 + 0)), some (x_i v1), some (x_i v2), some (x_i v3), some (x_i v7)] [] (al, ro, fl (ml M [32] [(x_up S 0 0 0)])) _ _ _ _
    refine e_iload (pc := 28) dX12_elder_28 rfl ?_
    refine e_iloadn (pc := 30) (i := 2) dX12_elder_30 rfl rfl ?_
    obtain ⟨v9, v10, hr10, hf5⟩ := x_bd2 hf5
    have hjhr10 : Ev g yX12_elder cX12_elder 5 (some .int) [] 4 42 [some (x_r (16 * 32 + 0)), some (x_i v9), some (x_i v10), some (x_i v3), some (x_i v7)] [] (al, ro, fl (ml M [32] [(x_up S 0 0 0)])) 0 0 (.inl (some (x_i t.1))) (al, ro, fl (ml M [32] [t.2])) := by
      refine e_iinc (pc := 42) dX12_elder_42 rfl (by decide) rfl ?_
      show Ev g _ _ _ _ _ _ 45 [some (x_r (16 * 32 + 0)), some (x_i v9), some (x_i v10), some (x_i (x_add v3 1)), some (x_i v7)] [] (al, ro, fl (ml M [32] [(x_up S 0 0 0)])) _ _ _ _
      refine e_goto (pc := 45) (tgt := 11) dX12_elder_45 (by decide) ?_
      cases hf5
      refine e_drop (i := 4) ?_
      exact hi5 _ rfl
    clear hf5
    refine e_icmp_gt (pc := 31) (tgt := 37) dX12_elder_31 (by decide) (fun hb => ?_) (fun hb => ?_)
    · rw [if_pos hb] at hr10
      refine e_iload (pc := 37) dX12_elder_37 rfl ?_
      refine e_istoren (pc := 39) (i := 2) dX12_elder_39 rfl (by decide) rfl ?_
      show Ev g _ _ _ _ _ _ 40 [some (x_r (16 * 32 + 0)), some (x_i v1), some (x_i v7), some (x_i v3), some (x_i v7)] [] (al, ro, fl (ml M [32] [(x_up S 0 0 0)])) _ _ _ _
      refine e_iloadn (pc := 40) (i := 3) dX12_elder_40 rfl rfl ?_
      refine e_istoren (pc := 41) (i := 1) dX12_elder_41 rfl (by decide) rfl ?_
      show Ev g _ _ _ _ _ _ 42 [some (x_r (16 * 32 + 0)), some (x_i v3), some (x_i v7), some (x_i v3), some (x_i v7)] [] (al, ro, fl (ml M [32] [(x_up S 0 0 0)])) _ _ _ _
      cases hr10
      exact hjhr10
    · rw [if_neg hb] at hr10
      refine e_goto (pc := 34) (tgt := 42) dX12_elder_34 (by decide) ?_
      cases hr10
      exact hjhr10
def G12_heHas (a : Int) (b : Int) (c : Int) (S : xU) : Option Int :=
  (if b = 1 then (some 0) else (x_b1 (if c = 0 then (some (x_neg (S 1 9))) else (x_b1 (G12_of a 0 S) fun (v3 : Int) => (x_b1 (G12_steps v3 (S 1 6)) fun (v5 : Int) => (some v5)))) fun (v1 : Int) => (some v1)))
set_option maxRecDepth 100000 in
set_option maxHeartbeats 4000000 in
theorem c_X12_heHas {g : xG} {al : List (Nat × Nat × Nat)} {ro : Nat → Nat → Option Nat} (hst : g.1.stackTraces = false) (hs : SH al ro) {M : Nat → xU} {a : Int} {b : Int} {c : Int} {S : xU} {t : Int} (hG : G12_heHas a b c S = some t) :
    Cal g yX12_heHas cX12_heHas 4 (some .int) 2 [x_r (16 * 32 + 0), x_i a, x_i b, x_i c] (al, ro, fl (ml M [32] [S])) 0 0 (.inl (some (x_i t))) (al, ro, fl (ml M [32] [S])) := by
  have hn : ([32] : List Nat).Nodup := by decide
  refine cal_of_ev (by decide) (x_c1 rfl) (Nat.le_of_ble_eq_true rfl) hst ?_
  show Ev g _ _ _ _ _ _ 0 [some (x_r (16 * 32 + 0)), some (x_i a), some (x_i b), some (x_i c)] [] (al, ro, fl (ml M [32] [S])) _ _ _ _
  rw [G12_heHas] at hG
  refine e_iloadn (pc := 0) (i := 2) dX12_heHas_0 rfl rfl ?_
  refine e_iconst (pc := 1) dX12_heHas_1 (x_R rfl) ?_
  refine e_icmp_ne (pc := 2) (tgt := 7) dX12_heHas_2 (by decide) (fun hb => ?_) (fun hb => ?_)
  · rw [if_neg hb] at hG
    refine e_iloadn (pc := 7) (i := 3) dX12_heHas_7 rfl rfl ?_
    obtain ⟨v1, hr1, hG⟩ := x_bd1 hG
    have hjhr1 : Ev g yX12_heHas cX12_heHas 4 (some .int) [] 2 38 [some (x_r (16 * 32 + 0)), some (x_i a), some (x_i b), some (x_i c)] [x_i v1] (al, ro, fl (ml M [32] [S])) 0 0 (.inl (some (x_i t))) (al, ro, fl (ml M [32] [S])) := by
      cases hG
      exact (e_ireturn rfl dX12_heHas_38 rfl)
    clear hG
    refine e_if_ne (pc := 8) (tgt := 22) dX12_heHas_8 (by decide) (fun hb => ?_) (fun hb => ?_)
    · rw [if_neg hb] at hr1
      refine e_aloadn (pc := 22) (i := 0) dX12_heHas_22 rfl rfl ?_
      refine e_iloadn (pc := 23) (i := 1) dX12_heHas_23 rfl rfl ?_
      refine e_iconst (pc := 24) dX12_heHas_24 (x_R rfl) ?_
      obtain ⟨v3, hq3, hr1⟩ := x_bd1 hr1
      refine e_invV (pc := 25) (K1 := 0) (S1 := 0) (K := 0) (S := 0) (dd2 := 0) (av := [x_i a, x_i 0]) (st := []) (id := 16 * 32 + 0) dX12_heHas_25 xmX12_65 rfl (Or.inl ⟨10, 27, TX12, (sa_32_0 hs), rfl, by decide⟩) (f_cal (M := M) (us2 := [32]) [0] hn rfl (And.intro rfl trivial) rfl rfl rfl (c_X12_of hst hs   hq3)) (by decide) (Nat.le_of_ble_eq_true rfl) (Or.inl rfl) ?_
      show Ev g _ _ _ _ _ _ 28 [some (x_r (16 * 32 + 0)), some (x_i a), some (x_i b), some (x_i c)] [x_i v3] (al, ro, fl (ml M [32] [S])) _ _ _ _
      refine e_aloadn (pc := 28) (i := 0) dX12_heHas_28 rfl rfl ?_
      refine f_getr (pc := 29) (u := 32) (q := 0) dX12_heHas_29 xf12_7 (sa_32_0 hs) rfl (sr_32_0_1 hs) ?_
      refine e_bipush (pc := 32) dX12_heHas_32 (by decide +kernel) (x_R rfl) ?_
      refine f_iald (pc := 34) (k := 0) (u := 32) (q := 1) (len := 772) dX12_heHas_34 (sa_32_1 hs) (by decide) hn rfl rfl (by decide) ?_
      show Ev g _ _ _ _ _ _ 35 [some (x_r (16 * 32 + 0)), some (x_i a), some (x_i b), some (x_i c)] [x_i (S 1 6), x_i v3] (al, ro, fl (ml M [32] [S])) _ _ _ _
      obtain ⟨v5, hq5, hr1⟩ := x_bd1 hr1
      refine e_invS (pc := 35) (K1 := 0) (S1 := 0) (K := 0) (S := 0) (dd2 := 1) (av := [x_i v3, x_i (S 1 6)]) (st := []) dX12_heHas_35 xmX12_331 rfl (f_cal (M := M) (us2 := []) [] hn rfl trivial rfl rfl rfl (c_X12_steps hst hs   hq5)) (by decide) (Nat.le_of_ble_eq_true rfl) (Or.inl rfl) ?_
      show Ev g _ _ _ _ _ _ 38 [some (x_r (16 * 32 + 0)), some (x_i a), some (x_i b), some (x_i c)] [x_i v5] (al, ro, fl (ml M [32] [S])) _ _ _ _
      cases hr1
      exact hjhr1
    · rw [if_pos hb] at hr1
      refine e_aloadn (pc := 11) (i := 0) dX12_heHas_11 rfl rfl ?_
      refine f_getr (pc := 12) (u := 32) (q := 0) dX12_heHas_12 xf12_7 (sa_32_0 hs) rfl (sr_32_0_1 hs) ?_
      refine e_bipush (pc := 15) dX12_heHas_15 (by decide +kernel) (x_R rfl) ?_
      refine f_iald (pc := 17) (k := 0) (u := 32) (q := 1) (len := 772) dX12_heHas_17 (sa_32_1 hs) (by decide) hn rfl rfl (by decide) ?_
      show Ev g _ _ _ _ _ _ 18 [some (x_r (16 * 32 + 0)), some (x_i a), some (x_i b), some (x_i c)] [x_i (S 1 9)] (al, ro, fl (ml M [32] [S])) _ _ _ _
      refine e_ineg (pc := 18) dX12_heHas_18 ?_
      refine e_goto (pc := 19) (tgt := 38) dX12_heHas_19 (by decide) ?_
      cases hr1
      exact hjhr1
  · rw [if_pos hb] at hG
    refine e_iconst (pc := 5) dX12_heHas_5 (x_R rfl) ?_
    cases hG
    exact (e_ireturn rfl dX12_heHas_6 rfl)
def G12_gardenerHas (a : Int) (b : Int) : Option Int :=
  (if b = 1 then (x_b1 (if a = 0 then (some (-2)) else (some 0)) fun (v3 : Int) => (some v3)) else (x_b1 (if a = 0 then (some 3) else (some (-1))) fun (v1 : Int) => (some v1)))
set_option maxRecDepth 100000 in
set_option maxHeartbeats 4000000 in
theorem c_X12_gardenerHas {g : xG} {al : List (Nat × Nat × Nat)} {ro : Nat → Nat → Option Nat} (hst : g.1.stackTraces = false) (hs : SH al ro) {M : Nat → xU} {a : Int} {b : Int} {t : Int} (hG : G12_gardenerHas a b = some t) :
    Cal g yX12_gardenerHas cX12_gardenerHas 2 (some .int) 0 [x_i a, x_i b] (al, ro, fl (ml M [] [])) 0 0 (.inl (some (x_i t))) (al, ro, fl (ml M [] [])) := by
  have hn : ([] : List Nat).Nodup := by decide
  refine cal_of_ev (by decide) (x_c1 rfl) (Nat.le_of_ble_eq_true rfl) hst ?_
  show Ev g _ _ _ _ _ _ 0 [some (x_i a), some (x_i b)] [] (al, ro, fl (ml M [] [])) _ _ _ _
  rw [G12_gardenerHas] at hG
  refine e_iloadn (pc := 0) (i := 1) dX12_gardenerHas_0 rfl rfl ?_
  refine e_iconst (pc := 1) dX12_gardenerHas_1 (x_R rfl) ?_
  refine e_icmp_ne (pc := 2) (tgt := 16) dX12_gardenerHas_2 (by decide) (fun hb => ?_) (fun hb => ?_)
  · rw [if_neg hb] at hG
    refine e_iloadn (pc := 16) (i := 0) dX12_gardenerHas_16 rfl rfl ?_
    obtain ⟨v1, hr1, hG⟩ := x_bd1 hG
    have hjhr1 : Ev g yX12_gardenerHas cX12_gardenerHas 2 (some .int) [] 0 25 [some (x_i a), some (x_i b)] [x_i v1] (al, ro, fl (ml M [] [])) 0 0 (.inl (some (x_i t))) (al, ro, fl (ml M [] [])) := by
      cases hG
      exact (e_ireturn rfl dX12_gardenerHas_25 rfl)
    clear hG
    refine e_if_ne (pc := 17) (tgt := 24) dX12_gardenerHas_17 (by decide) (fun hb => ?_) (fun hb => ?_)
    · rw [if_neg hb] at hr1
      refine e_iconst (pc := 24) dX12_gardenerHas_24 (x_R rfl) ?_
      cases hr1
      exact hjhr1
    · rw [if_pos hb] at hr1
      refine e_iconst (pc := 20) dX12_gardenerHas_20 (x_R rfl) ?_
      refine e_goto (pc := 21) (tgt := 25) dX12_gardenerHas_21 (by decide) ?_
      cases hr1
      exact hjhr1
  · rw [if_pos hb] at hG
    refine e_iloadn (pc := 5) (i := 0) dX12_gardenerHas_5 rfl rfl ?_
    obtain ⟨v3, hr3, hG⟩ := x_bd1 hG
    have hjhr3 : Ev g yX12_gardenerHas cX12_gardenerHas 2 (some .int) [] 0 15 [some (x_i a), some (x_i b)] [x_i v3] (al, ro, fl (ml M [] [])) 0 0 (.inl (some (x_i t))) (al, ro, fl (ml M [] [])) := by
      cases hG
      exact (e_ireturn rfl dX12_gardenerHas_15 rfl)
    clear hG
    refine e_if_ne (pc := 6) (tgt := 14) dX12_gardenerHas_6 (by decide) (fun hb => ?_) (fun hb => ?_)
    · rw [if_neg hb] at hr3
      refine e_iconst (pc := 14) dX12_gardenerHas_14 (x_R rfl) ?_
      cases hr3
      exact hjhr3
    · rw [if_pos hb] at hr3
      refine e_bipush (pc := 9) dX12_gardenerHas_9 (by decide +kernel) (x_R rfl) ?_
      refine e_goto (pc := 11) (tgt := 15) dX12_gardenerHas_11 (by decide) ?_
      cases hr3
      exact hjhr3
def G12_rests_L40 (a : Int) (S : xU) (v3 : Int) : (Int × Int) → Option ((Int × Int) ⊕ Int)
  | (v7, v8) => (if 4 ≤ v8 then (some (.inr v7)) else (x_b1 (G12_heHas a (x_sub 1 (x_div v8 2)) (x_rem v8 2) (x_up S 0 0 v3)) fun (v12 : Int) => (x_b1 (G12_heHas a (x_div v8 2) (x_rem v8 2) (x_up S 0 0 v3)) fun (v14 : Int) => (x_b1 (if v14 < v12 then (some v7) else (x_b1 (G12_gardenerHas (x_div v8 2) (x_sub 1 (x_rem v8 2))) fun (v18 : Int) => (x_b1 (G12_gardenerHas (x_div v8 2) (x_rem v8 2)) fun (v20 : Int) => (if v20 < v18 then (some v7) else (some (x_or v7 (x_shl 1 v8))))))) fun (v16 : Int) => (some (.inl (v16, (x_add v8 1))))))))
def G12_rests (a : Int) (S : xU) : Option (Int × xU) :=
  (x_b1 (G12_isMonk a S) fun (v1 : Int) => (x_b1 (if v1 = 0 then (some 1) else (some 0)) fun (v3 : Int) => (if ((x_up S 0 0 v3) 0 0) ≤ 0 then (x_b1 (G12_isLost a (x_up S 0 0 v3)) fun (v5 : Int) => (if v5 = 0 then (x_b1 (whl xFU (G12_rests_L40 a S v3) (0, 0)) fun (v9 : Int) => (some (v9, (x_up S 0 0 v3)))) else (some ((-1), (x_up S 0 0 v3))))) else (some (0, (x_up S 0 0 v3))))))
set_option maxRecDepth 100000 in
set_option maxHeartbeats 4000000 in
theorem c_X12_rests {g : xG} {al : List (Nat × Nat × Nat)} {ro : Nat → Nat → Option Nat} (hst : g.1.stackTraces = false) (hs : SH al ro) {M : Nat → xU} {a : Int} {S : xU} {t : (Int × xU)} (hG : G12_rests a S = some t) :
    Cal g yX12_rests cX12_rests 6 (some .int) 3 [x_r (16 * 32 + 0), x_i a] (al, ro, fl (ml M [32] [S])) 0 0 (.inl (some (x_i t.1))) (al, ro, fl (ml M [32] [t.2])) := by
  have hn : ([32] : List Nat).Nodup := by decide
  refine cal_of_ev (by decide) (x_c1 rfl) (Nat.le_of_ble_eq_true rfl) hst ?_
  show Ev g _ _ _ _ _ _ 0 [some (x_r (16 * 32 + 0)), some (x_i a), none, none, none, none] [] (al, ro, fl (ml M [32] [S])) _ _ _ _
  rw [G12_rests] at hG
  refine e_aloadn (pc := 0) (i := 0) dX12_rests_0 rfl rfl ?_
  refine e_aloadn (pc := 1) (i := 0) dX12_rests_1 rfl rfl ?_
  refine e_iloadn (pc := 2) (i := 1) dX12_rests_2 rfl rfl ?_
  obtain ⟨v1, hq1, hG⟩ := x_bd1 hG
  refine e_invV (pc := 3) (K1 := 0) (S1 := 0) (K := 0) (S := 0) (dd2 := 1) (av := [x_i a]) (st := [x_r (16 * 32 + 0)]) (id := 16 * 32 + 0) dX12_rests_3 xmX12_295 rfl (Or.inl ⟨10, 27, TX12, (sa_32_0 hs), rfl, by decide⟩) (f_cal (M := M) (us2 := [32]) [0] hn rfl (And.intro rfl trivial) rfl rfl rfl (c_X12_isMonk hst hs   hq1)) (by decide) (Nat.le_of_ble_eq_true rfl) (Or.inl rfl) ?_
  show Ev g _ _ _ _ _ _ 6 [some (x_r (16 * 32 + 0)), some (x_i a), none, none, none, none] [x_i v1, x_r (16 * 32 + 0)] (al, ro, fl (ml M [32] [S])) _ _ _ _
  obtain ⟨v3, hr3, hG⟩ := x_bd1 hG
  have hjhr3 : Ev g yX12_rests cX12_rests 6 (some .int) [] 3 14 [some (x_r (16 * 32 + 0)), some (x_i a), none, none, none, none] [x_i v3, x_r (16 * 32 + 0)] (al, ro, fl (ml M [32] [S])) 0 0 (.inl (some (x_i t.1))) (al, ro, fl (ml M [32] [t.2])) := by
    refine f_puti (pc := 14) (k := 0) (u := 32) (q := 0) dX12_rests_14 xf12_58 xw10_0 (sa_32_0 hs) hn rfl rfl rfl (by decide) ?_
    show Ev g _ _ _ _ _ _ 17 [some (x_r (16 * 32 + 0)), some (x_i a), none, none, none, none] [] (al, ro, fl (ml M [32] [(x_up S 0 0 v3)])) _ _ _ _
    refine e_aloadn (pc := 17) (i := 0) dX12_rests_17 rfl rfl ?_
    refine f_geti (pc := 18) (k := 0) (u := 32) (q := 0) dX12_rests_18 xf12_58 (sa_32_0 hs) rfl hn rfl rfl (by decide) ?_
    show Ev g _ _ _ _ _ _ 21 [some (x_r (16 * 32 + 0)), some (x_i a), none, none, none, none] [x_i ((x_up S 0 0 v3) 0 0)] (al, ro, fl (ml M [32] [(x_up S 0 0 v3)])) _ _ _ _
    refine e_if_le (pc := 21) (tgt := 26) dX12_rests_21 (by decide) (fun hb => ?_) (fun hb => ?_)
    · rw [if_pos hb] at hG
      refine e_aloadn (pc := 26) (i := 0) dX12_rests_26 rfl rfl ?_
      refine e_iloadn (pc := 27) (i := 1) dX12_rests_27 rfl rfl ?_
      obtain ⟨v5, hq5, hG⟩ := x_bd1 hG
      refine e_invV (pc := 28) (K1 := 0) (S1 := 0) (K := 0) (S := 0) (dd2 := 1) (av := [x_i a]) (st := []) (id := 16 * 32 + 0) dX12_rests_28 xmX12_69 rfl (Or.inl ⟨10, 27, TX12, (sa_32_0 hs), rfl, by decide⟩) (f_cal (M := M) (us2 := [32]) [0] hn rfl (And.intro rfl trivial) rfl rfl rfl (c_X12_isLost hst hs   hq5)) (by decide) (Nat.le_of_ble_eq_true rfl) (Or.inl rfl) ?_
      show Ev g _ _ _ _ _ _ 31 [some (x_r (16 * 32 + 0)), some (x_i a), none, none, none, none] [x_i v5] (al, ro, fl (ml M [32] [(x_up S 0 0 v3)])) _ _ _ _
      refine e_if_eq (pc := 31) (tgt := 36) dX12_rests_31 (by decide) (fun hb => ?_) (fun hb => ?_)
      · rw [if_pos hb] at hG
        refine e_iconst (pc := 36) dX12_rests_36 (x_R rfl) ?_
        refine e_istoren (pc := 37) (i := 2) dX12_rests_37 rfl (by decide) rfl ?_
        show Ev g _ _ _ _ _ _ 38 [some (x_r (16 * 32 + 0)), some (x_i a), some (x_i 0), none, none, none] [] (al, ro, fl (ml M [32] [(x_up S 0 0 v3)])) _ _ _ _
        refine e_iconst (pc := 38) dX12_rests_38 (x_R rfl) ?_
        refine e_istoren (pc := 39) (i := 3) dX12_rests_39 rfl (by decide) rfl ?_
        show Ev g _ _ _ _ _ _ 40 [some (x_r (16 * 32 + 0)), some (x_i a), some (x_i 0), some (x_i 0), none, none] [] (al, ro, fl (ml M [32] [(x_up S 0 0 v3)])) _ _ _ _
        obtain ⟨v9, hl10, hG⟩ := x_bd1 hG
        have hk10 : ∀ q : Int, q = v9 → Ev g yX12_rests cX12_rests 6 (some .int) [] 3 109 [some (x_r (16 * 32 + 0)), some (x_i a), some (x_i q), none, none, none] [] (al, ro, fl (ml M [32] [(x_up S 0 0 v3)])) 0 0 (.inl (some (x_i t.1))) (al, ro, fl (ml M [32] [t.2])) := by
          intro q hq
          replace hq := hq.symm
          subst hq
          refine e_iloadn (pc := 109) (i := 2) dX12_rests_109 rfl rfl ?_
          cases hG
          exact (e_ireturn rfl dX12_rests_110 rfl)
        clear hG
        refine e_whl (G12_rests_L40 a S v3) (fun z : (Int × Int) => Ev g yX12_rests cX12_rests 6 (some .int) [] 3 40 [some (x_r (16 * 32 + 0)), some (x_i a), some (x_i z.1), some (x_i z.2), none, none] [] (al, ro, fl (ml M [32] [(x_up S 0 0 v3)])) 0 0 (.inl (some (x_i t.1))) (al, ro, fl (ml M [32] [t.2]))) (fun q => q = v9) ?_ xFU (0, 0) _ hl10 rfl
        intro z t10 hf10 hi10 hx10
        obtain ⟨v7, v8⟩ := z
        rw [G12_rests_L40] at hf10
        show Ev g _ _ _ _ _ _ 40 [some (x_r (16 * 32 + 0)), some (x_i a), some (x_i v7), some (x_i v8), none, none] [] (al, ro, fl (ml M [32] [(x_up S 0 0 v3)])) _ _ _ _
        refine e_iloadn (pc := 40) (i := 3) dX12_rests_40 rfl rfl ?_
        refine e_iconst (pc := 41) dX12_rests_41 (x_R rfl) ?_
        refine e_icmp_ge (pc := 42) (tgt := 109) dX12_rests_42 (by decide) (fun hb => ?_) (fun hb => ?_)
        · rw [if_pos hb] at hf10
          cases hf10
          refine e_drop (i := 3) ?_
          exact hk10 _ (hx10 _ rfl)
        · rw [if_neg hb] at hf10
          refine e_iloadn (pc := 45) (i := 3) dX12_rests_45 rfl rfl ?_
          refine e_iconst (pc := 46) dX12_rests_46 (x_R rfl) ?_
          refine e_idiv (pc := 47) dX12_rests_47 (by decide) ?_
          refine e_istore (pc := 48) (i := 4) dX12_rests_48 (by decide) rfl ?_
          show Ev g _ _ _ _ _ _ 50 [some (x_r (16 * 32 + 0)), some (x_i a), some (x_i v7), some (x_i v8), some (x_i (x_div v8 2)), none] [] (al, ro, fl (ml M [32] [(x_up S 0 0 v3)])) _ _ _ _
          refine e_iloadn (pc := 50) (i := 3) dX12_rests_50 rfl rfl ?_
          refine e_iconst (pc := 51) dX12_rests_51 (x_R rfl) ?_
          refine e_irem (pc := 52) dX12_rests_52 (by decide) ?_
          refine e_istore (pc := 53) (i := 5) dX12_rests_53 (by decide) rfl ?_
          show Ev g _ _ _ _ _ _ 55 [some (x_r (16 * 32 + 0)), some (x_i a), some (x_i v7), some (x_i v8), some (x_i (x_div v8 2)), some (x_i (x_rem v8 2))] [] (al, ro, fl (ml M [32] [(x_up S 0 0 v3)])) _ _ _ _
          refine e_aloadn (pc := 55) (i := 0) dX12_rests_55 rfl rfl ?_
          refine e_iloadn (pc := 56) (i := 1) dX12_rests_56 rfl rfl ?_
          refine e_iconst (pc := 57) dX12_rests_57 (x_R rfl) ?_
          refine e_iload (pc := 58) dX12_rests_58 rfl ?_
          refine e_isub (pc := 60) dX12_rests_60 ?_
          refine e_iload (pc := 61) dX12_rests_61 rfl ?_
          obtain ⟨v12, hq12, hf10⟩ := x_bd1 hf10
          refine e_invV (pc := 63) (K1 := 0) (S1 := 0) (K := 0) (S := 0) (dd2 := 2) (av := [x_i a, x_i (x_sub 1 (x_div v8 2)), x_i (x_rem v8 2)]) (st := []) (id := 16 * 32 + 0) dX12_rests_63 xmX12_409 rfl (Or.inl ⟨10, 27, TX12, (sa_32_0 hs), rfl, by decide⟩) (f_cal (M := M) (us2 := [32]) [0] hn rfl (And.intro rfl trivial) rfl rfl rfl (c_X12_heHas hst hs   hq12)) (by decide) (Nat.le_of_ble_eq_true rfl) (Or.inl rfl) ?_
          show Ev g _ _ _ _ _ _ 66 [some (x_r (16 * 32 + 0)), some (x_i a), some (x_i v7), some (x_i v8), some (x_i (x_div v8 2)), some (x_i (x_rem v8 2))] [x_i v12] (al, ro, fl (ml M [32] [(x_up S 0 0 v3)])) _ _ _ _
          refine e_aloadn (pc := 66) (i := 0) dX12_rests_66 rfl rfl ?_
          refine e_iloadn (pc := 67) (i := 1) dX12_rests_67 rfl rfl ?_
          refine e_iload (pc := 68) dX12_rests_68 rfl ?_
          refine e_iload (pc := 70) dX12_rests_70 rfl ?_
          obtain ⟨v14, hq14, hf10⟩ := x_bd1 hf10
          refine e_invV (pc := 72) (K1 := 0) (S1 := 0) (K := 0) (S := 0) (dd2 := 2) (av := [x_i a, x_i (x_div v8 2), x_i (x_rem v8 2)]) (st := [x_i v12]) (id := 16 * 32 + 0) dX12_rests_72 xmX12_409 rfl (Or.inl ⟨10, 27, TX12, (sa_32_0 hs), rfl, by decide⟩) (f_cal (M := M) (us2 := [32]) [0] hn rfl (And.intro rfl trivial) rfl rfl rfl (c_X12_heHas hst hs   hq14)) (by decide) (Nat.le_of_ble_eq_true rfl) (Or.inl rfl) ?_
          show Ev g _ _ _ _ _ _ 75 [some (x_r (16 * 32 + 0)), some (x_i a), some (x_i v7), some (x_i v8), some (x_i (x_div v8 2)), some (x_i (x_rem v8 2))] [x_i v14, x_i v12] (al, ro, fl (ml M [32] [(x_up S 0 0 v3)])) _ _ _ _
          obtain ⟨v16, hr16, hf10⟩ := x_bd1 hf10
          have hjhr16 : Ev g yX12_rests cX12_rests 6 (some .int) [] 3 103 [some (x_r (16 * 32 + 0)), some (x_i a), some (x_i v16), some (x_i v8), some (x_i (x_div v8 2)), some (x_i (x_rem v8 2))] [] (al, ro, fl (ml M [32] [(x_up S 0 0 v3)])) 0 0 (.inl (some (x_i t.1))) (al, ro, fl (ml M [32] [t.2])) := by
            refine e_iinc (pc := 103) dX12_rests_103 rfl (by decide) rfl ?_
            show Ev g _ _ _ _ _ _ 106 [some (x_r (16 * 32 + 0)), some (x_i a), some (x_i v16), some (x_i (x_add v8 1)), some (x_i (x_div v8 2)), some (x_i (x_rem v8 2))] [] (al, ro, fl (ml M [32] [(x_up S 0 0 v3)])) _ _ _ _
            refine e_goto (pc := 106) (tgt := 40) dX12_rests_106 (by decide) ?_
            cases hf10
            refine e_drop (i := 4) ?_
            refine e_drop (i := 5) ?_
            exact hi10 _ rfl
          clear hf10
          refine e_icmp_gt (pc := 75) (tgt := 103) dX12_rests_75 (by decide) (fun hb => ?_) (fun hb => ?_)
          · rw [if_pos hb] at hr16
            cases hr16
            exact hjhr16
          · rw [if_neg hb] at hr16
            refine e_iload (pc := 78) dX12_rests_78 rfl ?_
            refine e_iconst (pc := 80) dX12_rests_80 (x_R rfl) ?_
            refine e_iload (pc := 81) dX12_rests_81 rfl ?_
            refine e_isub (pc := 83) dX12_rests_83 ?_
            obtain ⟨v18, hq18, hr16⟩ := x_bd1 hr16
            refine e_invS (pc := 84) (K1 := 0) (S1 := 0) (K := 0) (S := 0) (dd2 := 0) (av := [x_i (x_div v8 2), x_i (x_sub 1 (x_rem v8 2))]) (st := []) dX12_rests_84 xmX12_412 rfl (f_cal (M := M) (us2 := []) [] hn rfl trivial rfl rfl rfl (c_X12_gardenerHas hst hs   hq18)) (by decide) (Nat.le_of_ble_eq_true rfl) (Or.inl rfl) ?_
            show Ev g _ _ _ _ _ _ 87 [some (x_r (16 * 32 + 0)), some (x_i a), some (x_i v7), some (x_i v8), some (x_i (x_div v8 2)), some (x_i (x_rem v8 2))] [x_i v18] (al, ro, fl (ml M [32] [(x_up S 0 0 v3)])) _ _ _ _
            refine e_iload (pc := 87) dX12_rests_87 rfl ?_
            refine e_iload (pc := 89) dX12_rests_89 rfl ?_
            obtain ⟨v20, hq20, hr16⟩ := x_bd1 hr16
            refine e_invS (pc := 91) (K1 := 0) (S1 := 0) (K := 0) (S := 0) (dd2 := 0) (av := [x_i (x_div v8 2), x_i (x_rem v8 2)]) (st := [x_i v18]) dX12_rests_91 xmX12_412 rfl (f_cal (M := M) (us2 := []) [] hn rfl trivial rfl rfl rfl (c_X12_gardenerHas hst hs   hq20)) (by decide) (Nat.le_of_ble_eq_true rfl) (Or.inl rfl) ?_
            show Ev g _ _ _ _ _ _ 94 [some (x_r (16 * 32 + 0)), some (x_i a), some (x_i v7), some (x_i v8), some (x_i (x_div v8 2)), some (x_i (x_rem v8 2))] [x_i v20, x_i v18] (al, ro, fl (ml M [32] [(x_up S 0 0 v3)])) _ _ _ _
            refine e_icmp_gt (pc := 94) (tgt := 103) dX12_rests_94 (by decide) (fun hb => ?_) (fun hb => ?_)
            · rw [if_pos hb] at hr16
              cases hr16
              exact hjhr16
            · rw [if_neg hb] at hr16
              refine e_iloadn (pc := 97) (i := 2) dX12_rests_97 rfl rfl ?_
              refine e_iconst (pc := 98) dX12_rests_98 (x_R rfl) ?_
              refine e_iloadn (pc := 99) (i := 3) dX12_rests_99 rfl rfl ?_
              refine e_ishl (pc := 100) dX12_rests_100 ?_
              refine e_ior (pc := 101) dX12_rests_101 ?_
              refine e_istoren (pc := 102) (i := 2) dX12_rests_102 rfl (by decide) rfl ?_
              show Ev g _ _ _ _ _ _ 103 [some (x_r (16 * 32 + 0)), some (x_i a), some (x_i (x_or v7 (x_shl 1 v8))), some (x_i v8), some (x_i (x_div v8 2)), some (x_i (x_rem v8 2))] [] (al, ro, fl (ml M [32] [(x_up S 0 0 v3)])) _ _ _ _
              cases hr16
              exact hjhr16
      · rw [if_neg hb] at hG
        refine e_iconst (pc := 34) dX12_rests_34 (x_R rfl) ?_
        cases hG
        exact (e_ireturn rfl dX12_rests_35 rfl)
    · rw [if_neg hb] at hG
      refine e_iconst (pc := 24) dX12_rests_24 (x_R rfl) ?_
      cases hG
      exact (e_ireturn rfl dX12_rests_25 rfl)
  clear hG
  refine e_if_ne (pc := 6) (tgt := 13) dX12_rests_6 (by decide) (fun hb => ?_) (fun hb => ?_)
  · rw [if_neg hb] at hr3
    refine e_iconst (pc := 13) dX12_rests_13 (x_R rfl) ?_
    cases hr3
    exact hjhr3
  · rw [if_pos hb] at hr3
    refine e_iconst (pc := 9) dX12_rests_9 (x_R rfl) ?_
    refine e_goto (pc := 10) (tgt := 14) dX12_rests_10 (by decide) ?_
    cases hr3
    exact hjhr3
def G12_odds_L46 (a : Int) : (Int × Int) → Option ((Int × Int) ⊕ Int)
  | (v7, v8) => (if a ≤ v8 then (some (.inr v7)) else (some (.inl ((x_lmul v7 100), (x_add v8 1)))))
def G12_odds_L96 (a : Int) (S : xU) (v3 : Int) (v13 : Int) : (Int × Int) → Option ((Int × Int) ⊕ Int)
  | (v21, v22) => (if a ≤ v22 then (some (.inr v21)) else (x_b1 (G12_isOf v13 v22) fun (v26 : Int) => (x_b1 (if v26 = 0 then (some (x_i2l (x_sub 100 ((x_up S 0 0 v3) 1 8)))) else (some (x_i2l ((x_up S 0 0 v3) 1 8)))) fun (v28 : Int) => (some (.inl ((x_lmul v21 v28), (x_add v22 1)))))))
def G12_odds_L69 (a : Int) (b : Int) (S : xU) (v3 : Int) : (Int × Int) → Option ((Int × Int) ⊕ Int)
  | (v12, v13) => (if (x_shl 1 a) ≤ v13 then (some (.inr v12)) else (x_b1 (G12_bits v13) fun (v17 : Int) => (x_b1 (if b ≤ v17 then (some 1) else (some 0)) fun (v19 : Int) => (x_b1 (whl xFU (G12_odds_L96 a S v3 v13) (v19, 0)) fun (v23 : Int) => (some (.inl ((x_ladd v12 v23), (x_add v13 1))))))))
def G12_odds (a : Int) (b : Int) (S : xU) : Option (Int × xU) :=
  (x_b1 (G12_isIn a 0 6) fun (v1 : Int) => (x_b1 (if v1 = 0 then (some 1) else (x_b1 (G12_isIn b 0 6) fun (v5 : Int) => (if v5 = 0 then (some 1) else (some 0)))) fun (v3 : Int) => (if ((x_up S 0 0 v3) 0 0) ≤ 0 then (x_b1 (whl xFU (G12_odds_L46 a) (1, 0)) fun (v9 : Int) => (x_b1 (whl xFU (G12_odds_L69 a b S v3) (0, 0)) fun (v14 : Int) => (x_gd (v9 ≠ 0) (some ((x_l2i (x_ldiv (x_lmul 10000 v14) v9)), (x_up S 0 0 v3)))))) else (some (0, (x_up S 0 0 v3))))))
set_option maxRecDepth 100000 in
set_option maxHeartbeats 4000000 in
theorem c_X12_odds {g : xG} {al : List (Nat × Nat × Nat)} {ro : Nat → Nat → Option Nat} (hst : g.1.stackTraces = false) (hs : SH al ro) {M : Nat → xU} {a : Int} {b : Int} {S : xU} {t : (Int × xU)} (hG : G12_odds a b S = some t) :
    Cal g yX12_odds cX12_odds 11 (some .int) 1 [x_r (16 * 32 + 0), x_i a, x_i b] (al, ro, fl (ml M [32] [S])) 0 0 (.inl (some (x_i t.1))) (al, ro, fl (ml M [32] [t.2])) := by
  have hn : ([32] : List Nat).Nodup := by decide
  refine cal_of_ev (by decide) (x_c1 rfl) (Nat.le_of_ble_eq_true rfl) hst ?_
  show Ev g _ _ _ _ _ _ 0 [some (x_r (16 * 32 + 0)), some (x_i a), some (x_i b), none, none, none, none, none, none, none, none] [] (al, ro, fl (ml M [32] [S])) _ _ _ _
  rw [G12_odds] at hG
  refine e_aloadn (pc := 0) (i := 0) dX12_odds_0 rfl rfl ?_
  refine e_iloadn (pc := 1) (i := 1) dX12_odds_1 rfl rfl ?_
  refine e_iconst (pc := 2) dX12_odds_2 (x_R rfl) ?_
  refine e_bipush (pc := 3) dX12_odds_3 (by decide +kernel) (x_R rfl) ?_
  obtain ⟨v1, hq1, hG⟩ := x_bd1 hG
  refine e_invS (pc := 5) (K1 := 0) (S1 := 0) (K := 0) (S := 0) (dd2 := 0) (av := [x_i a, x_i 0, x_i 6]) (st := [x_r (16 * 32 + 0)]) dX12_odds_5 xmX12_61 rfl (f_cal (M := M) (us2 := []) [] hn rfl trivial rfl rfl rfl (c_X12_isIn hst hs   hq1)) (by decide) (Nat.le_of_ble_eq_true rfl) (Or.inl rfl) ?_
  show Ev g _ _ _ _ _ _ 8 [some (x_r (16 * 32 + 0)), some (x_i a), some (x_i b), none, none, none, none, none, none, none, none] [x_i v1, x_r (16 * 32 + 0)] (al, ro, fl (ml M [32] [S])) _ _ _ _
  obtain ⟨v3, hr3, hG⟩ := x_bd1 hG
  have hjhr3 : Ev g yX12_odds cX12_odds 11 (some .int) [] 1 26 [some (x_r (16 * 32 + 0)), some (x_i a), some (x_i b), none, none, none, none, none, none, none, none] [x_i v3, x_r (16 * 32 + 0)] (al, ro, fl (ml M [32] [S])) 0 0 (.inl (some (x_i t.1))) (al, ro, fl (ml M [32] [t.2])) := by
    refine f_puti (pc := 26) (k := 0) (u := 32) (q := 0) dX12_odds_26 xf12_58 xw10_0 (sa_32_0 hs) hn rfl rfl rfl (by decide) ?_
    show Ev g _ _ _ _ _ _ 29 [some (x_r (16 * 32 + 0)), some (x_i a), some (x_i b), none, none, none, none, none, none, none, none] [] (al, ro, fl (ml M [32] [(x_up S 0 0 v3)])) _ _ _ _
    refine e_aloadn (pc := 29) (i := 0) dX12_odds_29 rfl rfl ?_
    refine f_geti (pc := 30) (k := 0) (u := 32) (q := 0) dX12_odds_30 xf12_58 (sa_32_0 hs) rfl hn rfl rfl (by decide) ?_
    show Ev g _ _ _ _ _ _ 33 [some (x_r (16 * 32 + 0)), some (x_i a), some (x_i b), none, none, none, none, none, none, none, none] [x_i ((x_up S 0 0 v3) 0 0)] (al, ro, fl (ml M [32] [(x_up S 0 0 v3)])) _ _ _ _
    refine e_if_le (pc := 33) (tgt := 38) dX12_odds_33 (by decide) (fun hb => ?_) (fun hb => ?_)
    · rw [if_pos hb] at hG
      refine e_lconst (pc := 38) dX12_odds_38 ?_
      show Ev g _ _ _ _ _ _ 39 [some (x_r (16 * 32 + 0)), some (x_i a), some (x_i b), none, none, none, none, none, none, none, none] [x_l 0] (al, ro, fl (ml M [32] [(x_up S 0 0 v3)])) _ _ _ _
      refine e_lstoren (pc := 39) (i := 3) dX12_odds_39 rfl (by decide) rfl ?_
      show Ev g _ _ _ _ _ _ 40 [some (x_r (16 * 32 + 0)), some (x_i a), some (x_i b), some (x_l 0), none, none, none, none, none, none, none] [] (al, ro, fl (ml M [32] [(x_up S 0 0 v3)])) _ _ _ _
      refine e_lconst (pc := 40) dX12_odds_40 ?_
      show Ev g _ _ _ _ _ _ 41 [some (x_r (16 * 32 + 0)), some (x_i a), some (x_i b), some (x_l 0), none, none, none, none, none, none, none] [x_l 1] (al, ro, fl (ml M [32] [(x_up S 0 0 v3)])) _ _ _ _
      refine e_lstore (pc := 41) (i := 5) dX12_odds_41 (by decide) rfl ?_
      show Ev g _ _ _ _ _ _ 43 [some (x_r (16 * 32 + 0)), some (x_i a), some (x_i b), some (x_l 0), none, some (x_l 1), none, none, none, none, none] [] (al, ro, fl (ml M [32] [(x_up S 0 0 v3)])) _ _ _ _
      refine e_iconst (pc := 43) dX12_odds_43 (x_R rfl) ?_
      refine e_istore (pc := 44) (i := 7) dX12_odds_44 (by decide) rfl ?_
      show Ev g _ _ _ _ _ _ 46 [some (x_r (16 * 32 + 0)), some (x_i a), some (x_i b), some (x_l 0), none, some (x_l 1), none, some (x_i 0), none, none, none] [] (al, ro, fl (ml M [32] [(x_up S 0 0 v3)])) _ _ _ _
      obtain ⟨v9, hl10, hG⟩ := x_bd1 hG
      have hk10 : ∀ q : Int, q = v9 → Ev g yX12_odds cX12_odds 11 (some .int) [] 1 66 [some (x_r (16 * 32 + 0)), some (x_i a), some (x_i b), some (x_l 0), none, some (x_l q), none, none, none, none, none] [] (al, ro, fl (ml M [32] [(x_up S 0 0 v3)])) 0 0 (.inl (some (x_i t.1))) (al, ro, fl (ml M [32] [t.2])) := by
        intro q hq
        replace hq := hq.symm
        subst hq
        refine e_iconst (pc := 66) dX12_odds_66 (x_R rfl) ?_
        refine e_istore (pc := 67) (i := 7) dX12_odds_67 (by decide) rfl ?_
        show Ev g _ _ _ _ _ _ 69 [some (x_r (16 * 32 + 0)), some (x_i a), some (x_i b), some (x_l 0), none, some (x_l v9), none, some (x_i 0), none, none, none] [] (al, ro, fl (ml M [32] [(x_up S 0 0 v3)])) _ _ _ _
        obtain ⟨v14, hl15, hG⟩ := x_bd1 hG
        have hk15 : ∀ q : Int, q = v14 → Ev g yX12_odds cX12_odds 11 (some .int) [] 1 156 [some (x_r (16 * 32 + 0)), some (x_i a), some (x_i b), some (x_l q), none, some (x_l v9), none, none, none, none, none] [] (al, ro, fl (ml M [32] [(x_up S 0 0 v3)])) 0 0 (.inl (some (x_i t.1))) (al, ro, fl (ml M [32] [t.2])) := by
          intro q hq
          replace hq := hq.symm
          subst hq
          refine e_ldc2 (pc := 156) dX12_odds_156 xkX12_417 (x_R6 rfl) ?_
          refine e_lloadn (pc := 159) (i := 3) dX12_odds_159 rfl rfl ?_
          refine e_lmul (pc := 160) dX12_odds_160 ?_
          refine e_lload (pc := 161) dX12_odds_161 rfl ?_
          obtain ⟨hc0, hG⟩ := x_gd_some hG
          refine e_ldiv (pc := 163) dX12_odds_163 hc0 ?_
          refine e_l2i (pc := 164) dX12_odds_164 ?_
          cases hG
          exact (e_ireturn rfl dX12_odds_165 rfl)
        clear hG
        refine e_whl (G12_odds_L69 a b S v3) (fun z : (Int × Int) => Ev g yX12_odds cX12_odds 11 (some .int) [] 1 69 [some (x_r (16 * 32 + 0)), some (x_i a), some (x_i b), some (x_l z.1), none, some (x_l v9), none, some (x_i z.2), none, none, none] [] (al, ro, fl (ml M [32] [(x_up S 0 0 v3)])) 0 0 (.inl (some (x_i t.1))) (al, ro, fl (ml M [32] [t.2]))) (fun q => q = v14) ?_ xFU (0, 0) _ hl15 rfl
        intro z t15 hf15 hi15 hx15
        obtain ⟨v12, v13⟩ := z
        rw [G12_odds_L69] at hf15
        show Ev g _ _ _ _ _ _ 69 [some (x_r (16 * 32 + 0)), some (x_i a), some (x_i b), some (x_l v12), none, some (x_l v9), none, some (x_i v13), none, none, none] [] (al, ro, fl (ml M [32] [(x_up S 0 0 v3)])) _ _ _ _
        refine e_iload (pc := 69) dX12_odds_69 rfl ?_
        refine e_iconst (pc := 71) dX12_odds_71 (x_R rfl) ?_
        refine e_iloadn (pc := 72) (i := 1) dX12_odds_72 rfl rfl ?_
        refine e_ishl (pc := 73) dX12_odds_73 ?_
        refine e_icmp_ge (pc := 74) (tgt := 156) dX12_odds_74 (by decide) (fun hb => ?_) (fun hb => ?_)
        · rw [if_pos hb] at hf15
          cases hf15
          refine e_drop (i := 7) ?_
          exact hk15 _ (hx15 _ rfl)
        · rw [if_neg hb] at hf15
          refine e_iload (pc := 77) dX12_odds_77 rfl ?_
          obtain ⟨v17, hq17, hf15⟩ := x_bd1 hf15
          refine e_invS (pc := 79) (K1 := 0) (S1 := 0) (K := 0) (S := 0) (dd2 := 0) (av := [x_i v13]) (st := []) dX12_odds_79 xmX12_352 rfl (f_cal (M := M) (us2 := []) [] hn rfl trivial rfl rfl rfl (c_X12_bits hst hs   hq17)) (by decide) (Nat.le_of_ble_eq_true rfl) (Or.inl rfl) ?_
          show Ev g _ _ _ _ _ _ 82 [some (x_r (16 * 32 + 0)), some (x_i a), some (x_i b), some (x_l v12), none, some (x_l v9), none, some (x_i v13), none, none, none] [x_i v17] (al, ro, fl (ml M [32] [(x_up S 0 0 v3)])) _ _ _ _
          refine e_iloadn (pc := 82) (i := 2) dX12_odds_82 rfl rfl ?_
          obtain ⟨v19, hr19, hf15⟩ := x_bd1 hf15
          have hjhr19 : Ev g yX12_odds cX12_odds 11 (some .int) [] 1 91 [some (x_r (16 * 32 + 0)), some (x_i a), some (x_i b), some (x_l v12), none, some (x_l v9), none, some (x_i v13), none, none, none] [x_l v19] (al, ro, fl (ml M [32] [(x_up S 0 0 v3)])) 0 0 (.inl (some (x_i t.1))) (al, ro, fl (ml M [32] [t.2])) := by
            refine e_lstore (pc := 91) (i := 8) dX12_odds_91 (by decide) rfl ?_
            show Ev g _ _ _ _ _ _ 93 [some (x_r (16 * 32 + 0)), some (x_i a), some (x_i b), some (x_l v12), none, some (x_l v9), none, some (x_i v13), some (x_l v19), none, none] [] (al, ro, fl (ml M [32] [(x_up S 0 0 v3)])) _ _ _ _
            refine e_iconst (pc := 93) dX12_odds_93 (x_R rfl) ?_
            refine e_istore (pc := 94) (i := 10) dX12_odds_94 (by decide) rfl ?_
            show Ev g _ _ _ _ _ _ 96 [some (x_r (16 * 32 + 0)), some (x_i a), some (x_i b), some (x_l v12), none, some (x_l v9), none, some (x_i v13), some (x_l v19), none, some (x_i 0)] [] (al, ro, fl (ml M [32] [(x_up S 0 0 v3)])) _ _ _ _
            obtain ⟨v23, hl24, hf15⟩ := x_bd1 hf15
            have hk24 : ∀ q : Int, q = v23 → Ev g yX12_odds cX12_odds 11 (some .int) [] 1 145 [some (x_r (16 * 32 + 0)), some (x_i a), some (x_i b), some (x_l v12), none, some (x_l v9), none, some (x_i v13), some (x_l q), none, none] [] (al, ro, fl (ml M [32] [(x_up S 0 0 v3)])) 0 0 (.inl (some (x_i t.1))) (al, ro, fl (ml M [32] [t.2])) := by
              intro q hq
              replace hq := hq.symm
              subst hq
              refine e_lloadn (pc := 145) (i := 3) dX12_odds_145 rfl rfl ?_
              refine e_lload (pc := 146) dX12_odds_146 rfl ?_
              refine e_ladd (pc := 148) dX12_odds_148 ?_
              refine e_lstoren (pc := 149) (i := 3) dX12_odds_149 rfl (by decide) rfl ?_
              show Ev g _ _ _ _ _ _ 150 [some (x_r (16 * 32 + 0)), some (x_i a), some (x_i b), some (x_l (x_ladd v12 v23)), none, some (x_l v9), none, some (x_i v13), some (x_l v23), none, none] [] (al, ro, fl (ml M [32] [(x_up S 0 0 v3)])) _ _ _ _
              refine e_iinc (pc := 150) dX12_odds_150 rfl (by decide) rfl ?_
              show Ev g _ _ _ _ _ _ 153 [some (x_r (16 * 32 + 0)), some (x_i a), some (x_i b), some (x_l (x_ladd v12 v23)), none, some (x_l v9), none, some (x_i (x_add v13 1)), some (x_l v23), none, none] [] (al, ro, fl (ml M [32] [(x_up S 0 0 v3)])) _ _ _ _
              refine e_goto (pc := 153) (tgt := 69) dX12_odds_153 (by decide) ?_
              cases hf15
              refine e_drop (i := 8) ?_
              exact hi15 _ rfl
            clear hf15
            refine e_whl (G12_odds_L96 a S v3 v13) (fun z : (Int × Int) => Ev g yX12_odds cX12_odds 11 (some .int) [] 1 96 [some (x_r (16 * 32 + 0)), some (x_i a), some (x_i b), some (x_l v12), none, some (x_l v9), none, some (x_i v13), some (x_l z.1), none, some (x_i z.2)] [] (al, ro, fl (ml M [32] [(x_up S 0 0 v3)])) 0 0 (.inl (some (x_i t.1))) (al, ro, fl (ml M [32] [t.2]))) (fun q => q = v23) ?_ xFU (v19, 0) _ hl24 rfl
            intro z t24 hf24 hi24 hx24
            obtain ⟨v21, v22⟩ := z
            rw [G12_odds_L96] at hf24
            show Ev g _ _ _ _ _ _ 96 [some (x_r (16 * 32 + 0)), some (x_i a), some (x_i b), some (x_l v12), none, some (x_l v9), none, some (x_i v13), some (x_l v21), none, some (x_i v22)] [] (al, ro, fl (ml M [32] [(x_up S 0 0 v3)])) _ _ _ _
            refine e_iload (pc := 96) dX12_odds_96 rfl ?_
            refine e_iloadn (pc := 98) (i := 1) dX12_odds_98 rfl rfl ?_
            refine e_icmp_ge (pc := 99) (tgt := 145) dX12_odds_99 (by decide) (fun hb => ?_) (fun hb => ?_)
            · rw [if_pos hb] at hf24
              cases hf24
              refine e_drop (i := 10) ?_
              exact hk24 _ (hx24 _ rfl)
            · rw [if_neg hb] at hf24
              refine e_lload (pc := 102) dX12_odds_102 rfl ?_
              refine e_iload (pc := 104) dX12_odds_104 rfl ?_
              refine e_iload (pc := 106) dX12_odds_106 rfl ?_
              obtain ⟨v26, hq26, hf24⟩ := x_bd1 hf24
              refine e_invS (pc := 108) (K1 := 0) (S1 := 0) (K := 0) (S := 0) (dd2 := 0) (av := [x_i v13, x_i v22]) (st := [x_l v21]) dX12_odds_108 xmX12_119 rfl (f_cal (M := M) (us2 := []) [] hn rfl trivial rfl rfl rfl (c_X12_isOf hst hs   hq26)) (by decide) (Nat.le_of_ble_eq_true rfl) (Or.inl rfl) ?_
              show Ev g _ _ _ _ _ _ 111 [some (x_r (16 * 32 + 0)), some (x_i a), some (x_i b), some (x_l v12), none, some (x_l v9), none, some (x_i v13), some (x_l v21), none, some (x_i v22)] [x_i v26, x_l v21] (al, ro, fl (ml M [32] [(x_up S 0 0 v3)])) _ _ _ _
              obtain ⟨v28, hr28, hf24⟩ := x_bd1 hf24
              have hjhr28 : Ev g yX12_odds cX12_odds 11 (some .int) [] 1 136 [some (x_r (16 * 32 + 0)), some (x_i a), some (x_i b), some (x_l v12), none, some (x_l v9), none, some (x_i v13), some (x_l v21), none, some (x_i v22)] [x_l v28, x_l v21] (al, ro, fl (ml M [32] [(x_up S 0 0 v3)])) 0 0 (.inl (some (x_i t.1))) (al, ro, fl (ml M [32] [t.2])) := by
                refine e_lmul (pc := 136) dX12_odds_136 ?_
                refine e_lstore (pc := 137) (i := 8) dX12_odds_137 (by decide) rfl ?_
                show Ev g _ _ _ _ _ _ 139 [some (x_r (16 * 32 + 0)), some (x_i a), some (x_i b), some (x_l v12), none, some (x_l v9), none, some (x_i v13), some (x_l (x_lmul v21 v28)), none, some (x_i v22)] [] (al, ro, fl (ml M [32] [(x_up S 0 0 v3)])) _ _ _ _
                refine e_iinc (pc := 139) dX12_odds_139 rfl (by decide) rfl ?_
                show Ev g _ _ _ _ _ _ 142 [some (x_r (16 * 32 + 0)), some (x_i a), some (x_i b), some (x_l v12), none, some (x_l v9), none, some (x_i v13), some (x_l (x_lmul v21 v28)), none, some (x_i (x_add v22 1))] [] (al, ro, fl (ml M [32] [(x_up S 0 0 v3)])) _ _ _ _
                refine e_goto (pc := 142) (tgt := 96) dX12_odds_142 (by decide) ?_
                cases hf24
                exact hi24 _ rfl
              clear hf24
              refine e_if_eq (pc := 111) (tgt := 125) dX12_odds_111 (by decide) (fun hb => ?_) (fun hb => ?_)
              · rw [if_pos hb] at hr28
                refine e_bipush (pc := 125) dX12_odds_125 (by decide +kernel) (x_R rfl) ?_
                refine e_aloadn (pc := 127) (i := 0) dX12_odds_127 rfl rfl ?_
                refine f_getr (pc := 128) (u := 32) (q := 0) dX12_odds_128 xf12_7 (sa_32_0 hs) rfl (sr_32_0_1 hs) ?_
                refine e_bipush (pc := 131) dX12_odds_131 (by decide +kernel) (x_R rfl) ?_
                refine f_iald (pc := 133) (k := 0) (u := 32) (q := 1) (len := 772) dX12_odds_133 (sa_32_1 hs) (by decide) hn rfl rfl (by decide) ?_
                show Ev g _ _ _ _ _ _ 134 [some (x_r (16 * 32 + 0)), some (x_i a), some (x_i b), some (x_l v12), none, some (x_l v9), none, some (x_i v13), some (x_l v21), none, some (x_i v22)] [x_i ((x_up S 0 0 v3) 1 8), x_i 100, x_l v21] (al, ro, fl (ml M [32] [(x_up S 0 0 v3)])) _ _ _ _
                refine e_isub (pc := 134) dX12_odds_134 ?_
                refine e_i2l (pc := 135) dX12_odds_135 ?_
                cases hr28
                exact hjhr28
              · rw [if_neg hb] at hr28
                refine e_aloadn (pc := 114) (i := 0) dX12_odds_114 rfl rfl ?_
                refine f_getr (pc := 115) (u := 32) (q := 0) dX12_odds_115 xf12_7 (sa_32_0 hs) rfl (sr_32_0_1 hs) ?_
                refine e_bipush (pc := 118) dX12_odds_118 (by decide +kernel) (x_R rfl) ?_
                refine f_iald (pc := 120) (k := 0) (u := 32) (q := 1) (len := 772) dX12_odds_120 (sa_32_1 hs) (by decide) hn rfl rfl (by decide) ?_
                show Ev g _ _ _ _ _ _ 121 [some (x_r (16 * 32 + 0)), some (x_i a), some (x_i b), some (x_l v12), none, some (x_l v9), none, some (x_i v13), some (x_l v21), none, some (x_i v22)] [x_i ((x_up S 0 0 v3) 1 8), x_l v21] (al, ro, fl (ml M [32] [(x_up S 0 0 v3)])) _ _ _ _
                refine e_i2l (pc := 121) dX12_odds_121 ?_
                refine e_goto (pc := 122) (tgt := 136) dX12_odds_122 (by decide) ?_
                cases hr28
                exact hjhr28
          clear hf15
          refine e_icmp_ge (pc := 83) (tgt := 90) dX12_odds_83 (by decide) (fun hb => ?_) (fun hb => ?_)
          · rw [if_pos hb] at hr19
            refine e_lconst (pc := 90) dX12_odds_90 ?_
            show Ev g _ _ _ _ _ _ 91 [some (x_r (16 * 32 + 0)), some (x_i a), some (x_i b), some (x_l v12), none, some (x_l v9), none, some (x_i v13), none, none, none] [x_l 1] (al, ro, fl (ml M [32] [(x_up S 0 0 v3)])) _ _ _ _
            cases hr19
            exact hjhr19
          · rw [if_neg hb] at hr19
            refine e_lconst (pc := 86) dX12_odds_86 ?_
            show Ev g _ _ _ _ _ _ 87 [some (x_r (16 * 32 + 0)), some (x_i a), some (x_i b), some (x_l v12), none, some (x_l v9), none, some (x_i v13), none, none, none] [x_l 0] (al, ro, fl (ml M [32] [(x_up S 0 0 v3)])) _ _ _ _
            refine e_goto (pc := 87) (tgt := 91) dX12_odds_87 (by decide) ?_
            cases hr19
            exact hjhr19
      clear hG
      refine e_whl (G12_odds_L46 a) (fun z : (Int × Int) => Ev g yX12_odds cX12_odds 11 (some .int) [] 1 46 [some (x_r (16 * 32 + 0)), some (x_i a), some (x_i b), some (x_l 0), none, some (x_l z.1), none, some (x_i z.2), none, none, none] [] (al, ro, fl (ml M [32] [(x_up S 0 0 v3)])) 0 0 (.inl (some (x_i t.1))) (al, ro, fl (ml M [32] [t.2]))) (fun q => q = v9) ?_ xFU (1, 0) _ hl10 rfl
      intro z t10 hf10 hi10 hx10
      obtain ⟨v7, v8⟩ := z
      rw [G12_odds_L46] at hf10
      show Ev g _ _ _ _ _ _ 46 [some (x_r (16 * 32 + 0)), some (x_i a), some (x_i b), some (x_l 0), none, some (x_l v7), none, some (x_i v8), none, none, none] [] (al, ro, fl (ml M [32] [(x_up S 0 0 v3)])) _ _ _ _
      refine e_iload (pc := 46) dX12_odds_46 rfl ?_
      refine e_iloadn (pc := 48) (i := 1) dX12_odds_48 rfl rfl ?_
      refine e_icmp_ge (pc := 49) (tgt := 66) dX12_odds_49 (by decide) (fun hb => ?_) (fun hb => ?_)
      · rw [if_pos hb] at hf10
        cases hf10
        refine e_drop (i := 7) ?_
        exact hk10 _ (hx10 _ rfl)
      · rw [if_neg hb] at hf10
        refine e_lload (pc := 52) dX12_odds_52 rfl ?_
        refine e_ldc2 (pc := 54) dX12_odds_54 xkX12_415 (x_R6 rfl) ?_
        refine e_lmul (pc := 57) dX12_odds_57 ?_
        refine e_lstore (pc := 58) (i := 5) dX12_odds_58 (by decide) rfl ?_
        show Ev g _ _ _ _ _ _ 60 [some (x_r (16 * 32 + 0)), some (x_i a), some (x_i b), some (x_l 0), none, some (x_l (x_lmul v7 100)), none, some (x_i v8), none, none, none] [] (al, ro, fl (ml M [32] [(x_up S 0 0 v3)])) _ _ _ _
        refine e_iinc (pc := 60) dX12_odds_60 rfl (by decide) rfl ?_
        show Ev g _ _ _ _ _ _ 63 [some (x_r (16 * 32 + 0)), some (x_i a), some (x_i b), some (x_l 0), none, some (x_l (x_lmul v7 100)), none, some (x_i (x_add v8 1)), none, none, none] [] (al, ro, fl (ml M [32] [(x_up S 0 0 v3)])) _ _ _ _
        refine e_goto (pc := 63) (tgt := 46) dX12_odds_63 (by decide) ?_
        cases hf10
        exact hi10 _ rfl
    · rw [if_neg hb] at hG
      refine e_iconst (pc := 36) dX12_odds_36 (x_R rfl) ?_
      cases hG
      exact (e_ireturn rfl dX12_odds_37 rfl)
  clear hG
  refine e_if_eq (pc := 8) (tgt := 21) dX12_odds_8 (by decide) (fun hb => ?_) (fun hb => ?_)
  · rw [if_pos hb] at hr3
    refine e_iconst (pc := 21) dX12_odds_21 (x_R rfl) ?_
    refine e_goto (pc := 22) (tgt := 26) dX12_odds_22 (by decide) ?_
    cases hr3
    exact hjhr3
  · rw [if_neg hb] at hr3
    refine e_iloadn (pc := 11) (i := 2) dX12_odds_11 rfl rfl ?_
    refine e_iconst (pc := 12) dX12_odds_12 (x_R rfl) ?_
    refine e_bipush (pc := 13) dX12_odds_13 (by decide +kernel) (x_R rfl) ?_
    obtain ⟨v5, hq5, hr3⟩ := x_bd1 hr3
    refine e_invS (pc := 15) (K1 := 0) (S1 := 0) (K := 0) (S := 0) (dd2 := 0) (av := [x_i b, x_i 0, x_i 6]) (st := [x_r (16 * 32 + 0)]) dX12_odds_15 xmX12_61 rfl (f_cal (M := M) (us2 := []) [] hn rfl trivial rfl rfl rfl (c_X12_isIn hst hs   hq5)) (by decide) (Nat.le_of_ble_eq_true rfl) (Or.inl rfl) ?_
    show Ev g _ _ _ _ _ _ 18 [some (x_r (16 * 32 + 0)), some (x_i a), some (x_i b), none, none, none, none, none, none, none, none] [x_i v5, x_r (16 * 32 + 0)] (al, ro, fl (ml M [32] [S])) _ _ _ _
    refine e_if_ne (pc := 18) (tgt := 25) dX12_odds_18 (by decide) (fun hb => ?_) (fun hb => ?_)
    · rw [if_neg hb] at hr3
      refine e_iconst (pc := 25) dX12_odds_25 (x_R rfl) ?_
      cases hr3
      exact hjhr3
    · rw [if_pos hb] at hr3
      refine e_iconst (pc := 21) dX12_odds_21 (x_R rfl) ?_
      refine e_goto (pc := 22) (tgt := 26) dX12_odds_22 (by decide) ?_
      cases hr3
      exact hjhr3
def G12_empty_L9 (S : xU) : (Int × Int) → Option ((Int × Int) ⊕ Int)
  | (v1, v2) => (if 4 ≤ v2 then (some (.inr v1)) else (x_b1 (G12_inWalk v2 1 (x_up S 0 0 0)) fun (v6 : Int) => (x_b1 (if v6 = 0 then (some (x_shl 1 v2)) else (some 0)) fun (v8 : Int) => (some (.inl ((x_or v1 v8), (x_add v2 1)))))))
def G12_empty (S : xU) : Option (Int × xU) :=
  (x_b1 (whl xFU (G12_empty_L9 S) (0, 0)) fun (v3 : Int) => (some (v3, (x_up S 0 0 0))))
set_option maxRecDepth 100000 in
set_option maxHeartbeats 4000000 in
theorem c_X12_empty {g : xG} {al : List (Nat × Nat × Nat)} {ro : Nat → Nat → Option Nat} (hst : g.1.stackTraces = false) (hs : SH al ro) {M : Nat → xU} {S : xU} {t : (Int × xU)} (hG : G12_empty S = some t) :
    Cal g yX12_empty cX12_empty 3 (some .int) 3 [x_r (16 * 32 + 0)] (al, ro, fl (ml M [32] [S])) 0 0 (.inl (some (x_i t.1))) (al, ro, fl (ml M [32] [t.2])) := by
  have hn : ([32] : List Nat).Nodup := by decide
  refine cal_of_ev (by decide) (x_c1 rfl) (Nat.le_of_ble_eq_true rfl) hst ?_
  show Ev g _ _ _ _ _ _ 0 [some (x_r (16 * 32 + 0)), none, none] [] (al, ro, fl (ml M [32] [S])) _ _ _ _
  rw [G12_empty] at hG
  refine e_aloadn (pc := 0) (i := 0) dX12_empty_0 rfl rfl ?_
  refine e_iconst (pc := 1) dX12_empty_1 (x_R rfl) ?_
  refine f_puti (pc := 2) (k := 0) (u := 32) (q := 0) dX12_empty_2 xf12_58 xw10_0 (sa_32_0 hs) hn rfl rfl rfl (by decide) ?_
  show Ev g _ _ _ _ _ _ 5 [some (x_r (16 * 32 + 0)), none, none] [] (al, ro, fl (ml M [32] [(x_up S 0 0 0)])) _ _ _ _
  refine e_iconst (pc := 5) dX12_empty_5 (x_R rfl) ?_
  refine e_istoren (pc := 6) (i := 1) dX12_empty_6 rfl (by decide) rfl ?_
  show Ev g _ _ _ _ _ _ 7 [some (x_r (16 * 32 + 0)), some (x_i 0), none] [] (al, ro, fl (ml M [32] [(x_up S 0 0 0)])) _ _ _ _
  refine e_iconst (pc := 7) dX12_empty_7 (x_R rfl) ?_
  refine e_istoren (pc := 8) (i := 2) dX12_empty_8 rfl (by decide) rfl ?_
  show Ev g _ _ _ _ _ _ 9 [some (x_r (16 * 32 + 0)), some (x_i 0), some (x_i 0)] [] (al, ro, fl (ml M [32] [(x_up S 0 0 0)])) _ _ _ _
  obtain ⟨v3, hl4, hG⟩ := x_bd1 hG
  have hk4 : ∀ q : Int, q = v3 → Ev g yX12_empty cX12_empty 3 (some .int) [] 3 39 [some (x_r (16 * 32 + 0)), some (x_i q), none] [] (al, ro, fl (ml M [32] [(x_up S 0 0 0)])) 0 0 (.inl (some (x_i t.1))) (al, ro, fl (ml M [32] [t.2])) := by
    intro q hq
    replace hq := hq.symm
    subst hq
    refine e_iloadn (pc := 39) (i := 1) dX12_empty_39 rfl rfl ?_
    cases hG
    exact (e_ireturn rfl dX12_empty_40 rfl)
  clear hG
  refine e_whl (G12_empty_L9 S) (fun z : (Int × Int) => Ev g yX12_empty cX12_empty 3 (some .int) [] 3 9 [some (x_r (16 * 32 + 0)), some (x_i z.1), some (x_i z.2)] [] (al, ro, fl (ml M [32] [(x_up S 0 0 0)])) 0 0 (.inl (some (x_i t.1))) (al, ro, fl (ml M [32] [t.2]))) (fun q => q = v3) ?_ xFU (0, 0) _ hl4 rfl
  intro z t4 hf4 hi4 hx4
  obtain ⟨v1, v2⟩ := z
  rw [G12_empty_L9] at hf4
  show Ev g _ _ _ _ _ _ 9 [some (x_r (16 * 32 + 0)), some (x_i v1), some (x_i v2)] [] (al, ro, fl (ml M [32] [(x_up S 0 0 0)])) _ _ _ _
  refine e_iloadn (pc := 9) (i := 2) dX12_empty_9 rfl rfl ?_
  refine e_iconst (pc := 10) dX12_empty_10 (x_R rfl) ?_
  refine e_icmp_ge (pc := 11) (tgt := 39) dX12_empty_11 (by decide) (fun hb => ?_) (fun hb => ?_)
  · rw [if_pos hb] at hf4
    cases hf4
    refine e_drop (i := 2) ?_
    exact hk4 _ (hx4 _ rfl)
  · rw [if_neg hb] at hf4
    refine e_iloadn (pc := 14) (i := 1) dX12_empty_14 rfl rfl ?_
    refine e_aloadn (pc := 15) (i := 0) dX12_empty_15 rfl rfl ?_
    refine e_iloadn (pc := 16) (i := 2) dX12_empty_16 rfl rfl ?_
    refine e_iconst (pc := 17) dX12_empty_17 (x_R rfl) ?_
    obtain ⟨v6, hq6, hf4⟩ := x_bd1 hf4
    refine e_invV (pc := 18) (K1 := 0) (S1 := 0) (K := 0) (S := 0) (dd2 := 2) (av := [x_i v2, x_i 1]) (st := [x_i v1]) (id := 16 * 32 + 0) dX12_empty_18 xmX12_382 rfl (Or.inl ⟨10, 27, TX12, (sa_32_0 hs), rfl, by decide⟩) (f_cal (M := M) (us2 := [32]) [0] hn rfl (And.intro rfl trivial) rfl rfl rfl (c_X12_inWalk hst hs   hq6)) (by decide) (Nat.le_of_ble_eq_true rfl) (Or.inl rfl) ?_
    show Ev g _ _ _ _ _ _ 21 [some (x_r (16 * 32 + 0)), some (x_i v1), some (x_i v2)] [x_i v6, x_i v1] (al, ro, fl (ml M [32] [(x_up S 0 0 0)])) _ _ _ _
    obtain ⟨v8, hr8, hf4⟩ := x_bd1 hf4
    have hjhr8 : Ev g yX12_empty cX12_empty 3 (some .int) [] 3 31 [some (x_r (16 * 32 + 0)), some (x_i v1), some (x_i v2)] [x_i v8, x_i v1] (al, ro, fl (ml M [32] [(x_up S 0 0 0)])) 0 0 (.inl (some (x_i t.1))) (al, ro, fl (ml M [32] [t.2])) := by
      refine e_ior (pc := 31) dX12_empty_31 ?_
      refine e_istoren (pc := 32) (i := 1) dX12_empty_32 rfl (by decide) rfl ?_
      show Ev g _ _ _ _ _ _ 33 [some (x_r (16 * 32 + 0)), some (x_i (x_or v1 v8)), some (x_i v2)] [] (al, ro, fl (ml M [32] [(x_up S 0 0 0)])) _ _ _ _
      refine e_iinc (pc := 33) dX12_empty_33 rfl (by decide) rfl ?_
      show Ev g _ _ _ _ _ _ 36 [some (x_r (16 * 32 + 0)), some (x_i (x_or v1 v8)), some (x_i (x_add v2 1))] [] (al, ro, fl (ml M [32] [(x_up S 0 0 0)])) _ _ _ _
      refine e_goto (pc := 36) (tgt := 9) dX12_empty_36 (by decide) ?_
      cases hf4
      exact hi4 _ rfl
    clear hf4
    refine e_if_ne (pc := 21) (tgt := 30) dX12_empty_21 (by decide) (fun hb => ?_) (fun hb => ?_)
    · rw [if_neg hb] at hr8
      refine e_iconst (pc := 30) dX12_empty_30 (x_R rfl) ?_
      cases hr8
      exact hjhr8
    · rw [if_pos hb] at hr8
      refine e_iconst (pc := 24) dX12_empty_24 (x_R rfl) ?_
      refine e_iloadn (pc := 25) (i := 2) dX12_empty_25 rfl rfl ?_
      refine e_ishl (pc := 26) dX12_empty_26 ?_
      refine e_goto (pc := 27) (tgt := 31) dX12_empty_27 (by decide) ?_
      cases hr8
      exact hjhr8
def G12_throng_L9 (S : xU) : (Int × Int) → Option ((Int × Int) ⊕ Int)
  | (v1, v2) => (if 4 ≤ v2 then (some (.inr v1)) else (x_b1 (G12_inWalk v2 1 (x_up S 0 0 0)) fun (v6 : Int) => (x_b1 (G12_inWalk v1 1 (x_up S 0 0 0)) fun (v8 : Int) => (x_b1 (if v6 ≤ v8 then (some v1) else (some v2)) fun (v10 : Int) => (some (.inl (v10, (x_add v2 1))))))))
def G12_throng (S : xU) : Option (Int × xU) :=
  (x_b1 (whl xFU (G12_throng_L9 S) (0, 1)) fun (v3 : Int) => (some (v3, (x_up S 0 0 0))))
set_option maxRecDepth 100000 in
set_option maxHeartbeats 4000000 in
theorem c_X12_throng {g : xG} {al : List (Nat × Nat × Nat)} {ro : Nat → Nat → Option Nat} (hst : g.1.stackTraces = false) (hs : SH al ro) {M : Nat → xU} {S : xU} {t : (Int × xU)} (hG : G12_throng S = some t) :
    Cal g yX12_throng cX12_throng 3 (some .int) 3 [x_r (16 * 32 + 0)] (al, ro, fl (ml M [32] [S])) 0 0 (.inl (some (x_i t.1))) (al, ro, fl (ml M [32] [t.2])) := by
  have hn : ([32] : List Nat).Nodup := by decide
  refine cal_of_ev (by decide) (x_c1 rfl) (Nat.le_of_ble_eq_true rfl) hst ?_
  show Ev g _ _ _ _ _ _ 0 [some (x_r (16 * 32 + 0)), none, none] [] (al, ro, fl (ml M [32] [S])) _ _ _ _
  rw [G12_throng] at hG
  refine e_aloadn (pc := 0) (i := 0) dX12_throng_0 rfl rfl ?_
  refine e_iconst (pc := 1) dX12_throng_1 (x_R rfl) ?_
  refine f_puti (pc := 2) (k := 0) (u := 32) (q := 0) dX12_throng_2 xf12_58 xw10_0 (sa_32_0 hs) hn rfl rfl rfl (by decide) ?_
  show Ev g _ _ _ _ _ _ 5 [some (x_r (16 * 32 + 0)), none, none] [] (al, ro, fl (ml M [32] [(x_up S 0 0 0)])) _ _ _ _
  refine e_iconst (pc := 5) dX12_throng_5 (x_R rfl) ?_
  refine e_istoren (pc := 6) (i := 1) dX12_throng_6 rfl (by decide) rfl ?_
  show Ev g _ _ _ _ _ _ 7 [some (x_r (16 * 32 + 0)), some (x_i 0), none] [] (al, ro, fl (ml M [32] [(x_up S 0 0 0)])) _ _ _ _
  refine e_iconst (pc := 7) dX12_throng_7 (x_R rfl) ?_
  refine e_istoren (pc := 8) (i := 2) dX12_throng_8 rfl (by decide) rfl ?_
  show Ev g _ _ _ _ _ _ 9 [some (x_r (16 * 32 + 0)), some (x_i 0), some (x_i 1)] [] (al, ro, fl (ml M [32] [(x_up S 0 0 0)])) _ _ _ _
  obtain ⟨v3, hl4, hG⟩ := x_bd1 hG
  have hk4 : ∀ q : Int, q = v3 → Ev g yX12_throng cX12_throng 3 (some .int) [] 3 37 [some (x_r (16 * 32 + 0)), some (x_i q), none] [] (al, ro, fl (ml M [32] [(x_up S 0 0 0)])) 0 0 (.inl (some (x_i t.1))) (al, ro, fl (ml M [32] [t.2])) := by
    intro q hq
    replace hq := hq.symm
    subst hq
    refine e_iloadn (pc := 37) (i := 1) dX12_throng_37 rfl rfl ?_
    cases hG
    exact (e_ireturn rfl dX12_throng_38 rfl)
  clear hG
  refine e_whl (G12_throng_L9 S) (fun z : (Int × Int) => Ev g yX12_throng cX12_throng 3 (some .int) [] 3 9 [some (x_r (16 * 32 + 0)), some (x_i z.1), some (x_i z.2)] [] (al, ro, fl (ml M [32] [(x_up S 0 0 0)])) 0 0 (.inl (some (x_i t.1))) (al, ro, fl (ml M [32] [t.2]))) (fun q => q = v3) ?_ xFU (0, 1) _ hl4 rfl
  intro z t4 hf4 hi4 hx4
  obtain ⟨v1, v2⟩ := z
  rw [G12_throng_L9] at hf4
  show Ev g _ _ _ _ _ _ 9 [some (x_r (16 * 32 + 0)), some (x_i v1), some (x_i v2)] [] (al, ro, fl (ml M [32] [(x_up S 0 0 0)])) _ _ _ _
  refine e_iloadn (pc := 9) (i := 2) dX12_throng_9 rfl rfl ?_
  refine e_iconst (pc := 10) dX12_throng_10 (x_R rfl) ?_
  refine e_icmp_ge (pc := 11) (tgt := 37) dX12_throng_11 (by decide) (fun hb => ?_) (fun hb => ?_)
  · rw [if_pos hb] at hf4
    cases hf4
    refine e_drop (i := 2) ?_
    exact hk4 _ (hx4 _ rfl)
  · rw [if_neg hb] at hf4
    refine e_aloadn (pc := 14) (i := 0) dX12_throng_14 rfl rfl ?_
    refine e_iloadn (pc := 15) (i := 2) dX12_throng_15 rfl rfl ?_
    refine e_iconst (pc := 16) dX12_throng_16 (x_R rfl) ?_
    obtain ⟨v6, hq6, hf4⟩ := x_bd1 hf4
    refine e_invV (pc := 17) (K1 := 0) (S1 := 0) (K := 0) (S := 0) (dd2 := 2) (av := [x_i v2, x_i 1]) (st := []) (id := 16 * 32 + 0) dX12_throng_17 xmX12_382 rfl (Or.inl ⟨10, 27, TX12, (sa_32_0 hs), rfl, by decide⟩) (f_cal (M := M) (us2 := [32]) [0] hn rfl (And.intro rfl trivial) rfl rfl rfl (c_X12_inWalk hst hs   hq6)) (by decide) (Nat.le_of_ble_eq_true rfl) (Or.inl rfl) ?_
    show Ev g _ _ _ _ _ _ 20 [some (x_r (16 * 32 + 0)), some (x_i v1), some (x_i v2)] [x_i v6] (al, ro, fl (ml M [32] [(x_up S 0 0 0)])) _ _ _ _
    refine e_aloadn (pc := 20) (i := 0) dX12_throng_20 rfl rfl ?_
    refine e_iloadn (pc := 21) (i := 1) dX12_throng_21 rfl rfl ?_
    refine e_iconst (pc := 22) dX12_throng_22 (x_R rfl) ?_
    obtain ⟨v8, hq8, hf4⟩ := x_bd1 hf4
    refine e_invV (pc := 23) (K1 := 0) (S1 := 0) (K := 0) (S := 0) (dd2 := 2) (av := [x_i v1, x_i 1]) (st := [x_i v6]) (id := 16 * 32 + 0) dX12_throng_23 xmX12_382 rfl (Or.inl ⟨10, 27, TX12, (sa_32_0 hs), rfl, by decide⟩) (f_cal (M := M) (us2 := [32]) [0] hn rfl (And.intro rfl trivial) rfl rfl rfl (c_X12_inWalk hst hs   hq8)) (by decide) (Nat.le_of_ble_eq_true rfl) (Or.inl rfl) ?_
    show Ev g _ _ _ _ _ _ 26 [some (x_r (16 * 32 + 0)), some (x_i v1), some (x_i v2)] [x_i v8, x_i v6] (al, ro, fl (ml M [32] [(x_up S 0 0 0)])) _ _ _ _
    obtain ⟨v10, hr10, hf4⟩ := x_bd1 hf4
    have hjhr10 : Ev g yX12_throng cX12_throng 3 (some .int) [] 3 31 [some (x_r (16 * 32 + 0)), some (x_i v10), some (x_i v2)] [] (al, ro, fl (ml M [32] [(x_up S 0 0 0)])) 0 0 (.inl (some (x_i t.1))) (al, ro, fl (ml M [32] [t.2])) := by
      refine e_iinc (pc := 31) dX12_throng_31 rfl (by decide) rfl ?_
      show Ev g _ _ _ _ _ _ 34 [some (x_r (16 * 32 + 0)), some (x_i v10), some (x_i (x_add v2 1))] [] (al, ro, fl (ml M [32] [(x_up S 0 0 0)])) _ _ _ _
      refine e_goto (pc := 34) (tgt := 9) dX12_throng_34 (by decide) ?_
      cases hf4
      exact hi4 _ rfl
    clear hf4
    refine e_icmp_le (pc := 26) (tgt := 31) dX12_throng_26 (by decide) (fun hb => ?_) (fun hb => ?_)
    · rw [if_pos hb] at hr10
      cases hr10
      exact hjhr10
    · rw [if_neg hb] at hr10
      refine e_iloadn (pc := 29) (i := 2) dX12_throng_29 rfl rfl ?_
      refine e_istoren (pc := 30) (i := 1) dX12_throng_30 rfl (by decide) rfl ?_
      show Ev g _ _ _ _ _ _ 31 [some (x_r (16 * 32 + 0)), some (x_i v2), some (x_i v2)] [] (al, ro, fl (ml M [32] [(x_up S 0 0 0)])) _ _ _ _
      cases hr10
      exact hjhr10
def G12_gone (S : xU) : Option (Int × xU) :=
  (x_b1 (G12_goneOnes (x_up S 0 0 0)) fun (v1 : Int) => (some (v1, (x_up S 0 0 0))))
set_option maxRecDepth 100000 in
set_option maxHeartbeats 4000000 in
theorem c_X12_gone {g : xG} {al : List (Nat × Nat × Nat)} {ro : Nat → Nat → Option Nat} (hst : g.1.stackTraces = false) (hs : SH al ro) {M : Nat → xU} {S : xU} {t : (Int × xU)} (hG : G12_gone S = some t) :
    Cal g yX12_gone cX12_gone 1 (some .int) 3 [x_r (16 * 32 + 0)] (al, ro, fl (ml M [32] [S])) 0 0 (.inl (some (x_i t.1))) (al, ro, fl (ml M [32] [t.2])) := by
  have hn : ([32] : List Nat).Nodup := by decide
  refine cal_of_ev (by decide) (x_c1 rfl) (Nat.le_of_ble_eq_true rfl) hst ?_
  show Ev g _ _ _ _ _ _ 0 [some (x_r (16 * 32 + 0))] [] (al, ro, fl (ml M [32] [S])) _ _ _ _
  rw [G12_gone] at hG
  refine e_aloadn (pc := 0) (i := 0) dX12_gone_0 rfl rfl ?_
  refine e_iconst (pc := 1) dX12_gone_1 (x_R rfl) ?_
  refine f_puti (pc := 2) (k := 0) (u := 32) (q := 0) dX12_gone_2 xf12_58 xw10_0 (sa_32_0 hs) hn rfl rfl rfl (by decide) ?_
  show Ev g _ _ _ _ _ _ 5 [some (x_r (16 * 32 + 0))] [] (al, ro, fl (ml M [32] [(x_up S 0 0 0)])) _ _ _ _
  refine e_aloadn (pc := 5) (i := 0) dX12_gone_5 rfl rfl ?_
  obtain ⟨v1, hq1, hG⟩ := x_bd1 hG
  refine e_invV (pc := 6) (K1 := 0) (S1 := 0) (K := 0) (S := 0) (dd2 := 2) (av := []) (st := []) (id := 16 * 32 + 0) dX12_gone_6 xmX12_394 rfl (Or.inl ⟨10, 27, TX12, (sa_32_0 hs), rfl, by decide⟩) (f_cal (M := M) (us2 := [32]) [0] hn rfl (And.intro rfl trivial) rfl rfl rfl (c_X12_goneOnes hst hs   hq1)) (by decide) (Nat.le_of_ble_eq_true rfl) (Or.inl rfl) ?_
  show Ev g _ _ _ _ _ _ 9 [some (x_r (16 * 32 + 0))] [x_i v1] (al, ro, fl (ml M [32] [(x_up S 0 0 0)])) _ _ _ _
  cases hG
  exact (e_ireturn rfl dX12_gone_9 rfl)
def G12_round_L33 (a : Int) (S : xU) (v3 : Int) : (Int × Int) → Option ((Int × Int) ⊕ Int)
  | (v5, v6) => (if ((x_up S 0 0 v3) 1 3) ≤ v6 then (some (.inr v5)) else (x_b1 (G12_of v6 7 (x_up S 0 0 v3)) fun (v10 : Int) => (x_b1 (if v10 < a then (some 0) else (some (x_shl 1 v6))) fun (v12 : Int) => (some (.inl ((x_or v5 v12), (x_add v6 1)))))))
def G12_round (a : Int) (S : xU) : Option (Int × xU) :=
  (x_b1 (G12_isIn a 0 999) fun (v1 : Int) => (x_b1 (if v1 = 0 then (some 1) else (some 0)) fun (v3 : Int) => (if ((x_up S 0 0 v3) 0 0) ≤ 0 then (x_b1 (whl xFU (G12_round_L33 a S v3) (0, 0)) fun (v7 : Int) => (some (v7, (x_up S 0 0 v3)))) else (some (0, (x_up S 0 0 v3))))))
set_option maxRecDepth 100000 in
set_option maxHeartbeats 4000000 in
theorem c_X12_round {g : xG} {al : List (Nat × Nat × Nat)} {ro : Nat → Nat → Option Nat} (hst : g.1.stackTraces = false) (hs : SH al ro) {M : Nat → xU} {a : Int} {S : xU} {t : (Int × xU)} (hG : G12_round a S = some t) :
    Cal g yX12_round cX12_round 4 (some .int) 1 [x_r (16 * 32 + 0), x_i a] (al, ro, fl (ml M [32] [S])) 0 0 (.inl (some (x_i t.1))) (al, ro, fl (ml M [32] [t.2])) := by
  have hn : ([32] : List Nat).Nodup := by decide
  refine cal_of_ev (by decide) (x_c1 rfl) (Nat.le_of_ble_eq_true rfl) hst ?_
  show Ev g _ _ _ _ _ _ 0 [some (x_r (16 * 32 + 0)), some (x_i a), none, none] [] (al, ro, fl (ml M [32] [S])) _ _ _ _
  rw [G12_round] at hG
  refine e_aloadn (pc := 0) (i := 0) dX12_round_0 rfl rfl ?_
  refine e_iloadn (pc := 1) (i := 1) dX12_round_1 rfl rfl ?_
  refine e_iconst (pc := 2) dX12_round_2 (x_R rfl) ?_
  refine e_sipush (pc := 3) dX12_round_3 (by decide +kernel) (x_R rfl) ?_
  obtain ⟨v1, hq1, hG⟩ := x_bd1 hG
  refine e_invS (pc := 6) (K1 := 0) (S1 := 0) (K := 0) (S := 0) (dd2 := 0) (av := [x_i a, x_i 0, x_i 999]) (st := [x_r (16 * 32 + 0)]) dX12_round_6 xmX12_61 rfl (f_cal (M := M) (us2 := []) [] hn rfl trivial rfl rfl rfl (c_X12_isIn hst hs   hq1)) (by decide) (Nat.le_of_ble_eq_true rfl) (Or.inl rfl) ?_
  show Ev g _ _ _ _ _ _ 9 [some (x_r (16 * 32 + 0)), some (x_i a), none, none] [x_i v1, x_r (16 * 32 + 0)] (al, ro, fl (ml M [32] [S])) _ _ _ _
  obtain ⟨v3, hr3, hG⟩ := x_bd1 hG
  have hjhr3 : Ev g yX12_round cX12_round 4 (some .int) [] 1 17 [some (x_r (16 * 32 + 0)), some (x_i a), none, none] [x_i v3, x_r (16 * 32 + 0)] (al, ro, fl (ml M [32] [S])) 0 0 (.inl (some (x_i t.1))) (al, ro, fl (ml M [32] [t.2])) := by
    refine f_puti (pc := 17) (k := 0) (u := 32) (q := 0) dX12_round_17 xf12_58 xw10_0 (sa_32_0 hs) hn rfl rfl rfl (by decide) ?_
    show Ev g _ _ _ _ _ _ 20 [some (x_r (16 * 32 + 0)), some (x_i a), none, none] [] (al, ro, fl (ml M [32] [(x_up S 0 0 v3)])) _ _ _ _
    refine e_aloadn (pc := 20) (i := 0) dX12_round_20 rfl rfl ?_
    refine f_geti (pc := 21) (k := 0) (u := 32) (q := 0) dX12_round_21 xf12_58 (sa_32_0 hs) rfl hn rfl rfl (by decide) ?_
    show Ev g _ _ _ _ _ _ 24 [some (x_r (16 * 32 + 0)), some (x_i a), none, none] [x_i ((x_up S 0 0 v3) 0 0)] (al, ro, fl (ml M [32] [(x_up S 0 0 v3)])) _ _ _ _
    refine e_if_le (pc := 24) (tgt := 29) dX12_round_24 (by decide) (fun hb => ?_) (fun hb => ?_)
    · rw [if_pos hb] at hG
      refine e_iconst (pc := 29) dX12_round_29 (x_R rfl) ?_
      refine e_istoren (pc := 30) (i := 2) dX12_round_30 rfl (by decide) rfl ?_
      show Ev g _ _ _ _ _ _ 31 [some (x_r (16 * 32 + 0)), some (x_i a), some (x_i 0), none] [] (al, ro, fl (ml M [32] [(x_up S 0 0 v3)])) _ _ _ _
      refine e_iconst (pc := 31) dX12_round_31 (x_R rfl) ?_
      refine e_istoren (pc := 32) (i := 3) dX12_round_32 rfl (by decide) rfl ?_
      show Ev g _ _ _ _ _ _ 33 [some (x_r (16 * 32 + 0)), some (x_i a), some (x_i 0), some (x_i 0)] [] (al, ro, fl (ml M [32] [(x_up S 0 0 v3)])) _ _ _ _
      obtain ⟨v7, hl8, hG⟩ := x_bd1 hG
      have hk8 : ∀ q : Int, q = v7 → Ev g yX12_round cX12_round 4 (some .int) [] 1 70 [some (x_r (16 * 32 + 0)), some (x_i a), some (x_i q), none] [] (al, ro, fl (ml M [32] [(x_up S 0 0 v3)])) 0 0 (.inl (some (x_i t.1))) (al, ro, fl (ml M [32] [t.2])) := by
        intro q hq
        replace hq := hq.symm
        subst hq
        refine e_iloadn (pc := 70) (i := 2) dX12_round_70 rfl rfl ?_
        cases hG
        exact (e_ireturn rfl dX12_round_71 rfl)
      clear hG
      refine e_whl (G12_round_L33 a S v3) (fun z : (Int × Int) => Ev g yX12_round cX12_round 4 (some .int) [] 1 33 [some (x_r (16 * 32 + 0)), some (x_i a), some (x_i z.1), some (x_i z.2)] [] (al, ro, fl (ml M [32] [(x_up S 0 0 v3)])) 0 0 (.inl (some (x_i t.1))) (al, ro, fl (ml M [32] [t.2]))) (fun q => q = v7) ?_ xFU (0, 0) _ hl8 rfl
      intro z t8 hf8 hi8 hx8
      obtain ⟨v5, v6⟩ := z
      rw [G12_round_L33] at hf8
      show Ev g _ _ _ _ _ _ 33 [some (x_r (16 * 32 + 0)), some (x_i a), some (x_i v5), some (x_i v6)] [] (al, ro, fl (ml M [32] [(x_up S 0 0 v3)])) _ _ _ _
      refine e_iloadn (pc := 33) (i := 3) dX12_round_33 rfl rfl ?_
      refine e_aloadn (pc := 34) (i := 0) dX12_round_34 rfl rfl ?_
      refine f_getr (pc := 35) (u := 32) (q := 0) dX12_round_35 xf12_7 (sa_32_0 hs) rfl (sr_32_0_1 hs) ?_
      refine e_iconst (pc := 38) dX12_round_38 (x_R rfl) ?_
      refine f_iald (pc := 39) (k := 0) (u := 32) (q := 1) (len := 772) dX12_round_39 (sa_32_1 hs) (by decide) hn rfl rfl (by decide) ?_
      show Ev g _ _ _ _ _ _ 40 [some (x_r (16 * 32 + 0)), some (x_i a), some (x_i v5), some (x_i v6)] [x_i ((x_up S 0 0 v3) 1 3), x_i v6] (al, ro, fl (ml M [32] [(x_up S 0 0 v3)])) _ _ _ _
      refine e_icmp_ge (pc := 40) (tgt := 70) dX12_round_40 (by decide) (fun hb => ?_) (fun hb => ?_)
      · rw [if_pos hb] at hf8
        cases hf8
        refine e_drop (i := 3) ?_
        exact hk8 _ (hx8 _ rfl)
      · rw [if_neg hb] at hf8
        refine e_iloadn (pc := 43) (i := 2) dX12_round_43 rfl rfl ?_
        refine e_aloadn (pc := 44) (i := 0) dX12_round_44 rfl rfl ?_
        refine e_iloadn (pc := 45) (i := 3) dX12_round_45 rfl rfl ?_
        refine e_bipush (pc := 46) dX12_round_46 (by decide +kernel) (x_R rfl) ?_
        obtain ⟨v10, hq10, hf8⟩ := x_bd1 hf8
        refine e_invV (pc := 48) (K1 := 0) (S1 := 0) (K := 0) (S := 0) (dd2 := 0) (av := [x_i v6, x_i 7]) (st := [x_i v5]) (id := 16 * 32 + 0) dX12_round_48 xmX12_65 rfl (Or.inl ⟨10, 27, TX12, (sa_32_0 hs), rfl, by decide⟩) (f_cal (M := M) (us2 := [32]) [0] hn rfl (And.intro rfl trivial) rfl rfl rfl (c_X12_of hst hs   hq10)) (by decide) (Nat.le_of_ble_eq_true rfl) (Or.inl rfl) ?_
        show Ev g _ _ _ _ _ _ 51 [some (x_r (16 * 32 + 0)), some (x_i a), some (x_i v5), some (x_i v6)] [x_i v10, x_i v5] (al, ro, fl (ml M [32] [(x_up S 0 0 v3)])) _ _ _ _
        refine e_iloadn (pc := 51) (i := 1) dX12_round_51 rfl rfl ?_
        obtain ⟨v12, hr12, hf8⟩ := x_bd1 hf8
        have hjhr12 : Ev g yX12_round cX12_round 4 (some .int) [] 1 62 [some (x_r (16 * 32 + 0)), some (x_i a), some (x_i v5), some (x_i v6)] [x_i v12, x_i v5] (al, ro, fl (ml M [32] [(x_up S 0 0 v3)])) 0 0 (.inl (some (x_i t.1))) (al, ro, fl (ml M [32] [t.2])) := by
          refine e_ior (pc := 62) dX12_round_62 ?_
          refine e_istoren (pc := 63) (i := 2) dX12_round_63 rfl (by decide) rfl ?_
          show Ev g _ _ _ _ _ _ 64 [some (x_r (16 * 32 + 0)), some (x_i a), some (x_i (x_or v5 v12)), some (x_i v6)] [] (al, ro, fl (ml M [32] [(x_up S 0 0 v3)])) _ _ _ _
          refine e_iinc (pc := 64) dX12_round_64 rfl (by decide) rfl ?_
          show Ev g _ _ _ _ _ _ 67 [some (x_r (16 * 32 + 0)), some (x_i a), some (x_i (x_or v5 v12)), some (x_i (x_add v6 1))] [] (al, ro, fl (ml M [32] [(x_up S 0 0 v3)])) _ _ _ _
          refine e_goto (pc := 67) (tgt := 33) dX12_round_67 (by decide) ?_
          cases hf8
          exact hi8 _ rfl
        clear hf8
        refine e_icmp_lt (pc := 52) (tgt := 61) dX12_round_52 (by decide) (fun hb => ?_) (fun hb => ?_)
        · rw [if_pos hb] at hr12
          refine e_iconst (pc := 61) dX12_round_61 (x_R rfl) ?_
          cases hr12
          exact hjhr12
        · rw [if_neg hb] at hr12
          refine e_iconst (pc := 55) dX12_round_55 (x_R rfl) ?_
          refine e_iloadn (pc := 56) (i := 3) dX12_round_56 rfl rfl ?_
          refine e_ishl (pc := 57) dX12_round_57 ?_
          refine e_goto (pc := 58) (tgt := 62) dX12_round_58 (by decide) ?_
          cases hr12
          exact hjhr12
    · rw [if_neg hb] at hG
      refine e_iconst (pc := 27) dX12_round_27 (x_R rfl) ?_
      cases hG
      exact (e_ireturn rfl dX12_round_28 rfl)
  clear hG
  refine e_if_ne (pc := 9) (tgt := 16) dX12_round_9 (by decide) (fun hb => ?_) (fun hb => ?_)
  · rw [if_neg hb] at hr3
    refine e_iconst (pc := 16) dX12_round_16 (x_R rfl) ?_
    cases hr3
    exact hjhr3
  · rw [if_pos hb] at hr3
    refine e_iconst (pc := 12) dX12_round_12 (x_R rfl) ?_
    refine e_goto (pc := 13) (tgt := 17) dX12_round_13 (by decide) ?_
    cases hr3
    exact hjhr3
def G12_hungriest_L9 (S : xU) : (Int × Int) → Option ((Int × Int) ⊕ Int)
  | (v1, v2) => (if ((x_up S 0 0 0) 1 3) ≤ v2 then (some (.inr v1)) else (x_b1 (G12_of v2 6 (x_up S 0 0 0)) fun (v6 : Int) => (x_b1 (if v1 = (-1) then (some 0) else (x_b1 (G12_of v1 6 (x_up S 0 0 0)) fun (v10 : Int) => (some v10))) fun (v8 : Int) => (x_b1 (if v6 ≤ v8 then (some v1) else (some v2)) fun (v12 : Int) => (some (.inl (v12, (x_add v2 1))))))))
def G12_hungriest (S : xU) : Option (Int × xU) :=
  (x_b1 (whl xFU (G12_hungriest_L9 S) ((-1), 0)) fun (v3 : Int) => (some (v3, (x_up S 0 0 0))))
set_option maxRecDepth 100000 in
set_option maxHeartbeats 4000000 in
theorem c_X12_hungriest {g : xG} {al : List (Nat × Nat × Nat)} {ro : Nat → Nat → Option Nat} (hst : g.1.stackTraces = false) (hs : SH al ro) {M : Nat → xU} {S : xU} {t : (Int × xU)} (hG : G12_hungriest S = some t) :
    Cal g yX12_hungriest cX12_hungriest 3 (some .int) 1 [x_r (16 * 32 + 0)] (al, ro, fl (ml M [32] [S])) 0 0 (.inl (some (x_i t.1))) (al, ro, fl (ml M [32] [t.2])) := by
  have hn : ([32] : List Nat).Nodup := by decide
  refine cal_of_ev (by decide) (x_c1 rfl) (Nat.le_of_ble_eq_true rfl) hst ?_
  show Ev g _ _ _ _ _ _ 0 [some (x_r (16 * 32 + 0)), none, none] [] (al, ro, fl (ml M [32] [S])) _ _ _ _
  rw [G12_hungriest] at hG
  refine e_aloadn (pc := 0) (i := 0) dX12_hungriest_0 rfl rfl ?_
  refine e_iconst (pc := 1) dX12_hungriest_1 (x_R rfl) ?_
  refine f_puti (pc := 2) (k := 0) (u := 32) (q := 0) dX12_hungriest_2 xf12_58 xw10_0 (sa_32_0 hs) hn rfl rfl rfl (by decide) ?_
  show Ev g _ _ _ _ _ _ 5 [some (x_r (16 * 32 + 0)), none, none] [] (al, ro, fl (ml M [32] [(x_up S 0 0 0)])) _ _ _ _
  refine e_iconst (pc := 5) dX12_hungriest_5 (x_R rfl) ?_
  refine e_istoren (pc := 6) (i := 1) dX12_hungriest_6 rfl (by decide) rfl ?_
  show Ev g _ _ _ _ _ _ 7 [some (x_r (16 * 32 + 0)), some (x_i (-1)), none] [] (al, ro, fl (ml M [32] [(x_up S 0 0 0)])) _ _ _ _
  refine e_iconst (pc := 7) dX12_hungriest_7 (x_R rfl) ?_
  refine e_istoren (pc := 8) (i := 2) dX12_hungriest_8 rfl (by decide) rfl ?_
  show Ev g _ _ _ _ _ _ 9 [some (x_r (16 * 32 + 0)), some (x_i (-1)), some (x_i 0)] [] (al, ro, fl (ml M [32] [(x_up S 0 0 0)])) _ _ _ _
  obtain ⟨v3, hl4, hG⟩ := x_bd1 hG
  have hk4 : ∀ q : Int, q = v3 → Ev g yX12_hungriest cX12_hungriest 3 (some .int) [] 1 53 [some (x_r (16 * 32 + 0)), some (x_i q), none] [] (al, ro, fl (ml M [32] [(x_up S 0 0 0)])) 0 0 (.inl (some (x_i t.1))) (al, ro, fl (ml M [32] [t.2])) := by
    intro q hq
    replace hq := hq.symm
    subst hq
    refine e_iloadn (pc := 53) (i := 1) dX12_hungriest_53 rfl rfl ?_
    cases hG
    exact (e_ireturn rfl dX12_hungriest_54 rfl)
  clear hG
  refine e_whl (G12_hungriest_L9 S) (fun z : (Int × Int) => Ev g yX12_hungriest cX12_hungriest 3 (some .int) [] 1 9 [some (x_r (16 * 32 + 0)), some (x_i z.1), some (x_i z.2)] [] (al, ro, fl (ml M [32] [(x_up S 0 0 0)])) 0 0 (.inl (some (x_i t.1))) (al, ro, fl (ml M [32] [t.2]))) (fun q => q = v3) ?_ xFU ((-1), 0) _ hl4 rfl
  intro z t4 hf4 hi4 hx4
  obtain ⟨v1, v2⟩ := z
  rw [G12_hungriest_L9] at hf4
  show Ev g _ _ _ _ _ _ 9 [some (x_r (16 * 32 + 0)), some (x_i v1), some (x_i v2)] [] (al, ro, fl (ml M [32] [(x_up S 0 0 0)])) _ _ _ _
  refine e_iloadn (pc := 9) (i := 2) dX12_hungriest_9 rfl rfl ?_
  refine e_aloadn (pc := 10) (i := 0) dX12_hungriest_10 rfl rfl ?_
  refine f_getr (pc := 11) (u := 32) (q := 0) dX12_hungriest_11 xf12_7 (sa_32_0 hs) rfl (sr_32_0_1 hs) ?_
  refine e_iconst (pc := 14) dX12_hungriest_14 (x_R rfl) ?_
  refine f_iald (pc := 15) (k := 0) (u := 32) (q := 1) (len := 772) dX12_hungriest_15 (sa_32_1 hs) (by decide) hn rfl rfl (by decide) ?_
  show Ev g _ _ _ _ _ _ 16 [some (x_r (16 * 32 + 0)), some (x_i v1), some (x_i v2)] [x_i ((x_up S 0 0 0) 1 3), x_i v2] (al, ro, fl (ml M [32] [(x_up S 0 0 0)])) _ _ _ _
  refine e_icmp_ge (pc := 16) (tgt := 53) dX12_hungriest_16 (by decide) (fun hb => ?_) (fun hb => ?_)
  · rw [if_pos hb] at hf4
    cases hf4
    refine e_drop (i := 2) ?_
    exact hk4 _ (hx4 _ rfl)
  · rw [if_neg hb] at hf4
    refine e_aloadn (pc := 19) (i := 0) dX12_hungriest_19 rfl rfl ?_
    refine e_iloadn (pc := 20) (i := 2) dX12_hungriest_20 rfl rfl ?_
    refine e_bipush (pc := 21) dX12_hungriest_21 (by decide +kernel) (x_R rfl) ?_
    obtain ⟨v6, hq6, hf4⟩ := x_bd1 hf4
    refine e_invV (pc := 23) (K1 := 0) (S1 := 0) (K := 0) (S := 0) (dd2 := 0) (av := [x_i v2, x_i 6]) (st := []) (id := 16 * 32 + 0) dX12_hungriest_23 xmX12_65 rfl (Or.inl ⟨10, 27, TX12, (sa_32_0 hs), rfl, by decide⟩) (f_cal (M := M) (us2 := [32]) [0] hn rfl (And.intro rfl trivial) rfl rfl rfl (c_X12_of hst hs   hq6)) (by decide) (Nat.le_of_ble_eq_true rfl) (Or.inl rfl) ?_
    show Ev g _ _ _ _ _ _ 26 [some (x_r (16 * 32 + 0)), some (x_i v1), some (x_i v2)] [x_i v6] (al, ro, fl (ml M [32] [(x_up S 0 0 0)])) _ _ _ _
    refine e_iloadn (pc := 26) (i := 1) dX12_hungriest_26 rfl rfl ?_
    refine e_iconst (pc := 27) dX12_hungriest_27 (x_R rfl) ?_
    obtain ⟨v8, hr8, hf4⟩ := x_bd1 hf4
    have hjhr8 : Ev g yX12_hungriest cX12_hungriest 3 (some .int) [] 1 42 [some (x_r (16 * 32 + 0)), some (x_i v1), some (x_i v2)] [x_i v8, x_i v6] (al, ro, fl (ml M [32] [(x_up S 0 0 0)])) 0 0 (.inl (some (x_i t.1))) (al, ro, fl (ml M [32] [t.2])) := by
      obtain ⟨v12, hr12, hf4⟩ := x_bd1 hf4
      have hjhr12 : Ev g yX12_hungriest cX12_hungriest 3 (some .int) [] 1 47 [some (x_r (16 * 32 + 0)), some (x_i v12), some (x_i v2)] [] (al, ro, fl (ml M [32] [(x_up S 0 0 0)])) 0 0 (.inl (some (x_i t.1))) (al, ro, fl (ml M [32] [t.2])) := by
        refine e_iinc (pc := 47) dX12_hungriest_47 rfl (by decide) rfl ?_
        show Ev g _ _ _ _ _ _ 50 [some (x_r (16 * 32 + 0)), some (x_i v12), some (x_i (x_add v2 1))] [] (al, ro, fl (ml M [32] [(x_up S 0 0 0)])) _ _ _ _
        refine e_goto (pc := 50) (tgt := 9) dX12_hungriest_50 (by decide) ?_
        cases hf4
        exact hi4 _ rfl
      clear hf4
      refine e_icmp_le (pc := 42) (tgt := 47) dX12_hungriest_42 (by decide) (fun hb => ?_) (fun hb => ?_)
      · rw [if_pos hb] at hr12
        cases hr12
        exact hjhr12
      · rw [if_neg hb] at hr12
        refine e_iloadn (pc := 45) (i := 2) dX12_hungriest_45 rfl rfl ?_
        refine e_istoren (pc := 46) (i := 1) dX12_hungriest_46 rfl (by decide) rfl ?_
        show Ev g _ _ _ _ _ _ 47 [some (x_r (16 * 32 + 0)), some (x_i v2), some (x_i v2)] [] (al, ro, fl (ml M [32] [(x_up S 0 0 0)])) _ _ _ _
        cases hr12
        exact hjhr12
    clear hf4
    refine e_icmp_ne (pc := 28) (tgt := 35) dX12_hungriest_28 (by decide) (fun hb => ?_) (fun hb => ?_)
    · rw [if_neg hb] at hr8
      refine e_aloadn (pc := 35) (i := 0) dX12_hungriest_35 rfl rfl ?_
      refine e_iloadn (pc := 36) (i := 1) dX12_hungriest_36 rfl rfl ?_
      refine e_bipush (pc := 37) dX12_hungriest_37 (by decide +kernel) (x_R rfl) ?_
      obtain ⟨v10, hq10, hr8⟩ := x_bd1 hr8
      refine e_invV (pc := 39) (K1 := 0) (S1 := 0) (K := 0) (S := 0) (dd2 := 0) (av := [x_i v1, x_i 6]) (st := [x_i v6]) (id := 16 * 32 + 0) dX12_hungriest_39 xmX12_65 rfl (Or.inl ⟨10, 27, TX12, (sa_32_0 hs), rfl, by decide⟩) (f_cal (M := M) (us2 := [32]) [0] hn rfl (And.intro rfl trivial) rfl rfl rfl (c_X12_of hst hs   hq10)) (by decide) (Nat.le_of_ble_eq_true rfl) (Or.inl rfl) ?_
      show Ev g _ _ _ _ _ _ 42 [some (x_r (16 * 32 + 0)), some (x_i v1), some (x_i v2)] [x_i v10, x_i v6] (al, ro, fl (ml M [32] [(x_up S 0 0 0)])) _ _ _ _
      cases hr8
      exact hjhr8
    · rw [if_pos hb] at hr8
      refine e_iconst (pc := 31) dX12_hungriest_31 (x_R rfl) ?_
      refine e_goto (pc := 32) (tgt := 42) dX12_hungriest_32 (by decide) ?_
      cases hr8
      exact hjhr8
def G12_alike_L23 (S : xU) (v2 : Int) : (Int × Int) → Option ((Int × Int) ⊕ Int)
  | (v6, v7) => (if ((x_up S 0 0 0) 1 3) ≤ v7 then (some (.inr v6)) else (x_b1 (G12_of v2 1 (x_up S 0 0 0)) fun (v11 : Int) => (x_b1 (G12_of v7 1 (x_up S 0 0 0)) fun (v13 : Int) => (x_b1 (if v11 = v13 then (x_b1 (G12_of v2 0 (x_up S 0 0 0)) fun (v17 : Int) => (x_b1 (G12_of v7 0 (x_up S 0 0 0)) fun (v19 : Int) => (if v17 = v19 then (some 1) else (some 0)))) else (some 0)) fun (v15 : Int) => (some (.inl ((x_add v6 v15), (x_add v7 1))))))))
def G12_alike_L9 (S : xU) : (Int × Int) → Option ((Int × Int) ⊕ Int)
  | (v1, v2) => (if ((x_up S 0 0 0) 1 3) ≤ v2 then (some (.inr v1)) else (x_b1 (whl xFU (G12_alike_L23 S v2) (v1, (x_add v2 1))) fun (v8 : Int) => (some (.inl (v8, (x_add v2 1))))))
def G12_alike (S : xU) : Option (Int × xU) :=
  (x_b1 (whl xFU (G12_alike_L9 S) (0, 0)) fun (v3 : Int) => (some (v3, (x_up S 0 0 0))))
set_option maxRecDepth 100000 in
set_option maxHeartbeats 4000000 in
theorem c_X12_alike {g : xG} {al : List (Nat × Nat × Nat)} {ro : Nat → Nat → Option Nat} (hst : g.1.stackTraces = false) (hs : SH al ro) {M : Nat → xU} {S : xU} {t : (Int × xU)} (hG : G12_alike S = some t) :
    Cal g yX12_alike cX12_alike 4 (some .int) 1 [x_r (16 * 32 + 0)] (al, ro, fl (ml M [32] [S])) 0 0 (.inl (some (x_i t.1))) (al, ro, fl (ml M [32] [t.2])) := by
  have hn : ([32] : List Nat).Nodup := by decide
  refine cal_of_ev (by decide) (x_c1 rfl) (Nat.le_of_ble_eq_true rfl) hst ?_
  show Ev g _ _ _ _ _ _ 0 [some (x_r (16 * 32 + 0)), none, none, none] [] (al, ro, fl (ml M [32] [S])) _ _ _ _
  rw [G12_alike] at hG
  refine e_aloadn (pc := 0) (i := 0) dX12_alike_0 rfl rfl ?_
  refine e_iconst (pc := 1) dX12_alike_1 (x_R rfl) ?_
  refine f_puti (pc := 2) (k := 0) (u := 32) (q := 0) dX12_alike_2 xf12_58 xw10_0 (sa_32_0 hs) hn rfl rfl rfl (by decide) ?_
  show Ev g _ _ _ _ _ _ 5 [some (x_r (16 * 32 + 0)), none, none, none] [] (al, ro, fl (ml M [32] [(x_up S 0 0 0)])) _ _ _ _
  refine e_iconst (pc := 5) dX12_alike_5 (x_R rfl) ?_
  refine e_istoren (pc := 6) (i := 1) dX12_alike_6 rfl (by decide) rfl ?_
  show Ev g _ _ _ _ _ _ 7 [some (x_r (16 * 32 + 0)), some (x_i 0), none, none] [] (al, ro, fl (ml M [32] [(x_up S 0 0 0)])) _ _ _ _
  refine e_iconst (pc := 7) dX12_alike_7 (x_R rfl) ?_
  refine e_istoren (pc := 8) (i := 2) dX12_alike_8 rfl (by decide) rfl ?_
  show Ev g _ _ _ _ _ _ 9 [some (x_r (16 * 32 + 0)), some (x_i 0), some (x_i 0), none] [] (al, ro, fl (ml M [32] [(x_up S 0 0 0)])) _ _ _ _
  obtain ⟨v3, hl4, hG⟩ := x_bd1 hG
  have hk4 : ∀ q : Int, q = v3 → Ev g yX12_alike cX12_alike 4 (some .int) [] 1 83 [some (x_r (16 * 32 + 0)), some (x_i q), none, none] [] (al, ro, fl (ml M [32] [(x_up S 0 0 0)])) 0 0 (.inl (some (x_i t.1))) (al, ro, fl (ml M [32] [t.2])) := by
    intro q hq
    replace hq := hq.symm
    subst hq
    refine e_iloadn (pc := 83) (i := 1) dX12_alike_83 rfl rfl ?_
    cases hG
    exact (e_ireturn rfl dX12_alike_84 rfl)
  clear hG
  refine e_whl (G12_alike_L9 S) (fun z : (Int × Int) => Ev g yX12_alike cX12_alike 4 (some .int) [] 1 9 [some (x_r (16 * 32 + 0)), some (x_i z.1), some (x_i z.2), none] [] (al, ro, fl (ml M [32] [(x_up S 0 0 0)])) 0 0 (.inl (some (x_i t.1))) (al, ro, fl (ml M [32] [t.2]))) (fun q => q = v3) ?_ xFU (0, 0) _ hl4 rfl
  intro z t4 hf4 hi4 hx4
  obtain ⟨v1, v2⟩ := z
  rw [G12_alike_L9] at hf4
  show Ev g _ _ _ _ _ _ 9 [some (x_r (16 * 32 + 0)), some (x_i v1), some (x_i v2), none] [] (al, ro, fl (ml M [32] [(x_up S 0 0 0)])) _ _ _ _
  refine e_iloadn (pc := 9) (i := 2) dX12_alike_9 rfl rfl ?_
  refine e_aloadn (pc := 10) (i := 0) dX12_alike_10 rfl rfl ?_
  refine f_getr (pc := 11) (u := 32) (q := 0) dX12_alike_11 xf12_7 (sa_32_0 hs) rfl (sr_32_0_1 hs) ?_
  refine e_iconst (pc := 14) dX12_alike_14 (x_R rfl) ?_
  refine f_iald (pc := 15) (k := 0) (u := 32) (q := 1) (len := 772) dX12_alike_15 (sa_32_1 hs) (by decide) hn rfl rfl (by decide) ?_
  show Ev g _ _ _ _ _ _ 16 [some (x_r (16 * 32 + 0)), some (x_i v1), some (x_i v2), none] [x_i ((x_up S 0 0 0) 1 3), x_i v2] (al, ro, fl (ml M [32] [(x_up S 0 0 0)])) _ _ _ _
  refine e_icmp_ge (pc := 16) (tgt := 83) dX12_alike_16 (by decide) (fun hb => ?_) (fun hb => ?_)
  · rw [if_pos hb] at hf4
    cases hf4
    refine e_drop (i := 2) ?_
    exact hk4 _ (hx4 _ rfl)
  · rw [if_neg hb] at hf4
    refine e_iloadn (pc := 19) (i := 2) dX12_alike_19 rfl rfl ?_
    refine e_iconst (pc := 20) dX12_alike_20 (x_R rfl) ?_
    refine e_iadd (pc := 21) dX12_alike_21 ?_
    refine e_istoren (pc := 22) (i := 3) dX12_alike_22 rfl (by decide) rfl ?_
    show Ev g _ _ _ _ _ _ 23 [some (x_r (16 * 32 + 0)), some (x_i v1), some (x_i v2), some (x_i (x_add v2 1))] [] (al, ro, fl (ml M [32] [(x_up S 0 0 0)])) _ _ _ _
    obtain ⟨v8, hl9, hf4⟩ := x_bd1 hf4
    have hk9 : ∀ q : Int, q = v8 → Ev g yX12_alike cX12_alike 4 (some .int) [] 1 77 [some (x_r (16 * 32 + 0)), some (x_i q), some (x_i v2), none] [] (al, ro, fl (ml M [32] [(x_up S 0 0 0)])) 0 0 (.inl (some (x_i t.1))) (al, ro, fl (ml M [32] [t.2])) := by
      intro q hq
      replace hq := hq.symm
      subst hq
      refine e_iinc (pc := 77) dX12_alike_77 rfl (by decide) rfl ?_
      show Ev g _ _ _ _ _ _ 80 [some (x_r (16 * 32 + 0)), some (x_i v8), some (x_i (x_add v2 1)), none] [] (al, ro, fl (ml M [32] [(x_up S 0 0 0)])) _ _ _ _
      refine e_goto (pc := 80) (tgt := 9) dX12_alike_80 (by decide) ?_
      cases hf4
      exact hi4 _ rfl
    clear hf4
    refine e_whl (G12_alike_L23 S v2) (fun z : (Int × Int) => Ev g yX12_alike cX12_alike 4 (some .int) [] 1 23 [some (x_r (16 * 32 + 0)), some (x_i z.1), some (x_i v2), some (x_i z.2)] [] (al, ro, fl (ml M [32] [(x_up S 0 0 0)])) 0 0 (.inl (some (x_i t.1))) (al, ro, fl (ml M [32] [t.2]))) (fun q => q = v8) ?_ xFU (v1, (x_add v2 1)) _ hl9 rfl
    intro z t9 hf9 hi9 hx9
    obtain ⟨v6, v7⟩ := z
    rw [G12_alike_L23] at hf9
    show Ev g _ _ _ _ _ _ 23 [some (x_r (16 * 32 + 0)), some (x_i v6), some (x_i v2), some (x_i v7)] [] (al, ro, fl (ml M [32] [(x_up S 0 0 0)])) _ _ _ _
    refine e_iloadn (pc := 23) (i := 3) dX12_alike_23 rfl rfl ?_
    refine e_aloadn (pc := 24) (i := 0) dX12_alike_24 rfl rfl ?_
    refine f_getr (pc := 25) (u := 32) (q := 0) dX12_alike_25 xf12_7 (sa_32_0 hs) rfl (sr_32_0_1 hs) ?_
    refine e_iconst (pc := 28) dX12_alike_28 (x_R rfl) ?_
    refine f_iald (pc := 29) (k := 0) (u := 32) (q := 1) (len := 772) dX12_alike_29 (sa_32_1 hs) (by decide) hn rfl rfl (by decide) ?_
    show Ev g _ _ _ _ _ _ 30 [some (x_r (16 * 32 + 0)), some (x_i v6), some (x_i v2), some (x_i v7)] [x_i ((x_up S 0 0 0) 1 3), x_i v7] (al, ro, fl (ml M [32] [(x_up S 0 0 0)])) _ _ _ _
    refine e_icmp_ge (pc := 30) (tgt := 77) dX12_alike_30 (by decide) (fun hb => ?_) (fun hb => ?_)
    · rw [if_pos hb] at hf9
      cases hf9
      refine e_drop (i := 3) ?_
      exact hk9 _ (hx9 _ rfl)
    · rw [if_neg hb] at hf9
      refine e_iloadn (pc := 33) (i := 1) dX12_alike_33 rfl rfl ?_
      refine e_aloadn (pc := 34) (i := 0) dX12_alike_34 rfl rfl ?_
      refine e_iloadn (pc := 35) (i := 2) dX12_alike_35 rfl rfl ?_
      refine e_iconst (pc := 36) dX12_alike_36 (x_R rfl) ?_
      obtain ⟨v11, hq11, hf9⟩ := x_bd1 hf9
      refine e_invV (pc := 37) (K1 := 0) (S1 := 0) (K := 0) (S := 0) (dd2 := 0) (av := [x_i v2, x_i 1]) (st := [x_i v6]) (id := 16 * 32 + 0) dX12_alike_37 xmX12_65 rfl (Or.inl ⟨10, 27, TX12, (sa_32_0 hs), rfl, by decide⟩) (f_cal (M := M) (us2 := [32]) [0] hn rfl (And.intro rfl trivial) rfl rfl rfl (c_X12_of hst hs   hq11)) (by decide) (Nat.le_of_ble_eq_true rfl) (Or.inl rfl) ?_
      show Ev g _ _ _ _ _ _ 40 [some (x_r (16 * 32 + 0)), some (x_i v6), some (x_i v2), some (x_i v7)] [x_i v11, x_i v6] (al, ro, fl (ml M [32] [(x_up S 0 0 0)])) _ _ _ _
      refine e_aloadn (pc := 40) (i := 0) dX12_alike_40 rfl rfl ?_
      refine e_iloadn (pc := 41) (i := 3) dX12_alike_41 rfl rfl ?_
      refine e_iconst (pc := 42) dX12_alike_42 (x_R rfl) ?_
      obtain ⟨v13, hq13, hf9⟩ := x_bd1 hf9
      refine e_invV (pc := 43) (K1 := 0) (S1 := 0) (K := 0) (S := 0) (dd2 := 0) (av := [x_i v7, x_i 1]) (st := [x_i v11, x_i v6]) (id := 16 * 32 + 0) dX12_alike_43 xmX12_65 rfl (Or.inl ⟨10, 27, TX12, (sa_32_0 hs), rfl, by decide⟩) (f_cal (M := M) (us2 := [32]) [0] hn rfl (And.intro rfl trivial) rfl rfl rfl (c_X12_of hst hs   hq13)) (by decide) (Nat.le_of_ble_eq_true rfl) (Or.inl rfl) ?_
      show Ev g _ _ _ _ _ _ 46 [some (x_r (16 * 32 + 0)), some (x_i v6), some (x_i v2), some (x_i v7)] [x_i v13, x_i v11, x_i v6] (al, ro, fl (ml M [32] [(x_up S 0 0 0)])) _ _ _ _
      obtain ⟨v15, hr15, hf9⟩ := x_bd1 hf9
      have hjhr15 : Ev g yX12_alike cX12_alike 4 (some .int) [] 1 69 [some (x_r (16 * 32 + 0)), some (x_i v6), some (x_i v2), some (x_i v7)] [x_i v15, x_i v6] (al, ro, fl (ml M [32] [(x_up S 0 0 0)])) 0 0 (.inl (some (x_i t.1))) (al, ro, fl (ml M [32] [t.2])) := by
        refine e_iadd (pc := 69) dX12_alike_69 ?_
        refine e_istoren (pc := 70) (i := 1) dX12_alike_70 rfl (by decide) rfl ?_
        show Ev g _ _ _ _ _ _ 71 [some (x_r (16 * 32 + 0)), some (x_i (x_add v6 v15)), some (x_i v2), some (x_i v7)] [] (al, ro, fl (ml M [32] [(x_up S 0 0 0)])) _ _ _ _
        refine e_iinc (pc := 71) dX12_alike_71 rfl (by decide) rfl ?_
        show Ev g _ _ _ _ _ _ 74 [some (x_r (16 * 32 + 0)), some (x_i (x_add v6 v15)), some (x_i v2), some (x_i (x_add v7 1))] [] (al, ro, fl (ml M [32] [(x_up S 0 0 0)])) _ _ _ _
        refine e_goto (pc := 74) (tgt := 23) dX12_alike_74 (by decide) ?_
        cases hf9
        exact hi9 _ rfl
      clear hf9
      refine e_icmp_ne (pc := 46) (tgt := 68) dX12_alike_46 (by decide) (fun hb => ?_) (fun hb => ?_)
      · rw [if_neg hb] at hr15
        refine e_iconst (pc := 68) dX12_alike_68 (x_R rfl) ?_
        cases hr15
        exact hjhr15
      · rw [if_pos hb] at hr15
        refine e_aloadn (pc := 49) (i := 0) dX12_alike_49 rfl rfl ?_
        refine e_iloadn (pc := 50) (i := 2) dX12_alike_50 rfl rfl ?_
        refine e_iconst (pc := 51) dX12_alike_51 (x_R rfl) ?_
        obtain ⟨v17, hq17, hr15⟩ := x_bd1 hr15
        refine e_invV (pc := 52) (K1 := 0) (S1 := 0) (K := 0) (S := 0) (dd2 := 0) (av := [x_i v2, x_i 0]) (st := [x_i v6]) (id := 16 * 32 + 0) dX12_alike_52 xmX12_65 rfl (Or.inl ⟨10, 27, TX12, (sa_32_0 hs), rfl, by decide⟩) (f_cal (M := M) (us2 := [32]) [0] hn rfl (And.intro rfl trivial) rfl rfl rfl (c_X12_of hst hs   hq17)) (by decide) (Nat.le_of_ble_eq_true rfl) (Or.inl rfl) ?_
        show Ev g _ _ _ _ _ _ 55 [some (x_r (16 * 32 + 0)), some (x_i v6), some (x_i v2), some (x_i v7)] [x_i v17, x_i v6] (al, ro, fl (ml M [32] [(x_up S 0 0 0)])) _ _ _ _
        refine e_aloadn (pc := 55) (i := 0) dX12_alike_55 rfl rfl ?_
        refine e_iloadn (pc := 56) (i := 3) dX12_alike_56 rfl rfl ?_
        refine e_iconst (pc := 57) dX12_alike_57 (x_R rfl) ?_
        obtain ⟨v19, hq19, hr15⟩ := x_bd1 hr15
        refine e_invV (pc := 58) (K1 := 0) (S1 := 0) (K := 0) (S := 0) (dd2 := 0) (av := [x_i v7, x_i 0]) (st := [x_i v17, x_i v6]) (id := 16 * 32 + 0) dX12_alike_58 xmX12_65 rfl (Or.inl ⟨10, 27, TX12, (sa_32_0 hs), rfl, by decide⟩) (f_cal (M := M) (us2 := [32]) [0] hn rfl (And.intro rfl trivial) rfl rfl rfl (c_X12_of hst hs   hq19)) (by decide) (Nat.le_of_ble_eq_true rfl) (Or.inl rfl) ?_
        show Ev g _ _ _ _ _ _ 61 [some (x_r (16 * 32 + 0)), some (x_i v6), some (x_i v2), some (x_i v7)] [x_i v19, x_i v17, x_i v6] (al, ro, fl (ml M [32] [(x_up S 0 0 0)])) _ _ _ _
        refine e_icmp_ne (pc := 61) (tgt := 68) dX12_alike_61 (by decide) (fun hb => ?_) (fun hb => ?_)
        · rw [if_neg hb] at hr15
          refine e_iconst (pc := 68) dX12_alike_68 (x_R rfl) ?_
          cases hr15
          exact hjhr15
        · rw [if_pos hb] at hr15
          refine e_iconst (pc := 64) dX12_alike_64 (x_R rfl) ?_
          refine e_goto (pc := 65) (tgt := 69) dX12_alike_65 (by decide) ?_
          cases hr15
          exact hjhr15
def G12_logged (a : Int) (b : Int) (S : xU) : Option Int :=
  (x_gd ((0 : Int) ≤ (x_add (x_add 72 (x_mul 5 a)) b) ∧ (x_add (x_add 72 (x_mul 5 a)) b) < 772) (some (S 1 ((x_add (x_add 72 (x_mul 5 a)) b)).toNat)))
set_option maxRecDepth 100000 in
set_option maxHeartbeats 4000000 in
theorem c_X12_logged {g : xG} {al : List (Nat × Nat × Nat)} {ro : Nat → Nat → Option Nat} (hst : g.1.stackTraces = false) (hs : SH al ro) {M : Nat → xU} {a : Int} {b : Int} {S : xU} {t : Int} (hG : G12_logged a b S = some t) :
    Cal g yX12_logged cX12_logged 3 (some .int) 0 [x_r (16 * 32 + 0), x_i a, x_i b] (al, ro, fl (ml M [32] [S])) 0 0 (.inl (some (x_i t))) (al, ro, fl (ml M [32] [S])) := by
  have hn : ([32] : List Nat).Nodup := by decide
  refine cal_of_ev (by decide) (x_c1 rfl) (Nat.le_of_ble_eq_true rfl) hst ?_
  show Ev g _ _ _ _ _ _ 0 [some (x_r (16 * 32 + 0)), some (x_i a), some (x_i b)] [] (al, ro, fl (ml M [32] [S])) _ _ _ _
  rw [G12_logged] at hG
  refine e_aloadn (pc := 0) (i := 0) dX12_logged_0 rfl rfl ?_
  refine f_getr (pc := 1) (u := 32) (q := 0) dX12_logged_1 xf12_7 (sa_32_0 hs) rfl (sr_32_0_1 hs) ?_
  refine e_bipush (pc := 4) dX12_logged_4 (by decide +kernel) (x_R rfl) ?_
  refine e_iconst (pc := 6) dX12_logged_6 (x_R rfl) ?_
  refine e_iloadn (pc := 7) (i := 1) dX12_logged_7 rfl rfl ?_
  refine e_imul (pc := 8) dX12_logged_8 ?_
  refine e_iadd (pc := 9) dX12_logged_9 ?_
  refine e_iloadn (pc := 10) (i := 2) dX12_logged_10 rfl rfl ?_
  refine e_iadd (pc := 11) dX12_logged_11 ?_
  obtain ⟨hc0, hG⟩ := x_gd_some hG
  refine f_iald (pc := 12) (k := 0) (u := 32) (q := 1) (len := 772) dX12_logged_12 (sa_32_1 hs) hc0 hn rfl rfl (by decide) ?_
  show Ev g _ _ _ _ _ _ 13 [some (x_r (16 * 32 + 0)), some (x_i a), some (x_i b)] [x_i (S 1 ((x_add (x_add 72 (x_mul 5 a)) b)).toNat)] (al, ro, fl (ml M [32] [S])) _ _ _ _
  cases hG
  exact (e_ireturn rfl dX12_logged_13 rfl)
def G12_led_L42 (a : Int) (S : xU) (v3 : Int) : (Int × Int × Int) → Option ((Int × Int × Int) ⊕ (Int × Int))
  | (v5, v6, v7) => (if v7 < 0 then (some (.inr (v5, v6))) else (x_b1 (G12_logged v7 3 (x_up S 0 0 v3)) fun (v12 : Int) => (x_b2 (if v12 = a then (x_b1 (G12_logged v7 4 (x_up S 0 0 v3)) fun (v17 : Int) => (some ((x_add v5 1), v17))) else (some (v5, v6))) fun (v14 : Int) (v15 : Int) => (some (.inl (v14, v15, (x_add v7 (-1))))))))
def G12_led (a : Int) (b : Int) (S : xU) : Option (Int × xU) :=
  (x_b1 (G12_isMonk a S) fun (v1 : Int) => (x_b1 (if v1 = 0 then (some 1) else (some 0)) fun (v3 : Int) => (if ((x_up S 0 0 v3) 0 0) ≤ 0 then (x_b2 (whl xFU (G12_led_L42 a S v3) (0, (-1), (x_sub ((x_up S 0 0 v3) 1 10) 1))) fun (v8 : Int) (v9 : Int) => (x_b1 (if b = 0 then (some v8) else (some v9)) fun (v19 : Int) => (some (v19, (x_up S 0 0 v3))))) else (some (0, (x_up S 0 0 v3))))))
set_option maxRecDepth 100000 in
set_option maxHeartbeats 4000000 in
theorem c_X12_led {g : xG} {al : List (Nat × Nat × Nat)} {ro : Nat → Nat → Option Nat} (hst : g.1.stackTraces = false) (hs : SH al ro) {M : Nat → xU} {a : Int} {b : Int} {S : xU} {t : (Int × xU)} (hG : G12_led a b S = some t) :
    Cal g yX12_led cX12_led 6 (some .int) 2 [x_r (16 * 32 + 0), x_i a, x_i b] (al, ro, fl (ml M [32] [S])) 0 0 (.inl (some (x_i t.1))) (al, ro, fl (ml M [32] [t.2])) := by
  have hn : ([32] : List Nat).Nodup := by decide
  refine cal_of_ev (by decide) (x_c1 rfl) (Nat.le_of_ble_eq_true rfl) hst ?_
  show Ev g _ _ _ _ _ _ 0 [some (x_r (16 * 32 + 0)), some (x_i a), some (x_i b), none, none, none] [] (al, ro, fl (ml M [32] [S])) _ _ _ _
  rw [G12_led] at hG
  refine e_aloadn (pc := 0) (i := 0) dX12_led_0 rfl rfl ?_
  refine e_aloadn (pc := 1) (i := 0) dX12_led_1 rfl rfl ?_
  refine e_iloadn (pc := 2) (i := 1) dX12_led_2 rfl rfl ?_
  obtain ⟨v1, hq1, hG⟩ := x_bd1 hG
  refine e_invV (pc := 3) (K1 := 0) (S1 := 0) (K := 0) (S := 0) (dd2 := 1) (av := [x_i a]) (st := [x_r (16 * 32 + 0)]) (id := 16 * 32 + 0) dX12_led_3 xmX12_295 rfl (Or.inl ⟨10, 27, TX12, (sa_32_0 hs), rfl, by decide⟩) (f_cal (M := M) (us2 := [32]) [0] hn rfl (And.intro rfl trivial) rfl rfl rfl (c_X12_isMonk hst hs   hq1)) (by decide) (Nat.le_of_ble_eq_true rfl) (Or.inl rfl) ?_
  show Ev g _ _ _ _ _ _ 6 [some (x_r (16 * 32 + 0)), some (x_i a), some (x_i b), none, none, none] [x_i v1, x_r (16 * 32 + 0)] (al, ro, fl (ml M [32] [S])) _ _ _ _
  obtain ⟨v3, hr3, hG⟩ := x_bd1 hG
  have hjhr3 : Ev g yX12_led cX12_led 6 (some .int) [] 2 14 [some (x_r (16 * 32 + 0)), some (x_i a), some (x_i b), none, none, none] [x_i v3, x_r (16 * 32 + 0)] (al, ro, fl (ml M [32] [S])) 0 0 (.inl (some (x_i t.1))) (al, ro, fl (ml M [32] [t.2])) := by
    refine f_puti (pc := 14) (k := 0) (u := 32) (q := 0) dX12_led_14 xf12_58 xw10_0 (sa_32_0 hs) hn rfl rfl rfl (by decide) ?_
    show Ev g _ _ _ _ _ _ 17 [some (x_r (16 * 32 + 0)), some (x_i a), some (x_i b), none, none, none] [] (al, ro, fl (ml M [32] [(x_up S 0 0 v3)])) _ _ _ _
    refine e_aloadn (pc := 17) (i := 0) dX12_led_17 rfl rfl ?_
    refine f_geti (pc := 18) (k := 0) (u := 32) (q := 0) dX12_led_18 xf12_58 (sa_32_0 hs) rfl hn rfl rfl (by decide) ?_
    show Ev g _ _ _ _ _ _ 21 [some (x_r (16 * 32 + 0)), some (x_i a), some (x_i b), none, none, none] [x_i ((x_up S 0 0 v3) 0 0)] (al, ro, fl (ml M [32] [(x_up S 0 0 v3)])) _ _ _ _
    refine e_if_le (pc := 21) (tgt := 26) dX12_led_21 (by decide) (fun hb => ?_) (fun hb => ?_)
    · rw [if_pos hb] at hG
      refine e_iconst (pc := 26) dX12_led_26 (x_R rfl) ?_
      refine e_istoren (pc := 27) (i := 3) dX12_led_27 rfl (by decide) rfl ?_
      show Ev g _ _ _ _ _ _ 28 [some (x_r (16 * 32 + 0)), some (x_i a), some (x_i b), some (x_i 0), none, none] [] (al, ro, fl (ml M [32] [(x_up S 0 0 v3)])) _ _ _ _
      refine e_iconst (pc := 28) dX12_led_28 (x_R rfl) ?_
      refine e_istore (pc := 29) (i := 4) dX12_led_29 (by decide) rfl ?_
      show Ev g _ _ _ _ _ _ 31 [some (x_r (16 * 32 + 0)), some (x_i a), some (x_i b), some (x_i 0), some (x_i (-1)), none] [] (al, ro, fl (ml M [32] [(x_up S 0 0 v3)])) _ _ _ _
      refine e_aloadn (pc := 31) (i := 0) dX12_led_31 rfl rfl ?_
      refine f_getr (pc := 32) (u := 32) (q := 0) dX12_led_32 xf12_7 (sa_32_0 hs) rfl (sr_32_0_1 hs) ?_
      refine e_bipush (pc := 35) dX12_led_35 (by decide +kernel) (x_R rfl) ?_
      refine f_iald (pc := 37) (k := 0) (u := 32) (q := 1) (len := 772) dX12_led_37 (sa_32_1 hs) (by decide) hn rfl rfl (by decide) ?_
      show Ev g _ _ _ _ _ _ 38 [some (x_r (16 * 32 + 0)), some (x_i a), some (x_i b), some (x_i 0), some (x_i (-1)), none] [x_i ((x_up S 0 0 v3) 1 10)] (al, ro, fl (ml M [32] [(x_up S 0 0 v3)])) _ _ _ _
      refine e_iconst (pc := 38) dX12_led_38 (x_R rfl) ?_
      refine e_isub (pc := 39) dX12_led_39 ?_
      refine e_istore (pc := 40) (i := 5) dX12_led_40 (by decide) rfl ?_
      show Ev g _ _ _ _ _ _ 42 [some (x_r (16 * 32 + 0)), some (x_i a), some (x_i b), some (x_i 0), some (x_i (-1)), some (x_i (x_sub ((x_up S 0 0 v3) 1 10) 1))] [] (al, ro, fl (ml M [32] [(x_up S 0 0 v3)])) _ _ _ _
      obtain ⟨v8, v9, hl10, hG⟩ := x_bd2 hG
      have hk10 : ∀ q : (Int × Int), q = (v8, v9) → Ev g yX12_led cX12_led 6 (some .int) [] 2 79 [some (x_r (16 * 32 + 0)), some (x_i a), some (x_i b), some (x_i q.1), some (x_i q.2), none] [] (al, ro, fl (ml M [32] [(x_up S 0 0 v3)])) 0 0 (.inl (some (x_i t.1))) (al, ro, fl (ml M [32] [t.2])) := by
        intro q hq
        cases hq
        refine e_iloadn (pc := 79) (i := 2) dX12_led_79 rfl rfl ?_
        obtain ⟨v19, hr19, hG⟩ := x_bd1 hG
        have hjhr19 : Ev g yX12_led cX12_led 6 (some .int) [] 2 89 [some (x_r (16 * 32 + 0)), some (x_i a), some (x_i b), some (x_i v8), some (x_i v9), none] [x_i v19] (al, ro, fl (ml M [32] [(x_up S 0 0 v3)])) 0 0 (.inl (some (x_i t.1))) (al, ro, fl (ml M [32] [t.2])) := by
          cases hG
          exact (e_ireturn rfl dX12_led_89 rfl)
        clear hG
        refine e_if_eq (pc := 80) (tgt := 88) dX12_led_80 (by decide) (fun hb => ?_) (fun hb => ?_)
        · rw [if_pos hb] at hr19
          refine e_iloadn (pc := 88) (i := 3) dX12_led_88 rfl rfl ?_
          cases hr19
          exact hjhr19
        · rw [if_neg hb] at hr19
          refine e_iload (pc := 83) dX12_led_83 rfl ?_
          refine e_goto (pc := 85) (tgt := 89) dX12_led_85 (by decide) ?_
          cases hr19
          exact hjhr19
      clear hG
      refine e_whl (G12_led_L42 a S v3) (fun z : (Int × Int × Int) => Ev g yX12_led cX12_led 6 (some .int) [] 2 42 [some (x_r (16 * 32 + 0)), some (x_i a), some (x_i b), some (x_i z.1), some (x_i z.2.1), some (x_i z.2.2)] [] (al, ro, fl (ml M [32] [(x_up S 0 0 v3)])) 0 0 (.inl (some (x_i t.1))) (al, ro, fl (ml M [32] [t.2]))) (fun q => q = (v8, v9)) ?_ xFU (0, (-1), (x_sub ((x_up S 0 0 v3) 1 10) 1)) _ hl10 rfl
      intro z t10 hf10 hi10 hx10
      obtain ⟨v5, v6, v7⟩ := z
      rw [G12_led_L42] at hf10
      show Ev g _ _ _ _ _ _ 42 [some (x_r (16 * 32 + 0)), some (x_i a), some (x_i b), some (x_i v5), some (x_i v6), some (x_i v7)] [] (al, ro, fl (ml M [32] [(x_up S 0 0 v3)])) _ _ _ _
      refine e_iload (pc := 42) dX12_led_42 rfl ?_
      refine e_if_lt (pc := 44) (tgt := 79) dX12_led_44 (by decide) (fun hb => ?_) (fun hb => ?_)
      · rw [if_pos hb] at hf10
        cases hf10
        refine e_drop (i := 5) ?_
        exact hk10 _ (hx10 _ rfl)
      · rw [if_neg hb] at hf10
        refine e_aloadn (pc := 47) (i := 0) dX12_led_47 rfl rfl ?_
        refine e_iload (pc := 48) dX12_led_48 rfl ?_
        refine e_iconst (pc := 50) dX12_led_50 (x_R rfl) ?_
        obtain ⟨v12, hq12, hf10⟩ := x_bd1 hf10
        refine e_invV (pc := 51) (K1 := 0) (S1 := 0) (K := 0) (S := 0) (dd2 := 0) (av := [x_i v7, x_i 3]) (st := []) (id := 16 * 32 + 0) dX12_led_51 xmX12_419 rfl (Or.inl ⟨10, 27, TX12, (sa_32_0 hs), rfl, by decide⟩) (f_cal (M := M) (us2 := [32]) [0] hn rfl (And.intro rfl trivial) rfl rfl rfl (c_X12_logged hst hs   hq12)) (by decide) (Nat.le_of_ble_eq_true rfl) (Or.inl rfl) ?_
        show Ev g _ _ _ _ _ _ 54 [some (x_r (16 * 32 + 0)), some (x_i a), some (x_i b), some (x_i v5), some (x_i v6), some (x_i v7)] [x_i v12] (al, ro, fl (ml M [32] [(x_up S 0 0 v3)])) _ _ _ _
        refine e_iloadn (pc := 54) (i := 1) dX12_led_54 rfl rfl ?_
        obtain ⟨v14, v15, hr15, hf10⟩ := x_bd2 hf10
        have hjhr15 : Ev g yX12_led cX12_led 6 (some .int) [] 2 73 [some (x_r (16 * 32 + 0)), some (x_i a), some (x_i b), some (x_i v14), some (x_i v15), some (x_i v7)] [] (al, ro, fl (ml M [32] [(x_up S 0 0 v3)])) 0 0 (.inl (some (x_i t.1))) (al, ro, fl (ml M [32] [t.2])) := by
          refine e_iinc (pc := 73) dX12_led_73 rfl (by decide) rfl ?_
          show Ev g _ _ _ _ _ _ 76 [some (x_r (16 * 32 + 0)), some (x_i a), some (x_i b), some (x_i v14), some (x_i v15), some (x_i (x_add v7 (-1)))] [] (al, ro, fl (ml M [32] [(x_up S 0 0 v3)])) _ _ _ _
          refine e_goto (pc := 76) (tgt := 42) dX12_led_76 (by decide) ?_
          cases hf10
          exact hi10 _ rfl
        clear hf10
        refine e_icmp_eq (pc := 55) (tgt := 61) dX12_led_55 (by decide) (fun hb => ?_) (fun hb => ?_)
        · rw [if_pos hb] at hr15
          refine e_iinc (pc := 61) dX12_led_61 rfl (by decide) rfl ?_
          show Ev g _ _ _ _ _ _ 64 [some (x_r (16 * 32 + 0)), some (x_i a), some (x_i b), some (x_i (x_add v5 1)), some (x_i v6), some (x_i v7)] [] (al, ro, fl (ml M [32] [(x_up S 0 0 v3)])) _ _ _ _
          refine e_aloadn (pc := 64) (i := 0) dX12_led_64 rfl rfl ?_
          refine e_iload (pc := 65) dX12_led_65 rfl ?_
          refine e_iconst (pc := 67) dX12_led_67 (x_R rfl) ?_
          obtain ⟨v17, hq17, hr15⟩ := x_bd1 hr15
          refine e_invV (pc := 68) (K1 := 0) (S1 := 0) (K := 0) (S := 0) (dd2 := 0) (av := [x_i v7, x_i 4]) (st := []) (id := 16 * 32 + 0) dX12_led_68 xmX12_419 rfl (Or.inl ⟨10, 27, TX12, (sa_32_0 hs), rfl, by decide⟩) (f_cal (M := M) (us2 := [32]) [0] hn rfl (And.intro rfl trivial) rfl rfl rfl (c_X12_logged hst hs   hq17)) (by decide) (Nat.le_of_ble_eq_true rfl) (Or.inl rfl) ?_
          show Ev g _ _ _ _ _ _ 71 [some (x_r (16 * 32 + 0)), some (x_i a), some (x_i b), some (x_i (x_add v5 1)), some (x_i v6), some (x_i v7)] [x_i v17] (al, ro, fl (ml M [32] [(x_up S 0 0 v3)])) _ _ _ _
          refine e_istore (pc := 71) (i := 4) dX12_led_71 (by decide) rfl ?_
          show Ev g _ _ _ _ _ _ 73 [some (x_r (16 * 32 + 0)), some (x_i a), some (x_i b), some (x_i (x_add v5 1)), some (x_i v17), some (x_i v7)] [] (al, ro, fl (ml M [32] [(x_up S 0 0 v3)])) _ _ _ _
          cases hr15
          exact hjhr15
        · rw [if_neg hb] at hr15
          refine e_goto (pc := 58) (tgt := 73) dX12_led_58 (by decide) ?_
          cases hr15
          exact hjhr15
    · rw [if_neg hb] at hG
      refine e_iconst (pc := 24) dX12_led_24 (x_R rfl) ?_
      cases hG
      exact (e_ireturn rfl dX12_led_25 rfl)
  clear hG
  refine e_if_ne (pc := 6) (tgt := 13) dX12_led_6 (by decide) (fun hb => ?_) (fun hb => ?_)
  · rw [if_neg hb] at hr3
    refine e_iconst (pc := 13) dX12_led_13 (x_R rfl) ?_
    cases hr3
    exact hjhr3
  · rw [if_pos hb] at hr3
    refine e_iconst (pc := 9) dX12_led_9 (x_R rfl) ?_
    refine e_goto (pc := 10) (tgt := 14) dX12_led_10 (by decide) ?_
    cases hr3
    exact hjhr3
def G12_log (a : Int) (b : Int) (S : xU) : Option (Int × xU) :=
  (x_b1 (G12_isIn b 0 4) fun (v1 : Int) => (x_b1 (if v1 = 0 then (some 1) else (some 0)) fun (v3 : Int) => (if ((x_up S 0 0 v3) 0 0) ≤ 0 then (x_b1 (G12_isIn a 0 (x_sub ((x_up S 0 0 v3) 1 10) 1)) fun (v5 : Int) => (x_b1 (if v5 = 0 then (some (-1)) else (x_b1 (G12_logged a b (x_up S 0 0 v3)) fun (v9 : Int) => (some v9))) fun (v7 : Int) => (some (v7, (x_up S 0 0 v3))))) else (some (0, (x_up S 0 0 v3))))))
set_option maxRecDepth 100000 in
set_option maxHeartbeats 4000000 in
theorem c_X12_log {g : xG} {al : List (Nat × Nat × Nat)} {ro : Nat → Nat → Option Nat} (hst : g.1.stackTraces = false) (hs : SH al ro) {M : Nat → xU} {a : Int} {b : Int} {S : xU} {t : (Int × xU)} (hG : G12_log a b S = some t) :
    Cal g yX12_log cX12_log 3 (some .int) 1 [x_r (16 * 32 + 0), x_i a, x_i b] (al, ro, fl (ml M [32] [S])) 0 0 (.inl (some (x_i t.1))) (al, ro, fl (ml M [32] [t.2])) := by
  have hn : ([32] : List Nat).Nodup := by decide
  refine cal_of_ev (by decide) (x_c1 rfl) (Nat.le_of_ble_eq_true rfl) hst ?_
  show Ev g _ _ _ _ _ _ 0 [some (x_r (16 * 32 + 0)), some (x_i a), some (x_i b)] [] (al, ro, fl (ml M [32] [S])) _ _ _ _
  rw [G12_log] at hG
  refine e_aloadn (pc := 0) (i := 0) dX12_log_0 rfl rfl ?_
  refine e_iloadn (pc := 1) (i := 2) dX12_log_1 rfl rfl ?_
  refine e_iconst (pc := 2) dX12_log_2 (x_R rfl) ?_
  refine e_iconst (pc := 3) dX12_log_3 (x_R rfl) ?_
  obtain ⟨v1, hq1, hG⟩ := x_bd1 hG
  refine e_invS (pc := 4) (K1 := 0) (S1 := 0) (K := 0) (S := 0) (dd2 := 0) (av := [x_i b, x_i 0, x_i 4]) (st := [x_r (16 * 32 + 0)]) dX12_log_4 xmX12_61 rfl (f_cal (M := M) (us2 := []) [] hn rfl trivial rfl rfl rfl (c_X12_isIn hst hs   hq1)) (by decide) (Nat.le_of_ble_eq_true rfl) (Or.inl rfl) ?_
  show Ev g _ _ _ _ _ _ 7 [some (x_r (16 * 32 + 0)), some (x_i a), some (x_i b)] [x_i v1, x_r (16 * 32 + 0)] (al, ro, fl (ml M [32] [S])) _ _ _ _
  obtain ⟨v3, hr3, hG⟩ := x_bd1 hG
  have hjhr3 : Ev g yX12_log cX12_log 3 (some .int) [] 1 15 [some (x_r (16 * 32 + 0)), some (x_i a), some (x_i b)] [x_i v3, x_r (16 * 32 + 0)] (al, ro, fl (ml M [32] [S])) 0 0 (.inl (some (x_i t.1))) (al, ro, fl (ml M [32] [t.2])) := by
    refine f_puti (pc := 15) (k := 0) (u := 32) (q := 0) dX12_log_15 xf12_58 xw10_0 (sa_32_0 hs) hn rfl rfl rfl (by decide) ?_
    show Ev g _ _ _ _ _ _ 18 [some (x_r (16 * 32 + 0)), some (x_i a), some (x_i b)] [] (al, ro, fl (ml M [32] [(x_up S 0 0 v3)])) _ _ _ _
    refine e_aloadn (pc := 18) (i := 0) dX12_log_18 rfl rfl ?_
    refine f_geti (pc := 19) (k := 0) (u := 32) (q := 0) dX12_log_19 xf12_58 (sa_32_0 hs) rfl hn rfl rfl (by decide) ?_
    show Ev g _ _ _ _ _ _ 22 [some (x_r (16 * 32 + 0)), some (x_i a), some (x_i b)] [x_i ((x_up S 0 0 v3) 0 0)] (al, ro, fl (ml M [32] [(x_up S 0 0 v3)])) _ _ _ _
    refine e_if_le (pc := 22) (tgt := 27) dX12_log_22 (by decide) (fun hb => ?_) (fun hb => ?_)
    · rw [if_pos hb] at hG
      refine e_iloadn (pc := 27) (i := 1) dX12_log_27 rfl rfl ?_
      refine e_iconst (pc := 28) dX12_log_28 (x_R rfl) ?_
      refine e_aloadn (pc := 29) (i := 0) dX12_log_29 rfl rfl ?_
      refine f_getr (pc := 30) (u := 32) (q := 0) dX12_log_30 xf12_7 (sa_32_0 hs) rfl (sr_32_0_1 hs) ?_
      refine e_bipush (pc := 33) dX12_log_33 (by decide +kernel) (x_R rfl) ?_
      refine f_iald (pc := 35) (k := 0) (u := 32) (q := 1) (len := 772) dX12_log_35 (sa_32_1 hs) (by decide) hn rfl rfl (by decide) ?_
      show Ev g _ _ _ _ _ _ 36 [some (x_r (16 * 32 + 0)), some (x_i a), some (x_i b)] [x_i ((x_up S 0 0 v3) 1 10), x_i 0, x_i a] (al, ro, fl (ml M [32] [(x_up S 0 0 v3)])) _ _ _ _
      refine e_iconst (pc := 36) dX12_log_36 (x_R rfl) ?_
      refine e_isub (pc := 37) dX12_log_37 ?_
      obtain ⟨v5, hq5, hG⟩ := x_bd1 hG
      refine e_invS (pc := 38) (K1 := 0) (S1 := 0) (K := 0) (S := 0) (dd2 := 0) (av := [x_i a, x_i 0, x_i (x_sub ((x_up S 0 0 v3) 1 10) 1)]) (st := []) dX12_log_38 xmX12_61 rfl (f_cal (M := M) (us2 := []) [] hn rfl trivial rfl rfl rfl (c_X12_isIn hst hs   hq5)) (by decide) (Nat.le_of_ble_eq_true rfl) (Or.inl rfl) ?_
      show Ev g _ _ _ _ _ _ 41 [some (x_r (16 * 32 + 0)), some (x_i a), some (x_i b)] [x_i v5] (al, ro, fl (ml M [32] [(x_up S 0 0 v3)])) _ _ _ _
      obtain ⟨v7, hr7, hG⟩ := x_bd1 hG
      have hjhr7 : Ev g yX12_log cX12_log 3 (some .int) [] 1 54 [some (x_r (16 * 32 + 0)), some (x_i a), some (x_i b)] [x_i v7] (al, ro, fl (ml M [32] [(x_up S 0 0 v3)])) 0 0 (.inl (some (x_i t.1))) (al, ro, fl (ml M [32] [t.2])) := by
        cases hG
        exact (e_ireturn rfl dX12_log_54 rfl)
      clear hG
      refine e_if_eq (pc := 41) (tgt := 53) dX12_log_41 (by decide) (fun hb => ?_) (fun hb => ?_)
      · rw [if_pos hb] at hr7
        refine e_iconst (pc := 53) dX12_log_53 (x_R rfl) ?_
        cases hr7
        exact hjhr7
      · rw [if_neg hb] at hr7
        refine e_aloadn (pc := 44) (i := 0) dX12_log_44 rfl rfl ?_
        refine e_iloadn (pc := 45) (i := 1) dX12_log_45 rfl rfl ?_
        refine e_iloadn (pc := 46) (i := 2) dX12_log_46 rfl rfl ?_
        obtain ⟨v9, hq9, hr7⟩ := x_bd1 hr7
        refine e_invV (pc := 47) (K1 := 0) (S1 := 0) (K := 0) (S := 0) (dd2 := 0) (av := [x_i a, x_i b]) (st := []) (id := 16 * 32 + 0) dX12_log_47 xmX12_419 rfl (Or.inl ⟨10, 27, TX12, (sa_32_0 hs), rfl, by decide⟩) (f_cal (M := M) (us2 := [32]) [0] hn rfl (And.intro rfl trivial) rfl rfl rfl (c_X12_logged hst hs   hq9)) (by decide) (Nat.le_of_ble_eq_true rfl) (Or.inl rfl) ?_
        show Ev g _ _ _ _ _ _ 50 [some (x_r (16 * 32 + 0)), some (x_i a), some (x_i b)] [x_i v9] (al, ro, fl (ml M [32] [(x_up S 0 0 v3)])) _ _ _ _
        refine e_goto (pc := 50) (tgt := 54) dX12_log_50 (by decide) ?_
        cases hr7
        exact hjhr7
    · rw [if_neg hb] at hG
      refine e_iconst (pc := 25) dX12_log_25 (x_R rfl) ?_
      cases hG
      exact (e_ireturn rfl dX12_log_26 rfl)
  clear hG
  refine e_if_ne (pc := 7) (tgt := 14) dX12_log_7 (by decide) (fun hb => ?_) (fun hb => ?_)
  · rw [if_neg hb] at hr3
    refine e_iconst (pc := 14) dX12_log_14 (x_R rfl) ?_
    cases hr3
    exact hjhr3
  · rw [if_pos hb] at hr3
    refine e_iconst (pc := 10) dX12_log_10 (x_R rfl) ?_
    refine e_goto (pc := 11) (tgt := 15) dX12_log_11 (by decide) ?_
    cases hr3
    exact hjhr3
def G12_seed (a : Int) (S : xU) : Option (Int × xU) :=
  (some (((x_up S 0 0 0) 1 11), (x_up (x_up S 0 0 0) 1 11 a)))
set_option maxRecDepth 100000 in
set_option maxHeartbeats 4000000 in
theorem c_X12_seed {g : xG} {al : List (Nat × Nat × Nat)} {ro : Nat → Nat → Option Nat} (hst : g.1.stackTraces = false) (hs : SH al ro) {M : Nat → xU} {a : Int} {S : xU} {t : (Int × xU)} (hG : G12_seed a S = some t) :
    Cal g yX12_seed cX12_seed 3 (some .int) 0 [x_r (16 * 32 + 0), x_i a] (al, ro, fl (ml M [32] [S])) 0 0 (.inl (some (x_i t.1))) (al, ro, fl (ml M [32] [t.2])) := by
  have hn : ([32] : List Nat).Nodup := by decide
  refine cal_of_ev (by decide) (x_c1 rfl) (Nat.le_of_ble_eq_true rfl) hst ?_
  show Ev g _ _ _ _ _ _ 0 [some (x_r (16 * 32 + 0)), some (x_i a), none] [] (al, ro, fl (ml M [32] [S])) _ _ _ _
  rw [G12_seed] at hG
  refine e_aloadn (pc := 0) (i := 0) dX12_seed_0 rfl rfl ?_
  refine e_iconst (pc := 1) dX12_seed_1 (x_R rfl) ?_
  refine f_puti (pc := 2) (k := 0) (u := 32) (q := 0) dX12_seed_2 xf12_58 xw10_0 (sa_32_0 hs) hn rfl rfl rfl (by decide) ?_
  show Ev g _ _ _ _ _ _ 5 [some (x_r (16 * 32 + 0)), some (x_i a), none] [] (al, ro, fl (ml M [32] [(x_up S 0 0 0)])) _ _ _ _
  refine e_aloadn (pc := 5) (i := 0) dX12_seed_5 rfl rfl ?_
  refine f_getr (pc := 6) (u := 32) (q := 0) dX12_seed_6 xf12_7 (sa_32_0 hs) rfl (sr_32_0_1 hs) ?_
  refine e_bipush (pc := 9) dX12_seed_9 (by decide +kernel) (x_R rfl) ?_
  refine f_iald (pc := 11) (k := 0) (u := 32) (q := 1) (len := 772) dX12_seed_11 (sa_32_1 hs) (by decide) hn rfl rfl (by decide) ?_
  show Ev g _ _ _ _ _ _ 12 [some (x_r (16 * 32 + 0)), some (x_i a), none] [x_i ((x_up S 0 0 0) 1 11)] (al, ro, fl (ml M [32] [(x_up S 0 0 0)])) _ _ _ _
  refine e_istoren (pc := 12) (i := 2) dX12_seed_12 rfl (by decide) rfl ?_
  show Ev g _ _ _ _ _ _ 13 [some (x_r (16 * 32 + 0)), some (x_i a), some (x_i ((x_up S 0 0 0) 1 11))] [] (al, ro, fl (ml M [32] [(x_up S 0 0 0)])) _ _ _ _
  refine e_aloadn (pc := 13) (i := 0) dX12_seed_13 rfl rfl ?_
  refine f_getr (pc := 14) (u := 32) (q := 0) dX12_seed_14 xf12_7 (sa_32_0 hs) rfl (sr_32_0_1 hs) ?_
  refine e_bipush (pc := 17) dX12_seed_17 (by decide +kernel) (x_R rfl) ?_
  refine e_iloadn (pc := 19) (i := 1) dX12_seed_19 rfl rfl ?_
  refine f_iast (pc := 20) (k := 0) (u := 32) (q := 1) (len := 772) dX12_seed_20 (sa_32_1 hs) (by decide) hn rfl rfl rfl (by decide) ?_
  show Ev g _ _ _ _ _ _ 21 [some (x_r (16 * 32 + 0)), some (x_i a), some (x_i ((x_up S 0 0 0) 1 11))] [] (al, ro, fl (ml M [32] [(x_up (x_up S 0 0 0) 1 11 a)])) _ _ _ _
  refine e_iloadn (pc := 21) (i := 2) dX12_seed_21 rfl rfl ?_
  cases hG
  exact (e_ireturn rfl dX12_seed_22 rfl)
def G12_undo_L26  : (Int × xU) → Option ((Int × xU) ⊕ xU)
  | (v1, S2) => (if 372 ≤ v1 then (some (.inr S2)) else (x_gd ((0 : Int) ≤ (x_add (x_mul 372 (S2 0 6)) v1) ∧ (x_add (x_mul 372 (S2 0 6)) v1) < 4464) (x_gd ((0 : Int) ≤ v1 ∧ v1 < 772) (some (.inl ((x_add v1 1), (x_up S2 1 (v1).toNat (S2 4 ((x_add (x_mul 372 (S2 0 6)) v1)).toNat))))))))
def G12_undo (S : xU) : Option (Int × xU) :=
  (if ((x_up S 0 0 0) 0 6) = 0 then (some (0, (x_up S 0 0 0))) else (x_b1 (whl xFU G12_undo_L26 (0, (x_up (x_up S 0 0 0) 0 6 (x_sub ((x_up S 0 0 0) 0 6) 1)))) fun (S3 : xU) => (some (1, S3))))
set_option maxRecDepth 100000 in
set_option maxHeartbeats 4000000 in
theorem c_X12_undo {g : xG} {al : List (Nat × Nat × Nat)} {ro : Nat → Nat → Option Nat} (hst : g.1.stackTraces = false) (hs : SH al ro) {M : Nat → xU} {S : xU} {t : (Int × xU)} (hG : G12_undo S = some t) :
    Cal g yX12_undo cX12_undo 2 (some .boolean) 0 [x_r (16 * 32 + 0)] (al, ro, fl (ml M [32] [S])) 0 0 (.inl (some (x_i t.1))) (al, ro, fl (ml M [32] [t.2])) := by
  have hn : ([32] : List Nat).Nodup := by decide
  refine cal_of_ev (by decide) (x_c1 rfl) (Nat.le_of_ble_eq_true rfl) hst ?_
  show Ev g _ _ _ _ _ _ 0 [some (x_r (16 * 32 + 0)), none] [] (al, ro, fl (ml M [32] [S])) _ _ _ _
  rw [G12_undo] at hG
  refine e_aloadn (pc := 0) (i := 0) dX12_undo_0 rfl rfl ?_
  refine e_iconst (pc := 1) dX12_undo_1 (x_R rfl) ?_
  refine f_puti (pc := 2) (k := 0) (u := 32) (q := 0) dX12_undo_2 xf12_58 xw10_0 (sa_32_0 hs) hn rfl rfl rfl (by decide) ?_
  show Ev g _ _ _ _ _ _ 5 [some (x_r (16 * 32 + 0)), none] [] (al, ro, fl (ml M [32] [(x_up S 0 0 0)])) _ _ _ _
  refine e_aloadn (pc := 5) (i := 0) dX12_undo_5 rfl rfl ?_
  refine f_geti (pc := 6) (k := 0) (u := 32) (q := 0) dX12_undo_6 xf12_204 (sa_32_0 hs) rfl hn rfl rfl (by decide) ?_
  show Ev g _ _ _ _ _ _ 9 [some (x_r (16 * 32 + 0)), none] [x_i ((x_up S 0 0 0) 0 6)] (al, ro, fl (ml M [32] [(x_up S 0 0 0)])) _ _ _ _
  refine e_if_ne (pc := 9) (tgt := 14) dX12_undo_9 (by decide) (fun hb => ?_) (fun hb => ?_)
  · rw [if_neg hb] at hG
    refine e_aloadn (pc := 14) (i := 0) dX12_undo_14 rfl rfl ?_
    refine e_dup (pc := 15) dX12_undo_15 rfl ?_
    refine f_geti (pc := 16) (k := 0) (u := 32) (q := 0) dX12_undo_16 xf12_204 (sa_32_0 hs) rfl hn rfl rfl (by decide) ?_
    show Ev g _ _ _ _ _ _ 19 [some (x_r (16 * 32 + 0)), none] [x_i ((x_up S 0 0 0) 0 6), x_r (16 * 32 + 0)] (al, ro, fl (ml M [32] [(x_up S 0 0 0)])) _ _ _ _
    refine e_iconst (pc := 19) dX12_undo_19 (x_R rfl) ?_
    refine e_isub (pc := 20) dX12_undo_20 ?_
    refine f_puti (pc := 21) (k := 0) (u := 32) (q := 0) dX12_undo_21 xf12_204 xw10_6 (sa_32_0 hs) hn rfl rfl rfl (by decide) ?_
    show Ev g _ _ _ _ _ _ 24 [some (x_r (16 * 32 + 0)), none] [] (al, ro, fl (ml M [32] [(x_up (x_up S 0 0 0) 0 6 (x_sub ((x_up S 0 0 0) 0 6) 1))])) _ _ _ _
    refine e_iconst (pc := 24) dX12_undo_24 (x_R rfl) ?_
    refine e_istoren (pc := 25) (i := 1) dX12_undo_25 rfl (by decide) rfl ?_
    show Ev g _ _ _ _ _ _ 26 [some (x_r (16 * 32 + 0)), some (x_i 0)] [] (al, ro, fl (ml M [32] [(x_up (x_up S 0 0 0) 0 6 (x_sub ((x_up S 0 0 0) 0 6) 1))])) _ _ _ _
    obtain ⟨S3, hl4, hG⟩ := x_bd1 hG
    have hk4 : ∀ q : xU, q = S3 → Ev g yX12_undo cX12_undo 2 (some .boolean) [] 0 60 [some (x_r (16 * 32 + 0)), none] [] (al, ro, fl (ml M [32] [q])) 0 0 (.inl (some (x_i t.1))) (al, ro, fl (ml M [32] [t.2])) := by
      intro q hq
      replace hq := hq.symm
      subst hq
      refine e_iconst (pc := 60) dX12_undo_60 (x_R rfl) ?_
      cases hG
      exact (e_ireturn rfl dX12_undo_61 (x_bool (by decide)).1)
    clear hG
    refine e_whl G12_undo_L26 (fun z : (Int × xU) => Ev g yX12_undo cX12_undo 2 (some .boolean) [] 0 26 [some (x_r (16 * 32 + 0)), some (x_i z.1)] [] (al, ro, fl (ml M [32] [z.2])) 0 0 (.inl (some (x_i t.1))) (al, ro, fl (ml M [32] [t.2]))) (fun q => q = S3) ?_ xFU (0, (x_up (x_up S 0 0 0) 0 6 (x_sub ((x_up S 0 0 0) 0 6) 1))) _ hl4 rfl
    intro z t4 hf4 hi4 hx4
    obtain ⟨v1, S2⟩ := z
    rw [G12_undo_L26] at hf4
    show Ev g _ _ _ _ _ _ 26 [some (x_r (16 * 32 + 0)), some (x_i v1)] [] (al, ro, fl (ml M [32] [S2])) _ _ _ _
    refine e_iloadn (pc := 26) (i := 1) dX12_undo_26 rfl rfl ?_
    refine e_sipush (pc := 27) dX12_undo_27 (by decide +kernel) (x_R rfl) ?_
    refine e_icmp_ge (pc := 30) (tgt := 60) dX12_undo_30 (by decide) (fun hb => ?_) (fun hb => ?_)
    · rw [if_pos hb] at hf4
      cases hf4
      refine e_drop (i := 1) ?_
      exact hk4 _ (hx4 _ rfl)
    · rw [if_neg hb] at hf4
      refine e_aloadn (pc := 33) (i := 0) dX12_undo_33 rfl rfl ?_
      refine f_getr (pc := 34) (u := 32) (q := 0) dX12_undo_34 xf12_7 (sa_32_0 hs) rfl (sr_32_0_1 hs) ?_
      refine e_iloadn (pc := 37) (i := 1) dX12_undo_37 rfl rfl ?_
      refine e_aloadn (pc := 38) (i := 0) dX12_undo_38 rfl rfl ?_
      refine f_getr (pc := 39) (u := 32) (q := 0) dX12_undo_39 xf12_19 (sa_32_0 hs) rfl (sr_32_0_5 hs) ?_
      refine e_sipush (pc := 42) dX12_undo_42 (by decide +kernel) (x_R rfl) ?_
      refine e_aloadn (pc := 45) (i := 0) dX12_undo_45 rfl rfl ?_
      refine f_geti (pc := 46) (k := 0) (u := 32) (q := 0) dX12_undo_46 xf12_204 (sa_32_0 hs) rfl hn rfl rfl (by decide) ?_
      show Ev g _ _ _ _ _ _ 49 [some (x_r (16 * 32 + 0)), some (x_i v1)] [x_i (S2 0 6), x_i 372, x_r (16 * 32 + 4), x_i v1, x_r (16 * 32 + 1)] (al, ro, fl (ml M [32] [S2])) _ _ _ _
      refine e_imul (pc := 49) dX12_undo_49 ?_
      refine e_iloadn (pc := 50) (i := 1) dX12_undo_50 rfl rfl ?_
      refine e_iadd (pc := 51) dX12_undo_51 ?_
      obtain ⟨hc0, hf4⟩ := x_gd_some hf4
      refine f_iald (pc := 52) (k := 0) (u := 32) (q := 4) (len := 4464) dX12_undo_52 (sa_32_4 hs) hc0 hn rfl rfl (by decide) ?_
      show Ev g _ _ _ _ _ _ 53 [some (x_r (16 * 32 + 0)), some (x_i v1)] [x_i (S2 4 ((x_add (x_mul 372 (S2 0 6)) v1)).toNat), x_i v1, x_r (16 * 32 + 1)] (al, ro, fl (ml M [32] [S2])) _ _ _ _
      obtain ⟨hc0, hf4⟩ := x_gd_some hf4
      refine f_iast (pc := 53) (k := 0) (u := 32) (q := 1) (len := 772) dX12_undo_53 (sa_32_1 hs) hc0 hn rfl rfl rfl (by decide) ?_
      show Ev g _ _ _ _ _ _ 54 [some (x_r (16 * 32 + 0)), some (x_i v1)] [] (al, ro, fl (ml M [32] [(x_up S2 1 (v1).toNat (S2 4 ((x_add (x_mul 372 (S2 0 6)) v1)).toNat))])) _ _ _ _
      refine e_iinc (pc := 54) dX12_undo_54 rfl (by decide) rfl ?_
      show Ev g _ _ _ _ _ _ 57 [some (x_r (16 * 32 + 0)), some (x_i (x_add v1 1))] [] (al, ro, fl (ml M [32] [(x_up S2 1 (v1).toNat (S2 4 ((x_add (x_mul 372 (S2 0 6)) v1)).toNat))])) _ _ _ _
      refine e_goto (pc := 57) (tgt := 26) dX12_undo_57 (by decide) ?_
      cases hf4
      exact hi4 _ rfl
  · rw [if_pos hb] at hG
    refine e_iconst (pc := 12) dX12_undo_12 (x_R rfl) ?_
    cases hG
    exact (e_ireturn rfl dX12_undo_13 (x_bool (by decide)).1)
def G12_image_L7  : (Int × xU) → Option ((Int × xU) ⊕ xU)
  | (v1, S2) => (if 772 ≤ v1 then (some (.inr S2)) else (x_gd ((0 : Int) ≤ v1 ∧ v1 < 772) (x_gd ((0 : Int) ≤ v1 ∧ v1 < 772) (some (.inl ((x_add v1 1), (x_up S2 2 (v1).toNat (S2 1 (v1).toNat))))))))
def G12_image (S : xU) : Option xU :=
  (x_b1 (whl xFU G12_image_L7 (0, (x_up S 0 0 0))) fun (S3 : xU) => (some (x_up S3 0 3 1)))
set_option maxRecDepth 100000 in
set_option maxHeartbeats 4000000 in
theorem c_X12_image {g : xG} {al : List (Nat × Nat × Nat)} {ro : Nat → Nat → Option Nat} (hst : g.1.stackTraces = false) (hs : SH al ro) {M : Nat → xU} {S : xU} {t : xU} (hG : G12_image S = some t) :
    Cal g yX12_image cX12_image 2 none 0 [x_r (16 * 32 + 0)] (al, ro, fl (ml M [32] [S])) 0 0 (.inl none) (al, ro, fl (ml M [32] [t])) := by
  have hn : ([32] : List Nat).Nodup := by decide
  refine cal_of_ev (by decide) (x_c1 rfl) (Nat.le_of_ble_eq_true rfl) hst ?_
  show Ev g _ _ _ _ _ _ 0 [some (x_r (16 * 32 + 0)), none] [] (al, ro, fl (ml M [32] [S])) _ _ _ _
  rw [G12_image] at hG
  refine e_aloadn (pc := 0) (i := 0) dX12_image_0 rfl rfl ?_
  refine e_iconst (pc := 1) dX12_image_1 (x_R rfl) ?_
  refine f_puti (pc := 2) (k := 0) (u := 32) (q := 0) dX12_image_2 xf12_58 xw10_0 (sa_32_0 hs) hn rfl rfl rfl (by decide) ?_
  show Ev g _ _ _ _ _ _ 5 [some (x_r (16 * 32 + 0)), none] [] (al, ro, fl (ml M [32] [(x_up S 0 0 0)])) _ _ _ _
  refine e_iconst (pc := 5) dX12_image_5 (x_R rfl) ?_
  refine e_istoren (pc := 6) (i := 1) dX12_image_6 rfl (by decide) rfl ?_
  show Ev g _ _ _ _ _ _ 7 [some (x_r (16 * 32 + 0)), some (x_i 0)] [] (al, ro, fl (ml M [32] [(x_up S 0 0 0)])) _ _ _ _
  obtain ⟨S3, hl4, hG⟩ := x_bd1 hG
  have hk4 : ∀ q : xU, q = S3 → Ev g yX12_image cX12_image 2 none [] 0 32 [some (x_r (16 * 32 + 0)), none] [] (al, ro, fl (ml M [32] [q])) 0 0 (.inl none) (al, ro, fl (ml M [32] [t])) := by
    intro q hq
    replace hq := hq.symm
    subst hq
    refine e_aloadn (pc := 32) (i := 0) dX12_image_32 rfl rfl ?_
    refine e_iconst (pc := 33) dX12_image_33 (x_R rfl) ?_
    refine f_putz (pc := 34) (k := 0) (u := 32) (q := 0) dX12_image_34 xf12_422 xw10_3 (by decide) (sa_32_0 hs) hn rfl rfl rfl (by decide) ?_
    show Ev g _ _ _ _ _ _ 37 [some (x_r (16 * 32 + 0)), none] [] (al, ro, fl (ml M [32] [(x_up S3 0 3 1)])) _ _ _ _
    cases hG
    exact (e_return rfl dX12_image_37)
  clear hG
  refine e_whl G12_image_L7 (fun z : (Int × xU) => Ev g yX12_image cX12_image 2 none [] 0 7 [some (x_r (16 * 32 + 0)), some (x_i z.1)] [] (al, ro, fl (ml M [32] [z.2])) 0 0 (.inl none) (al, ro, fl (ml M [32] [t]))) (fun q => q = S3) ?_ xFU (0, (x_up S 0 0 0)) _ hl4 rfl
  intro z t4 hf4 hi4 hx4
  obtain ⟨v1, S2⟩ := z
  rw [G12_image_L7] at hf4
  show Ev g _ _ _ _ _ _ 7 [some (x_r (16 * 32 + 0)), some (x_i v1)] [] (al, ro, fl (ml M [32] [S2])) _ _ _ _
  refine e_iloadn (pc := 7) (i := 1) dX12_image_7 rfl rfl ?_
  refine e_sipush (pc := 8) dX12_image_8 (by decide +kernel) (x_R rfl) ?_
  refine e_icmp_ge (pc := 11) (tgt := 32) dX12_image_11 (by decide) (fun hb => ?_) (fun hb => ?_)
  · rw [if_pos hb] at hf4
    cases hf4
    refine e_drop (i := 1) ?_
    exact hk4 _ (hx4 _ rfl)
  · rw [if_neg hb] at hf4
    refine e_aloadn (pc := 14) (i := 0) dX12_image_14 rfl rfl ?_
    refine f_getr (pc := 15) (u := 32) (q := 0) dX12_image_15 xf12_13 (sa_32_0 hs) rfl (sr_32_0_2 hs) ?_
    refine e_iloadn (pc := 18) (i := 1) dX12_image_18 rfl rfl ?_
    refine e_aloadn (pc := 19) (i := 0) dX12_image_19 rfl rfl ?_
    refine f_getr (pc := 20) (u := 32) (q := 0) dX12_image_20 xf12_7 (sa_32_0 hs) rfl (sr_32_0_1 hs) ?_
    refine e_iloadn (pc := 23) (i := 1) dX12_image_23 rfl rfl ?_
    obtain ⟨hc0, hf4⟩ := x_gd_some hf4
    refine f_iald (pc := 24) (k := 0) (u := 32) (q := 1) (len := 772) dX12_image_24 (sa_32_1 hs) hc0 hn rfl rfl (by decide) ?_
    show Ev g _ _ _ _ _ _ 25 [some (x_r (16 * 32 + 0)), some (x_i v1)] [x_i (S2 1 (v1).toNat), x_i v1, x_r (16 * 32 + 2)] (al, ro, fl (ml M [32] [S2])) _ _ _ _
    obtain ⟨hc0, hf4⟩ := x_gd_some hf4
    refine f_iast (pc := 25) (k := 0) (u := 32) (q := 2) (len := 772) dX12_image_25 (sa_32_2 hs) hc0 hn rfl rfl rfl (by decide) ?_
    show Ev g _ _ _ _ _ _ 26 [some (x_r (16 * 32 + 0)), some (x_i v1)] [] (al, ro, fl (ml M [32] [(x_up S2 2 (v1).toNat (S2 1 (v1).toNat))])) _ _ _ _
    refine e_iinc (pc := 26) dX12_image_26 rfl (by decide) rfl ?_
    show Ev g _ _ _ _ _ _ 29 [some (x_r (16 * 32 + 0)), some (x_i (x_add v1 1))] [] (al, ro, fl (ml M [32] [(x_up S2 2 (v1).toNat (S2 1 (v1).toNat))])) _ _ _ _
    refine e_goto (pc := 29) (tgt := 7) dX12_image_29 (by decide) ?_
    cases hf4
    exact hi4 _ rfl
def G12_back_L16  : (Int × xU) → Option ((Int × xU) ⊕ xU)
  | (v1, S2) => (if 772 ≤ v1 then (some (.inr S2)) else (x_gd ((0 : Int) ≤ v1 ∧ v1 < 772) (x_gd ((0 : Int) ≤ v1 ∧ v1 < 772) (some (.inl ((x_add v1 1), (x_up S2 1 (v1).toNat (S2 2 (v1).toNat))))))))
def G12_back (S : xU) : Option (Int × xU) :=
  (if ((x_up S 0 0 0) 0 3) = 0 then (some (0, (x_up S 0 0 0))) else (x_b1 (whl xFU G12_back_L16 (0, (x_up S 0 0 0))) fun (S3 : xU) => (some (1, (x_up S3 0 6 0)))))
set_option maxRecDepth 100000 in
set_option maxHeartbeats 4000000 in
theorem c_X12_back {g : xG} {al : List (Nat × Nat × Nat)} {ro : Nat → Nat → Option Nat} (hst : g.1.stackTraces = false) (hs : SH al ro) {M : Nat → xU} {S : xU} {t : (Int × xU)} (hG : G12_back S = some t) :
    Cal g yX12_back cX12_back 2 (some .boolean) 0 [x_r (16 * 32 + 0)] (al, ro, fl (ml M [32] [S])) 0 0 (.inl (some (x_i t.1))) (al, ro, fl (ml M [32] [t.2])) := by
  have hn : ([32] : List Nat).Nodup := by decide
  refine cal_of_ev (by decide) (x_c1 rfl) (Nat.le_of_ble_eq_true rfl) hst ?_
  show Ev g _ _ _ _ _ _ 0 [some (x_r (16 * 32 + 0)), none] [] (al, ro, fl (ml M [32] [S])) _ _ _ _
  rw [G12_back] at hG
  refine e_aloadn (pc := 0) (i := 0) dX12_back_0 rfl rfl ?_
  refine e_iconst (pc := 1) dX12_back_1 (x_R rfl) ?_
  refine f_puti (pc := 2) (k := 0) (u := 32) (q := 0) dX12_back_2 xf12_58 xw10_0 (sa_32_0 hs) hn rfl rfl rfl (by decide) ?_
  show Ev g _ _ _ _ _ _ 5 [some (x_r (16 * 32 + 0)), none] [] (al, ro, fl (ml M [32] [(x_up S 0 0 0)])) _ _ _ _
  refine e_aloadn (pc := 5) (i := 0) dX12_back_5 rfl rfl ?_
  refine f_geti (pc := 6) (k := 0) (u := 32) (q := 0) dX12_back_6 xf12_422 (sa_32_0 hs) rfl hn rfl rfl (by decide) ?_
  show Ev g _ _ _ _ _ _ 9 [some (x_r (16 * 32 + 0)), none] [x_i ((x_up S 0 0 0) 0 3)] (al, ro, fl (ml M [32] [(x_up S 0 0 0)])) _ _ _ _
  refine e_if_ne (pc := 9) (tgt := 14) dX12_back_9 (by decide) (fun hb => ?_) (fun hb => ?_)
  · rw [if_neg hb] at hG
    refine e_iconst (pc := 14) dX12_back_14 (x_R rfl) ?_
    refine e_istoren (pc := 15) (i := 1) dX12_back_15 rfl (by decide) rfl ?_
    show Ev g _ _ _ _ _ _ 16 [some (x_r (16 * 32 + 0)), some (x_i 0)] [] (al, ro, fl (ml M [32] [(x_up S 0 0 0)])) _ _ _ _
    obtain ⟨S3, hl4, hG⟩ := x_bd1 hG
    have hk4 : ∀ q : xU, q = S3 → Ev g yX12_back cX12_back 2 (some .boolean) [] 0 41 [some (x_r (16 * 32 + 0)), none] [] (al, ro, fl (ml M [32] [q])) 0 0 (.inl (some (x_i t.1))) (al, ro, fl (ml M [32] [t.2])) := by
      intro q hq
      replace hq := hq.symm
      subst hq
      refine e_aloadn (pc := 41) (i := 0) dX12_back_41 rfl rfl ?_
      refine e_iconst (pc := 42) dX12_back_42 (x_R rfl) ?_
      refine f_puti (pc := 43) (k := 0) (u := 32) (q := 0) dX12_back_43 xf12_204 xw10_6 (sa_32_0 hs) hn rfl rfl rfl (by decide) ?_
      show Ev g _ _ _ _ _ _ 46 [some (x_r (16 * 32 + 0)), none] [] (al, ro, fl (ml M [32] [(x_up S3 0 6 0)])) _ _ _ _
      refine e_iconst (pc := 46) dX12_back_46 (x_R rfl) ?_
      cases hG
      exact (e_ireturn rfl dX12_back_47 (x_bool (by decide)).1)
    clear hG
    refine e_whl G12_back_L16 (fun z : (Int × xU) => Ev g yX12_back cX12_back 2 (some .boolean) [] 0 16 [some (x_r (16 * 32 + 0)), some (x_i z.1)] [] (al, ro, fl (ml M [32] [z.2])) 0 0 (.inl (some (x_i t.1))) (al, ro, fl (ml M [32] [t.2]))) (fun q => q = S3) ?_ xFU (0, (x_up S 0 0 0)) _ hl4 rfl
    intro z t4 hf4 hi4 hx4
    obtain ⟨v1, S2⟩ := z
    rw [G12_back_L16] at hf4
    show Ev g _ _ _ _ _ _ 16 [some (x_r (16 * 32 + 0)), some (x_i v1)] [] (al, ro, fl (ml M [32] [S2])) _ _ _ _
    refine e_iloadn (pc := 16) (i := 1) dX12_back_16 rfl rfl ?_
    refine e_sipush (pc := 17) dX12_back_17 (by decide +kernel) (x_R rfl) ?_
    refine e_icmp_ge (pc := 20) (tgt := 41) dX12_back_20 (by decide) (fun hb => ?_) (fun hb => ?_)
    · rw [if_pos hb] at hf4
      cases hf4
      refine e_drop (i := 1) ?_
      exact hk4 _ (hx4 _ rfl)
    · rw [if_neg hb] at hf4
      refine e_aloadn (pc := 23) (i := 0) dX12_back_23 rfl rfl ?_
      refine f_getr (pc := 24) (u := 32) (q := 0) dX12_back_24 xf12_7 (sa_32_0 hs) rfl (sr_32_0_1 hs) ?_
      refine e_iloadn (pc := 27) (i := 1) dX12_back_27 rfl rfl ?_
      refine e_aloadn (pc := 28) (i := 0) dX12_back_28 rfl rfl ?_
      refine f_getr (pc := 29) (u := 32) (q := 0) dX12_back_29 xf12_13 (sa_32_0 hs) rfl (sr_32_0_2 hs) ?_
      refine e_iloadn (pc := 32) (i := 1) dX12_back_32 rfl rfl ?_
      obtain ⟨hc0, hf4⟩ := x_gd_some hf4
      refine f_iald (pc := 33) (k := 0) (u := 32) (q := 2) (len := 772) dX12_back_33 (sa_32_2 hs) hc0 hn rfl rfl (by decide) ?_
      show Ev g _ _ _ _ _ _ 34 [some (x_r (16 * 32 + 0)), some (x_i v1)] [x_i (S2 2 (v1).toNat), x_i v1, x_r (16 * 32 + 1)] (al, ro, fl (ml M [32] [S2])) _ _ _ _
      obtain ⟨hc0, hf4⟩ := x_gd_some hf4
      refine f_iast (pc := 34) (k := 0) (u := 32) (q := 1) (len := 772) dX12_back_34 (sa_32_1 hs) hc0 hn rfl rfl rfl (by decide) ?_
      show Ev g _ _ _ _ _ _ 35 [some (x_r (16 * 32 + 0)), some (x_i v1)] [] (al, ro, fl (ml M [32] [(x_up S2 1 (v1).toNat (S2 2 (v1).toNat))])) _ _ _ _
      refine e_iinc (pc := 35) dX12_back_35 rfl (by decide) rfl ?_
      show Ev g _ _ _ _ _ _ 38 [some (x_r (16 * 32 + 0)), some (x_i (x_add v1 1))] [] (al, ro, fl (ml M [32] [(x_up S2 1 (v1).toNat (S2 2 (v1).toNat))])) _ _ _ _
      refine e_goto (pc := 38) (tgt := 16) dX12_back_38 (by decide) ?_
      cases hf4
      exact hi4 _ rfl
  · rw [if_pos hb] at hG
    refine e_iconst (pc := 12) dX12_back_12 (x_R rfl) ?_
    cases hG
    exact (e_ireturn rfl dX12_back_13 (x_bool (by decide)).1)
def G12_count_L101 (S : xU) : (Int × Int) → Option ((Int × Int) ⊕ Int)
  | (v3, v4) => (if 4 ≤ v4 then (some (.inr v3)) else (x_gd ((0 : Int) ≤ (x_add 12 v4) ∧ (x_add 12 v4) < 772) (some (.inl ((x_add v3 ((x_up S 0 0 0) 1 ((x_add 12 v4)).toNat)), (x_add v4 1))))))
def G12_count (a : Int) (S : xU) : Option (Int × xU) :=
  (if a = 0 then (some (((x_up S 0 0 0) 1 3), (x_up S 0 0 0))) else (if a = 1 then (some (((x_up S 0 0 0) 1 0), (x_up S 0 0 0))) else (if a = 2 then (some (((x_up S 0 0 0) 1 1), (x_up S 0 0 0))) else (x_b1 (G12_isIn a 3 8) fun (v1 : Int) => (if v1 = 0 then (if a = 10 then (x_b1 (G12_lateOfAll (x_up S 0 0 0)) fun (v10 : Int) => (some (v10, (x_up S 0 0 0)))) else (if a = 11 then (some (((x_up S 0 0 0) 1 10), (x_up S 0 0 0))) else (if a = 12 then (some (((x_up S 0 0 0) 0 6), (x_up S 0 0 0))) else (x_b1 (whl xFU (G12_count_L101 S) (0, 0)) fun (v5 : Int) => (x_b1 (if a = 9 then (some v5) else (some (-1))) fun (v8 : Int) => (some (v8, (x_up S 0 0 0)))))))) else (x_gd ((0 : Int) ≤ (x_sub (x_add 4 a) 3) ∧ (x_sub (x_add 4 a) 3) < 772) (some (((x_up S 0 0 0) 1 ((x_sub (x_add 4 a) 3)).toNat), (x_up S 0 0 0)))))))))
set_option maxRecDepth 100000 in
set_option maxHeartbeats 4000000 in
theorem c_X12_count {g : xG} {al : List (Nat × Nat × Nat)} {ro : Nat → Nat → Option Nat} (hst : g.1.stackTraces = false) (hs : SH al ro) {M : Nat → xU} {a : Int} {S : xU} {t : (Int × xU)} (hG : G12_count a S = some t) :
    Cal g yX12_count cX12_count 4 (some .int) 2 [x_r (16 * 32 + 0), x_i a] (al, ro, fl (ml M [32] [S])) 0 0 (.inl (some (x_i t.1))) (al, ro, fl (ml M [32] [t.2])) := by
  have hn : ([32] : List Nat).Nodup := by decide
  refine cal_of_ev (by decide) (x_c1 rfl) (Nat.le_of_ble_eq_true rfl) hst ?_
  show Ev g _ _ _ _ _ _ 0 [some (x_r (16 * 32 + 0)), some (x_i a), none, none] [] (al, ro, fl (ml M [32] [S])) _ _ _ _
  rw [G12_count] at hG
  refine e_aloadn (pc := 0) (i := 0) dX12_count_0 rfl rfl ?_
  refine e_iconst (pc := 1) dX12_count_1 (x_R rfl) ?_
  refine f_puti (pc := 2) (k := 0) (u := 32) (q := 0) dX12_count_2 xf12_58 xw10_0 (sa_32_0 hs) hn rfl rfl rfl (by decide) ?_
  show Ev g _ _ _ _ _ _ 5 [some (x_r (16 * 32 + 0)), some (x_i a), none, none] [] (al, ro, fl (ml M [32] [(x_up S 0 0 0)])) _ _ _ _
  refine e_iloadn (pc := 5) (i := 1) dX12_count_5 rfl rfl ?_
  refine e_if_ne (pc := 6) (tgt := 16) dX12_count_6 (by decide) (fun hb => ?_) (fun hb => ?_)
  · rw [if_neg hb] at hG
    refine e_iloadn (pc := 16) (i := 1) dX12_count_16 rfl rfl ?_
    refine e_iconst (pc := 17) dX12_count_17 (x_R rfl) ?_
    refine e_icmp_ne (pc := 18) (tgt := 28) dX12_count_18 (by decide) (fun hb => ?_) (fun hb => ?_)
    · rw [if_neg hb] at hG
      refine e_iloadn (pc := 28) (i := 1) dX12_count_28 rfl rfl ?_
      refine e_iconst (pc := 29) dX12_count_29 (x_R rfl) ?_
      refine e_icmp_ne (pc := 30) (tgt := 40) dX12_count_30 (by decide) (fun hb => ?_) (fun hb => ?_)
      · rw [if_neg hb] at hG
        refine e_iloadn (pc := 40) (i := 1) dX12_count_40 rfl rfl ?_
        refine e_iconst (pc := 41) dX12_count_41 (x_R rfl) ?_
        refine e_bipush (pc := 42) dX12_count_42 (by decide +kernel) (x_R rfl) ?_
        obtain ⟨v1, hq1, hG⟩ := x_bd1 hG
        refine e_invS (pc := 44) (K1 := 0) (S1 := 0) (K := 0) (S := 0) (dd2 := 0) (av := [x_i a, x_i 3, x_i 8]) (st := []) dX12_count_44 xmX12_61 rfl (f_cal (M := M) (us2 := []) [] hn rfl trivial rfl rfl rfl (c_X12_isIn hst hs   hq1)) (by decide) (Nat.le_of_ble_eq_true rfl) (Or.inl rfl) ?_
        show Ev g _ _ _ _ _ _ 47 [some (x_r (16 * 32 + 0)), some (x_i a), none, none] [x_i v1] (al, ro, fl (ml M [32] [(x_up S 0 0 0)])) _ _ _ _
        refine e_if_eq (pc := 47) (tgt := 61) dX12_count_47 (by decide) (fun hb => ?_) (fun hb => ?_)
        · rw [if_pos hb] at hG
          refine e_iloadn (pc := 61) (i := 1) dX12_count_61 rfl rfl ?_
          refine e_bipush (pc := 62) dX12_count_62 (by decide +kernel) (x_R rfl) ?_
          refine e_icmp_ne (pc := 64) (tgt := 72) dX12_count_64 (by decide) (fun hb => ?_) (fun hb => ?_)
          · rw [if_neg hb] at hG
            refine e_iloadn (pc := 72) (i := 1) dX12_count_72 rfl rfl ?_
            refine e_bipush (pc := 73) dX12_count_73 (by decide +kernel) (x_R rfl) ?_
            refine e_icmp_ne (pc := 75) (tgt := 86) dX12_count_75 (by decide) (fun hb => ?_) (fun hb => ?_)
            · rw [if_neg hb] at hG
              refine e_iloadn (pc := 86) (i := 1) dX12_count_86 rfl rfl ?_
              refine e_bipush (pc := 87) dX12_count_87 (by decide +kernel) (x_R rfl) ?_
              refine e_icmp_ne (pc := 89) (tgt := 97) dX12_count_89 (by decide) (fun hb => ?_) (fun hb => ?_)
              · rw [if_neg hb] at hG
                refine e_iconst (pc := 97) dX12_count_97 (x_R rfl) ?_
                refine e_istoren (pc := 98) (i := 2) dX12_count_98 rfl (by decide) rfl ?_
                show Ev g _ _ _ _ _ _ 99 [some (x_r (16 * 32 + 0)), some (x_i a), some (x_i 0), none] [] (al, ro, fl (ml M [32] [(x_up S 0 0 0)])) _ _ _ _
                refine e_iconst (pc := 99) dX12_count_99 (x_R rfl) ?_
                refine e_istoren (pc := 100) (i := 3) dX12_count_100 rfl (by decide) rfl ?_
                show Ev g _ _ _ _ _ _ 101 [some (x_r (16 * 32 + 0)), some (x_i a), some (x_i 0), some (x_i 0)] [] (al, ro, fl (ml M [32] [(x_up S 0 0 0)])) _ _ _ _
                obtain ⟨v5, hl6, hG⟩ := x_bd1 hG
                have hk6 : ∀ q : Int, q = v5 → Ev g yX12_count cX12_count 4 (some .int) [] 2 124 [some (x_r (16 * 32 + 0)), some (x_i a), some (x_i q), none] [] (al, ro, fl (ml M [32] [(x_up S 0 0 0)])) 0 0 (.inl (some (x_i t.1))) (al, ro, fl (ml M [32] [t.2])) := by
                  intro q hq
                  replace hq := hq.symm
                  subst hq
                  refine e_iloadn (pc := 124) (i := 1) dX12_count_124 rfl rfl ?_
                  refine e_bipush (pc := 125) dX12_count_125 (by decide +kernel) (x_R rfl) ?_
                  obtain ⟨v8, hr8, hG⟩ := x_bd1 hG
                  have hjhr8 : Ev g yX12_count cX12_count 4 (some .int) [] 2 135 [some (x_r (16 * 32 + 0)), some (x_i a), some (x_i v5), none] [x_i v8] (al, ro, fl (ml M [32] [(x_up S 0 0 0)])) 0 0 (.inl (some (x_i t.1))) (al, ro, fl (ml M [32] [t.2])) := by
                    cases hG
                    exact (e_ireturn rfl dX12_count_135 rfl)
                  clear hG
                  refine e_icmp_ne (pc := 127) (tgt := 134) dX12_count_127 (by decide) (fun hb => ?_) (fun hb => ?_)
                  · rw [if_neg hb] at hr8
                    refine e_iconst (pc := 134) dX12_count_134 (x_R rfl) ?_
                    cases hr8
                    exact hjhr8
                  · rw [if_pos hb] at hr8
                    refine e_iloadn (pc := 130) (i := 2) dX12_count_130 rfl rfl ?_
                    refine e_goto (pc := 131) (tgt := 135) dX12_count_131 (by decide) ?_
                    cases hr8
                    exact hjhr8
                clear hG
                refine e_whl (G12_count_L101 S) (fun z : (Int × Int) => Ev g yX12_count cX12_count 4 (some .int) [] 2 101 [some (x_r (16 * 32 + 0)), some (x_i a), some (x_i z.1), some (x_i z.2)] [] (al, ro, fl (ml M [32] [(x_up S 0 0 0)])) 0 0 (.inl (some (x_i t.1))) (al, ro, fl (ml M [32] [t.2]))) (fun q => q = v5) ?_ xFU (0, 0) _ hl6 rfl
                intro z t6 hf6 hi6 hx6
                obtain ⟨v3, v4⟩ := z
                rw [G12_count_L101] at hf6
                show Ev g _ _ _ _ _ _ 101 [some (x_r (16 * 32 + 0)), some (x_i a), some (x_i v3), some (x_i v4)] [] (al, ro, fl (ml M [32] [(x_up S 0 0 0)])) _ _ _ _
                refine e_iloadn (pc := 101) (i := 3) dX12_count_101 rfl rfl ?_
                refine e_iconst (pc := 102) dX12_count_102 (x_R rfl) ?_
                refine e_icmp_ge (pc := 103) (tgt := 124) dX12_count_103 (by decide) (fun hb => ?_) (fun hb => ?_)
                · rw [if_pos hb] at hf6
                  cases hf6
                  refine e_drop (i := 3) ?_
                  exact hk6 _ (hx6 _ rfl)
                · rw [if_neg hb] at hf6
                  refine e_iloadn (pc := 106) (i := 2) dX12_count_106 rfl rfl ?_
                  refine e_aloadn (pc := 107) (i := 0) dX12_count_107 rfl rfl ?_
                  refine f_getr (pc := 108) (u := 32) (q := 0) dX12_count_108 xf12_7 (sa_32_0 hs) rfl (sr_32_0_1 hs) ?_
                  refine e_bipush (pc := 111) dX12_count_111 (by decide +kernel) (x_R rfl) ?_
                  refine e_iloadn (pc := 113) (i := 3) dX12_count_113 rfl rfl ?_
                  refine e_iadd (pc := 114) dX12_count_114 ?_
                  obtain ⟨hc0, hf6⟩ := x_gd_some hf6
                  refine f_iald (pc := 115) (k := 0) (u := 32) (q := 1) (len := 772) dX12_count_115 (sa_32_1 hs) hc0 hn rfl rfl (by decide) ?_
                  show Ev g _ _ _ _ _ _ 116 [some (x_r (16 * 32 + 0)), some (x_i a), some (x_i v3), some (x_i v4)] [x_i ((x_up S 0 0 0) 1 ((x_add 12 v4)).toNat), x_i v3] (al, ro, fl (ml M [32] [(x_up S 0 0 0)])) _ _ _ _
                  refine e_iadd (pc := 116) dX12_count_116 ?_
                  refine e_istoren (pc := 117) (i := 2) dX12_count_117 rfl (by decide) rfl ?_
                  show Ev g _ _ _ _ _ _ 118 [some (x_r (16 * 32 + 0)), some (x_i a), some (x_i (x_add v3 ((x_up S 0 0 0) 1 ((x_add 12 v4)).toNat))), some (x_i v4)] [] (al, ro, fl (ml M [32] [(x_up S 0 0 0)])) _ _ _ _
                  refine e_iinc (pc := 118) dX12_count_118 rfl (by decide) rfl ?_
                  show Ev g _ _ _ _ _ _ 121 [some (x_r (16 * 32 + 0)), some (x_i a), some (x_i (x_add v3 ((x_up S 0 0 0) 1 ((x_add 12 v4)).toNat))), some (x_i (x_add v4 1))] [] (al, ro, fl (ml M [32] [(x_up S 0 0 0)])) _ _ _ _
                  refine e_goto (pc := 121) (tgt := 101) dX12_count_121 (by decide) ?_
                  cases hf6
                  exact hi6 _ rfl
              · rw [if_pos hb] at hG
                refine e_aloadn (pc := 92) (i := 0) dX12_count_92 rfl rfl ?_
                refine f_geti (pc := 93) (k := 0) (u := 32) (q := 0) dX12_count_93 xf12_204 (sa_32_0 hs) rfl hn rfl rfl (by decide) ?_
                show Ev g _ _ _ _ _ _ 96 [some (x_r (16 * 32 + 0)), some (x_i a), none, none] [x_i ((x_up S 0 0 0) 0 6)] (al, ro, fl (ml M [32] [(x_up S 0 0 0)])) _ _ _ _
                cases hG
                exact (e_ireturn rfl dX12_count_96 rfl)
            · rw [if_pos hb] at hG
              refine e_aloadn (pc := 78) (i := 0) dX12_count_78 rfl rfl ?_
              refine f_getr (pc := 79) (u := 32) (q := 0) dX12_count_79 xf12_7 (sa_32_0 hs) rfl (sr_32_0_1 hs) ?_
              refine e_bipush (pc := 82) dX12_count_82 (by decide +kernel) (x_R rfl) ?_
              refine f_iald (pc := 84) (k := 0) (u := 32) (q := 1) (len := 772) dX12_count_84 (sa_32_1 hs) (by decide) hn rfl rfl (by decide) ?_
              show Ev g _ _ _ _ _ _ 85 [some (x_r (16 * 32 + 0)), some (x_i a), none, none] [x_i ((x_up S 0 0 0) 1 10)] (al, ro, fl (ml M [32] [(x_up S 0 0 0)])) _ _ _ _
              cases hG
              exact (e_ireturn rfl dX12_count_85 rfl)
          · rw [if_pos hb] at hG
            refine e_aloadn (pc := 67) (i := 0) dX12_count_67 rfl rfl ?_
            obtain ⟨v10, hq10, hG⟩ := x_bd1 hG
            refine e_invV (pc := 68) (K1 := 0) (S1 := 0) (K := 0) (S := 0) (dd2 := 1) (av := []) (st := []) (id := 16 * 32 + 0) dX12_count_68 xmX12_298 rfl (Or.inl ⟨10, 27, TX12, (sa_32_0 hs), rfl, by decide⟩) (f_cal (M := M) (us2 := [32]) [0] hn rfl (And.intro rfl trivial) rfl rfl rfl (c_X12_lateOfAll hst hs   hq10)) (by decide) (Nat.le_of_ble_eq_true rfl) (Or.inl rfl) ?_
            show Ev g _ _ _ _ _ _ 71 [some (x_r (16 * 32 + 0)), some (x_i a), none, none] [x_i v10] (al, ro, fl (ml M [32] [(x_up S 0 0 0)])) _ _ _ _
            cases hG
            exact (e_ireturn rfl dX12_count_71 rfl)
        · rw [if_neg hb] at hG
          refine e_aloadn (pc := 50) (i := 0) dX12_count_50 rfl rfl ?_
          refine f_getr (pc := 51) (u := 32) (q := 0) dX12_count_51 xf12_7 (sa_32_0 hs) rfl (sr_32_0_1 hs) ?_
          refine e_iconst (pc := 54) dX12_count_54 (x_R rfl) ?_
          refine e_iloadn (pc := 55) (i := 1) dX12_count_55 rfl rfl ?_
          refine e_iadd (pc := 56) dX12_count_56 ?_
          refine e_iconst (pc := 57) dX12_count_57 (x_R rfl) ?_
          refine e_isub (pc := 58) dX12_count_58 ?_
          obtain ⟨hc0, hG⟩ := x_gd_some hG
          refine f_iald (pc := 59) (k := 0) (u := 32) (q := 1) (len := 772) dX12_count_59 (sa_32_1 hs) hc0 hn rfl rfl (by decide) ?_
          show Ev g _ _ _ _ _ _ 60 [some (x_r (16 * 32 + 0)), some (x_i a), none, none] [x_i ((x_up S 0 0 0) 1 ((x_sub (x_add 4 a) 3)).toNat)] (al, ro, fl (ml M [32] [(x_up S 0 0 0)])) _ _ _ _
          cases hG
          exact (e_ireturn rfl dX12_count_60 rfl)
      · rw [if_pos hb] at hG
        refine e_aloadn (pc := 33) (i := 0) dX12_count_33 rfl rfl ?_
        refine f_getr (pc := 34) (u := 32) (q := 0) dX12_count_34 xf12_7 (sa_32_0 hs) rfl (sr_32_0_1 hs) ?_
        refine e_iconst (pc := 37) dX12_count_37 (x_R rfl) ?_
        refine f_iald (pc := 38) (k := 0) (u := 32) (q := 1) (len := 772) dX12_count_38 (sa_32_1 hs) (by decide) hn rfl rfl (by decide) ?_
        show Ev g _ _ _ _ _ _ 39 [some (x_r (16 * 32 + 0)), some (x_i a), none, none] [x_i ((x_up S 0 0 0) 1 1)] (al, ro, fl (ml M [32] [(x_up S 0 0 0)])) _ _ _ _
        cases hG
        exact (e_ireturn rfl dX12_count_39 rfl)
    · rw [if_pos hb] at hG
      refine e_aloadn (pc := 21) (i := 0) dX12_count_21 rfl rfl ?_
      refine f_getr (pc := 22) (u := 32) (q := 0) dX12_count_22 xf12_7 (sa_32_0 hs) rfl (sr_32_0_1 hs) ?_
      refine e_iconst (pc := 25) dX12_count_25 (x_R rfl) ?_
      refine f_iald (pc := 26) (k := 0) (u := 32) (q := 1) (len := 772) dX12_count_26 (sa_32_1 hs) (by decide) hn rfl rfl (by decide) ?_
      show Ev g _ _ _ _ _ _ 27 [some (x_r (16 * 32 + 0)), some (x_i a), none, none] [x_i ((x_up S 0 0 0) 1 0)] (al, ro, fl (ml M [32] [(x_up S 0 0 0)])) _ _ _ _
      cases hG
      exact (e_ireturn rfl dX12_count_27 rfl)
  · rw [if_pos hb] at hG
    refine e_aloadn (pc := 9) (i := 0) dX12_count_9 rfl rfl ?_
    refine f_getr (pc := 10) (u := 32) (q := 0) dX12_count_10 xf12_7 (sa_32_0 hs) rfl (sr_32_0_1 hs) ?_
    refine e_iconst (pc := 13) dX12_count_13 (x_R rfl) ?_
    refine f_iald (pc := 14) (k := 0) (u := 32) (q := 1) (len := 772) dX12_count_14 (sa_32_1 hs) (by decide) hn rfl rfl (by decide) ?_
    show Ev g _ _ _ _ _ _ 15 [some (x_r (16 * 32 + 0)), some (x_i a), none, none] [x_i ((x_up S 0 0 0) 1 3)] (al, ro, fl (ml M [32] [(x_up S 0 0 0)])) _ _ _ _
    cases hG
    exact (e_ireturn rfl dX12_count_15 rfl)
