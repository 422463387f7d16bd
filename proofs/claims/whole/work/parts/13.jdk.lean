/-! operations in range -/
theorem x_add_of {a b : Int} (h : R32 (a + b)) : x_add a b = a + b := by
  rw [x_add, ← Int32.ofInt_add, x_to32 h]
theorem x_sub_of {a b : Int} (h : R32 (a - b)) : x_sub a b = a - b := by
  rw [x_sub, ← Int32.ofInt_sub, x_to32 h]
theorem x_mul_of {a b : Int} (h : R32 (a * b)) : x_mul a b = a * b := by
  rw [x_mul, ← Int32.ofInt_mul, x_to32 h]
theorem x_neg_of {a : Int} (h : R32 (-a)) : x_neg a = -a := by
  rw [x_neg, ← Int32.ofInt_neg, x_to32 h]
theorem x_div_of {a b : Int} (ha : R32 a) (hb : R32 b) (h : R32 (a.tdiv b)) : x_div a b = a.tdiv b := by
  rw [x_div, Int32.toInt_div, x_to32 ha, x_to32 hb]
  exact Int.bmod_eq_of_le (by have := h.1; omega) (by have := h.2; omega)
theorem x_rem_of {a b : Int} (ha : R32 a) (hb : R32 b) (h : R32 (a.tdiv b)) (h2 : R32 (a.tmod b)) : x_rem a b = a.tmod b := by
  have e1 : Int32.ofInt a / Int32.ofInt b = Int32.ofInt (a.tdiv b) := by
    rw [← x_of32 (Int32.ofInt a / Int32.ofInt b)]
    exact congrArg Int32.ofInt (x_div_of ha hb h)
  rw [x_rem, e1, ← Int32.ofInt_mul, ← Int32.ofInt_sub]
  have e2 : a - a.tdiv b * b = a.tmod b := by
    have := Int.tmod_add_mul_tdiv a b
    rw [Int.mul_comm] at this
    omega
  rw [e2, x_to32 h2]
theorem x_R32b {a b : Int} (ha : R32 a) (h0 : 0 < b) : R32 (a.tdiv b) ∧ R32 (a.tmod b) := by
  have h1 : (a.tdiv b).natAbs ≤ a.natAbs := by rw [Int.natAbs_tdiv]; exact Nat.div_le_self _ _
  have h2 : (a.tmod b).natAbs ≤ a.natAbs := by rw [Int.natAbs_tmod]; exact Nat.mod_le _ _
  obtain ⟨p, q⟩ := ha
  have h3 : a = -2147483648 → 0 ≤ a.tdiv b ∨ a.tdiv b < 0 := fun _ => by omega
  constructor
  · constructor
    · omega
    · by_cases hz : 0 ≤ a
      · omega
      · have : a.tdiv b ≤ 0 := by
          have := Int.neg_tdiv (a := -a) (b := b)
          rw [Int.neg_neg] at this
          rw [this]
          have := Int.tdiv_nonneg (show 0 ≤ -a by omega) (show 0 ≤ b by omega)
          omega
        omega
  · constructor
    · omega
    · by_cases hz : 0 ≤ a
      · omega
      · have : a.tmod b ≤ 0 := by
          have := Int.neg_tmod (a := -a) (b := b)
          rw [Int.neg_neg] at this
          rw [this]
          have := Int.tmod_nonneg b (show 0 ≤ -a by omega)
          omega
        omega
/-- remainder of what isn't below 0 -/
theorem x_rem_pos {a b : Int} (ha : R32 a) (hb : R32 b) (h0 : 0 < b) (h : 0 ≤ a) : x_rem a b = a % b := by
  rw [x_rem_of ha hb (x_R32b ha h0).1 (x_R32b ha h0).2, Int.tmod_eq_emod_of_nonneg h]
theorem x_div_pos {a b : Int} (ha : R32 a) (hb : R32 b) (h0 : 0 < b) (h : 0 ≤ a) : x_div a b = a / b := by
  rw [x_div_of ha hb (x_R32b ha h0).1, Int.tdiv_eq_ediv_of_nonneg h]
def G9_min_7cf53 (a : Int) (b : Int) : Option Int :=
  (x_b1 (if b < a then (some b) else (some a)) fun (v1 : Int) => (some v1))
set_option maxRecDepth 100000 in
set_option maxHeartbeats 4000000 in
theorem c_J9_min_7cf53 {g : xG} {al : List (Nat × Nat × Nat)} {ro : Nat → Nat → Option Nat} (hst : g.1.stackTraces = false) (hs : SH al ro) {M : Nat → xU} {a : Int} {b : Int} {t : Int} (hG : G9_min_7cf53 a b = some t) :
    Cal g yJ9_min_7cf53 cJ9_min_7cf53 2 (some .int) 0 [x_i a, x_i b] (al, ro, fl (ml M [] [])) 0 0 (.inl (some (x_i t))) (al, ro, fl (ml M [] [])) := by
  have hn : ([] : List Nat).Nodup := by decide
  refine cal_of_ev (by decide +kernel) (x_c1 rfl) (Nat.le_of_ble_eq_true rfl) hst ?_
  show Ev g _ _ _ _ _ _ 0 [some (x_i a), some (x_i b)] [] (al, ro, fl (ml M [] [])) _ _ _ _
  rw [G9_min_7cf53] at hG
  refine e_iloadn (pc := 0) (i := 0) dJ9_min_7cf53_0 rfl rfl ?_
  refine e_iloadn (pc := 1) (i := 1) dJ9_min_7cf53_1 rfl rfl ?_
  obtain ⟨v1, hr1, hG⟩ := x_bd1 hG
  have hjhr1 : Ev g yJ9_min_7cf53 cJ9_min_7cf53 2 (some .int) [] 0 10 [some (x_i a), some (x_i b)] [x_i v1] (al, ro, fl (ml M [] [])) 0 0 (.inl (some (x_i t))) (al, ro, fl (ml M [] [])) := by
    cases hG
    exact (e_ireturn rfl dJ9_min_7cf53_10 rfl)
  clear hG
  refine e_icmp_gt (pc := 2) (tgt := 9) dJ9_min_7cf53_2 (by decide) (fun hb => ?_) (fun hb => ?_)
  · rw [if_pos hb] at hr1
    refine e_iloadn (pc := 9) (i := 1) dJ9_min_7cf53_9 rfl rfl ?_
    cases hr1
    exact hjhr1
  · rw [if_neg hb] at hr1
    refine e_iloadn (pc := 5) (i := 0) dJ9_min_7cf53_5 rfl rfl ?_
    refine e_goto (pc := 6) (tgt := 10) dJ9_min_7cf53_6 (by decide) ?_
    cases hr1
    exact hjhr1
def G9_max_7cf53 (a : Int) (b : Int) : Option Int :=
  (x_b1 (if a < b then (some b) else (some a)) fun (v1 : Int) => (some v1))
set_option maxRecDepth 100000 in
set_option maxHeartbeats 4000000 in
theorem c_J9_max_7cf53 {g : xG} {al : List (Nat × Nat × Nat)} {ro : Nat → Nat → Option Nat} (hst : g.1.stackTraces = false) (hs : SH al ro) {M : Nat → xU} {a : Int} {b : Int} {t : Int} (hG : G9_max_7cf53 a b = some t) :
    Cal g yJ9_max_7cf53 cJ9_max_7cf53 2 (some .int) 0 [x_i a, x_i b] (al, ro, fl (ml M [] [])) 0 0 (.inl (some (x_i t))) (al, ro, fl (ml M [] [])) := by
  have hn : ([] : List Nat).Nodup := by decide
  refine cal_of_ev (by decide +kernel) (x_c1 rfl) (Nat.le_of_ble_eq_true rfl) hst ?_
  show Ev g _ _ _ _ _ _ 0 [some (x_i a), some (x_i b)] [] (al, ro, fl (ml M [] [])) _ _ _ _
  rw [G9_max_7cf53] at hG
  refine e_iloadn (pc := 0) (i := 0) dJ9_max_7cf53_0 rfl rfl ?_
  refine e_iloadn (pc := 1) (i := 1) dJ9_max_7cf53_1 rfl rfl ?_
  obtain ⟨v1, hr1, hG⟩ := x_bd1 hG
  have hjhr1 : Ev g yJ9_max_7cf53 cJ9_max_7cf53 2 (some .int) [] 0 10 [some (x_i a), some (x_i b)] [x_i v1] (al, ro, fl (ml M [] [])) 0 0 (.inl (some (x_i t))) (al, ro, fl (ml M [] [])) := by
    cases hG
    exact (e_ireturn rfl dJ9_max_7cf53_10 rfl)
  clear hG
  refine e_icmp_lt (pc := 2) (tgt := 9) dJ9_max_7cf53_2 (by decide) (fun hb => ?_) (fun hb => ?_)
  · rw [if_pos hb] at hr1
    refine e_iloadn (pc := 9) (i := 1) dJ9_max_7cf53_9 rfl rfl ?_
    cases hr1
    exact hjhr1
  · rw [if_neg hb] at hr1
    refine e_iloadn (pc := 5) (i := 0) dJ9_max_7cf53_5 rfl rfl ?_
    refine e_goto (pc := 6) (tgt := 10) dJ9_max_7cf53_6 (by decide) ?_
    cases hr1
    exact hjhr1
def G6_bitCount_0f7a4 (a : Int) : Option Int :=
  (some (x_and (x_add (x_add (x_and (x_add (x_add (x_and (x_sub a (x_and (x_ush a 1) 1431655765)) 858993459) (x_and (x_ush (x_sub a (x_and (x_ush a 1) 1431655765)) 2) 858993459)) (x_ush (x_add (x_and (x_sub a (x_and (x_ush a 1) 1431655765)) 858993459) (x_and (x_ush (x_sub a (x_and (x_ush a 1) 1431655765)) 2) 858993459)) 4)) 252645135) (x_ush (x_and (x_add (x_add (x_and (x_sub a (x_and (x_ush a 1) 1431655765)) 858993459) (x_and (x_ush (x_sub a (x_and (x_ush a 1) 1431655765)) 2) 858993459)) (x_ush (x_add (x_and (x_sub a (x_and (x_ush a 1) 1431655765)) 858993459) (x_and (x_ush (x_sub a (x_and (x_ush a 1) 1431655765)) 2) 858993459)) 4)) 252645135) 8)) (x_ush (x_add (x_and (x_add (x_add (x_and (x_sub a (x_and (x_ush a 1) 1431655765)) 858993459) (x_and (x_ush (x_sub a (x_and (x_ush a 1) 1431655765)) 2) 858993459)) (x_ush (x_add (x_and (x_sub a (x_and (x_ush a 1) 1431655765)) 858993459) (x_and (x_ush (x_sub a (x_and (x_ush a 1) 1431655765)) 2) 858993459)) 4)) 252645135) (x_ush (x_and (x_add (x_add (x_and (x_sub a (x_and (x_ush a 1) 1431655765)) 858993459) (x_and (x_ush (x_sub a (x_and (x_ush a 1) 1431655765)) 2) 858993459)) (x_ush (x_add (x_and (x_sub a (x_and (x_ush a 1) 1431655765)) 858993459) (x_and (x_ush (x_sub a (x_and (x_ush a 1) 1431655765)) 2) 858993459)) 4)) 252645135) 8)) 16)) 63))
set_option maxRecDepth 100000 in
set_option maxHeartbeats 4000000 in
theorem c_J6_bitCount_0f7a4 {g : xG} {al : List (Nat × Nat × Nat)} {ro : Nat → Nat → Option Nat} (hst : g.1.stackTraces = false) (hs : SH al ro) {M : Nat → xU} {a : Int} {t : Int} (hG : G6_bitCount_0f7a4 a = some t) :
    Cal g yJ6_bitCount_0f7a4 cJ6_bitCount_0f7a4 1 (some .int) 0 [x_i a] (al, ro, fl (ml M [] [])) 0 0 (.inl (some (x_i t))) (al, ro, fl (ml M [] [])) := by
  have hn : ([] : List Nat).Nodup := by decide
  refine cal_of_ev (plainFor_of_name (by decide)) (x_c1 rfl) (Nat.le_of_ble_eq_true rfl) hst ?_
  show Ev g _ _ _ _ _ _ 0 [some (x_i a)] [] (al, ro, fl (ml M [] [])) _ _ _ _
  rw [G6_bitCount_0f7a4] at hG
  refine e_iloadn (pc := 0) (i := 0) dJ6_bitCount_0f7a4_0 rfl rfl ?_
  refine e_iloadn (pc := 1) (i := 0) dJ6_bitCount_0f7a4_1 rfl rfl ?_
  refine e_iconst (pc := 2) dJ6_bitCount_0f7a4_2 (x_R rfl) ?_
  refine e_iushr (pc := 3) dJ6_bitCount_0f7a4_3 ?_
  refine e_ldcw (pc := 4) dJ6_bitCount_0f7a4_4 xkJ6_265 (x_R rfl) ?_
  refine e_iand (pc := 7) dJ6_bitCount_0f7a4_7 ?_
  refine e_isub (pc := 8) dJ6_bitCount_0f7a4_8 ?_
  refine e_istoren (pc := 9) (i := 0) dJ6_bitCount_0f7a4_9 rfl (by decide) rfl ?_
  show Ev g _ _ _ _ _ _ 10 [some (x_i (x_sub a (x_and (x_ush a 1) 1431655765)))] [] (al, ro, fl (ml M [] [])) _ _ _ _
  refine e_iloadn (pc := 10) (i := 0) dJ6_bitCount_0f7a4_10 rfl rfl ?_
  refine e_ldcw (pc := 11) dJ6_bitCount_0f7a4_11 xkJ6_266 (x_R rfl) ?_
  refine e_iand (pc := 14) dJ6_bitCount_0f7a4_14 ?_
  refine e_iloadn (pc := 15) (i := 0) dJ6_bitCount_0f7a4_15 rfl rfl ?_
  refine e_iconst (pc := 16) dJ6_bitCount_0f7a4_16 (x_R rfl) ?_
  refine e_iushr (pc := 17) dJ6_bitCount_0f7a4_17 ?_
  refine e_ldcw (pc := 18) dJ6_bitCount_0f7a4_18 xkJ6_266 (x_R rfl) ?_
  refine e_iand (pc := 21) dJ6_bitCount_0f7a4_21 ?_
  refine e_iadd (pc := 22) dJ6_bitCount_0f7a4_22 ?_
  refine e_istoren (pc := 23) (i := 0) dJ6_bitCount_0f7a4_23 rfl (by decide) rfl ?_
  show Ev g _ _ _ _ _ _ 24 [some (x_i (x_add (x_and (x_sub a (x_and (x_ush a 1) 1431655765)) 858993459) (x_and (x_ush (x_sub a (x_and (x_ush a 1) 1431655765)) 2) 858993459)))] [] (al, ro, fl (ml M [] [])) _ _ _ _
  refine e_iloadn (pc := 24) (i := 0) dJ6_bitCount_0f7a4_24 rfl rfl ?_
  refine e_iloadn (pc := 25) (i := 0) dJ6_bitCount_0f7a4_25 rfl rfl ?_
  refine e_iconst (pc := 26) dJ6_bitCount_0f7a4_26 (x_R rfl) ?_
  refine e_iushr (pc := 27) dJ6_bitCount_0f7a4_27 ?_
  refine e_iadd (pc := 28) dJ6_bitCount_0f7a4_28 ?_
  refine e_ldcw (pc := 29) dJ6_bitCount_0f7a4_29 xkJ6_267 (x_R rfl) ?_
  refine e_iand (pc := 32) dJ6_bitCount_0f7a4_32 ?_
  refine e_istoren (pc := 33) (i := 0) dJ6_bitCount_0f7a4_33 rfl (by decide) rfl ?_
  show Ev g _ _ _ _ _ _ 34 [some (x_i (x_and (x_add (x_add (x_and (x_sub a (x_and (x_ush a 1) 1431655765)) 858993459) (x_and (x_ush (x_sub a (x_and (x_ush a 1) 1431655765)) 2) 858993459)) (x_ush (x_add (x_and (x_sub a (x_and (x_ush a 1) 1431655765)) 858993459) (x_and (x_ush (x_sub a (x_and (x_ush a 1) 1431655765)) 2) 858993459)) 4)) 252645135))] [] (al, ro, fl (ml M [] [])) _ _ _ _
  refine e_iloadn (pc := 34) (i := 0) dJ6_bitCount_0f7a4_34 rfl rfl ?_
  refine e_iloadn (pc := 35) (i := 0) dJ6_bitCount_0f7a4_35 rfl rfl ?_
  refine e_bipush (pc := 36) dJ6_bitCount_0f7a4_36 (by decide +kernel) (x_R rfl) ?_
  refine e_iushr (pc := 38) dJ6_bitCount_0f7a4_38 ?_
  refine e_iadd (pc := 39) dJ6_bitCount_0f7a4_39 ?_
  refine e_istoren (pc := 40) (i := 0) dJ6_bitCount_0f7a4_40 rfl (by decide) rfl ?_
  show Ev g _ _ _ _ _ _ 41 [some (x_i (x_add (x_and (x_add (x_add (x_and (x_sub a (x_and (x_ush a 1) 1431655765)) 858993459) (x_and (x_ush (x_sub a (x_and (x_ush a 1) 1431655765)) 2) 858993459)) (x_ush (x_add (x_and (x_sub a (x_and (x_ush a 1) 1431655765)) 858993459) (x_and (x_ush (x_sub a (x_and (x_ush a 1) 1431655765)) 2) 858993459)) 4)) 252645135) (x_ush (x_and (x_add (x_add (x_and (x_sub a (x_and (x_ush a 1) 1431655765)) 858993459) (x_and (x_ush (x_sub a (x_and (x_ush a 1) 1431655765)) 2) 858993459)) (x_ush (x_add (x_and (x_sub a (x_and (x_ush a 1) 1431655765)) 858993459) (x_and (x_ush (x_sub a (x_and (x_ush a 1) 1431655765)) 2) 858993459)) 4)) 252645135) 8)))] [] (al, ro, fl (ml M [] [])) _ _ _ _
  refine e_iloadn (pc := 41) (i := 0) dJ6_bitCount_0f7a4_41 rfl rfl ?_
  refine e_iloadn (pc := 42) (i := 0) dJ6_bitCount_0f7a4_42 rfl rfl ?_
  refine e_bipush (pc := 43) dJ6_bitCount_0f7a4_43 (by decide +kernel) (x_R rfl) ?_
  refine e_iushr (pc := 45) dJ6_bitCount_0f7a4_45 ?_
  refine e_iadd (pc := 46) dJ6_bitCount_0f7a4_46 ?_
  refine e_istoren (pc := 47) (i := 0) dJ6_bitCount_0f7a4_47 rfl (by decide) rfl ?_
  show Ev g _ _ _ _ _ _ 48 [some (x_i (x_add (x_add (x_and (x_add (x_add (x_and (x_sub a (x_and (x_ush a 1) 1431655765)) 858993459) (x_and (x_ush (x_sub a (x_and (x_ush a 1) 1431655765)) 2) 858993459)) (x_ush (x_add (x_and (x_sub a (x_and (x_ush a 1) 1431655765)) 858993459) (x_and (x_ush (x_sub a (x_and (x_ush a 1) 1431655765)) 2) 858993459)) 4)) 252645135) (x_ush (x_and (x_add (x_add (x_and (x_sub a (x_and (x_ush a 1) 1431655765)) 858993459) (x_and (x_ush (x_sub a (x_and (x_ush a 1) 1431655765)) 2) 858993459)) (x_ush (x_add (x_and (x_sub a (x_and (x_ush a 1) 1431655765)) 858993459) (x_and (x_ush (x_sub a (x_and (x_ush a 1) 1431655765)) 2) 858993459)) 4)) 252645135) 8)) (x_ush (x_add (x_and (x_add (x_add (x_and (x_sub a (x_and (x_ush a 1) 1431655765)) 858993459) (x_and (x_ush (x_sub a (x_and (x_ush a 1) 1431655765)) 2) 858993459)) (x_ush (x_add (x_and (x_sub a (x_and (x_ush a 1) 1431655765)) 858993459) (x_and (x_ush (x_sub a (x_and (x_ush a 1) 1431655765)) 2) 858993459)) 4)) 252645135) (x_ush (x_and (x_add (x_add (x_and (x_sub a (x_and (x_ush a 1) 1431655765)) 858993459) (x_and (x_ush (x_sub a (x_and (x_ush a 1) 1431655765)) 2) 858993459)) (x_ush (x_add (x_and (x_sub a (x_and (x_ush a 1) 1431655765)) 858993459) (x_and (x_ush (x_sub a (x_and (x_ush a 1) 1431655765)) 2) 858993459)) 4)) 252645135) 8)) 16)))] [] (al, ro, fl (ml M [] [])) _ _ _ _
  refine e_iloadn (pc := 48) (i := 0) dJ6_bitCount_0f7a4_48 rfl rfl ?_
  refine e_bipush (pc := 49) dJ6_bitCount_0f7a4_49 (by decide +kernel) (x_R rfl) ?_
  refine e_iand (pc := 51) dJ6_bitCount_0f7a4_51 ?_
  cases hG
  exact (e_ireturn rfl dJ6_bitCount_0f7a4_52 rfl)
theorem p_min {g : xG} {al : List (Nat × Nat × Nat)} {ro : Nat → Nat → Option Nat} (hst : g.1.stackTraces = false) (hs : SH al ro) {M : Nat → xU} {a b : Int} : Cal g yJ9_min_7cf53 cJ9_min_7cf53 2 (some .int) 0 [x_i a, x_i b] (al, ro, fl M) 0 0 (.inl (some (x_i (min a b)))) (al, ro, fl M) := by
  refine c_J9_min_7cf53 (M := M) hst hs (t := min a b) ?_
  rw [G9_min_7cf53, x_b1]
  by_cases h : b < a
  · rw [if_pos h, Option.bind_some]
    congr 1
    omega
  · rw [if_neg h, Option.bind_some]
    congr 1
    omega
theorem p_max {g : xG} {al : List (Nat × Nat × Nat)} {ro : Nat → Nat → Option Nat} (hst : g.1.stackTraces = false) (hs : SH al ro) {M : Nat → xU} {a b : Int} : Cal g yJ9_max_7cf53 cJ9_max_7cf53 2 (some .int) 0 [x_i a, x_i b] (al, ro, fl M) 0 0 (.inl (some (x_i (max a b)))) (al, ro, fl M) := by
  refine c_J9_max_7cf53 (M := M) hst hs (t := max a b) ?_
  rw [G9_max_7cf53, x_b1]
  by_cases h : a < b
  · rw [if_pos h, Option.bind_some]
    congr 1
    omega
  · rw [if_neg h, Option.bind_some]
    congr 1
    omega
/-- how many bits, as the library counts them -/
def x_bc (a : Int) : Int := (G6_bitCount_0f7a4 a).getD 0
theorem p_bitCount {g : xG} {al : List (Nat × Nat × Nat)} {ro : Nat → Nat → Option Nat} (hst : g.1.stackTraces = false) (hs : SH al ro) {M : Nat → xU} {a : Int} : Cal g yJ6_bitCount_0f7a4 cJ6_bitCount_0f7a4 1 (some .int) 0 [x_i a] (al, ro, fl M) 0 0 (.inl (some (x_i (x_bc a)))) (al, ro, fl M) :=
  c_J6_bitCount_0f7a4 (M := M) hst hs (t := x_bc a) rfl
