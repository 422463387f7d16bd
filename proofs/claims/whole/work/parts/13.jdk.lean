set_option maxRecDepth 100000 in
set_option maxHeartbeats 4000000 in
theorem c_J9_min_7cf53 {g : xG} {al : List (Nat × Nat × Nat)} {ro : Nat → Nat → Option Nat} (hst : g.1.stackTraces = false) (hs : SH al ro) {M : Nat → xU} {a : Int} {b : Int} {t : Int} (hG : G9_min_7cf53 a b = some t) :
    Cal g yJ9_min_7cf53 cJ9_min_7cf53 2 (some .int) 0 [x_i a, x_i b] (al, ro, fl (ml M [] [])) 0 0 (.inl (some (x_i t))) (al, ro, fl (ml M [] [])) := by
  have hn : ([] : List Nat).Nodup := by decide
  refine cal_of_ev (by decide +kernel) (x_c1 rfl) (Nat.le_of_ble_eq_true rfl) hst ?_
  show Ev g _ _ _ _ _ _ 0 [some (x_i a), some (x_i b)] [] (al, ro, fl (ml M [] [])) _ _ _ _
  rw [G9_min_7cf53] at hG
  refine e_iloadn (pc := 0) (i := 0) dJ9_min_7cf53_0 rfl rfl ?_
  refine e_iloadn (pc := 1) (i := 1) dJ9_min_7cf53_1 rfl rfl ?_
  obtain ⟨v1, hr1, hG⟩ := x_bd1 hG
  have hjhr1 : Ev g yJ9_min_7cf53 cJ9_min_7cf53 2 (some .int) [] 0 10 [some (x_i a), some (x_i b)] [x_i v1] (al, ro, fl (ml M [] [])) 0 0 (.inl (some (x_i t))) (al, ro, fl (ml M [] [])) := by
    cases hG
    exact (e_ireturn rfl dJ9_min_7cf53_10 rfl)
  clear hG
  refine e_icmp_gt (pc := 2) (tgt := 9) dJ9_min_7cf53_2 (by decide) (fun hb => ?_) (fun hb => ?_)
  · rw [if_pos hb] at hr1
    refine e_iloadn (pc := 9) (i := 1) dJ9_min_7cf53_9 rfl rfl ?_
    cases hr1
    exact hjhr1
  · rw [if_neg hb] at hr1
    refine e_iloadn (pc := 5) (i := 0) dJ9_min_7cf53_5 rfl rfl ?_
    refine e_goto (pc := 6) (tgt := 10) dJ9_min_7cf53_6 (by decide) ?_
    cases hr1
    exact hjhr1
set_option maxRecDepth 100000 in
set_option maxHeartbeats 4000000 in
theorem c_J9_max_7cf53 {g : xG} {al : List (Nat × Nat × Nat)} {ro : Nat → Nat → Option Nat} (hst : g.1.stackTraces = false) (hs : SH al ro) {M : Nat → xU} {a : Int} {b : Int} {t : Int} (hG : G9_max_7cf53 a b = some t) :
    Cal g yJ9_max_7cf53 cJ9_max_7cf53 2 (some .int) 0 [x_i a, x_i b] (al, ro, fl (ml M [] [])) 0 0 (.inl (some (x_i t))) (al, ro, fl (ml M [] [])) := by
  have hn : ([] : List Nat).Nodup := by decide
  refine cal_of_ev (by decide +kernel) (x_c1 rfl) (Nat.le_of_ble_eq_true rfl) hst ?_
  show Ev g _ _ _ _ _ _ 0 [some (x_i a), some (x_i b)] [] (al, ro, fl (ml M [] [])) _ _ _ _
  rw [G9_max_7cf53] at hG
  refine e_iloadn (pc := 0) (i := 0) dJ9_max_7cf53_0 rfl rfl ?_
  refine e_iloadn (pc := 1) (i := 1) dJ9_max_7cf53_1 rfl rfl ?_
  obtain ⟨v1, hr1, hG⟩ := x_bd1 hG
  have hjhr1 : Ev g yJ9_max_7cf53 cJ9_max_7cf53 2 (some .int) [] 0 10 [some (x_i a), some (x_i b)] [x_i v1] (al, ro, fl (ml M [] [])) 0 0 (.inl (some (x_i t))) (al, ro, fl (ml M [] [])) := by
    cases hG
    exact (e_ireturn rfl dJ9_max_7cf53_10 rfl)
  clear hG
  refine e_icmp_lt (pc := 2) (tgt := 9) dJ9_max_7cf53_2 (by decide) (fun hb => ?_) (fun hb => ?_)
  · rw [if_pos hb] at hr1
    refine e_iloadn (pc := 9) (i := 1) dJ9_max_7cf53_9 rfl rfl ?_
    cases hr1
    exact hjhr1
  · rw [if_neg hb] at hr1
    refine e_iloadn (pc := 5) (i := 0) dJ9_max_7cf53_5 rfl rfl ?_
    refine e_goto (pc := 6) (tgt := 10) dJ9_max_7cf53_6 (by decide) ?_
    cases hr1
    exact hjhr1
set_option maxRecDepth 100000 in
set_option maxHeartbeats 4000000 in
theorem c_J6_bitCount_0f7a4 {g : xG} {al : List (Nat × Nat × Nat)} {ro : Nat → Nat → Option Nat} (hst : g.1.stackTraces = false) (hs : SH al ro) {M : Nat → xU} {a : Int} {t : Int} (hG : G6_bitCount_0f7a4 a = some t) :
    Cal g yJ6_bitCount_0f7a4 cJ6_bitCount_0f7a4 1 (some .int) 0 [x_i a] (al, ro, fl (ml M [] [])) 0 0 (.inl (some (x_i t))) (al, ro, fl (ml M [] [])) := by
  have hn : ([] : List Nat).Nodup := by decide
  refine cal_of_ev (plainFor_of_name (by decide)) (x_c1 rfl) (Nat.le_of_ble_eq_true rfl) hst ?_
  show Ev g _ _ _ _ _ _ 0 [some (x_i a)] [] (al, ro, fl (ml M [] [])) _ _ _ _
  rw [G6_bitCount_0f7a4] at hG
  refine e_iloadn (pc := 0) (i := 0) dJ6_bitCount_0f7a4_0 rfl rfl ?_
  refine e_iloadn (pc := 1) (i := 0) dJ6_bitCount_0f7a4_1 rfl rfl ?_
  refine e_iconst (pc := 2) dJ6_bitCount_0f7a4_2 (x_R rfl) ?_
  refine e_iushr (pc := 3) dJ6_bitCount_0f7a4_3 ?_
  refine e_ldcw (pc := 4) dJ6_bitCount_0f7a4_4 xkJ6_265 (x_R rfl) ?_
  refine e_iand (pc := 7) dJ6_bitCount_0f7a4_7 ?_
  refine e_isub (pc := 8) dJ6_bitCount_0f7a4_8 ?_
  refine e_istoren (pc := 9) (i := 0) dJ6_bitCount_0f7a4_9 rfl (by decide) rfl ?_
  show Ev g _ _ _ _ _ _ 10 [some (x_i (x_sub a (x_and (x_ush a 1) 1431655765)))] [] (al, ro, fl (ml M [] [])) _ _ _ _
  refine e_iloadn (pc := 10) (i := 0) dJ6_bitCount_0f7a4_10 rfl rfl ?_
  refine e_ldcw (pc := 11) dJ6_bitCount_0f7a4_11 xkJ6_266 (x_R rfl) ?_
  refine e_iand (pc := 14) dJ6_bitCount_0f7a4_14 ?_
  refine e_iloadn (pc := 15) (i := 0) dJ6_bitCount_0f7a4_15 rfl rfl ?_
  refine e_iconst (pc := 16) dJ6_bitCount_0f7a4_16 (x_R rfl) ?_
  refine e_iushr (pc := 17) dJ6_bitCount_0f7a4_17 ?_
  refine e_ldcw (pc := 18) dJ6_bitCount_0f7a4_18 xkJ6_266 (x_R rfl) ?_
  refine e_iand (pc := 21) dJ6_bitCount_0f7a4_21 ?_
  refine e_iadd (pc := 22) dJ6_bitCount_0f7a4_22 ?_
  refine e_istoren (pc := 23) (i := 0) dJ6_bitCount_0f7a4_23 rfl (by decide) rfl ?_
  show Ev g _ _ _ _ _ _ 24 [some (x_i (x_add (x_and (x_sub a (x_and (x_ush a 1) 1431655765)) 858993459) (x_and (x_ush (x_sub a (x_and (x_ush a 1) 1431655765)) 2) 858993459)))] [] (al, ro, fl (ml M [] [])) _ _ _ _
  refine e_iloadn (pc := 24) (i := 0) dJ6_bitCount_0f7a4_24 rfl rfl ?_
  refine e_iloadn (pc := 25) (i := 0) dJ6_bitCount_0f7a4_25 rfl rfl ?_
  refine e_iconst (pc := 26) dJ6_bitCount_0f7a4_26 (x_R rfl) ?_
  refine e_iushr (pc := 27) dJ6_bitCount_0f7a4_27 ?_
  refine e_iadd (pc := 28) dJ6_bitCount_0f7a4_28 ?_
  refine e_ldcw (pc := 29) dJ6_bitCount_0f7a4_29 xkJ6_267 (x_R rfl) ?_
  refine e_iand (pc := 32) dJ6_bitCount_0f7a4_32 ?_
  refine e_istoren (pc := 33) (i := 0) dJ6_bitCount_0f7a4_33 rfl (by decide) rfl ?_
  show Ev g _ _ _ _ _ _ 34 [some (x_i (x_and (x_add (x_add (x_and (x_sub a (x_and (x_ush a 1) 1431655765)) 858993459) (x_and (x_ush (x_sub a (x_and (x_ush a 1) 1431655765)) 2) 858993459)) (x_ush (x_add (x_and (x_sub a (x_and (x_ush a 1) 1431655765)) 858993459) (x_and (x_ush (x_sub a (x_and (x_ush a 1) 1431655765)) 2) 858993459)) 4)) 252645135))] [] (al, ro, fl (ml M [] [])) _ _ _ _
  refine e_iloadn (pc := 34) (i := 0) dJ6_bitCount_0f7a4_34 rfl rfl ?_
  refine e_iloadn (pc := 35) (i := 0) dJ6_bitCount_0f7a4_35 rfl rfl ?_
  refine e_bipush (pc := 36) dJ6_bitCount_0f7a4_36 (by decide +kernel) (x_R rfl) ?_
  refine e_iushr (pc := 38) dJ6_bitCount_0f7a4_38 ?_
  refine e_iadd (pc := 39) dJ6_bitCount_0f7a4_39 ?_
  refine e_istoren (pc := 40) (i := 0) dJ6_bitCount_0f7a4_40 rfl (by decide) rfl ?_
  show Ev g _ _ _ _ _ _ 41 [some (x_i (x_add (x_and (x_add (x_add (x_and (x_sub a (x_and (x_ush a 1) 1431655765)) 858993459) (x_and (x_ush (x_sub a (x_and (x_ush a 1) 1431655765)) 2) 858993459)) (x_ush (x_add (x_and (x_sub a (x_and (x_ush a 1) 1431655765)) 858993459) (x_and (x_ush (x_sub a (x_and (x_ush a 1) 1431655765)) 2) 858993459)) 4)) 252645135) (x_ush (x_and (x_add (x_add (x_and (x_sub a (x_and (x_ush a 1) 1431655765)) 858993459) (x_and (x_ush (x_sub a (x_and (x_ush a 1) 1431655765)) 2) 858993459)) (x_ush (x_add (x_and (x_sub a (x_and (x_ush a 1) 1431655765)) 858993459) (x_and (x_ush (x_sub a (x_and (x_ush a 1) 1431655765)) 2) 858993459)) 4)) 252645135) 8)))] [] (al, ro, fl (ml M [] [])) _ _ _ _
  refine e_iloadn (pc := 41) (i := 0) dJ6_bitCount_0f7a4_41 rfl rfl ?_
  refine e_iloadn (pc := 42) (i := 0) dJ6_bitCount_0f7a4_42 rfl rfl ?_
  refine e_bipush (pc := 43) dJ6_bitCount_0f7a4_43 (by decide +kernel) (x_R rfl) ?_
  refine e_iushr (pc := 45) dJ6_bitCount_0f7a4_45 ?_
  refine e_iadd (pc := 46) dJ6_bitCount_0f7a4_46 ?_
  refine e_istoren (pc := 47) (i := 0) dJ6_bitCount_0f7a4_47 rfl (by decide) rfl ?_
  show Ev g _ _ _ _ _ _ 48 [some (x_i (x_add (x_add (x_and (x_add (x_add (x_and (x_sub a (x_and (x_ush a 1) 1431655765)) 858993459) (x_and (x_ush (x_sub a (x_and (x_ush a 1) 1431655765)) 2) 858993459)) (x_ush (x_add (x_and (x_sub a (x_and (x_ush a 1) 1431655765)) 858993459) (x_and (x_ush (x_sub a (x_and (x_ush a 1) 1431655765)) 2) 858993459)) 4)) 252645135) (x_ush (x_and (x_add (x_add (x_and (x_sub a (x_and (x_ush a 1) 1431655765)) 858993459) (x_and (x_ush (x_sub a (x_and (x_ush a 1) 1431655765)) 2) 858993459)) (x_ush (x_add (x_and (x_sub a (x_and (x_ush a 1) 1431655765)) 858993459) (x_and (x_ush (x_sub a (x_and (x_ush a 1) 1431655765)) 2) 858993459)) 4)) 252645135) 8)) (x_ush (x_add (x_and (x_add (x_add (x_and (x_sub a (x_and (x_ush a 1) 1431655765)) 858993459) (x_and (x_ush (x_sub a (x_and (x_ush a 1) 1431655765)) 2) 858993459)) (x_ush (x_add (x_and (x_sub a (x_and (x_ush a 1) 1431655765)) 858993459) (x_and (x_ush (x_sub a (x_and (x_ush a 1) 1431655765)) 2) 858993459)) 4)) 252645135) (x_ush (x_and (x_add (x_add (x_and (x_sub a (x_and (x_ush a 1) 1431655765)) 858993459) (x_and (x_ush (x_sub a (x_and (x_ush a 1) 1431655765)) 2) 858993459)) (x_ush (x_add (x_and (x_sub a (x_and (x_ush a 1) 1431655765)) 858993459) (x_and (x_ush (x_sub a (x_and (x_ush a 1) 1431655765)) 2) 858993459)) 4)) 252645135) 8)) 16)))] [] (al, ro, fl (ml M [] [])) _ _ _ _
  refine e_iloadn (pc := 48) (i := 0) dJ6_bitCount_0f7a4_48 rfl rfl ?_
  refine e_bipush (pc := 49) dJ6_bitCount_0f7a4_49 (by decide +kernel) (x_R rfl) ?_
  refine e_iand (pc := 51) dJ6_bitCount_0f7a4_51 ?_
  cases hG
  exact (e_ireturn rfl dJ6_bitCount_0f7a4_52 rfl)
theorem p_min {g : xG} {al : List (Nat × Nat × Nat)} {ro : Nat → Nat → Option Nat} (hst : g.1.stackTraces = false) (hs : SH al ro) {M : Nat → xU} {a b : Int} : Cal g yJ9_min_7cf53 cJ9_min_7cf53 2 (some .int) 0 [x_i a, x_i b] (al, ro, fl M) 0 0 (.inl (some (x_i (min a b)))) (al, ro, fl M) := by
  refine c_J9_min_7cf53 (M := M) hst hs (t := min a b) ?_
  rw [G9_min_7cf53, x_b1]
  by_cases h : b < a
  · rw [if_pos h, Option.bind_some]
    congr 1
    omega
  · rw [if_neg h, Option.bind_some]
    congr 1
    omega
theorem p_max {g : xG} {al : List (Nat × Nat × Nat)} {ro : Nat → Nat → Option Nat} (hst : g.1.stackTraces = false) (hs : SH al ro) {M : Nat → xU} {a b : Int} : Cal g yJ9_max_7cf53 cJ9_max_7cf53 2 (some .int) 0 [x_i a, x_i b] (al, ro, fl M) 0 0 (.inl (some (x_i (max a b)))) (al, ro, fl M) := by
  refine c_J9_max_7cf53 (M := M) hst hs (t := max a b) ?_
  rw [G9_max_7cf53, x_b1]
  by_cases h : a < b
  · rw [if_pos h, Option.bind_some]
    congr 1
    omega
  · rw [if_neg h, Option.bind_some]
    congr 1
    omega
theorem p_bitCount {g : xG} {al : List (Nat × Nat × Nat)} {ro : Nat → Nat → Option Nat} (hst : g.1.stackTraces = false) (hs : SH al ro) {M : Nat → xU} {a : Int} : Cal g yJ6_bitCount_0f7a4 cJ6_bitCount_0f7a4 1 (some .int) 0 [x_i a] (al, ro, fl M) 0 0 (.inl (some (x_i (x_bc a)))) (al, ro, fl M) :=
  c_J6_bitCount_0f7a4 (M := M) hst hs (t := x_bc a) rfl
theorem x_xor_sg {a b : Int} (ha : R32 a) (hb : R32 b) : x_xor a b < 0 ↔ (a < 0 ↔ ¬ b < 0) := by
  have h1 : (Int32.ofInt a ^^^ Int32.ofInt b).toBitVec.msb = decide (x_xor a b < 0) := BitVec.msb_eq_toInt
  have h2 : (Int32.ofInt a).toBitVec.msb = decide ((Int32.ofInt a).toInt < 0) := BitVec.msb_eq_toInt
  have h3 : (Int32.ofInt b).toBitVec.msb = decide ((Int32.ofInt b).toInt < 0) := BitVec.msb_eq_toInt
  rw [Int32.toBitVec_xor, BitVec.msb_xor, h2, h3, x_to32 ha, x_to32 hb] at h1
  by_cases p : a < 0 <;> by_cases q : b < 0 <;> by_cases r : x_xor a b < 0 <;> simp [p, q, r] at h1 ⊢
theorem x_fmod {a b : Int} (hb : 0 < b) : a % b = if 0 ≤ a then a.tmod b else if a.tmod b = 0 then 0 else a.tmod b + b := by
  have e := Int.tmod_add_mul_tdiv a b
  by_cases h : 0 ≤ a
  · rw [if_pos h, Int.tmod_eq_emod_of_nonneg h]
  · rw [if_neg h]
    have h2 : (a.tmod b).natAbs < b.natAbs := by rw [Int.natAbs_tmod]; exact Nat.mod_lt _ (by omega)
    have h3 : a.tmod b ≤ 0 := by
      have := Int.neg_tmod (a := -a) (b := b)
      rw [Int.neg_neg] at this
      rw [this]
      have := Int.tmod_nonneg b (show 0 ≤ -a by omega)
      omega
    by_cases h4 : a.tmod b = 0
    · rw [if_pos h4]
      exact ((Int.ediv_emod_unique (q := a.tdiv b) hb).mpr ⟨by omega, by omega, by omega⟩).2
    · rw [if_neg h4]
      refine ((Int.ediv_emod_unique (q := a.tdiv b - 1) hb).mpr ⟨?_, by omega, by omega⟩).2
      rw [Int.mul_sub]
      omega
theorem p_floorMod {g : xG} {al : List (Nat × Nat × Nat)} {ro : Nat → Nat → Option Nat} (hst : g.1.stackTraces = false) (hs : SH al ro) {M : Nat → xU} {a b : Int} (hb0 : 0 < b) : Cal g yJ9_floorMod_7cf53 cJ9_floorMod_7cf53 3 (some .int) 0 [x_i a, x_i b] (al, ro, fl M) 0 0 (.inl (some (x_i (x_mod a b)))) (al, ro, fl M) := by
  intro hok ad
  have ha : R32 a := hok (x_i a) (by simp)
  have hb : R32 b := hok (x_i b) (by simp)
  have e1 : x_rem a b = a.tmod b := x_rem_of ha hb (x_R32b ha hb0).1 (x_R32b ha hb0).2
  have e2 := x_fmod (a := a) hb0
  have e3 := x_xor_sg ha hb
  refine cal_of_ev (dd := 0) (by decide +kernel) (x_c1 rfl) (Nat.le_of_ble_eq_true rfl) hst ?_ hok ad
  show Ev g _ _ _ _ _ _ 0 [some (x_i a), some (x_i b), none] [] _ _ _ _ _
  refine e_iloadn (pc := 0) (i := 0) dJ9_floorMod_7cf53_0 rfl rfl ?_
  refine e_iloadn (pc := 1) (i := 1) dJ9_floorMod_7cf53_1 rfl rfl ?_
  refine e_irem (pc := 2) dJ9_floorMod_7cf53_2 (by omega) ?_
  refine e_istoren (pc := 3) (i := 2) dJ9_floorMod_7cf53_3 rfl (by decide) rfl ?_
  show Ev g _ _ _ _ _ _ 4 [some (x_i a), some (x_i b), some (x_i (x_rem a b))] [] _ _ _ _ _
  refine e_iloadn (pc := 4) (i := 0) dJ9_floorMod_7cf53_4 rfl rfl ?_
  refine e_iloadn (pc := 5) (i := 1) dJ9_floorMod_7cf53_5 rfl rfl ?_
  refine e_ixor (pc := 6) dJ9_floorMod_7cf53_6 ?_
  refine e_if_ge (pc := 7) (tgt := 18) dJ9_floorMod_7cf53_7 (by decide) (fun q => ?_) (fun q => ?_)
  · refine e_iloadn (pc := 18) (i := 2) dJ9_floorMod_7cf53_18 rfl rfl ?_
    have : x_rem a b = x_mod a b := by
      rw [x_mod, e2, if_pos (by omega), e1]
    rw [this]
    exact e_ireturn rfl dJ9_floorMod_7cf53_19 rfl
  · refine e_iloadn (pc := 10) (i := 2) dJ9_floorMod_7cf53_10 rfl rfl ?_
    refine e_if_eq (pc := 11) (tgt := 18) dJ9_floorMod_7cf53_11 (by decide) (fun q2 => ?_) (fun q2 => ?_)
    · refine e_iloadn (pc := 18) (i := 2) dJ9_floorMod_7cf53_18 rfl rfl ?_
      have : x_rem a b = x_mod a b := by
        rw [x_mod, e2, if_neg (by omega), if_pos (by omega), q2]
      rw [this]
      exact e_ireturn rfl dJ9_floorMod_7cf53_19 rfl
    · refine e_iloadn (pc := 14) (i := 2) dJ9_floorMod_7cf53_14 rfl rfl ?_
      refine e_iloadn (pc := 15) (i := 1) dJ9_floorMod_7cf53_15 rfl rfl ?_
      refine e_iadd (pc := 16) dJ9_floorMod_7cf53_16 ?_
      have h5 := (x_R32b ha hb0).2
      have h3 : a.tmod b ≤ 0 := by
        have := Int.neg_tmod (a := -a) (b := b)
        rw [Int.neg_neg] at this
        rw [this]
        have := Int.tmod_nonneg b (show 0 ≤ -a by omega)
        omega
      have : x_add (x_rem a b) b = x_mod a b := by
        rw [e1, x_add_of ⟨by have := h5.1; omega, by have := hb.2; omega⟩, x_mod, e2, if_neg (by omega), if_neg (by omega)]
      rw [this]
      exact e_ireturn rfl dJ9_floorMod_7cf53_17 rfl
theorem xq_9 : Cond.fieldLink RJ0 9 "java/lang/String" "value" "[B" ∈ x_big := (x_inB (x_t10 (List.mem_of_getElem? (i := 45) rfl)) rfl)
theorem xq_15 : Cond.fieldLink RJ0 15 "java/lang/String" "coder" "B" ∈ x_big := (x_inB (x_t10 (List.mem_of_getElem? (i := 46) rfl)) rfl)
theorem xq_38 : Cond.fieldLink RJ0 38 "java/lang/String" "COMPACT_STRINGS" "Z" ∈ x_big := (x_inB (x_t3 (List.mem_of_getElem? (i := 238) rfl)) rfl)
theorem xq_1053 : Cond.fieldLink RJ0 1053 "jdk/internal/util/Preconditions" "SIOOBE_FORMATTER" "Ljava/util/function/BiFunction;" ∈ x_big := (x_inB (x_t4 (List.mem_of_getElem? (i := 14) rfl)) rfl)
theorem x_slw : ∀ w, w < x_nS → x_sl.getD w 0 < 2147483648 ∧ x_shr (x_sl.getD w 0 : Nat) 0 = (x_sl.getD w 0 : Nat) := by decide +kernel
theorem x_chw : ∀ w, w < x_nS → ∀ k, k < x_sl.getD w 0 → (((Int32.ofInt (x_and (((x_sb.getD w []).getD k 0).toInt) 255)).toUInt32 % 65536).toInt32.toInt = x_ch w k ∧ narrow .char (.int (Int32.ofInt (x_ch w k))) = .int (Int32.ofInt (x_ch w k))) := by decide +kernel
theorem p_coder {dd : Nat} {g : xG} {h : xH} (hst : g.1.stackTraces = false) {w : Nat} (hw : w < x_nS) : Cal g yJ0_coder_7d493 cJ0_coder_7d493 1 (some .byte) dd [x_r (x_s0 + w)] h 0 0 (.inl (some (x_i 0))) h := by
  refine cal_of_ev (plainFor_of_name (by decide)) (x_c1 rfl) (Nat.le_of_ble_eq_true rfl) hst ?_
  show Ev g _ _ _ _ _ _ 0 [some (x_r (x_s0 + w))] [] _ _ _ _ _
  refine e_compact (pc := 0) dJ0_coder_7d493_0 xq_38 ?_
  refine e_if_eq (pc := 3) (tgt := 13) dJ0_coder_7d493_3 (by decide) (fun q => absurd q (by decide)) (fun _ => ?_)
  refine e_aloadn (pc := 6) (i := 0) dJ0_coder_7d493_6 rfl rfl ?_
  refine e_strC (pc := 7) dJ0_coder_7d493_7 hw xq_15 ?_
  refine e_goto (pc := 10) (tgt := 14) dJ0_coder_7d493_10 (by decide) ?_
  exact e_ireturn rfl dJ0_coder_7d493_14 (by decide)
theorem p_isLatin1 {dd : Nat} {g : xG} {h : xH} (hst : g.1.stackTraces = false) {w : Nat} (hw : w < x_nS) : Cal g yJ0_isLatin1_aae02 cJ0_isLatin1_aae02 1 (some .boolean) dd [x_r (x_s0 + w)] h 0 0 (.inl (some (x_i 1))) h := by
  refine cal_of_ev (plainFor_of_name (by decide)) (x_c1 rfl) (Nat.le_of_ble_eq_true rfl) hst ?_
  show Ev g _ _ _ _ _ _ 0 [some (x_r (x_s0 + w))] [] _ _ _ _ _
  refine e_compact (pc := 0) dJ0_isLatin1_aae02_0 xq_38 ?_
  refine e_if_eq (pc := 3) (tgt := 17) dJ0_isLatin1_aae02_3 (by decide) (fun q => absurd q (by decide)) (fun _ => ?_)
  refine e_aloadn (pc := 6) (i := 0) dJ0_isLatin1_aae02_6 rfl rfl ?_
  refine e_strC (pc := 7) dJ0_isLatin1_aae02_7 hw xq_15 ?_
  refine e_if_ne (pc := 10) (tgt := 17) dJ0_isLatin1_aae02_10 (by decide) (fun q => absurd rfl q) (fun _ => ?_)
  refine e_iconst (pc := 13) dJ0_isLatin1_aae02_13 (x_R rfl) ?_
  refine e_goto (pc := 14) (tgt := 18) dJ0_isLatin1_aae02_14 (by decide) ?_
  exact e_ireturn rfl dJ0_isLatin1_aae02_18 (by decide)
theorem p_length {al : List (Nat × Nat × Nat)} {ro : Nat → Nat → Option Nat} {g : xG} {M : xM} (hst : g.1.stackTraces = false) (_hs : SH al ro) {w : Nat} (hw : w < x_nS) : Cal g yJ0_length_8abf5 cJ0_length_8abf5 1 (some .int) 5 [x_r (x_s0 + w)] (al, ro, M) 0 0 (.inl (some (x_i ((x_sl.getD w 0 : Nat) : Int)))) (al, ro, M) := by
  refine cal_of_ev (plainFor_of_name (by decide)) (x_c1 rfl) (Nat.le_of_ble_eq_true rfl) hst ?_
  show Ev g _ _ _ _ _ _ 0 [some (x_r (x_s0 + w))] [] _ _ _ _ _
  refine e_aloadn (pc := 0) (i := 0) dJ0_length_8abf5_0 rfl rfl ?_
  refine e_strV (pc := 1) dJ0_length_8abf5_1 hw xq_9 ?_
  refine e_blen (pc := 4) dJ0_length_8abf5_4 hw (x_slw w hw).1 ?_
  refine e_aloadn (pc := 5) (i := 0) dJ0_length_8abf5_5 rfl rfl ?_
  refine e_invV (pc := 6) (K1 := 0) (S1 := 0) (K := 0) (S := 0) (dd2 := 0) (av := []) (st := [x_i ((x_sl.getD w 0 : Nat) : Int)]) dJ0_length_8abf5_6 (id := x_s0 + w) xmJ0_335 rfl (Or.inr ⟨w, hw, rfl, rfl⟩) (p_coder hst hw) (by decide) (Nat.le_of_ble_eq_true rfl) (Or.inl rfl) ?_
  show Ev g _ _ _ _ _ _ 9 [some (x_r (x_s0 + w))] [x_i 0, x_i ((x_sl.getD w 0 : Nat) : Int)] _ _ _ _ _
  refine e_ishr (pc := 9) dJ0_length_8abf5_9 ?_
  rw [(x_slw w hw).2]
  exact e_ireturn rfl dJ0_length_8abf5_10 rfl
theorem p_chk3 {dd : Nat} {g : xG} {h : xH} (hst : g.1.stackTraces = false) {i n : Int} {r : Option Nat} (h0 : 0 ≤ i) (h1 : i < n) : Cal g yJ3_checkIndex_8e157 cJ3_checkIndex_8e157 3 (some .int) dd [x_i i, x_i n, x_o r] h 0 0 (.inl (some (x_i i))) h := by
  refine cal_of_ev (plainFor_of_name (by decide)) (x_c1 rfl) (Nat.le_of_ble_eq_true rfl) hst ?_
  show Ev g _ _ _ _ _ _ 0 [some (x_i i), some (x_i n), some (x_o r)] [] _ _ _ _ _
  refine e_iloadn (pc := 0) (i := 0) dJ3_checkIndex_8e157_0 rfl rfl ?_
  refine e_if_lt (pc := 1) (tgt := 9) dJ3_checkIndex_8e157_1 (by decide) (fun q => absurd q (by omega)) (fun _ => ?_)
  refine e_iloadn (pc := 4) (i := 0) dJ3_checkIndex_8e157_4 rfl rfl ?_
  refine e_iloadn (pc := 5) (i := 1) dJ3_checkIndex_8e157_5 rfl rfl ?_
  refine e_icmp_lt (pc := 6) (tgt := 16) dJ3_checkIndex_8e157_6 (by decide) (fun _ => ?_) (fun q => absurd h1 q)
  refine e_iloadn (pc := 16) (i := 0) dJ3_checkIndex_8e157_16 rfl rfl ?_
  exact e_ireturn rfl dJ3_checkIndex_8e157_17 rfl
theorem p_chk {dd : Nat} {g : xG} {h : xH} (hst : g.1.stackTraces = false) {i n : Int} (h0 : 0 ≤ i) (h1 : i < n) : Cal g yJ0_checkIndex_df160 cJ0_checkIndex_df160 2 none (dd + 1) [x_i i, x_i n] h 0 0 (.inl none) h := by
  refine cal_of_ev (plainFor_of_name (by decide)) (x_c1 rfl) (Nat.le_of_ble_eq_true rfl) hst ?_
  show Ev g _ _ _ _ _ _ 0 [some (x_i i), some (x_i n)] [] _ _ _ _ _
  refine e_iloadn (pc := 0) (i := 0) dJ0_checkIndex_df160_0 rfl rfl ?_
  refine e_iloadn (pc := 1) (i := 1) dJ0_checkIndex_df160_1 rfl rfl ?_
  refine e_sioobe (pc := 2) dJ0_checkIndex_df160_2 xq_1053 (fun r => ?_)
  refine e_invS (pc := 5) (K1 := 0) (S1 := 0) (K := 0) (S := 0) (dd2 := dd) (av := [x_i i, x_i n, x_o r]) (st := []) dJ0_checkIndex_df160_5 xmJ0_1059 rfl (p_chk3 hst h0 h1) (Nat.le_refl _) (Nat.le_of_ble_eq_true rfl) (Or.inl rfl) ?_
  show Ev g _ _ _ _ _ _ 8 [some (x_i i), some (x_i n)] [x_i i] _ _ _ _ _
  refine e_pop (pc := 8) dJ0_checkIndex_df160_8 rfl ?_
  exact e_return rfl dJ0_checkIndex_df160_9
theorem p_latin {dd : Nat} {g : xG} {h : xH} (hst : g.1.stackTraces = false) {w : Nat} (hw : w < x_nS) {k : Int} (hk : 0 ≤ k ∧ k < (x_sl.getD w 0 : Nat)) : Cal g yJ1_charAt_3b067 cJ1_charAt_3b067 2 (some .char) (dd + 2) [x_r (2 * x_s0 + w), x_i k] h 0 0 (.inl (some (x_i (x_ch w k)))) h := by
  obtain ⟨kn, rfl⟩ := Int.eq_ofNat_of_zero_le hk.1
  have hkn : kn < x_sl.getD w 0 := by have := hk.2; omega
  have hc := x_chw w hw kn hkn
  refine cal_of_ev (plainFor_of_name (by decide)) (x_c1 rfl) (Nat.le_of_ble_eq_true rfl) hst ?_
  show Ev g _ _ _ _ _ _ 0 [some (x_r (2 * x_s0 + w)), some (x_i kn)] [] _ _ _ _ _
  refine e_iloadn (pc := 0) (i := 1) dJ1_charAt_3b067_0 rfl rfl ?_
  refine e_aloadn (pc := 1) (i := 0) dJ1_charAt_3b067_1 rfl rfl ?_
  refine e_blen (pc := 2) dJ1_charAt_3b067_2 hw (x_slw w hw).1 ?_
  refine e_invS (pc := 3) (K1 := 0) (S1 := 0) (K := 0) (S := 0) (dd2 := dd + 1) (av := [x_i kn, x_i ((x_sl.getD w 0 : Nat) : Int)]) (st := []) dJ1_charAt_3b067_3 xmJ1_9 rfl (p_chk hst hk.1 hk.2) (Nat.le_refl _) (Nat.le_of_ble_eq_true rfl) (Or.inl rfl) ?_
  show Ev g _ _ _ _ _ _ 6 [some (x_r (2 * x_s0 + w)), some (x_i kn)] [] _ _ _ _ _
  refine e_aloadn (pc := 6) (i := 0) dJ1_charAt_3b067_6 rfl rfl ?_
  refine e_iloadn (pc := 7) (i := 1) dJ1_charAt_3b067_7 rfl rfl ?_
  refine e_bald (pc := 8) dJ1_charAt_3b067_8 hw hk.1 hk.2 ?_
  refine e_sipush (pc := 9) dJ1_charAt_3b067_9 (by decide +kernel) (x_R rfl) ?_
  refine e_iand (pc := 12) dJ1_charAt_3b067_12 ?_
  refine e_i2c (pc := 13) dJ1_charAt_3b067_13 ?_
  rw [show ((kn : Int)).toNat = kn from rfl, hc.1]
  exact e_ireturn rfl dJ1_charAt_3b067_14 hc.2
theorem p_charAt {al : List (Nat × Nat × Nat)} {ro : Nat → Nat → Option Nat} {g : xG} {M : xM} (hst : g.1.stackTraces = false) (_hs : SH al ro) {w : Nat} (hw : w < x_nS) {k : Int} (hk : 0 ≤ k ∧ k < (x_sl.getD w 0 : Nat)) : Cal g yJ0_charAt_5068e cJ0_charAt_5068e 2 (some .char) 5 [x_r (x_s0 + w), x_i k] (al, ro, M) 0 0 (.inl (some (x_i (x_ch w k)))) (al, ro, M) := by
  refine cal_of_ev (plainFor_of_name (by decide)) (x_c1 rfl) (Nat.le_of_ble_eq_true rfl) hst ?_
  show Ev g _ _ _ _ _ _ 0 [some (x_r (x_s0 + w)), some (x_i k)] [] _ _ _ _ _
  refine e_aloadn (pc := 0) (i := 0) dJ0_charAt_5068e_0 rfl rfl ?_
  refine e_invV (pc := 1) (K1 := 0) (S1 := 0) (K := 0) (S := 0) (dd2 := 0) (av := []) (st := []) dJ0_charAt_5068e_1 (id := x_s0 + w) xmJ0_492 rfl (Or.inr ⟨w, hw, rfl, rfl⟩) (p_isLatin1 hst hw) (by decide) (Nat.le_of_ble_eq_true rfl) (Or.inl rfl) ?_
  show Ev g _ _ _ _ _ _ 4 [some (x_r (x_s0 + w)), some (x_i k)] [x_i 1] _ _ _ _ _
  refine e_if_eq (pc := 4) (tgt := 16) dJ0_charAt_5068e_4 (by decide) (fun q => absurd q (by decide)) (fun _ => ?_)
  refine e_aloadn (pc := 7) (i := 0) dJ0_charAt_5068e_7 rfl rfl ?_
  refine e_strV (pc := 8) dJ0_charAt_5068e_8 hw xq_9 ?_
  refine e_iloadn (pc := 11) (i := 1) dJ0_charAt_5068e_11 rfl rfl ?_
  refine e_invS (pc := 12) (K1 := 0) (S1 := 0) (K := 0) (S := 0) (dd2 := 2) (av := [x_r (2 * x_s0 + w), x_i k]) (st := []) dJ0_charAt_5068e_12 xmJ0_495 rfl (p_latin (dd := 0) hst hw hk) (by decide) (Nat.le_of_ble_eq_true rfl) (Or.inl rfl) ?_
  show Ev g _ _ _ _ _ _ 15 [some (x_r (x_s0 + w)), some (x_i k)] [x_i (x_ch w k)] _ _ _ _ _
  refine e_ireturn rfl dJ0_charAt_5068e_15 ?_
  obtain ⟨kn, rfl⟩ := Int.eq_ofNat_of_zero_le hk.1
  exact (x_chw w hw kn (by have := hk.2; omega)).2
