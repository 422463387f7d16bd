/-! Roads by told flags: the flags, and the ways of sets. -/
/-- the flags so far -/
def fst2 (fl : Nat → Nat) (j : Nat) : Nat := fo (fun i s => s ||| 2 ^ fl i) 0 j
def okf (fl : Nat → Nat) (i : Nat) : Bool := decide (fl i < 16) && !(fst2 fl i).testBit (fl i)
abbrev rok (n : Nat) (fl : Nat → Nat) : Prop := n ≤ 7 ∧ ∀ i, i < n → okf fl i = true
theorem fst2_lt {fl : Nat → Nat} {j : Nat} (h : ∀ i, i < j → okf fl i = true) : fst2 fl j < 2 ^ 16 := by
  induction j with
  | zero => show 0 < 2 ^ 16; decide
  | succ j ih =>
    have h1 := ih (fun i hi => h i (by omega))
    have h2 := h j (by omega)
    unfold okf at h2
    rw [Bool.and_eq_true] at h2
    have h3 := of_decide_eq_true h2.1
    exact Nat.or_lt_two_pow h1 (Nat.pow_lt_pow_right (by decide) h3)
theorem okf_lt {fl : Nat → Nat} {i : Nat} (h : okf fl i = true) : fl i < 16 := by
  unfold okf at h
  rw [Bool.and_eq_true] at h
  exact of_decide_eq_true h.1
section FLG
variable {n : Nat} {fl : Nat → Nat} {T S Ro : xU}
theorem r_areFlags (hn : n ≤ 400) (h5 : ∀ i, i < n → S 5 i = (fl i : Int)) (hb : ∀ i, i < n → fl i < 256) : G12_areFlags (n : Int) S = some (bI (decide (rok n fl))) := by
  have dead : ∀ (v w : Int), whl xFU (G12_areFlags_L17 (n : Int) S) (0, v, w) = some 0 := fun v w => by
    rw [show xFU = (xFU - 1) + 1 from rfl, whl_r (r := 0)]
    rw [G12_areFlags_L17]
    by_cases z : (n : Int) ≤ w
    · rw [if_pos z]
    · rw [if_neg z, if_pos rfl]
  rw [G12_areFlags]
  by_cases z7 : 7 < n
  · rw [if_pos (by omega), x_b1s, dead, x_b1s, decide_eq_false (fun h => by have := h.1; omega)]
    exact x_gd_t (bI_01 false)
  · have key : ∀ d j k, j + d = n → d + 1 < k → (∀ i, i < j → okf fl i = true) → whl k (G12_areFlags_L17 (n : Int) S) (1, (fst2 fl j : Int), (j : Int)) = some (bI (decide (rok n fl))) := by
      intro d
      induction d with
      | zero =>
        intro j k hj hk hok
        obtain ⟨k, rfl⟩ : ∃ k', k = k' + 1 := ⟨k - 1, by omega⟩
        have : j = n := by omega
        subst this
        rw [whl_r (r := 1) (by rw [G12_areFlags_L17, if_pos (Int.le_refl _)]), decide_eq_true ⟨by omega, hok⟩]
        rfl
      | succ d ih =>
        intro j k hj hk hok
        obtain ⟨k, rfl⟩ : ∃ k', k = k' + 1 + 1 := ⟨k - 2, by omega⟩
        have hl := fst2_lt hok
        have hfb := hb j (by omega)
        have st : ∃ w : Int, G12_areFlags_L17 (n : Int) S (1, (fst2 fl j : Int), (j : Int)) = some (.inl (bI (okf fl j), w, ((j + 1 : Nat) : Int))) ∧ (okf fl j = true → w = (fst2 fl (j + 1) : Int)) := by
          rw [G12_areFlags_L17, if_neg (by omega), if_neg (by decide), x_gd_t ⟨by omega, by omega⟩, x_gd_t ⟨by omega, by omega⟩, x_gd_t ⟨by omega, by omega⟩, Int.toNat_natCast, h5 j (by omega), n_inc (by omega)]
          unfold okf
          by_cases z16 : fl j < 16
          · rw [if_neg (by omega), g12_isOf (R32n (by omega)) (by omega), x_b1s, ib_nat, decide_eq_true z16, Bool.true_and]
            cases hbit : (fst2 fl j).testBit (fl j) with
            | true =>
              rw [if_pos rfl, if_neg (by decide), x_b1s, if_pos rfl, x_b1s, n_or0 (by omega)]
              exact ⟨_, rfl, fun h => (nomatch h)⟩
            | false =>
              rw [if_neg Bool.false_ne_true, if_pos rfl, x_b1s, if_neg (by decide), x_b1s, n_set (by omega) (by omega)]
              exact ⟨_, rfl, fun _ => rfl⟩
          · rw [if_pos (by omega), x_b1s, if_pos rfl, x_b1s, n_or0 (by omega), decide_eq_false z16, Bool.false_and]
            exact ⟨_, rfl, fun h => (nomatch h)⟩
        obtain ⟨w, st1, st2⟩ := st
        rw [whl_l st1]
        cases hok2 : okf fl j with
        | true =>
          rw [st2 hok2]
          exact ih (j + 1) (k + 1) (by omega) (by omega) (fun i hi => by
            by_cases e : i = j
            · subst e; exact hok2
            · exact hok i (by omega))
        | false =>
          rw [whl_r (r := 0), decide_eq_false (fun h => by have := h.2 j (by omega); rw [hok2] at this; cases this)]
          · rfl
          · rw [G12_areFlags_L17]
            by_cases z : (n : Int) ≤ ((j + 1 : Nat) : Int)
            · rw [if_pos z]; rfl
            · rw [if_neg z, if_pos (show bI false = 0 from rfl)]; rfl
    rw [if_neg (by omega), x_b1s, show whl xFU (G12_areFlags_L17 (n : Int) S) (1, 0, 0) = _ from key n 0 xFU (by omega) (by unfold xFU; omega) (fun i hi => absurd hi (by omega)), x_b1s]
    exact x_gd_t (bI_01 _)
theorem c_readFlags {bt : Nat → Int} (hn : n ≤ 400) (hB : TB n bt T) (hbt : ∀ i, i < n → bt i = (fl i : Int)) (hb : ∀ i, i < n → fl i < 256) :
    if rok n fl then ∃ Ro', G8_readFlags T Ro = some (1, Ro') ∧ Ro' 0 2 = (n : Int) ∧ ∀ i, i < n → Ro' 1 i = (fl i : Int) else ∃ Ro', G8_readFlags T Ro = some (0, Ro') := by
  rw [G8_readFlags, hB.1]
  by_cases z7 : (n : Int) ≤ 7
  · rw [if_pos z7]
    have key : ∀ d j Z k, j + d = n → d < k → Z 0 2 = (j : Int) → (∀ i, i < j → Z 1 i = (fl i : Int)) → (∀ i, i < j → okf fl i = true) →
        (if rok n fl then ∃ Z', whl k (G8_readFlags_L20 T) ((fst2 fl j : Int), (j : Int), Z) = some (.inl Z') ∧ Z' 0 2 = (n : Int) ∧ ∀ i, i < n → Z' 1 i = (fl i : Int) else ∃ Z', whl k (G8_readFlags_L20 T) ((fst2 fl j : Int), (j : Int), Z) = some (.inr (0, Z'))) := by
      intro d
      induction d with
      | zero =>
        intro j Z k hj hk z2 z1 hok
        obtain ⟨k, rfl⟩ : ∃ k', k = k' + 1 := ⟨k - 1, by omega⟩
        have : j = n := by omega
        subst this
        rw [if_pos ⟨by omega, hok⟩, whl_r (r := .inl Z) (by rw [G8_readFlags_L20, hB.1, if_pos (Int.le_refl _)])]
        exact ⟨Z, rfl, z2, z1⟩
      | succ d ih =>
        intro j Z k hj hk z2 z1 hok
        obtain ⟨k, rfl⟩ : ∃ k', k = k' + 1 := ⟨k - 1, by omega⟩
        have hl := fst2_lt hok
        have hfb := hb j (by omega)
        have eb : G10_byteAt (j : Int) T = some (fl j : Int) := by
          rw [G10_byteAt, if_neg (by omega), hB.1, if_neg (by omega), if_neg (by omega), x_gd_t ⟨by omega, by omega⟩, Int.toNat_natCast, (hB.2 j (by omega)).1, hbt j (by omega), x_b1s]
        have st : G8_readFlags_L20 T ((fst2 fl j : Int), (j : Int), Z) = (if okf fl j = true then (some (.inl ((fst2 fl (j + 1) : Int), ((j + 1 : Nat) : Int), x_up (x_up Z 1 j (fl j : Int)) 0 2 ((j + 1 : Nat) : Int)))) else (some (.inr (.inr (0, Z))))) := by
          rw [G8_readFlags_L20, hB.1, if_neg (by omega), if_neg (by omega), eb, x_b1s, if_neg (by omega), n_inc (by omega)]
          unfold okf
          by_cases z16 : fl j < 16
          · rw [if_neg (by omega), g11_hold (R32n (by omega)) (by omega), x_b1s, ib_nat, decide_eq_true z16, Bool.true_and]
            cases hbit : (fst2 fl j).testBit (fl j) with
            | true => rw [if_pos rfl, if_neg (by decide), Bool.not_true, if_neg Bool.false_ne_true]
            | false =>
              rw [if_neg Bool.false_ne_true, if_pos rfl, x_gd_t ⟨by omega, by omega⟩, Int.toNat_natCast, n_set (by omega) (by omega), up_o (by decide), z2, n_inc (by omega), Bool.not_false, if_pos rfl]
              rfl
          · rw [if_pos (by omega), decide_eq_false z16, Bool.false_and, if_neg Bool.false_ne_true]
        cases hok2 : okf fl j with
        | true =>
          rw [if_pos hok2] at st
          rw [whl_l st]
          exact ih (j + 1) _ k (by omega) (by omega) up_s (fun i hi => by
            rw [up_o (by decide)]
            by_cases e : i = j
            · subst e; rw [up_s]
            · rw [up_i e]; exact z1 i (by omega)) (fun i hi => by
            by_cases e : i = j
            · subst e; exact hok2
            · exact hok i (by omega))
        | false =>
          rw [hok2, if_neg Bool.false_ne_true] at st
          rw [whl_r st, if_neg (fun h => by have := h.2 j (by omega); rw [hok2] at this; cases this)]
          exact ⟨Z, rfl⟩
    have k0 := key n 0 (x_up Ro 0 2 0) xFU (by omega) (by unfold xFU; omega) up_s (fun i hi => absurd hi (by omega)) (fun i hi => absurd hi (by omega))
    by_cases y : rok n fl
    · rw [if_pos y] at k0 ⊢
      obtain ⟨Z', w1, w2, w3⟩ := k0
      rw [show whl xFU (G8_readFlags_L20 T) (0, 0, x_up Ro 0 2 0) = _ from w1]
      exact ⟨Z', rfl, w2, w3⟩
    · rw [if_neg y] at k0 ⊢
      obtain ⟨Z', w1⟩ := k0
      rw [show whl xFU (G8_readFlags_L20 T) (0, 0, x_up Ro 0 2 0) = _ from w1]
      exact ⟨Z', rfl⟩
  · rw [if_neg z7, if_neg (fun h => by have := h.1; omega)]
    exact ⟨_, rfl⟩
end FLG
/-- the least way from x over a set, with ways of smaller sets told -/
def lfw (c : Nat → Int) (s : Nat) (B : Int) (j : Nat) : Int := fo (fun k b => if s.testBit k then min b (c k) else b) B j
theorem lfw_s {c : Nat → Int} {s : Nat} {B : Int} {j : Nat} : lfw c s B (j + 1) = if s.testBit j then min (lfw c s B j) (c j) else lfw c s B j := rfl
theorem lfw_eq {c : Nat → Int} {s n : Nat} {B1 B2 : Int} (hc : ∀ k, k < n → s.testBit k = true → c k ≤ B1 ∧ c k ≤ B2) : ∀ j, j ≤ n → (∀ k, k < j → s.testBit k = false) ∧ lfw c s B1 j = B1 ∧ lfw c s B2 j = B2 ∨ lfw c s B1 j = lfw c s B2 j := by
  intro j
  induction j with
  | zero => intro _; exact .inl ⟨fun k hk => absurd hk (by omega), rfl, rfl⟩
  | succ j ih =>
    intro hj
    rw [lfw_s, lfw_s]
    cases hb : s.testBit j with
    | false =>
      rw [if_neg Bool.false_ne_true, if_neg Bool.false_ne_true]
      rcases ih (by omega) with ⟨h1, h2, h3⟩ | h
      · exact .inl ⟨fun k hk => by
          by_cases e : k = j
          · subst e; exact hb
          · exact h1 k (by omega), h2, h3⟩
      · exact .inr h
    | true =>
      rw [if_pos rfl, if_pos rfl]
      right
      have := hc j (by omega) hb
      rcases ih (by omega) with ⟨h1, h2, h3⟩ | h
      · rw [h2, h3]; omega
      · rw [h]
theorem lfw_bd {c : Nat → Int} {s n : Nat} {B U : Int} (hB : 0 ≤ B) (hc : ∀ k, k < n → s.testBit k = true → 0 ≤ c k ∧ c k ≤ U) : ∀ j, j ≤ n → 0 ≤ lfw c s B j ∧ lfw c s B j ≤ B ∧ ((∃ k, k < j ∧ s.testBit k = true) → lfw c s B j ≤ U) := by
  intro j
  induction j with
  | zero => intro _; exact ⟨hB, Int.le_refl _, fun ⟨k, hk, _⟩ => absurd hk (by omega)⟩
  | succ j ih =>
    intro hj
    obtain ⟨i1, i2, i3⟩ := ih (by omega)
    rw [lfw_s]
    cases hb : s.testBit j with
    | false =>
      rw [if_neg Bool.false_ne_true]
      exact ⟨i1, i2, fun ⟨k, hk, hk2⟩ => i3 ⟨k, by
        by_cases e : k = j
        · subst e; rw [hb] at hk2; cases hk2
        · omega, hk2⟩⟩
    | true =>
      have := hc j (by omega) hb
      rw [if_pos rfl]
      exact ⟨by omega, by omega, fun _ => by omega⟩
/-- complements -/
theorem cpl_bit {n s k : Nat} (h : s < 2 ^ n) : (2 ^ n - 1 - s).testBit k = (decide (k < n) && !s.testBit k) := by
  have := Nat.testBit_two_pow_sub_succ h k
  rw [show 2 ^ n - (s + 1) = 2 ^ n - 1 - s by omega] at this
  exact this
theorem cpl_or {n s k : Nat} (h : s < 2 ^ n) (hk : k < n) (hb : s.testBit k = true) : (2 ^ n - 1 - s) ||| 2 ^ k = 2 ^ n - 1 - dif s (2 ^ k) := by
  apply Nat.eq_of_testBit_eq
  intro i
  rw [Nat.testBit_or, cpl_bit h, cpl_bit (dif_lt h), Nat.testBit_two_pow, dif_p]
  by_cases e : k = i
  · subst e; rw [decide_eq_true hk, hb]; simp
  · rw [decide_eq_false e]; simp
