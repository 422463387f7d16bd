/-! Riddles: rows of a text, who fits them. -/
/-- rows that may stand: an hour, an answer -/
def rwl (b : Int) (i : Nat) : Int := if i % 2 = 0 then 23 else b
abbrev rwk (n : Nat) (bt : Nat → Int) (b : Int) : Prop := n % 2 = 0 ∧ n ≤ 40 ∧ ∀ i, i < n → bt i ≤ rwl b i
/-- who fits -/
def fit (an : Int → Int → Int) (bt : Nat → Int) (R v : Nat) : Bool := decide (∀ r, r < R → an (v : Int) (bt (2 * r)) = bt (2 * r + 1))
theorem x_rem2 {i : Nat} (h : i < 1000) : x_rem (i : Int) 2 = ((i % 2 : Nat) : Int) := by
  rw [x_rem_pos (R32n (by omega)) ⟨by decide, by decide⟩ (by decide) (by omega)]; omega
theorem rwl_i {b : Int} {i : Nat} (h : i < 1000) : (if (x_rem (i : Int) 2) = 0 then (some (23 : Int)) else (some b)) = some (rwl b i) := by
  rw [x_rem2 h]
  unfold rwl
  by_cases z : i % 2 = 0
  · rw [if_pos (by omega), if_pos z]
  · rw [if_neg (by omega), if_neg z]
section RID
variable {n R : Nat} {bt : Nat → Int} {T S Ri : xU} {b : Int} {an : Int → Int → Int}
/-- the reference asks whether the rows may stand -/
theorem r_areRows (hn : n ≤ 400) (h5 : ∀ i, i < n → S 5 i = bt i) : G12_areRows (n : Int) b S = some (bI (decide (rwk n bt b))) := by
  have dead : ∀ v : Int, whl xFU (G12_areRows_L21 (n : Int) b S) (0, v) = some 0 := fun v => by
    rw [show xFU = (xFU - 1) + 1 from rfl, whl_r (r := 0)]
    rw [G12_areRows_L21]
    by_cases z : (n : Int) ≤ v
    · rw [if_pos z]
    · rw [if_neg z, if_pos rfl]
  have key : ∀ d j k, j + d = n → d + 1 < k → whl k (G12_areRows_L21 (n : Int) b S) (1, (j : Int)) = some (bI (decide (∀ i, i < n → j ≤ i → bt i ≤ rwl b i))) := by
    intro d
    induction d with
    | zero =>
      intro j k hj hk
      obtain ⟨k, rfl⟩ : ∃ k', k = k' + 1 := ⟨k - 1, by omega⟩
      rw [whl_r (r := 1) (by rw [G12_areRows_L21, if_pos (by omega)]), decide_eq_true (fun i h1 h2 => absurd h2 (by omega))]
      rfl
    | succ d ih =>
      intro j k hj hk
      obtain ⟨k, rfl⟩ : ∃ k', k = k' + 1 + 1 := ⟨k - 2, by omega⟩
      have st : G12_areRows_L21 (n : Int) b S (1, (j : Int)) = some (.inl (if rwl b j < bt j then 0 else 1, ((j + 1 : Nat) : Int))) := by
        rw [G12_areRows_L21, if_neg (by omega), if_neg (by decide), x_gd_t ⟨by omega, by omega⟩, rwl_i (by omega), x_b1s, Int.toNat_natCast, h5 j (by omega), x_its, x_b1s, n_inc (by omega)]
      rw [whl_l st]
      by_cases z : rwl b j < bt j
      · rw [if_pos z, whl_r (r := 0), decide_eq_false (fun h => by have := h j (by omega) (Nat.le_refl _); omega)]
        · rfl
        · rw [G12_areRows_L21]
          by_cases y : (n : Int) ≤ ((j + 1 : Nat) : Int)
          · rw [if_pos y]
          · rw [if_neg y, if_pos rfl]
      · rw [if_neg z, ih (j + 1) (k + 1) (by omega) (by omega)]
        congr 3
        apply propext
        constructor
        · intro h i h1 h2
          by_cases e : i = j
          · subst e; omega
          · exact h i h1 (by omega)
        · intro h i h1 h2; exact h i h1 (by omega)
  have h01 : ∀ w : Bool, x_gd (bI w = 0 ∨ bI w = 1) (some (bI w)) = some (bI w) := fun w => x_gd_t (bI_01 w)
  rw [G12_areRows, x_rem2 (by omega)]
  by_cases z1 : n % 2 = 0
  · rw [if_pos (by omega)]
    by_cases z2 : 40 < (n : Int)
    · rw [if_pos z2, x_b1s, dead, x_b1s, decide_eq_false (fun h => by have := h.2.1; omega)]
      exact h01 false
    · rw [if_neg z2, x_b1s, show whl xFU (G12_areRows_L21 (n : Int) b S) (1, 0) = _ from key n 0 xFU (by omega) (by unfold xFU; omega), x_b1s, h01]
      congr 3
      apply propext
      constructor
      · intro h; exact ⟨z1, by omega, fun i hi => h i hi (by omega)⟩
      · intro h i hi _; exact h.2.2 i hi
  · rw [if_neg (by omega), x_b1s, dead, x_b1s, decide_eq_false (fun h => z1 h.1)]
    exact h01 false
/-- the class asks whether one fits -/
theorem c_doesFit {v : Nat} (hR : R ≤ 20) (h3 : Ri 0 3 = ((2 * R : Nat) : Int)) (h1 : ∀ i, i < 2 * R → Ri 1 i = bt i) (hA : ∀ v h, G7_answerOf v h Ri = some (an v h)) : G7_doesFit (v : Int) Ri = some (bI (fit an bt R v)) := by
  have key : ∀ d r k, r + d = R → d < k → whl k (G7_doesFit_L2 (v : Int) Ri) ((2 * r : Nat) : Int) = some (if ∀ s, s < R → r ≤ s → an (v : Int) (bt (2 * s)) = bt (2 * s + 1) then .inl () else .inr 0) := by
    intro d
    induction d with
    | zero =>
      intro r k hj hk
      obtain ⟨k, rfl⟩ : ∃ k', k = k' + 1 := ⟨k - 1, by omega⟩
      rw [whl_r (r := .inl ()) (by rw [G7_doesFit_L2, h3, n_inc (by omega), if_pos (by omega)]), if_pos (fun s h1 h2 => absurd h2 (by omega))]
    | succ d ih =>
      intro r k hj hk
      obtain ⟨k, rfl⟩ : ∃ k', k = k' + 1 := ⟨k - 1, by omega⟩
      have st : G7_doesFit_L2 (v : Int) Ri ((2 * r : Nat) : Int) = (if an (v : Int) (bt (2 * r)) = bt (2 * r + 1) then (some (.inl ((2 * (r + 1) : Nat) : Int))) else (some (.inr (.inr 0)))) := by
        rw [G7_doesFit_L2, h3, n_inc (by omega), if_neg (by omega), if_neg (by omega), x_gd_t ⟨by omega, by omega⟩, hA, x_b1s, x_gd_t ⟨by omega, by omega⟩, Int.toNat_natCast, Int.toNat_natCast, h1 _ (by omega), h1 _ (by omega), show x_add ((2 * r : Nat) : Int) 2 = ((2 * (r + 1) : Nat) : Int) from n_add (b := 2) (by omega)]
      by_cases z : an (v : Int) (bt (2 * r)) = bt (2 * r + 1)
      · rw [if_pos z] at st
        rw [whl_l st, ih (r + 1) k (by omega) (by omega)]
        congr 1
        by_cases y : ∀ s, s < R → r ≤ s → an (v : Int) (bt (2 * s)) = bt (2 * s + 1)
        · rw [if_pos y, if_pos (fun s h1 h2 => y s h1 (by omega))]
        · rw [if_neg y, if_neg (fun h => y (fun s h1 h2 => by
            by_cases e : s = r
            · subst e; exact z
            · exact h s h1 (by omega)))]
      · rw [if_neg z] at st
        rw [whl_r st, if_neg (fun h => z (h r (by omega) (Nat.le_refl _)))]
  rw [G7_doesFit, show whl xFU (G7_doesFit_L2 (v : Int) Ri) 0 = _ from key R 0 xFU (by omega) (by unfold xFU; omega)]
  unfold fit
  by_cases y : ∀ s, s < R → an (v : Int) (bt (2 * s)) = bt (2 * s + 1)
  · rw [if_pos (fun s h2 _ => y s h2), decide_eq_true y]; rfl
  · rw [if_neg (fun h => y (fun s h2 => h s h2 (by omega))), decide_eq_false y]; rfl
/-- the reference asks whether one fits -/
theorem w_heard {f : Int × xU → Option ((Int × xU) ⊕ xU)} {S5 : xU} {v : Nat} (hR : R ≤ 200)
    (hs : ∀ r, r < R → f (((2 * r : Nat) : Int), x_up S5 11 v 1) = some (.inl (((2 * (r + 1) : Nat) : Int), x_up S5 11 v (if an (v : Int) (bt (2 * r)) = bt (2 * r + 1) then 1 else 0))))
    (h0 : ∀ r, r ≤ R → f (((2 * r : Nat) : Int), x_up S5 11 v 0) = some (.inr (x_up S5 11 v 0))) (he : f (((2 * R : Nat) : Int), x_up S5 11 v 1) = some (.inr (x_up S5 11 v 1))) :
    whl xFU f (0, x_up S5 11 v 1) = some (x_up S5 11 v (bI (fit an bt R v))) := by
  have key : ∀ d r k, r + d = R → d + 1 < k → whl k f (((2 * r : Nat) : Int), x_up S5 11 v 1) = some (x_up S5 11 v (bI (decide (∀ s, s < R → r ≤ s → an (v : Int) (bt (2 * s)) = bt (2 * s + 1))))) := by
    intro d
    induction d with
    | zero =>
      intro r k hj hk
      obtain ⟨k, rfl⟩ : ∃ k', k = k' + 1 := ⟨k - 1, by omega⟩
      have : r = R := by omega
      subst this
      rw [whl_r he, decide_eq_true (fun s h1 h2 => absurd h2 (by omega))]
      rfl
    | succ d ih =>
      intro r k hj hk
      obtain ⟨k, rfl⟩ : ∃ k', k = k' + 1 + 1 := ⟨k - 2, by omega⟩
      rw [whl_l (hs r (by omega))]
      by_cases z : an (v : Int) (bt (2 * r)) = bt (2 * r + 1)
      · rw [if_pos z, ih (r + 1) (k + 1) (by omega) (by omega)]
        congr 3
        apply decide_eq_decide.mpr
        constructor
        · intro h s h1 h2
          by_cases e : s = r
          · subst e; exact z
          · exact h s h1 (by omega)
        · intro h s h1 h2; exact h s h1 (by omega)
      · rw [if_neg z, whl_r (h0 (r + 1) (by omega)), decide_eq_false (fun h => z (h r (by omega) (Nat.le_refl _)))]
        rfl
  rw [show whl xFU f (0, x_up S5 11 v 1) = _ from key R 0 xFU (by omega) (by unfold xFU; omega)]
  unfold fit
  congr 3
  apply decide_eq_decide.mpr
  constructor
  · intro h s h2; exact h s h2 (by omega)
  · intro h s h2 _; exact h s h2
/-- the first j asked -/
def fs (S : xU) (q : Nat → Bool) (j : Nat) : xU := fun o i => if o = 11 ∧ i < j then bI (q i) else S o i
theorem fs_0 {q : Nat → Bool} : fs S q 0 = S := by
  funext o i
  exact if_neg (fun h => absurd h.2 (by omega))
theorem fs_o {q : Nat → Bool} {j o : Nat} (h : o ≠ 11) : fs S q j o = S o := by
  funext i
  exact if_neg (fun w => h w.1)
theorem fs_i {q : Nat → Bool} {j i : Nat} (h : i < j) : fs S q j 11 i = bI (q i) := if_pos ⟨rfl, h⟩
theorem fs_s {q : Nat → Bool} {j : Nat} : x_up (fs S q j) 11 j (bI (q j)) = fs S q (j + 1) := by
  funext o i
  by_cases ho : o = 11
  · subst ho
    by_cases hi : i = j
    · subst hi; rw [up_s, fs_i (by omega)]
    · rw [up_i hi]
      by_cases h : i < j
      · rw [fs_i h, fs_i (by omega)]
      · show (if 11 = 11 ∧ i < j then _ else _) = (if 11 = 11 ∧ i < j + 1 then _ else _)
        rw [if_neg (by omega), if_neg (by omega)]
  · rw [up_o ho, fs_o ho, fs_o ho]
def ct (q : Nat → Bool) (j : Nat) : Int := sm (fun i => bI (q i)) j
theorem ct_bd (q : Nat → Bool) (j : Nat) : 0 ≤ ct q j ∧ ct q j ≤ (j : Int) := by
  have := sm_bd (q := fun i => bI (q i)) (n := j) (B := 1) (fun p _ => by cases q p <;> decide)
  unfold ct; omega
theorem ct_s {q : Nat → Bool} {j : Nat} : ct q (j + 1) = ct q j + bI (q j) := rfl
/-- the class has asked all -/
theorem c_find {M : Nat} {q : Nat → Bool} (hM : M ≤ 144) (h6 : Ri 0 6 = (M : Int)) (hq : ∀ (v : Nat) (Z : xU), v < M → (∀ o, o ≠ 0 → o ≠ 2 → Z o = Ri o) → (∀ i, i ≠ 7 → Z 0 i = Ri 0 i) → G7_doesFit (v : Int) Z = some (bI (q v))) :
    ∃ Ri', G7_findFitting Ri = some Ri' ∧ (∀ o, o ≠ 0 → o ≠ 2 → Ri' o = Ri o) ∧ (∀ i, i ≠ 7 → Ri' 0 i = Ri 0 i) ∧ Ri' 0 7 = ct q M ∧ ∀ v, v < M → Ri' 2 v = bI (q v) := by
  let st : Nat → xU := fun j o i => if o = 2 ∧ i < j then bI (q i) else if o = 0 ∧ i = 7 then ct q j else Ri o i
  have s2 : ∀ j i, i < j → st j 2 i = bI (q i) := fun j i h => if_pos ⟨rfl, h⟩
  have s7 : ∀ j, st j 0 7 = ct q j := fun j => by
    show (if 0 = 2 ∧ 7 < j then _ else if 0 = 0 ∧ 7 = 7 then _ else _) = _
    rw [if_neg (by omega), if_pos ⟨rfl, rfl⟩]
  have s0 : ∀ j i, i ≠ 7 → st j 0 i = Ri 0 i := fun j i h => by
    show (if 0 = 2 ∧ i < j then _ else if 0 = 0 ∧ i = 7 then _ else _) = _
    rw [if_neg (by omega), if_neg (by omega)]
  have so : ∀ j o, o ≠ 0 → o ≠ 2 → st j o = Ri o := fun j o h0 h2 => by
    funext i
    show (if o = 2 ∧ i < j then _ else if o = 0 ∧ i = 7 then _ else _) = _
    rw [if_neg (by omega), if_neg (by omega)]
  have e0 : x_up Ri 0 7 0 = st 0 := by
    funext o i
    by_cases h : o = 0 ∧ i = 7
    · obtain ⟨rfl, rfl⟩ := h; rw [up_s, s7]; rfl
    · show (if o = 0 ∧ i = 7 then _ else _) = (if o = 2 ∧ i < 0 then _ else if o = 0 ∧ i = 7 then _ else _)
      rw [if_neg h, if_neg (by omega), if_neg h]
  have w : whl xFU G7_findFitting_L7 (0, x_up Ri 0 7 0) = some (st M) := by
    rw [e0]
    refine w_run (fun j => ((j : Int), st j)) M (by unfold xFU; omega) (fun j hj => ?_) ?_
    · have hb := ct_bd q j
      have e1 : (if (x_up (st j) 2 j (bI (q j)) 2 j) = 0 then (some (x_up (st j) 2 j (bI (q j)))) else (some (x_up (x_up (st j) 2 j (bI (q j))) 0 7 (x_add ((x_up (st j) 2 j (bI (q j))) 0 7) 1)))) = some (st (j + 1)) := by
        rw [up_s]
        have es : ∀ w : Int, w = ct q (j + 1) → (fun o i => if o = 2 ∧ i = j then bI (q j) else if o = 0 ∧ i = 7 then w else st j o i) = st (j + 1) := by
          intro w hw
          funext o i
          show (if o = 2 ∧ i = j then bI (q j) else if o = 0 ∧ i = 7 then w else (if o = 2 ∧ i < j then bI (q i) else if o = 0 ∧ i = 7 then ct q j else Ri o i)) = (if o = 2 ∧ i < j + 1 then bI (q i) else if o = 0 ∧ i = 7 then ct q (j + 1) else Ri o i)
          by_cases h1 : o = 2 ∧ i = j
          · obtain ⟨rfl, rfl⟩ := h1
            rw [if_pos ⟨rfl, rfl⟩, if_pos ⟨rfl, by omega⟩]
          · rw [if_neg h1]
            by_cases h2 : o = 2 ∧ i < j
            · rw [if_neg (show ¬ (o = 0 ∧ i = 7) by omega), if_pos h2, if_pos ⟨h2.1, by omega⟩]
            · rw [if_neg h2, if_neg (show ¬ (o = 2 ∧ i < j + 1) by omega)]
              by_cases h3 : o = 0 ∧ i = 7
              · rw [if_pos h3, if_pos h3, hw]
              · rw [if_neg h3, if_neg h3, if_neg h3]
        cases hqj : q j with
        | false =>
          rw [if_pos (show bI false = 0 from rfl), ← es (ct q j) (by rw [ct_s, hqj]; exact (Int.add_zero _).symm), hqj]
          congr 1
          funext o i
          show (if o = 2 ∧ i = j then _ else st j o i) = _
          by_cases h1 : o = 2 ∧ i = j
          · rw [if_pos h1, if_pos h1]
          · rw [if_neg h1, if_neg h1]
            by_cases h3 : o = 0 ∧ i = 7
            · rw [if_pos h3, h3.1, h3.2, s7]
            · rw [if_neg h3]
        | true =>
          rw [if_neg (show ¬ bI true = 0 by decide), up_o (show (0 : Nat) ≠ 2 by decide), s7, x_add_of ⟨by omega, by omega⟩, ← es (ct q j + 1) (by rw [ct_s, hqj]; rfl), hqj]
          congr 1
          funext o i
          show (if o = 0 ∧ i = 7 then _ else (if o = 2 ∧ i = j then _ else st j o i)) = _
          by_cases h1 : o = 2 ∧ i = j
          · rw [if_neg (show ¬ (o = 0 ∧ i = 7) by omega), if_pos h1, if_pos h1]
          · by_cases h3 : o = 0 ∧ i = 7
            · rw [if_pos h3, if_neg h1, if_pos h3]
            · rw [if_neg h3, if_neg h1, if_neg h1, if_neg h3]
      rw [G7_findFitting_L7, s0 j 6 (by decide), h6, if_neg (by omega), if_neg (by omega), hq j (st j) hj (so j) (s0 j), x_b1s, x_gd_t ⟨by omega, by omega⟩, x_gd_t (bI_01 _), x_gd_t ⟨by omega, by omega⟩, Int.toNat_natCast, e1, x_b1s, n_inc (by omega)]
    · rw [G7_findFitting_L7, s0 M 6 (by decide), h6, if_pos (Int.le_refl _)]
  rw [G7_findFitting, w, x_b1s]
  exact ⟨st M, rfl, so M, s0 M, s7 M, s2 M⟩
/-- the class reads the rows -/
theorem c_readRows {M : Nat} (hn : n ≤ 400) (hM : M ≤ 144) (hB : TB n bt T) (hby : ∀ i, i < n → 0 ≤ bt i ∧ bt i ≤ 255) (h6 : Ri 0 6 = (M : Int)) (hA : ∀ Z, Z 0 4 = Ri 0 4 → Z 0 5 = Ri 0 5 → ∀ v h, G7_answerOf v h Z = some (an v h)) :
    if rwk n bt b then ∃ Ri', G7_readRows b T Ri = some (1, Ri') ∧ (∀ i, i ≠ 3 → i ≠ 7 → Ri' 0 i = Ri 0 i) ∧ Ri' 0 7 = ct (fit an bt (n / 2)) M ∧ ∀ v, v < M → Ri' 2 v = bI (fit an bt (n / 2) v) else ∃ Ri', G7_readRows b T Ri = some (0, Ri') := by
  have key : ∀ d j Z k, j + d = n → n ≤ 40 → d < k → Z 0 3 = (j : Int) → (∀ i, i < j → Z 1 i = bt i) → (∀ i, i ≠ 3 → Z 0 i = Ri 0 i) → (∀ o, o ≠ 0 → o ≠ 1 → Z o = Ri o) →
      (if ∀ i, i < n → j ≤ i → bt i ≤ rwl b i then ∃ Z', whl k (G7_readRows_L27 b T) ((j : Int), Z) = some (.inl Z') ∧ Z' 0 3 = (n : Int) ∧ (∀ i, i < n → Z' 1 i = bt i) ∧ (∀ i, i ≠ 3 → Z' 0 i = Ri 0 i) else ∃ Z', whl k (G7_readRows_L27 b T) ((j : Int), Z) = some (.inr (0, Z'))) := by
    intro d
    induction d with
    | zero =>
      intro j Z k hj hn4 hk z3 z1 z0 zo
      obtain ⟨k, rfl⟩ : ∃ k', k = k' + 1 := ⟨k - 1, by omega⟩
      rw [if_pos (fun i h1 h2 => absurd h2 (by omega)), whl_r (r := .inl Z) (by rw [G7_readRows_L27, hB.1, if_pos (by omega)])]
      have : j = n := by omega
      subst this
      exact ⟨Z, rfl, z3, z1, z0⟩
    | succ d ih =>
      intro j Z k hj hn4 hk z3 z1 z0 zo
      obtain ⟨k, rfl⟩ : ∃ k', k = k' + 1 := ⟨k - 1, by omega⟩
      have hb := hby j (by omega)
      have eb : G10_byteAt (j : Int) T = some (bt j) := by
        rw [G10_byteAt, if_neg (by omega), hB.1, if_neg (by omega), if_neg (by omega), x_gd_t ⟨by omega, by omega⟩, Int.toNat_natCast, (hB.2 j (by omega)).1, x_b1s]
      have st : G7_readRows_L27 b T ((j : Int), Z) = (if bt j ≤ rwl b j then (some (.inl (((j + 1 : Nat) : Int), x_up (x_up Z 1 j (bt j)) 0 3 ((j + 1 : Nat) : Int)))) else (some (.inr (.inr (0, x_up Z 1 j (bt j)))))) := by
        rw [G7_readRows_L27, hB.1, if_neg (by omega), if_neg (by omega), eb, x_b1s, x_gd_t ⟨by omega, by omega⟩, x_gd_t ⟨by omega, by omega⟩, Int.toNat_natCast, up_s, if_neg (by omega), x_gd_t ⟨by omega, by omega⟩, rwl_i (by omega), x_b1s, up_o (by decide), z3, n_inc (by omega)]
      by_cases z : bt j ≤ rwl b j
      · rw [if_pos z] at st
        have := ih (j + 1) (x_up (x_up Z 1 j (bt j)) 0 3 ((j + 1 : Nat) : Int)) k (by omega) hn4 (by omega) up_s (fun i hi => by
          rw [up_o (by decide)]
          by_cases e : i = j
          · subst e; rw [up_s]
          · rw [up_i e]; exact z1 i (by omega)) (fun i h3 => by rw [up_i h3, up_o (by decide)]; exact z0 i h3) (fun o h0 h1 => by rw [up_o h0, up_o h1]; exact zo o h0 h1)
        rw [whl_l st]
        by_cases y : ∀ i, i < n → j ≤ i → bt i ≤ rwl b i
        · rw [if_pos (fun i h1 h2 => y i h1 (by omega))] at this
          rw [if_pos y]; exact this
        · rw [if_neg (fun h => y (fun i h1 h2 => by
            by_cases e : i = j
            · subst e; exact z
            · exact h i h1 (by omega)))] at this
          rw [if_neg y]; exact this
      · rw [if_neg z] at st
        rw [whl_r st, if_neg (fun h => z (h j (by omega) (Nat.le_refl _)))]
        exact ⟨_, rfl⟩
  rw [G7_readRows, hB.1]
  by_cases z40 : 40 < (n : Int)
  · rw [if_pos z40, if_neg (fun h => by have := h.2.1; omega)]
    exact ⟨_, rfl⟩
  · rw [if_neg z40, x_rem2 (by omega)]
    by_cases z2 : n % 2 = 0
    · rw [if_pos (show ((n % 2 : Nat) : Int) = 0 by omega)]
      have := key n 0 (x_up Ri 0 3 0) xFU (by omega) (by omega) (by unfold xFU; omega) up_s (fun i hi => absurd hi (by omega)) (fun i h3 => up_i h3) (fun o h0 _ => up_o h0)
      by_cases y : rwk n bt b
      · rw [if_pos (fun i hi _ => y.2.2 i hi)] at this
        obtain ⟨Z', w1, w2, w3, w4⟩ := this
        rw [if_pos y, show whl xFU (G7_readRows_L27 b T) (0, x_up Ri 0 3 0) = _ from w1]
        obtain ⟨Ri', k1, k2, k3, k4, k5⟩ := c_find (Ri := Z') (q := fit an bt (n / 2)) hM ((w4 6 (by decide)).trans h6) (fun v Z hv h0 h7 => c_doesFit (by have := y.2.1; omega) (by rw [h7 3 (by decide), w2]; omega) (fun i hi => by rw [h0 1 (by decide) (by decide)]; exact w3 i (by omega)) (hA Z (by rw [h7 4 (by decide), w4 4 (by decide)]) (by rw [h7 5 (by decide), w4 5 (by decide)])))
        refine ⟨Ri', ?_, fun i h3 h7 => (k3 i h7).trans (w4 i h3), k4, k5⟩
        show (x_b1 (G7_findFitting Z') fun (Ri10 : xU) => (some ((1 : Int), Ri10))) = _
        rw [k1, x_b1s]
      · rw [if_neg (fun h => y ⟨z2, by omega, fun i hi => h i hi (by omega)⟩)] at this
        obtain ⟨Z', w1⟩ := this
        rw [if_neg y, show whl xFU (G7_readRows_L27 b T) (0, x_up Ri 0 3 0) = _ from w1]
        exact ⟨Z', rfl⟩
    · rw [if_neg (show ¬ ((n % 2 : Nat) : Int) = 0 by omega), if_neg (fun h => z2 h.1)]
      exact ⟨_, rfl⟩
end RID
