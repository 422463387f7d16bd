/-! Stalls changed until nobody would: whom each points to, rings. -/
/-- more than there are places -/
theorem php : ∀ (n : Nat) (g : Nat → Nat), (∀ i, i ≤ n → g i < n) → ∃ i j, i < j ∧ j ≤ n ∧ g i = g j := by
  intro n
  induction n with
  | zero => intro g h; exact absurd (h 0 (Nat.le_refl _)) (by omega)
  | succ n ih =>
    intro g h
    by_cases z : ∃ i, i ≤ n ∧ g i = g (n + 1)
    · obtain ⟨i, h1, h2⟩ := z
      exact ⟨i, n + 1, by omega, Nat.le_refl _, h2⟩
    · obtain ⟨i, j, h1, h2, h3⟩ := ih (fun i => if g i = n then g (n + 1) else g i) (fun i hi => by
        have a1 := h i (by omega)
        have a2 := h (n + 1) (Nat.le_refl _)
        have a3 : g i ≠ g (n + 1) := fun w => z ⟨i, hi, w⟩
        show (if g i = n then g (n + 1) else g i) < n
        by_cases y : g i = n
        · rw [if_pos y]; omega
        · rw [if_neg y]; omega)
      have b1 : g i ≠ g (n + 1) := fun w => z ⟨i, by omega, w⟩
      have b2 : g j ≠ g (n + 1) := fun w => z ⟨j, h2, w⟩
      refine ⟨i, j, h1, by omega, ?_⟩
      have h4 : (if g i = n then g (n + 1) else g i) = (if g j = n then g (n + 1) else g j) := h3
      by_cases y1 : g i = n
      · rw [if_pos y1] at h4
        by_cases y2 : g j = n
        · omega
        · rw [if_neg y2] at h4; omega
      · rw [if_neg y1] at h4
        by_cases y2 : g j = n
        · rw [if_pos y2] at h4; omega
        · rw [if_neg y2] at h4; exact h4
def itr (F : Nat → Nat) (a : Nat) : Nat → Nat
  | 0 => a
  | k + 1 => F (itr F a k)
section RG
variable {F : Nat → Nat} {a n : Nat}
theorem itr_add {i : Nat} : ∀ t, itr F a (i + t) = itr F (itr F a i) t := by
  intro t
  induction t with
  | zero => rfl
  | succ t ih =>
    show F (itr F a (i + t)) = F (itr F (itr F a i) t)
    rw [ih]
theorem itr_lt (hF : ∀ w, w < n → F w < n) (ha : a < n) : ∀ k, itr F a k < n := by
  intro k
  induction k with
  | zero => exact ha
  | succ k ih => exact hF _ ih
theorem itr_8 (hn : n ≤ 7) (hF : ∀ w, w < n → F w < n) (ha : a < n) (h : ∀ j, 1 ≤ j → j < 8 → itr F a j ≠ a) : itr F a 8 ≠ a := by
  intro h8
  obtain ⟨i, j, h1, h2, h3⟩ := php 7 (itr F a) (fun i _ => by have := itr_lt hF ha i; omega)
  have e1 : itr F a (i + (8 - j)) = itr F a (j + (8 - j)) := by rw [itr_add, itr_add, h3]
  rw [show j + (8 - j) = 8 by omega, h8] at e1
  exact h (i + (8 - j)) (by omega) (by omega) e1
/-- the size of his ring, 0 if there is none -/
def rg (F : Nat → Nat) (a : Nat) : Nat → Nat → Nat → Nat
  | 0, _, _ => 0
  | d + 1, x, k => if F x = a then k else rg F a d (F x) (k + 1)
theorem rg_0 : ∀ d k, rg F a d (itr F a k) (k + 1) = 0 → ∀ j, k + 1 ≤ j → j < k + 1 + d → itr F a j ≠ a := by
  intro d
  induction d with
  | zero => intro k _ j h1 h2; omega
  | succ d ih =>
    intro k h j h1 h2
    have e : rg F a (d + 1) (itr F a k) (k + 1) = if F (itr F a k) = a then k + 1 else rg F a d (F (itr F a k)) (k + 1 + 1) := rfl
    rw [e] at h
    by_cases z : F (itr F a k) = a
    · rw [if_pos z] at h; omega
    · rw [if_neg z] at h
      by_cases y : j = k + 1
      · subst y; exact z
      · exact ih (k + 1) h j (by omega) (by omega)
theorem rg_le : ∀ d x k, rg F a d x k < k + d ∨ rg F a d x k = 0 := by
  intro d
  induction d with
  | zero => intro x k; exact .inr rfl
  | succ d ih =>
    intro x k
    have e : rg F a (d + 1) x k = if F x = a then k else rg F a d (F x) (k + 1) := rfl
    rw [e]
    by_cases z : F x = a
    · rw [if_pos z]; exact .inl (by omega)
    · rw [if_neg z]
      have := ih (F x) (k + 1)
      omega
/-- there is a ring -/
theorem rg_ex {v : Nat} (hn : n ≤ 7) (hF : ∀ w, w < n → F w < n ∧ v.testBit (F w) = true) (ha : a < n) (hv : v.testBit a = true) : ∃ b, b < n ∧ v.testBit b = true ∧ rg F b 7 b 1 ≠ 0 := by
  have zlt := fun k => itr_lt (F := F) (a := a) (fun w hw => (hF w hw).1) ha k
  have zin : ∀ k, v.testBit (itr F a k) = true := by
    intro k
    cases k with
    | zero => exact hv
    | succ k => exact (hF _ (zlt k)).2
  obtain ⟨i, j, h1, h2, h3⟩ := php 7 (itr F a) (fun i _ => by have := zlt i; omega)
  refine ⟨itr F a i, zlt i, zin i, fun h => ?_⟩
  refine rg_0 (F := F) (a := itr F a i) 7 0 h (j - i) (by omega) (by omega) ?_
  rw [← itr_add, show i + (j - i) = j by omega, h3]
end RG
/-- how far -/
def rdi (a b : Nat) : Int := min (((b : Int) - (a : Int)) % 12) (12 - ((b : Int) - (a : Int)) % 12)
theorem rdi_b {a b : Nat} : 0 ≤ rdi a b ∧ rdi a b ≤ 6 := by unfold rdi; omega
def rkn (c : Int) (m : Nat → Int) (sl : Nat → Nat) (i j : Nat) : Int := (if ib (m (19 + 8 * i)) (sl j) then 0 else c) + rdi (sl i) (sl j)
theorem rkn_b {m : Nat → Int} {sl : Nat → Nat} {i j : Nat} : 0 ≤ rkn 12 m sl i j ∧ rkn 12 m sl i j ≤ 18 := by
  have := rdi_b (a := sl i) (b := sl j)
  unfold rkn
  by_cases z : ib (m (19 + 8 * i)) (sl j) = true
  · rw [if_pos z]; omega
  · rw [if_neg z]; omega
theorem rkn_le {m : Nat → Int} {sl : Nat → Nat} {i j k : Nat} : rkn 100 m sl i j ≤ rkn 100 m sl i k ↔ rkn 12 m sl i j ≤ rkn 12 m sl i k := by
  have h1 := rdi_b (a := sl i) (b := sl j)
  have h2 := rdi_b (a := sl i) (b := sl k)
  unfold rkn
  by_cases z : ib (m (19 + 8 * i)) (sl j) = true
  · rw [if_pos z, if_pos z]
    by_cases y : ib (m (19 + 8 * i)) (sl k) = true
    · rw [if_pos y, if_pos y]
    · rw [if_neg y, if_neg y]; omega
  · rw [if_neg z, if_neg z]
    by_cases y : ib (m (19 + 8 * i)) (sl k) = true
    · rw [if_pos y, if_pos y]; omega
    · rw [if_neg y, if_neg y]; omega
/-- whom he points to -/
def ptg (m : Nat → Int) (sl : Nat → Nat) (v i : Nat) (n : Nat) : Int := fo (fun j w => if v.testBit j then (if w = -1 then (j : Int) else if rkn 12 m sl i w.toNat ≤ rkn 12 m sl i j then w else (j : Int)) else w) (-1) n
section PTG
variable {N S St : xU} {m : Nat → Int} {sl : Nat → Nat} {v i n : Nat}
theorem ptg_s {k : Nat} : ptg m sl v i (k + 1) = if v.testBit k then (if ptg m sl v i k = -1 then (k : Int) else if rkn 12 m sl i (ptg m sl v i k).toNat ≤ rkn 12 m sl i k then ptg m sl v i k else (k : Int)) else ptg m sl v i k := rfl
theorem ptg_in : ∀ k, (ptg m sl v i k = -1 ∧ ∀ j, j < k → v.testBit j = false) ∨ ∃ q, q < k ∧ ptg m sl v i k = (q : Int) ∧ v.testBit q = true := by
  intro k
  induction k with
  | zero => exact .inl ⟨rfl, fun j h => absurd h (by omega)⟩
  | succ k ih =>
    rw [ptg_s]
    cases hb : v.testBit k with
    | false =>
      rw [if_neg Bool.false_ne_true]
      rcases ih with ⟨h1, h2⟩ | ⟨q, h1, h2, h3⟩
      · exact .inl ⟨h1, fun j hj => by
          by_cases e : j = k
          · subst e; exact hb
          · exact h2 j (by omega)⟩
      · exact .inr ⟨q, by omega, h2, h3⟩
    | true =>
      rw [if_pos rfl]
      rcases ih with ⟨h1, h2⟩ | ⟨q, h1, h2, h3⟩
      · rw [if_pos h1]; exact .inr ⟨k, by omega, rfl, hb⟩
      · rw [if_neg (by omega)]
        by_cases y : rkn 12 m sl i (ptg m sl v i k).toNat ≤ rkn 12 m sl i k
        · rw [if_pos y]; exact .inr ⟨q, by omega, h2, h3⟩
        · rw [if_neg y]; exact .inr ⟨k, by omega, rfl, hb⟩
theorem c_rank {j : Nat} (h : CR N m) (hi : Iv m) (e : m 3 = (n : Int)) (hs : ∀ p, p < n → m (18 + 8 * p) = (sl p : Int)) (h12 : ∀ p, p < n → sl p < 12) (hin : i < n) (hj : j < n) : G9_rankOf (i : Int) (j : Int) N = some (rkn 12 m sl i j) := by
  have a1 := h12 i hin
  have a2 := h12 j hj
  have q := rdi_b (a := sl i) (b := sl j)
  have ed : min (x_mod (x_sub (sl j : Int) (sl i : Int)) 12) (x_sub 12 (x_mod (x_sub (sl j : Int) (sl i : Int)) 12)) = rdi (sl i) (sl j) := by
    rw [x_mod, x_sub_of (a := (sl j : Int)) ⟨by omega, by omega⟩, x_sub_of ⟨by omega, by omega⟩]; rfl
  rw [G9_rankOf, g1_of2 h hi (by omega), x_b1s, g1_of2 h hi (by omega), x_b1s, hs j hj, hs i hin, g1_doesLike h hi (by omega) (by omega), x_b1s, ed, rkn]
  by_cases z : ib (m (19 + 8 * i)) (sl j) = true
  · rw [if_pos z, if_neg (by decide), x_b1s, if_pos z, x_add_of ⟨by omega, by omega⟩]
  · rw [if_neg z, if_pos rfl, x_b1s, if_neg z, x_add_of ⟨by omega, by omega⟩]
theorem r_pains {j : Nat} (hi : Iv (S 1)) (hn : n ≤ 7) (e : S 1 3 = (n : Int)) (hs : ∀ p, p < n → S 1 (18 + 8 * p) = (sl p : Int)) (h12 : ∀ p, p < n → sl p < 12) (hin : i < n) (hj : j < n) : G12_pains (i : Int) (sl j : Int) S = some (rkn 100 (S 1) sl i j) := by
  have a1 := h12 i hin
  have a2 := h12 j hj
  have q := rdi_b (a := sl i) (b := sl j)
  have a3 := (hi.mk (p := i) (by omega)).2.2.2.1
  have ed : min (x_rem (x_add (x_sub (sl j : Int) (sl i : Int)) 12) 12) (x_sub 12 (x_rem (x_add (x_sub (sl j : Int) (sl i : Int)) 12) 12)) = rdi (sl i) (sl j) := by
    rw [x_sub_of (a := (sl j : Int)) ⟨by omega, by omega⟩, x_add_of ⟨by omega, by omega⟩, x_rem_pos ⟨by omega, by omega⟩ ⟨by decide, by decide⟩ (by decide) (by omega), x_sub_of ⟨by omega, by omega⟩]
    unfold rdi
    omega
  rw [G12_pains, g12_of2 (by omega), x_b1s, g12_of3 (by omega), x_b1s, hs i hin, g12_isOf ⟨by omega, by omega⟩ (by omega), x_b1s, g12_lesser, ed, rkn]
  by_cases z : ib (S 1 (19 + 8 * i)) (sl j) = true
  · rw [if_pos z, if_neg (by decide), x_b1s, x_b1s, if_pos z, x_add_of ⟨by omega, by omega⟩]
  · rw [if_neg z, if_pos rfl, x_b1s, x_b1s, if_neg z, x_add_of ⟨by omega, by omega⟩]
theorem c_pointer {a : Int} (h : CR N m) (hi : Iv m) (hn : n ≤ 7) (e : m 3 = (n : Int)) (hs : ∀ p, p < n → m (18 + 8 * p) = (sl p : Int)) (h12 : ∀ p, p < n → sl p < 12) (hin : i < n) (ha : a = (i : Int)) (hv : v < 128) (hne : ptg m sl v i n ≠ -1) : G9_pointerOf a (v : Int) N = some (ptg m sl v i n) := by
  subst ha
  have w : whl xFU (G9_pointerOf_L10 (i : Int) (v : Int) N) ((i : Int), 1000000, 0) = some (if ptg m sl v i n = -1 then (i : Int) else ptg m sl v i n) := by
    refine w_run (fun j => ((if ptg m sl v i j = -1 then (i : Int) else ptg m sl v i j), (if ptg m sl v i j = -1 then 1000000 else rkn 12 m sl i (ptg m sl v i j).toNat), (j : Int))) n (by unfold xFU; omega) (fun j hj => ?_) (by rw [G9_pointerOf_L10, h.1.1, e, if_pos (Int.le_refl _)])
    have q := rkn_b (m := m) (sl := sl) (i := i) (j := j)
    rw [G9_pointerOf_L10, h.1.1, e, if_neg (by omega), c_rank h hi e hs h12 hin hj, x_b1s, g11_hold (R32n (by omega)) (by omega), x_b1s, ib_nat, n_inc (by omega), ptg_s]
    cases hb : v.testBit j with
    | false => rw [if_neg Bool.false_ne_true, if_pos rfl, x_b2s, if_neg Bool.false_ne_true]
    | true =>
      rw [if_pos rfl, if_neg (by decide), if_pos rfl]
      by_cases z : ptg m sl v i j = -1
      · rw [if_pos z, if_pos z, if_pos z, if_neg (show ¬ (1000000 : Int) ≤ rkn 12 m sl i j by omega), x_b2s, if_neg (show ¬ (j : Int) = -1 by omega), if_neg (show ¬ (j : Int) = -1 by omega), Int.toNat_natCast]
      · rw [if_neg z, if_neg z, if_neg z]
        by_cases y : rkn 12 m sl i (ptg m sl v i j).toNat ≤ rkn 12 m sl i j
        · rw [if_pos y, if_pos y, x_b2s, if_neg z, if_neg z]
        · rw [if_neg y, if_neg y, x_b2s, if_neg (show ¬ (j : Int) = -1 by omega), if_neg (show ¬ (j : Int) = -1 by omega), Int.toNat_natCast]
  rw [G9_pointerOf, w, x_b1s, if_neg hne]
theorem r_points (hi : Iv (S 1)) (hn : n ≤ 7) (e : S 1 3 = (n : Int)) (hs : ∀ p, p < n → S 1 (18 + 8 * p) = (sl p : Int)) (h12 : ∀ p, p < n → sl p < 12) (hin : i < n) (hv : v < 128) : G12_pointsTo (i : Int) (v : Int) S = some (ptg (S 1) sl v i n) := by
  have w : whl xFU (G12_pointsTo_L5 (i : Int) (v : Int) S) (-1, 0) = some (ptg (S 1) sl v i n) := by
    refine w_run (fun j => (ptg (S 1) sl v i j, (j : Int))) n (by unfold xFU; omega) (fun j hj => ?_) (by rw [G12_pointsTo_L5, e, if_pos (Int.le_refl _)])
    rw [G12_pointsTo_L5, e, if_neg (by omega), g12_isOf (R32n (by omega)) (by omega), x_b1s, ib_nat, n_inc (by omega), ptg_s]
    cases hb : v.testBit j with
    | false => rw [if_neg Bool.false_ne_true, if_pos rfl, x_b1s, if_neg Bool.false_ne_true]
    | true =>
      rw [if_pos rfl, if_neg (by decide), if_pos rfl]
      rcases ptg_in (m := S 1) (sl := sl) (v := v) (i := i) j with ⟨z, _⟩ | ⟨q, q1, q2, _⟩
      · rw [if_pos z, if_pos z, x_b1s]
      · rw [q2, if_neg (by omega), if_neg (by omega), Int.toNat_natCast, g12_of2 (by omega), x_b1s, hs j hj, r_pains hi hn e hs h12 hin hj, x_b1s, g12_of2 (by omega), x_b1s, hs q (by omega), r_pains hi hn e hs h12 hin (by omega), x_b1s]
        by_cases y : rkn 12 (S 1) sl i q ≤ rkn 12 (S 1) sl i j
        · rw [if_pos (rkn_le.mpr y), if_pos y, x_b1s]
        · rw [if_neg (fun w => y (rkn_le.mp w)), if_neg y, x_b1s]
  rw [G12_pointsTo, w, x_b1s]
end PTG
