/-! Odds of fog. -/
theorem x_ladd_of {a b : Int} (h : R64 (a + b)) : x_ladd a b = a + b := by
  rw [x_ladd, ← Int64.ofInt_add, x_to64 h]
theorem x_lmul_of {a b : Int} (h : R64 (a * b)) : x_lmul a b = a * b := by
  rw [x_lmul, ← Int64.ofInt_mul, x_to64 h]
theorem x_ldiv_of {a b : Int} (ha : R64 a) (hb : R64 b) (h : R64 (a.tdiv b)) : x_ldiv a b = a.tdiv b := by
  rw [x_ldiv, Int64.toInt_div, x_to64 ha, x_to64 hb]
  exact Int.bmod_eq_of_le (by have := h.1; omega) (by have := h.2; omega)
theorem x_i2l_of {a : Int} (h : R32 a) : x_i2l a = a := by
  rw [x_i2l, Int32.toInt_toInt64, x_to32 h]
theorem x_l2i_of {a : Int} (h : R32 a) : x_l2i a = a := by
  have h6 : R64 a := ⟨by have := h.1; omega, by have := h.2; omega⟩
  rw [x_l2i, Int64.toInt_toInt32, x_to64 h6]
  exact Int.bmod_eq_of_le (by have := h.1; omega) (by have := h.2; omega)
theorem n_ldiv {a b : Nat} (ha : a < 9000000000000000000) (hb : b < 9000000000000000000) : x_ldiv (a : Int) (b : Int) = ((a / b : Nat) : Int) := by
  have hd : a / b ≤ a := Nat.div_le_self a b
  have e : (a : Int).tdiv (b : Int) = ((a / b : Nat) : Int) := rfl
  have hr : R64 ((a : Int).tdiv (b : Int)) := by
    rw [e]
    generalize a / b = c at hd
    exact ⟨by omega, by omega⟩
  rw [x_ldiv_of ⟨by omega, by omega⟩ ⟨by omega, by omega⟩ hr, e]
theorem n_ladd {a b : Nat} (h : a + b < 9000000000000000000) : x_ladd (a : Int) (b : Int) = ((a + b : Nat) : Int) := by
  rw [x_ladd_of ⟨by omega, by omega⟩]; omega
theorem n_lmul {a b : Nat} (h : a * b < 9000000000000000000) : x_lmul (a : Int) (b : Int) = ((a * b : Nat) : Int) := by
  rw [x_lmul_of (by rw [← Int.natCast_mul]; exact ⟨by omega, by omega⟩), ← Int.natCast_mul]
/-- sums of counts -/
def sN (q : Nat → Nat) (n : Nat) : Nat := fo (fun p s => s + q p) 0 n
theorem sN_s {q : Nat → Nat} {n : Nat} : sN q (n + 1) = sN q n + q n := rfl
theorem sN_congr {q q' : Nat → Nat} : ∀ n, (∀ p, p < n → q p = q' p) → sN q n = sN q' n := by
  intro n
  induction n with
  | zero => intro _; rfl
  | succ n ih => intro h; rw [sN_s, sN_s, ih (fun p hp => h p (by omega)), h n (by omega)]
theorem sN_mul {q : Nat → Nat} {c : Nat} : ∀ n, sN q n * c = sN (fun p => q p * c) n := by
  intro n
  induction n with
  | zero => exact Nat.zero_mul c
  | succ n ih => rw [sN_s, sN_s, Nat.add_mul, ih]
theorem sN_plus {q q' : Nat → Nat} : ∀ n, sN q n + sN q' n = sN (fun p => q p + q' p) n := by
  intro n
  induction n with
  | zero => rfl
  | succ n ih => rw [sN_s, sN_s, sN_s, ← ih]; omega
theorem sN_split {q : Nat → Nat} {a : Nat} : ∀ n, sN q (a + n) = sN q a + sN (fun p => q (a + p)) n := by
  intro n
  induction n with
  | zero => rfl
  | succ n ih => rw [← Nat.add_assoc, sN_s, ih, sN_s, Nat.add_assoc]
theorem sN_le {q : Nat → Nat} {B : Nat} : ∀ n, (∀ p, p < n → q p ≤ B) → sN q n ≤ n * B := by
  intro n
  induction n with
  | zero => intro _; exact Nat.zero_le _
  | succ n ih => intro h; rw [sN_s, Nat.succ_mul]; exact Nat.add_le_add (ih (fun p hp => h p (by omega))) (h n (by omega))
theorem sN_mono {q : Nat → Nat} {a : Nat} : ∀ n, sN q a ≤ sN q (a + n) := by
  intro n
  rw [sN_split]; omega
/-- what comes of a fogs, k of them -/
def Dn (f h : Nat) : Nat → Nat → Nat
  | 0, k => if k = 0 then 1 else 0
  | a + 1, k => Dn f h a k * h + (if k = 0 then 0 else Dn f h a (k - 1)) * f
def Tn (f h a : Nat) (b : Int) : Nat := sN (fun k => if b ≤ (k : Int) then Dn f h a k else 0) 7
def Pn (f h a v : Nat) : Nat := fo (fun i s => s * (if v.testBit i then f else h)) 1 a
def Sn (f h a : Nat) (b : Int) : Nat := sN (fun v => if b ≤ x_bc (v : Int) then Pn f h a v else 0) (2 ^ a)
theorem pop_add : ∀ a : Nat, a < 6 → ∀ v : Nat, v < 64 → v < 2 ^ a → x_bc ((2 ^ a + v : Nat) : Int) = x_bc (v : Int) + 1 := by decide +kernel
section ODD
variable {f h : Nat}
theorem Dn_hi : ∀ a k, a < k → Dn f h a k = 0 := by
  intro a
  induction a with
  | zero => intro k hk; exact if_neg (by omega)
  | succ a ih =>
    intro k hk
    show Dn f h a k * h + (if k = 0 then 0 else Dn f h a (k - 1)) * f = 0
    rw [ih k (by omega), if_neg (by omega), ih (k - 1) (by omega), Nat.zero_mul, Nat.zero_mul]
theorem ite_mul' {P : Prop} [Decidable P] {a c : Nat} : (if P then a else 0) * c = if P then a * c else 0 := by
  by_cases z : P
  · rw [if_pos z, if_pos z]
  · rw [if_neg z, if_neg z, Nat.zero_mul]
theorem Tn_s {a : Nat} {b : Int} (ha : a ≤ 5) : Tn f h (a + 1) b = Tn f h a b * h + Tn f h a (b - 1) * f := by
  unfold Tn
  rw [sN_mul, sN_mul]
  simp only [ite_mul']
  have e6 := Dn_hi (f := f) (h := h) a 6 (by omega)
  show 0 + _ + _ + _ + _ + _ + _ + _ = (0 + _ + _ + _ + _ + _ + _ + _) + (0 + _ + _ + _ + _ + _ + _ + _)
  have d : ∀ k, Dn f h (a + 1) k = Dn f h a k * h + (if k = 0 then 0 else Dn f h a (k - 1)) * f := fun k => rfl
  dsimp only
  rw [d 0, d 1, d 2, d 3, d 4, d 5, d 6]
  simp only [Nat.reduceSub, Nat.reduceEqDiff, eq_self, reduceIte, e6, Nat.zero_mul, Nat.add_zero, Nat.succ_ne_zero]
  generalize Dn f h a 0 * h = p0
  generalize Dn f h a 1 * h = p1
  generalize Dn f h a 2 * h = p2
  generalize Dn f h a 3 * h = p3
  generalize Dn f h a 4 * h = p4
  generalize Dn f h a 5 * h = p5
  generalize Dn f h a 0 * f = q0
  generalize Dn f h a 1 * f = q1
  generalize Dn f h a 2 * f = q2
  generalize Dn f h a 3 * f = q3
  generalize Dn f h a 4 * f = q4
  generalize Dn f h a 5 * f = q5
  rcases (show b ≤ 0 ∨ b = 1 ∨ b = 2 ∨ b = 3 ∨ b = 4 ∨ b = 5 ∨ b = 6 ∨ 7 ≤ b by omega) with hb | rfl | rfl | rfl | rfl | rfl | rfl | hb
  · simp only [show b ≤ ((0 : Nat) : Int) by omega, show b ≤ ((1 : Nat) : Int) by omega, show b ≤ ((2 : Nat) : Int) by omega, show b ≤ ((3 : Nat) : Int) by omega, show b ≤ ((4 : Nat) : Int) by omega, show b ≤ ((5 : Nat) : Int) by omega, show b ≤ ((6 : Nat) : Int) by omega, show b - 1 ≤ ((0 : Nat) : Int) by omega, show b - 1 ≤ ((1 : Nat) : Int) by omega, show b - 1 ≤ ((2 : Nat) : Int) by omega, show b - 1 ≤ ((3 : Nat) : Int) by omega, show b - 1 ≤ ((4 : Nat) : Int) by omega, show b - 1 ≤ ((5 : Nat) : Int) by omega, show b - 1 ≤ ((6 : Nat) : Int) by omega, if_true]
    omega
  · simp <;> omega
  · simp <;> omega
  · simp <;> omega
  · simp <;> omega
  · simp <;> omega
  · simp <;> omega
  · simp only [show ¬ b ≤ ((0 : Nat) : Int) by omega, show ¬ b ≤ ((1 : Nat) : Int) by omega, show ¬ b ≤ ((2 : Nat) : Int) by omega, show ¬ b ≤ ((3 : Nat) : Int) by omega, show ¬ b ≤ ((4 : Nat) : Int) by omega, show ¬ b ≤ ((5 : Nat) : Int) by omega, show ¬ b ≤ ((6 : Nat) : Int) by omega, show ¬ b - 1 ≤ ((0 : Nat) : Int) by omega, show ¬ b - 1 ≤ ((1 : Nat) : Int) by omega, show ¬ b - 1 ≤ ((2 : Nat) : Int) by omega, show ¬ b - 1 ≤ ((3 : Nat) : Int) by omega, show ¬ b - 1 ≤ ((4 : Nat) : Int) by omega, show ¬ b - 1 ≤ ((5 : Nat) : Int) by omega, if_false, ite_self]
theorem Pn_c {a v c : Nat} : fo (fun i s => s * (if v.testBit i then f else h)) c a = c * Pn f h a v := by
  induction a with
  | zero => exact (Nat.mul_one c).symm
  | succ a ih =>
    show fo (fun i s => s * (if v.testBit i then f else h)) c a * _ = c * (Pn f h a v * _)
    rw [ih, Nat.mul_assoc]
theorem Pn_s {a v : Nat} : Pn f h (a + 1) v = Pn f h a v * (if v.testBit a then f else h) := rfl
theorem Pn_congr {a v w : Nat} (hh : ∀ i, i < a → v.testBit i = w.testBit i) : Pn f h a v = Pn f h a w := by
  induction a with
  | zero => rfl
  | succ a ih => rw [Pn_s, Pn_s, ih (fun i hi => hh i (by omega)), hh a (by omega)]
theorem Sn_s {a : Nat} {b : Int} (ha : a ≤ 5) : Sn f h (a + 1) b = Sn f h a b * h + Sn f h a (b - 1) * f := by
  have p6 : 2 ^ a ≤ 2 ^ 5 := Nat.pow_le_pow_right (by decide) ha
  have e2 : 2 ^ (a + 1) = 2 ^ a + 2 ^ a := by rw [Nat.pow_succ]; omega
  have hA : ∀ v : Nat, v < 2 ^ a → (if b ≤ x_bc (v : Int) then Pn f h (a + 1) v else 0) = (if b ≤ x_bc (v : Int) then Pn f h a v else 0) * h := by
    intro v hv
    rw [ite_mul', Pn_s, tb_hi (k := a) hv (Nat.le_refl _), if_neg Bool.false_ne_true]
  have hB : ∀ v : Nat, v < 2 ^ a → (if b ≤ x_bc ((2 ^ a + v : Nat) : Int) then Pn f h (a + 1) (2 ^ a + v) else 0) = (if b - 1 ≤ x_bc (v : Int) then Pn f h a v else 0) * f := by
    intro v hv
    have ht : (2 ^ a + v).testBit a = true := by rw [Nat.testBit_two_pow_add_eq, tb_hi (k := a) hv (Nat.le_refl _)]; rfl
    rw [ite_mul', pop_add a (by omega) v (by omega) hv, Pn_s, ht, if_pos rfl, Pn_congr (w := v) (fun i hi => Nat.testBit_two_pow_add_gt hi v)]
    by_cases z : b ≤ x_bc (v : Int) + 1
    · rw [if_pos z, if_pos (by omega)]
    · rw [if_neg z, if_neg (by omega)]
  unfold Sn
  rw [e2, sN_split (a := 2 ^ a) (2 ^ a), sN_mul, sN_mul]
  generalize 2 ^ a = A at *
  exact congr (congrArg HAdd.hAdd (sN_congr A hA)) (sN_congr A hB)
theorem Sn_Tn : ∀ a, a ≤ 6 → ∀ b, Sn f h a b = Tn f h a b := by
  intro a
  induction a with
  | zero =>
    intro _ b
    have e0 : x_bc ((0 : Nat) : Int) = 0 := by decide +kernel
    show 0 + (if b ≤ x_bc ((0 : Nat) : Int) then Pn f h 0 0 else 0) = 0 + _ + _ + _ + _ + _ + _ + _
    rw [e0]
    show 0 + (if b ≤ 0 then 1 else 0) = 0 + (if b ≤ ((0 : Nat) : Int) then (if 0 = 0 then 1 else 0) else 0) + (if b ≤ ((1 : Nat) : Int) then (if 1 = 0 then 1 else 0) else 0) + (if b ≤ ((2 : Nat) : Int) then (if 2 = 0 then 1 else 0) else 0) + (if b ≤ ((3 : Nat) : Int) then (if 3 = 0 then 1 else 0) else 0) + (if b ≤ ((4 : Nat) : Int) then (if 4 = 0 then 1 else 0) else 0) + (if b ≤ ((5 : Nat) : Int) then (if 5 = 0 then 1 else 0) else 0) + (if b ≤ ((6 : Nat) : Int) then (if 6 = 0 then 1 else 0) else 0)
    simp
  | succ a ih =>
    intro ha b
    rw [Sn_s (by omega), Tn_s (by omega), ih (by omega), ih (by omega)]
theorem Tn_tot (hf : f + h = 100) : ∀ a, a ≤ 6 → ∀ b : Int, b ≤ 0 → Tn f h a b = 100 ^ a := by
  intro a
  induction a with
  | zero =>
    intro _ b hb
    show 0 + (if b ≤ ((0 : Nat) : Int) then (if 0 = 0 then 1 else 0) else 0) + (if b ≤ ((1 : Nat) : Int) then (if 1 = 0 then 1 else 0) else 0) + (if b ≤ ((2 : Nat) : Int) then (if 2 = 0 then 1 else 0) else 0) + (if b ≤ ((3 : Nat) : Int) then (if 3 = 0 then 1 else 0) else 0) + (if b ≤ ((4 : Nat) : Int) then (if 4 = 0 then 1 else 0) else 0) + (if b ≤ ((5 : Nat) : Int) then (if 5 = 0 then 1 else 0) else 0) + (if b ≤ ((6 : Nat) : Int) then (if 6 = 0 then 1 else 0) else 0) = 1
    simp; omega
  | succ a ih =>
    intro ha b hb
    rw [Tn_s (by omega), ih (by omega) b hb, ih (by omega) (b - 1) (by omega), ← Nat.mul_add, Nat.add_comm h f, hf, Nat.pow_succ]
theorem Tn_mono {a : Nat} {b c : Int} (hb : c ≤ b) : Tn f h a b ≤ Tn f h a c := by
  have : ∀ n, sN (fun k => if b ≤ (k : Int) then Dn f h a k else 0) n ≤ sN (fun k => if c ≤ (k : Int) then Dn f h a k else 0) n := by
    intro n
    induction n with
    | zero => exact Nat.le_refl _
    | succ n ih =>
      rw [sN_s, sN_s]
      refine Nat.add_le_add ih ?_
      by_cases z : b ≤ (n : Int)
      · rw [if_pos z, if_pos (by omega)]; exact Nat.le_refl _
      · rw [if_neg z]; exact Nat.zero_le _
  exact this 7
theorem Dn_le (hf : f + h = 100) {a k : Nat} (ha : a ≤ 6) (hk : k < 7) : Dn f h a k ≤ 100 ^ a := by
  rw [← Tn_tot hf a ha 0 (by decide)]
  have e : ∀ n j, j < n → Dn f h a j ≤ sN (fun k => if (0 : Int) ≤ (k : Int) then Dn f h a k else 0) n := by
    intro n
    induction n with
    | zero => intro j hj; omega
    | succ n ih =>
      intro j hj
      rw [sN_s]
      by_cases z : j = n
      · subst z; rw [if_pos (by omega)]; omega
      · exact Nat.le_trans (ih j (by omega)) (by omega)
  exact e 7 k hk
theorem Pn_le (hf : f + h = 100) {a v : Nat} : Pn f h a v ≤ 100 ^ a := by
  induction a with
  | zero => exact Nat.le_refl _
  | succ a ih =>
    rw [Pn_s, Nat.pow_succ]
    refine Nat.mul_le_mul ih ?_
    by_cases z : v.testBit a = true
    · rw [if_pos z]; omega
    · rw [if_neg z]; omega
theorem p100 {a : Nat} (ha : a ≤ 6) : 100 ^ a ≤ 1000000000000 := by
  have : 100 ^ a ≤ 100 ^ 6 := Nat.pow_le_pow_right (by decide) ha
  omega
end ODD
