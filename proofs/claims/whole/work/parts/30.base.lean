/-! LAYER 3: functions against functions. Loops, numbers, bits. -/
theorem w_run {σ ρ : Type} {f : σ → Option (σ ⊕ ρ)} {r : ρ} (st : Nat → σ) (k : Nat) (hk : k < xFU) (hs : ∀ j, j < k → f (st j) = some (.inl (st (j + 1)))) (he : f (st k) = some (.inr r)) : whl xFU f (st 0) = some r :=
  whl_run st k 0 xFU hk (fun j _ h => hs j (by omega)) (by rw [Nat.zero_add]; exact he)
/-- a turn for each number below n -/
def fo {α : Type} (g : Nat → α → α) (a : α) : Nat → α
  | 0 => a
  | n + 1 => g n (fo g a n)
theorem fo_ind {α : Type} {g : Nat → α → α} {a : α} (P : Nat → α → Prop) {n : Nat} (h0 : P 0 a) (h : ∀ j x, j < n → P j x → P (j + 1) (g j x)) : ∀ k, k ≤ n → P k (fo g a k) := by
  intro k
  induction k with
  | zero => intro _; exact h0
  | succ k ih => intro hk; exact h k _ (by omega) (ih (by omega))
theorem fo_congr {α : Type} {g g' : Nat → α → α} {a : α} {n : Nat} (h : ∀ j x, j < n → g j x = g' j x) : fo g a n = fo g' a n := by
  induction n with
  | zero => rfl
  | succ n ih =>
    show g n (fo g a n) = g' n (fo g' a n)
    rw [ih (fun j x hj => h j x (by omega)), h n _ (by omega)]
theorem w_fo {σ ρ τ : Type} {f : σ → Option (σ ⊕ ρ)} {g : Nat → τ → τ} {a : τ} (em : Nat → τ → σ) (out : τ → ρ) (n : Nat) (hn : n < xFU) (P : Nat → τ → Prop) (h0 : P 0 a) (hP : ∀ j x, j < n → P j x → P (j + 1) (g j x))
    (hs : ∀ j x, j < n → P j x → f (em j x) = some (.inl (em (j + 1) (g j x)))) (he : ∀ x, P n x → f (em n x) = some (.inr (out x))) : whl xFU f (em 0 a) = some (out (fo g a n)) :=
  w_run (fun j => em j (fo g a j)) n hn (fun j hj => hs j _ hj (fo_ind P h0 hP j (by omega))) (he _ (fo_ind P h0 hP n (Nat.le_refl _)))
/-- numbers as the machine has them -/
theorem n_bv (a : Nat) : (Int32.ofInt (a : Int)).toBitVec = BitVec.ofNat 32 a := by
  show BitVec.ofInt 32 (a : Int) = _
  exact BitVec.ofInt_natCast 32 a
theorem n_eq {z : Int32} {a : Nat} (ha : a < 2147483648) (h : z.toBitVec = BitVec.ofNat 32 a) : z.toInt = (a : Int) := by
  have : z = Int32.ofInt (a : Int) := Int32.toBitVec_inj.mp (by rw [h, n_bv])
  rw [this, x_to32 ⟨by omega, by omega⟩]
theorem n_and {a b : Nat} (ha : a < 2147483648) : x_and a b = ((a &&& b : Nat) : Int) := by
  refine n_eq (Nat.lt_of_le_of_lt Nat.and_le_left ha) ?_
  rw [Int32.toBitVec_and, n_bv, n_bv, BitVec.ofNat_and]
theorem n_or {a b : Nat} (ha : a < 2147483648) (hb : b < 2147483648) : x_or a b = ((a ||| b : Nat) : Int) := by
  refine n_eq (Nat.or_lt_two_pow (n := 31) ha hb) ?_
  rw [Int32.toBitVec_or, n_bv, n_bv, BitVec.ofNat_or]
theorem n_shl1 : ∀ p : Nat, p < 31 → x_shl 1 p = ((2 ^ p : Nat) : Int) := by decide +kernel
theorem n_sl : ∀ n : Nat, n < 32 → ((Int32.ofInt (n : Int) &&& 31).toBitVec.smod 32).toNat = n := by decide +kernel
theorem z_shr {z : Int} {p : Nat} (hz : R32 z) (hp : p < 32) : x_shr z p = z >>> p := by
  show (Int32.ofInt z >>> (Int32.ofInt (p : Int) &&& 31)).toBitVec.toInt = _
  rw [Int32.toBitVec_shiftRight]
  show ((Int32.ofInt z).toBitVec.sshiftRight ((Int32.ofInt (p : Int) &&& 31).toBitVec.smod 32).toNat).toInt = _
  rw [n_sl p hp, BitVec.toInt_sshiftRight]
  show (Int32.ofInt z).toInt >>> p = _
  rw [x_to32 hz]
theorem z_and1 (z : Int) : x_and z 1 = z % 2 := by
  have h : (Int32.ofInt z &&& Int32.ofInt 1).toBitVec = BitVec.ofNat 32 ((z % 2).toNat) := by
    rw [Int32.toBitVec_and]
    apply BitVec.eq_of_toNat_eq
    rw [BitVec.toNat_and]
    show (BitVec.ofInt 32 z).toNat &&& 1 = _
    rw [BitVec.toNat_ofInt, Nat.and_one_is_mod, BitVec.toNat_ofNat]
    omega
  show (Int32.ofInt z &&& Int32.ofInt 1).toBitVec.toInt = _
  rw [h]
  rcases (show z % 2 = 0 ∨ z % 2 = 1 by omega) with q | q <;> rw [q] <;> decide
/-- whether a bit of a number is set -/
def ib (z : Int) (p : Nat) : Bool := decide ((z >>> p) % 2 = 1)
theorem ib_nat (s p : Nat) : ib (s : Int) p = s.testBit p := by
  rw [ib, Nat.testBit_eq_decide_div_mod_eq, show ((s : Int) >>> p) = ((s >>> p : Nat) : Int) from rfl, Nat.shiftRight_eq_div_pow]
  congr 1
  apply propext
  omega
theorem z_bit {z : Int} {p : Nat} (hz : R32 z) (hp : p < 32) : x_and (x_shr z p) 1 = if ib z p then 1 else 0 := by
  rw [z_shr hz hp, z_and1, ib]
  by_cases h : (z >>> p) % 2 = 1
  · simp [h]
  · simp [h]; omega
theorem g11_hold {z : Int} {p : Nat} (hz : R32 z) (hp : p < 32) : G11_holdsBit z p = some (if ib z p then 1 else 0) := by
  rw [G11_holdsBit, z_bit hz hp]
  cases ib z p <;> rfl
theorem g12_isOf {z : Int} {p : Nat} (hz : R32 z) (hp : p < 32) : G12_isOf z p = some (if ib z p then 1 else 0) := by
  rw [G12_isOf, z_bit hz hp]
  cases ib z p <;> rfl
theorem n_inc {j : Nat} (h : j < 2147483647) : x_add (j : Int) 1 = ((j + 1 : Nat) : Int) := by
  rw [x_add_of ⟨by omega, by omega⟩]; omega
theorem n_add {a b : Nat} (h : a + b < 2147483648) : x_add (a : Int) (b : Int) = ((a + b : Nat) : Int) := by
  rw [x_add_of ⟨by omega, by omega⟩]; omega
theorem R32n {a : Nat} (h : a < 2147483648) : R32 (a : Int) := ⟨by omega, by omega⟩
/-- a bit more in a set -/
theorem n_set {s p : Nat} (hs : s < 2147483648) (hp : p < 31) : x_or (s : Int) (x_shl 1 p) = ((s ||| 2 ^ p : Nat) : Int) := by
  rw [n_shl1 p hp, n_or hs (Nat.pow_lt_pow_right (by decide) hp)]
theorem n_or0 {s : Nat} (hs : s < 2147483648) : x_or (s : Int) 0 = (s : Int) := by
  have := n_or (a := s) (b := 0) hs (by decide)
  rwa [Nat.or_zero] at this
/-- one set without another -/
def dif (s t : Nat) : Nat := s ^^^ (s &&& t)
theorem dif_bit (s t i : Nat) : (dif s t).testBit i = (s.testBit i && !(t.testBit i)) := by
  rw [dif, Nat.testBit_xor, Nat.testBit_and]
  cases s.testBit i <;> cases t.testBit i <;> rfl
theorem dif_lt {s t n : Nat} (h : s < 2 ^ n) : dif s t < 2 ^ n := Nat.xor_lt_two_pow h (Nat.lt_of_le_of_lt Nat.and_le_left h)
theorem n_dif {s t : Nat} (hs : s < 2147483648) : x_and (s : Int) (x_xor (t : Int) (-1)) = ((dif s t : Nat) : Int) := by
  refine n_eq (dif_lt (n := 31) hs) ?_
  have e : Int32.ofInt (x_xor (t : Int) (-1)) = Int32.ofInt (t : Int) ^^^ Int32.ofInt (-1) := x_of32 _
  rw [e, Int32.toBitVec_and, Int32.toBitVec_xor, n_bv, n_bv]
  have e2 : (Int32.ofInt (-1)).toBitVec = BitVec.allOnes 32 := by decide
  rw [e2]
  apply BitVec.eq_of_getLsbD_eq
  intro i hi
  rw [BitVec.getLsbD_and, BitVec.getLsbD_xor, BitVec.getLsbD_ofNat, BitVec.getLsbD_ofNat, BitVec.getLsbD_ofNat, BitVec.getLsbD_allOnes, dif_bit]
  simp [hi]
theorem n_clr {s p : Nat} (hs : s < 2147483648) (hp : p < 31) : x_and (s : Int) (x_xor (x_shl 1 p) (-1)) = ((dif s (2 ^ p) : Nat) : Int) := by
  rw [n_shl1 p hp, n_dif hs]
