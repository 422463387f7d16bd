/-! The law's code: truths on a stack that is the bits of a number. -/
/-- a truth as a number -/
def bI (b : Bool) : Int := if b then 1 else 0
theorem bI_01 (b : Bool) : bI b = 0 ∨ bI b = 1 := by cases b <;> simp [bI]
/-- turns of a loop that goes on -/
def Sg {σ ρ : Type} (f : σ → Option (σ ⊕ ρ)) (s s' : σ) (k : Nat) : Prop := ∀ m, whl (k + m) f s = whl m f s'
section SGS
variable {σ ρ : Type} {f : σ → Option (σ ⊕ ρ)} {s s1 s2 : σ} {k k1 k2 : Nat}
theorem Sg.rf : Sg f s s 0 := fun m => by rw [Nat.zero_add]
theorem Sg.tr (h : Sg f s s1 k1) (g : Sg f s1 s2 k2) : Sg f s s2 (k1 + k2) := fun m => by rw [Nat.add_assoc, h, g]
theorem Sg.one (h : f s = some (.inl s1)) : Sg f s s1 1 := fun m => by rw [Nat.add_comm]; exact whl_l h
end SGS
theorem n_xor {a b : Nat} (ha : a < 2147483648) (hb : b < 2147483648) : x_xor a b = ((a ^^^ b : Nat) : Int) := by
  refine n_eq (Nat.xor_lt_two_pow (n := 31) ha hb) ?_
  rw [Int32.toBitVec_xor, n_bv, n_bv]
  apply BitVec.eq_of_getLsbD_eq
  intro i hi
  rw [BitVec.getLsbD_xor, BitVec.getLsbD_ofNat, BitVec.getLsbD_ofNat, BitVec.getLsbD_ofNat, Nat.testBit_xor]
  simp [hi]
theorem h2_bit {s i : Nat} {b : Bool} : (2 * s + b.toNat).testBit (i + 1) = s.testBit i := by
  rw [Nat.testBit_succ, show (2 * s + b.toNat) / 2 = s by cases b <;> simp <;> omega]
theorem h2_0 {s : Nat} {b : Bool} : (2 * s + b.toNat).testBit 0 = b := by
  rw [Nat.testBit_zero]
  cases b <;> simp <;> omega
theorem h1_bit {i : Nat} {b : Bool} : b.toNat.testBit (i + 1) = false := by
  rw [Nat.testBit_succ, show b.toNat / 2 = 0 by cases b <;> rfl, Nat.zero_testBit]
theorem h1_0 {b : Bool} : b.toNat.testBit 0 = b := by cases b <;> rfl
theorem n_b2 (b : Bool) : bI b = ((b.toNat : Nat) : Int) := by cases b <;> rfl
theorem b_lt (b : Bool) : b.toNat ≤ 1 := by cases b <;> decide
theorem k_push {s : Nat} {b : Bool} (hs : s < 1000000) : x_or (x_shl (s : Int) 1) (bI b) = ((2 * s + b.toNat : Nat) : Int) := by
  have hb := b_lt b
  rw [show x_shl (s : Int) 1 = ((s * 2 ^ 1 : Nat) : Int) from n_shl (k := 1) (by decide) (by omega), n_b2, n_or (by omega) (by omega)]
  congr 1
  apply Nat.eq_of_testBit_eq
  intro i
  rw [Nat.testBit_or, show s * 2 ^ 1 = 2 * s + false.toNat by simp; omega]
  cases i with
  | zero => rw [h2_0, h2_0, h1_0]; rfl
  | succ i => rw [h2_bit, h2_bit, h1_bit, Bool.or_false]
theorem k_not {s : Nat} {b : Bool} (hs : s < 1000000) : x_xor ((2 * s + b.toNat : Nat) : Int) 1 = ((2 * s + (!b).toNat : Nat) : Int) := by
  have hb := b_lt b
  rw [show x_xor ((2 * s + b.toNat : Nat) : Int) 1 = _ from n_xor (b := 1) (by omega) (by decide)]
  congr 1
  apply Nat.eq_of_testBit_eq
  intro i
  rw [Nat.testBit_xor, show (1 : Nat) = true.toNat from rfl]
  cases i with
  | zero => rw [h2_0, h2_0, h1_0]; cases b <;> rfl
  | succ i => rw [h2_bit, h2_bit, h1_bit, Bool.xor_false]
theorem k_shr {y : Nat} {w : Bool} (hy : y < 1000000) : x_shr ((2 * y + w.toNat : Nat) : Int) 1 = (y : Int) := by
  have hb := b_lt w
  rw [show x_shr ((2 * y + w.toNat : Nat) : Int) 1 = _ from z_shr (p := 1) (R32n (by omega)) (by decide), show (((2 * y + w.toNat : Nat) : Int) >>> 1) = (((2 * y + w.toNat) >>> 1 : Nat) : Int) from rfl, Nat.shiftRight_eq_div_pow]
  congr 1
  omega
theorem k_om2 {y : Nat} {w : Bool} (hy : y < 1000000) : x_or ((2 * y + w.toNat : Nat) : Int) (-2) = (if w then -1 else -2) := by
  have e : (Int32.ofInt ((2 * y + w.toNat : Nat) : Int) ||| Int32.ofInt (-2)) = Int32.ofInt (if w then -1 else -2) := by
    apply Int32.toBitVec_inj.mp
    rw [Int32.toBitVec_or, n_bv]
    apply BitVec.eq_of_getLsbD_eq
    intro i hi
    rw [BitVec.getLsbD_or, BitVec.getLsbD_ofNat]
    have m2 : ∀ i, i < 32 → (Int32.ofInt (-2)).toBitVec.getLsbD i = decide (1 ≤ i) := by decide
    have m1 : ∀ i, i < 32 → (Int32.ofInt (-1)).toBitVec.getLsbD i = true := by decide
    rw [m2 i hi]
    cases i with
    | zero =>
      rw [h2_0]
      cases w
      · rfl
      · rfl
    | succ i =>
      cases w
      · rw [show (if false = true then (-1 : Int) else -2) = -2 from rfl, m2 _ hi]; simp
      · rw [show (if true = true then (-1 : Int) else -2) = -1 from rfl, m1 _ hi]; simp
  show (Int32.ofInt ((2 * y + w.toNat : Nat) : Int) ||| Int32.ofInt (-2)).toInt = _
  rw [e, x_to32 (by cases w <;> exact ⟨by decide, by decide⟩)]
theorem k_and {s : Nat} {v w : Bool} (hs : s < 100000) : x_and (x_shr ((2 * (2 * s + v.toNat) + w.toNat : Nat) : Int) 1) (x_or ((2 * (2 * s + v.toNat) + w.toNat : Nat) : Int) (-2)) = ((2 * s + (v && w).toNat : Nat) : Int) := by
  have hv := b_lt v
  rw [k_shr (by omega), k_om2 (by omega)]
  cases w with
  | true =>
    rw [if_pos rfl, show (-1 : Int) = x_xor ((0 : Nat) : Int) (-1) by decide, n_dif (by omega)]
    congr 1
    apply Nat.eq_of_testBit_eq
    intro i
    rw [dif_bit, Nat.zero_testBit, Bool.and_true]
    simp
  | false =>
    rw [if_neg (by decide), show (-2 : Int) = x_xor ((1 : Nat) : Int) (-1) by decide, n_dif (by omega)]
    congr 1
    apply Nat.eq_of_testBit_eq
    intro i
    rw [dif_bit, show (1 : Nat) = true.toNat from rfl]
    cases i with
    | zero => rw [h2_0, h2_0, h1_0]; simp
    | succ i => rw [h2_bit, h2_bit, h1_bit]; simp
theorem k_or {s : Nat} {v w : Bool} (hs : s < 100000) : x_or (x_shr ((2 * (2 * s + v.toNat) + w.toNat : Nat) : Int) 1) (x_and ((2 * (2 * s + v.toNat) + w.toNat : Nat) : Int) 1) = ((2 * s + (v || w).toNat : Nat) : Int) := by
  have hv := b_lt v
  have hw := b_lt w
  rw [k_shr (by omega), z_and1, show ((2 * (2 * s + v.toNat) + w.toNat : Nat) : Int) % 2 = (w.toNat : Int) by omega, n_or (by omega) (by omega)]
  congr 1
  apply Nat.eq_of_testBit_eq
  intro i
  rw [Nat.testBit_or]
  cases i with
  | zero => rw [h2_0, h2_0, h1_0]
  | succ i => rw [h2_bit, h2_bit, h1_bit, Bool.or_false]
/-- a step of the code -/
theorem z_op {a g : Nat} (ha : a < 16) (hg : g < 1000) : x_or (x_shl (g : Int) 4) (a : Int) = ((16 * g + a : Nat) : Int) ∧ x_and ((16 * g + a : Nat) : Int) 15 = (a : Int) ∧ x_shr ((16 * g + a : Nat) : Int) 4 = (g : Int) := by
  refine ⟨?_, ?_, ?_⟩
  · rw [show x_shl (g : Int) 4 = ((g * 2 ^ 4 : Nat) : Int) from n_shl (k := 4) (by decide) (by omega), n_or (by omega) (by omega)]
    congr 1
    rw [← Nat.shiftLeft_eq, ← Nat.shiftLeft_add_eq_or_of_lt ha, Nat.shiftLeft_eq]
    omega
  · rw [show x_and ((16 * g + a : Nat) : Int) 15 = _ from n_and (b := 15) (by omega)]
    congr 1
    rw [show (15 : Nat) = 2 ^ 4 - 1 from rfl, Nat.and_two_pow_sub_one_eq_mod]
    omega
  · rw [show x_shr ((16 * g + a : Nat) : Int) 4 = _ from z_shr (p := 4) (R32n (by omega)) (by decide), show (((16 * g + a : Nat) : Int) >>> 4) = (((16 * g + a) >>> 4 : Nat) : Int) from rfl, Nat.shiftRight_eq_div_pow]
    congr 1
    omega
/-- what is asked about, as the class has it -/
def Cc (c : Nat → Int) (La : xU) : Prop := (∀ i : Nat, i < 7 → La 5 i = c i ∧ R32 (c i)) ∧ c 7 = (if x_rem (La 5 1) 4 = 0 then 1 else 0) ∧ c 8 = (if La 5 7 ≤ 0 then 0 else 1)
section OPS
variable {La : xU} {b i a g : Nat} {v1 v2 v3 : Int} {c : Nat → Int}
theorem la_pre (h : La 4 i = ((16 * g + a : Nat) : Int)) (hi : i < b) (hb : b ≤ 400) (ha : a < 16) (hg : g < 1000) : G4_holds_L11 (b : Int) La (v1, v2, v3, (i : Int)) =
    x_b3 (if (a : Int) = 0 then (some (v1, (x_add v2 (g : Int)), v3)) else (if (a : Int) = 1 then (x_b1 (if (g : Int) < 0 then (some 0) else (if 8 ≤ (g : Int) then (some 0) else (x_gd ((0 : Int) ≤ (g : Int) ∧ (g : Int) < 8) (some (La 5 g))))) fun (v12 : Int) => (some (v1, (x_add v2 v12), v3))) else (if (a : Int) = 2 then (some (v1, 0, v2)) else (if (a : Int) = 3 then (x_b1 (if v2 ≤ v3 then (some 0) else (some 1)) fun (v14 : Int) => (some ((x_or (x_shl v1 1) v14), 0, v3))) else (if (a : Int) = 4 then (x_b1 (if v3 ≤ v2 then (some 0) else (some 1)) fun (v16 : Int) => (some ((x_or (x_shl v1 1) v16), 0, v3))) else (if (a : Int) = 5 then (x_b1 (if (x_rem (La 5 1) 4) = 0 then (some 1) else (some 0)) fun (v18 : Int) => (some ((x_or (x_shl v1 1) v18), v2, v3))) else (if (a : Int) = 6 then (x_b1 (if (La 5 7) ≤ 0 then (some 0) else (some 1)) fun (v20 : Int) => (some ((x_or (x_shl v1 1) v20), v2, v3))) else (if (a : Int) = 7 then (some ((x_xor v1 1), v2, v3)) else (if (a : Int) = 8 then (some ((x_and (x_shr v1 1) (x_or v1 (-2))), v2, v3)) else (some ((x_or (x_shr v1 1) (x_and v1 1)), v2, v3)))))))))))
      fun (v8 : Int) (v9 : Int) (v10 : Int) => (some (.inl (v8, v9, v10, ((i + 1 : Nat) : Int)))) := by
  obtain ⟨-, z1, z2⟩ := z_op ha hg
  rw [G4_holds_L11, if_neg (by omega), if_neg (by omega), if_neg (by omega), x_gd_t ⟨by omega, by omega⟩, x_gd_t ⟨by omega, by omega⟩, Int.toNat_natCast, h, z1, z2, n_inc (by omega), Int.toNat_natCast]
theorem la_0 (h : La 4 i = ((16 * g + 0 : Nat) : Int)) (hi : i < b) (hb : b ≤ 400) (hg : g < 1000) : G4_holds_L11 (b : Int) La (v1, v2, v3, (i : Int)) = some (.inl (v1, x_add v2 (g : Int), v3, ((i + 1 : Nat) : Int))) := by
  rw [la_pre h hi hb (by decide) hg]; rfl
theorem la_1 (h : La 4 i = ((16 * g + 1 : Nat) : Int)) (hi : i < b) (hb : b ≤ 400) (hg : g < 7) (hc : Cc c La) : G4_holds_L11 (b : Int) La (v1, v2, v3, (i : Int)) = some (.inl (v1, x_add v2 (c g), v3, ((i + 1 : Nat) : Int))) := by
  rw [la_pre h hi hb (by decide) (by omega), if_neg (by decide), if_pos (by decide), if_neg (by omega), if_neg (by omega), x_gd_t ⟨by omega, by omega⟩, (hc.1 g hg).1, x_b1s, x_b3s]
theorem la_2 (h : La 4 i = ((16 * 0 + 2 : Nat) : Int)) (hi : i < b) (hb : b ≤ 400) : G4_holds_L11 (b : Int) La (v1, v2, v3, (i : Int)) = some (.inl (v1, 0, v2, ((i + 1 : Nat) : Int))) := by
  rw [la_pre h hi hb (by decide) (by decide)]; rfl
theorem la_3 {s : Nat} (hs : s < 1000000) (h : La 4 i = ((16 * 0 + 3 : Nat) : Int)) (hi : i < b) (hb : b ≤ 400) : G4_holds_L11 (b : Int) La ((s : Int), v2, v3, (i : Int)) = some (.inl (((2 * s + (decide (v3 < v2)).toNat : Nat) : Int), 0, v3, ((i + 1 : Nat) : Int))) := by
  have e : (if v2 ≤ v3 then (some 0) else (some (1 : Int))) = some (bI (decide (v3 < v2))) := by
    by_cases z : v2 ≤ v3
    · rw [if_pos z, decide_eq_false (by omega)]; rfl
    · rw [if_neg z, decide_eq_true (by omega)]; rfl
  rw [la_pre h hi hb (by decide) (by decide), if_neg (by decide), if_neg (by decide), if_neg (by decide), if_pos (by decide), e, x_b1s, k_push hs, x_b3s]
theorem la_4 {s : Nat} (hs : s < 1000000) (h : La 4 i = ((16 * 0 + 4 : Nat) : Int)) (hi : i < b) (hb : b ≤ 400) : G4_holds_L11 (b : Int) La ((s : Int), v2, v3, (i : Int)) = some (.inl (((2 * s + (decide (v2 < v3)).toNat : Nat) : Int), 0, v3, ((i + 1 : Nat) : Int))) := by
  have e : (if v3 ≤ v2 then (some 0) else (some (1 : Int))) = some (bI (decide (v2 < v3))) := by
    by_cases z : v3 ≤ v2
    · rw [if_pos z, decide_eq_false (by omega)]; rfl
    · rw [if_neg z, decide_eq_true (by omega)]; rfl
  rw [la_pre h hi hb (by decide) (by decide), if_neg (by decide), if_neg (by decide), if_neg (by decide), if_neg (by decide), if_pos (by decide), e, x_b1s, k_push hs, x_b3s]
theorem la_5 {s : Nat} {w : Bool} (hs : s < 1000000) (h : La 4 i = ((16 * 0 + 5 : Nat) : Int)) (hi : i < b) (hb : b ≤ 400) (hc : Cc c La) (hw : c 7 = bI w) : G4_holds_L11 (b : Int) La ((s : Int), v2, v3, (i : Int)) = some (.inl (((2 * s + w.toNat : Nat) : Int), v2, v3, ((i + 1 : Nat) : Int))) := by
  have e : (if x_rem (La 5 1) 4 = 0 then (some 1) else (some (0 : Int))) = some (bI w) := by
    rw [← hw, hc.2.1]
    by_cases z : x_rem (La 5 1) 4 = 0
    · rw [if_pos z, if_pos z]
    · rw [if_neg z, if_neg z]
  rw [la_pre h hi hb (by decide) (by decide), if_neg (by decide), if_neg (by decide), if_neg (by decide), if_neg (by decide), if_neg (by decide), if_pos (by decide), e, x_b1s, k_push hs, x_b3s]
theorem la_6 {s : Nat} {w : Bool} (hs : s < 1000000) (h : La 4 i = ((16 * 0 + 6 : Nat) : Int)) (hi : i < b) (hb : b ≤ 400) (hc : Cc c La) (hw : c 8 = bI w) : G4_holds_L11 (b : Int) La ((s : Int), v2, v3, (i : Int)) = some (.inl (((2 * s + w.toNat : Nat) : Int), v2, v3, ((i + 1 : Nat) : Int))) := by
  have e : (if La 5 7 ≤ 0 then (some 0) else (some (1 : Int))) = some (bI w) := by
    rw [← hw, hc.2.2]
    by_cases z : La 5 7 ≤ 0
    · rw [if_pos z, if_pos z]
    · rw [if_neg z, if_neg z]
  rw [la_pre h hi hb (by decide) (by decide), if_neg (by decide), if_neg (by decide), if_neg (by decide), if_neg (by decide), if_neg (by decide), if_neg (by decide), if_pos (by decide), e, x_b1s, k_push hs, x_b3s]
theorem la_7 {s : Nat} {w : Bool} (hs : s < 1000000) (h : La 4 i = ((16 * 0 + 7 : Nat) : Int)) (hi : i < b) (hb : b ≤ 400) : G4_holds_L11 (b : Int) La (((2 * s + w.toNat : Nat) : Int), v2, v3, (i : Int)) = some (.inl (((2 * s + (!w).toNat : Nat) : Int), v2, v3, ((i + 1 : Nat) : Int))) := by
  rw [la_pre h hi hb (by decide) (by decide), if_neg (by decide), if_neg (by decide), if_neg (by decide), if_neg (by decide), if_neg (by decide), if_neg (by decide), if_neg (by decide), if_pos (by decide), k_not hs, x_b3s]
theorem la_8 {s : Nat} {v w : Bool} (hs : s < 100000) (h : La 4 i = ((16 * 0 + 8 : Nat) : Int)) (hi : i < b) (hb : b ≤ 400) : G4_holds_L11 (b : Int) La (((2 * (2 * s + v.toNat) + w.toNat : Nat) : Int), v2, v3, (i : Int)) = some (.inl (((2 * s + (v && w).toNat : Nat) : Int), v2, v3, ((i + 1 : Nat) : Int))) := by
  rw [la_pre h hi hb (by decide) (by decide), if_neg (by decide), if_neg (by decide), if_neg (by decide), if_neg (by decide), if_neg (by decide), if_neg (by decide), if_neg (by decide), if_neg (by decide), if_pos (by decide), k_and hs, x_b3s]
theorem la_9 {s : Nat} {v w : Bool} (hs : s < 100000) (h : La 4 i = ((16 * 0 + 9 : Nat) : Int)) (hi : i < b) (hb : b ≤ 400) : G4_holds_L11 (b : Int) La (((2 * (2 * s + v.toNat) + w.toNat : Nat) : Int), v2, v3, (i : Int)) = some (.inl (((2 * s + (v || w).toNat : Nat) : Int), v2, v3, ((i + 1 : Nat) : Int))) := by
  rw [la_pre h hi hb (by decide) (by decide), if_neg (by decide), if_neg (by decide), if_neg (by decide), if_neg (by decide), if_neg (by decide), if_neg (by decide), if_neg (by decide), if_neg (by decide), if_neg (by decide), k_or hs, x_b3s]
end OPS
/-- what an appending leaves -/
def Ex (Lb Lb' : xU) (e0 e1 : Nat) : Prop := Lb' 0 5 = (e1 : Int) ∧ (∀ i, i ≠ 5 → Lb' 0 i = Lb 0 i) ∧ (∀ o, o ≠ 0 → o ≠ 4 → Lb' o = Lb o) ∧ ∀ i, i < e0 ∨ e1 ≤ i → Lb' 4 i = Lb 4 i
theorem Ex.rf {Lb : xU} {e0 : Nat} (h : Lb 0 5 = (e0 : Int)) : Ex Lb Lb e0 e0 := ⟨h, fun _ _ => rfl, fun _ _ _ => rfl, fun _ _ => rfl⟩
theorem Ex.tr {Lb L1 L2 : xU} {e0 e1 e2 : Nat} (h : Ex Lb L1 e0 e1) (k : Ex L1 L2 e1 e2) (h1 : e0 ≤ e1) (h2 : e1 ≤ e2) : Ex Lb L2 e0 e2 :=
  ⟨k.1, fun i hi => (k.2.1 i hi).trans (h.2.1 i hi), fun o o1 o2 => (k.2.2.1 o o1 o2).trans (h.2.2.1 o o1 o2), fun i hi => (k.2.2.2 i (by omega)).trans (h.2.2.2 i (by omega))⟩
/-- a step appended -/
theorem c_step {a g e0 : Nat} {Lb : xU} (ha : a < 16) (hg : g < 1000) (h : Lb 0 5 = (e0 : Int)) (he : e0 < 400) : ∃ Lb', G4_addStep (a : Int) (g : Int) Lb = some Lb' ∧ Ex Lb Lb' e0 (e0 + 1) ∧ Lb' 4 e0 = ((16 * g + a : Nat) : Int) := by
  have e5 : x_up Lb 4 e0 ((16 * g + a : Nat) : Int) 0 5 = (e0 : Int) := by rw [up_o (by decide)]; exact h
  rw [G4_addStep, h, if_neg (by omega), if_neg (by omega), x_gd_t ⟨by omega, by omega⟩, Int.toNat_natCast, (z_op ha hg).1, e5, n_inc (by omega), x_b1s]
  refine ⟨_, rfl, ⟨up_s, fun i hi => ?_, fun o h1 h2 => ?_, fun i hi => ?_⟩, ?_⟩
  · rw [up_i hi, up_o (by decide)]
  · rw [up_o h1, up_o h2]
  · rw [up_o (by decide), up_i (by omega)]
  · rw [up_o (by decide), up_s]
/-- a step, wherever -/
theorem c_stepd {a g : Int} {Lb : xU} : ∃ Lb', G4_addStep a g Lb = some Lb' := by
  rw [G4_addStep]
  by_cases h1 : Lb 0 5 < 0
  · rw [if_pos h1]; exact ⟨_, rfl⟩
  · rw [if_neg h1]
    by_cases h2 : 400 ≤ Lb 0 5
    · rw [if_pos h2]; exact ⟨_, rfl⟩
    · rw [if_neg h2, x_gd_t ⟨by omega, by omega⟩]; exact ⟨_, rfl⟩
