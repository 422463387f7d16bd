/-! A law's text as a whole; a stride by the law. -/
section LTZ
variable {n : Nat} {bt : Nat → Int}
theorem lst_id {S : xU} {p : Nat} : x_up S 0 11 (p : Int) = lst S p (S 0 17, S 0 18) := by
  show _ = x_up (x_up (x_up S 0 11 (p : Int)) 0 17 (S 0 17)) 0 18 (S 0 18)
  rw [up_id (S := x_up S 0 11 (p : Int)) (up_i (by decide)), up_id (S := x_up S 0 11 (p : Int)) (up_i (by decide))]
theorem s_lawtext (hn : n ≤ 400) :
    (∃ (N : Nat) (t : (Nat → Int) → Int × Int → Int × Int), N ≤ 12 ∧ Hlt t ∧ (∀ S c, RS n bt (sk n bt 0) 0 S c → G12_read 1 S = some ((N : Int), lst S n (t c (S 0 17, S 0 18)))) ∧ ∀ T Lb, TB n bt T → ∃ T' Lb', G5_readInto T Lb = some (-1, T', Lb') ∧ Lb' 0 6 = (N : Int) ∧ ELn t N Lb' 0 0) ∨
    ∃ f : Nat, (∀ S c, RS n bt (sk n bt 0) 0 S c → ∃ v S', G12_read 1 S = some (v, S') ∧ S' 0 12 = (f : Int) ∧ F5 S S') ∧ ∀ T Lb, TB n bt T → ∃ T' Lb', G5_readInto T Lb = some ((f : Int), T', Lb') := by
  have hq := sk_le (n := n) (bt := bt) (q := 0) (by omega)
  have hid := sk_id (n := n) (bt := bt) (sk_kA (n := n) (bt := bt) (q := 0) (by omega))
  have ref : ∀ S c, RS n bt (sk n bt 0) 0 S c → G12_read 1 S = (if (n : Int) ≤ ((sk n bt 0 : Nat) : Int) then some (0, x_up S 0 11 ((sk n bt 0 : Nat) : Int)) else whl xFU (G12_read_L23 1) (1, 0, x_up S 0 11 ((sk n bt 0 : Nat) : Int))) := by
    intro S c hS
    rw [G12_read, hS.skip hn, x_b1s, up_s, show x_up S 0 11 ((sk n bt 0 : Nat) : Int) 0 10 = (n : Int) from hS.at.1.1]
    by_cases z : (n : Int) ≤ ((sk n bt 0 : Nat) : Int)
    · rw [if_pos z, if_pos z, x_b1s, show xFU = (xFU - 1) + 1 from rfl, whl_r (by rw [G12_read_L23, if_pos rfl]), x_b2s]
    · rw [if_neg z, if_neg z, x_b1s]
      cases whl xFU (G12_read_L23 1) (1, 0, x_up S 0 11 ((sk n bt 0 : Nat) : Int)) <;> rfl
  have cls : ∀ T Lb, TB n bt T → ∃ T1 Lb1, TK n bt T1 (sk n bt 0) (-1) ∧ Lb1 0 5 = 0 ∧ Lb1 0 6 = 0 ∧ G5_readInto T Lb = x_b2 (if sk n bt 0 < n then (x_b2 (G5_readLine T1 Lb1) fun (T11 : xU) (D12 : xU) => whl (xFU - 1) G5_readInto_L6 (((0 + 1 : Nat) : Int), T11, D12)) else some (T1, Lb1)) fun (T6 : xU) (Lb7 : xU) => (some ((T6 0 7), T6, Lb7)) := by
    intro T Lb hB
    obtain ⟨T1, e1, e2⟩ := c_starts0 (b := 12) hn hB
    refine ⟨T1, x_up (x_up Lb 0 6 0) 0 5 0, e2, up_s, by rw [up_i (by decide), up_s], ?_⟩
    rw [G5_readInto, G4_clear, x_b1s]
    congr 1
    rw [show xFU = (xFU - 1) + 1 from rfl, whl, G5_readInto_L6, if_neg (by decide), e1, x_b2s]
    by_cases z : sk n bt 0 < n
    · rw [if_pos z, if_pos z, if_neg (show ¬ (1 : Int) = 0 by decide)]
      cases G5_readLine T1 (x_up (x_up Lb 0 6 0) 0 5 0) <;> rfl
    · rw [if_neg z, if_neg z, if_pos rfl]
  by_cases z : sk n bt 0 < n
  · rcases s_laws (n := n) (bt := bt) hn 11 0 (sk n bt 0) rfl hq with ⟨N, t, h1, h2, h3, h4, h5⟩ | ⟨f, h4, h5⟩
    · left
      rw [hid] at h4 h5
      refine ⟨N, t, h2, h3, ?_, ?_⟩
      · intro S c hS
        rw [ref S c hS, if_neg (by omega), show whl xFU (G12_read_L23 1) (1, 0, x_up S 0 11 ((sk n bt 0 : Nat) : Int)) = _ from h4 _ c xFU hS.at (by decide), lst_a, up_i (by decide), up_i (by decide)]
      · intro T Lb hB
        obtain ⟨T1, L1, k1, k2, k3, k4⟩ := cls T Lb hB
        obtain ⟨T', L', w1, w2, w3, w4, w5, w6⟩ := h5 T1 L1 0 (xFU - 1) k1 k2 k3 (by omega) (by decide)
        rw [k4, if_pos z, w1, x_b2s, w2]
        exact ⟨T', L', rfl, w3, w6⟩
    · right
      rw [hid] at h4 h5
      refine ⟨f, ?_, ?_⟩
      · intro S c hS
        obtain ⟨v, S', w1, w2, w3⟩ := h4 _ c xFU hS.at (by decide)
        rw [ref S c hS, if_neg (by omega)]
        exact ⟨v, S', w1, w2, (F5.u (by omega)).tr w3⟩
      · intro T Lb hB
        obtain ⟨T1, L1, k1, k2, k3, k4⟩ := cls T Lb hB
        obtain ⟨T', L', w1, w2⟩ := h5 T1 L1 (xFU - 1) k1 (by decide)
        rw [k4, if_pos z, w1, x_b2s, w2]
        exact ⟨T', L', rfl⟩
  · left
    refine ⟨0, fun _ x => x, by decide, fun _ _ h => h, ?_, ?_⟩
    · intro S c hS
      rw [ref S c hS, if_pos (by omega), show sk n bt 0 = n by omega, lst_id]
      rfl
    · intro T Lb hB
      obtain ⟨T1, L1, k1, k2, k3, k4⟩ := cls T Lb hB
      rw [k4, if_neg z, x_b2s, k1.2.2.2.2.2.2.1]
      exact ⟨T1, L1, rfl, k3, ELn.end k3⟩
end LTZ
section STR
variable {S C La : xU} {p : Nat}
theorem x_its {P : Prop} [Decidable P] {a b : Int} : (if P then some a else some b) = some (if P then a else b) := by
  by_cases h : P
  · rw [if_pos h, if_pos h]
  · rw [if_neg h, if_neg h]
/-- the reference's state before it reads the law for a monk -/
def sxs (S : xU) (a a1 a2 a3 a4 a5 a6 a7 a8 l : Int) : xU := x_up (x_up (x_up (x_up (x_up (x_up (x_up (x_up (x_up (x_up (x_up (x_up (x_up (x_up (x_up (x_up S 0 17 0) 0 18 0) 6 0 a) 6 1 a1) 6 2 a2) 6 3 a3) 6 4 a4) 6 5 a5) 6 6 a6) 0 15 a7) 0 16 a8) 0 12 (-1)) 0 9 372) 0 10 l) 0 11 0) 0 13 0
section SXS
variable {a a1 a2 a3 a4 a5 a6 a7 a8 l : Int}
theorem sxs_o {o : Nat} (h0 : o ≠ 0) (h6 : o ≠ 6) : sxs S a a1 a2 a3 a4 a5 a6 a7 a8 l o = S o := by
  unfold sxs
  rw [up_o h0, up_o h0, up_o h0, up_o h0, up_o h0, up_o h0, up_o h0, up_o h6, up_o h6, up_o h6, up_o h6, up_o h6, up_o h6, up_o h6, up_o h0, up_o h0]
theorem sxs_i {i : Nat} (h : i < 9) : sxs S a a1 a2 a3 a4 a5 a6 a7 a8 l 0 i = S 0 i := by
  unfold sxs
  rw [up_i (by omega), up_i (by omega), up_i (by omega), up_i (by omega), up_i (by omega), up_i (by omega), up_i (by omega), up_o (by decide), up_o (by decide), up_o (by decide), up_o (by decide), up_o (by decide), up_o (by decide), up_o (by decide), up_i (by omega), up_i (by omega)]
theorem sxs_6 : sxs S a a1 a2 a3 a4 a5 a6 a7 a8 l 6 0 = a ∧ sxs S a a1 a2 a3 a4 a5 a6 a7 a8 l 6 1 = a1 ∧ sxs S a a1 a2 a3 a4 a5 a6 a7 a8 l 6 2 = a2 ∧ sxs S a a1 a2 a3 a4 a5 a6 a7 a8 l 6 3 = a3 ∧ sxs S a a1 a2 a3 a4 a5 a6 a7 a8 l 6 4 = a4 ∧ sxs S a a1 a2 a3 a4 a5 a6 a7 a8 l 6 5 = a5 ∧ sxs S a a1 a2 a3 a4 a5 a6 a7 a8 l 6 6 = a6 := by
  have e : sxs S a a1 a2 a3 a4 a5 a6 a7 a8 l 6 = x_up (x_up (x_up (x_up (x_up (x_up (x_up (x_up (x_up S 0 17 0) 0 18 0) 6 0 a) 6 1 a1) 6 2 a2) 6 3 a3) 6 4 a4) 6 5 a5) 6 6 a6 6 := by
    unfold sxs
    rw [up_o (by decide), up_o (by decide), up_o (by decide), up_o (by decide), up_o (by decide), up_o (by decide), up_o (by decide)]
  rw [e]
  refine ⟨?_, ?_, ?_, ?_, ?_, ?_, up_s⟩
  · rw [up_i (by decide), up_i (by decide), up_i (by decide), up_i (by decide), up_i (by decide), up_i (by decide), up_s]
  · rw [up_i (by decide), up_i (by decide), up_i (by decide), up_i (by decide), up_i (by decide), up_s]
  · rw [up_i (by decide), up_i (by decide), up_i (by decide), up_i (by decide), up_s]
  · rw [up_i (by decide), up_i (by decide), up_i (by decide), up_s]
  · rw [up_i (by decide), up_i (by decide), up_s]
  · rw [up_i (by decide), up_s]
theorem sxs_0 : sxs S a a1 a2 a3 a4 a5 a6 a7 a8 l 0 15 = a7 ∧ sxs S a a1 a2 a3 a4 a5 a6 a7 a8 l 0 16 = a8 ∧ sxs S a a1 a2 a3 a4 a5 a6 a7 a8 l 0 12 = -1 ∧ sxs S a a1 a2 a3 a4 a5 a6 a7 a8 l 0 9 = 372 ∧ sxs S a a1 a2 a3 a4 a5 a6 a7 a8 l 0 10 = l ∧ sxs S a a1 a2 a3 a4 a5 a6 a7 a8 l 0 11 = 0 ∧ sxs S a a1 a2 a3 a4 a5 a6 a7 a8 l 0 13 = 0 ∧ sxs S a a1 a2 a3 a4 a5 a6 a7 a8 l 0 17 = 0 ∧ sxs S a a1 a2 a3 a4 a5 a6 a7 a8 l 0 18 = 0 := by
  unfold sxs
  refine ⟨?_, ?_, ?_, ?_, ?_, ?_, ?_, ?_, ?_⟩
  · rw [up_i (by decide), up_i (by decide), up_i (by decide), up_i (by decide), up_i (by decide), up_i (by decide), up_s]
  · rw [up_i (by decide), up_i (by decide), up_i (by decide), up_i (by decide), up_i (by decide), up_s]
  · rw [up_i (by decide), up_i (by decide), up_i (by decide), up_i (by decide), up_s]
  · rw [up_i (by decide), up_i (by decide), up_i (by decide), up_s]
  · rw [up_i (by decide), up_i (by decide), up_s]
  · rw [up_i (by decide), up_s]
  · rw [up_s]
  · rw [up_i (by decide), up_i (by decide), up_i (by decide), up_i (by decide), up_i (by decide), up_i (by decide), up_i (by decide), up_o (by decide), up_o (by decide), up_o (by decide), up_o (by decide), up_o (by decide), up_o (by decide), up_o (by decide), up_i (by decide), up_s]
  · rw [up_i (by decide), up_i (by decide), up_i (by decide), up_i (by decide), up_i (by decide), up_i (by decide), up_i (by decide), up_o (by decide), up_o (by decide), up_o (by decide), up_o (by decide), up_o (by decide), up_o (by decide), up_o (by decide), up_s]
end SXS
theorem r_stride (hi : Iv (S 1)) (hp : (p : Int) < S 1 3) (h1 : S 1 1 ≠ -1) :
    G12_strideOf (p : Int) S = (x_b2 (G12_read 1 (sxs S p (S 1 (16 + 8 * p)) (S 1 (17 + 8 * p)) (if S 1 7 = 4 then S 1 (16 + 8 * p) / 4 else S 1 7) (S 1 (21 + 8 * p)) (S 1 4) (S 1 (18 + 8 * p)) (if x_rem (S 1 (16 + 8 * p)) 4 = 0 then 1 else 0) (if S 1 (22 + 8 * p) ≤ 0 then 0 else 1) (if S 1 1 = 0 then 0 else S 1 2))) fun (_ : Int) (S24 : xU) => (x_b1 (if (x_up S24 0 12 (S 0 12)) 0 17 = 0 then (x_b1 (G12_of (p : Int) 1 (x_up S24 0 12 (S 0 12))) fun (v28 : Int) => (x_b1 (G12_lesser 15 (x_add v28 ((x_up S24 0 12 (S 0 12)) 0 18))) fun (v30 : Int) => (x_b1 (G12_greater 0 v30) fun (v32 : Int) => (some v32)))) else (some 0)) fun (v26 : Int) => (some (v26, (x_up S24 0 12 (S 0 12)))))) := by
  have h7 := hi.many
  obtain ⟨f, hf⟩ := Int.eq_ofNat_of_zero_le (hi.mk hp).1.1
  have hf16 : f < 16 := by have := (hi.mk hp).1.2; omega
  have e1 : ∀ (Z : xU) (i : Nat) (v : Int), x_up Z 0 i v 1 = Z 1 := fun _ _ _ => up_o (by decide)
  have e6 : ∀ (Z : xU) (i : Nat) (v : Int), x_up Z 6 i v 1 = Z 1 := fun _ _ _ => up_o (by decide)
  have of0 : ∀ Z, G12_of (p : Int) 0 Z = some (Z 1 (16 + 8 * p)) := fun Z => g12_of0 (by omega)
  have of1 : ∀ Z, G12_of (p : Int) 1 Z = some (Z 1 (17 + 8 * p)) := fun Z => g12_of1 (by omega)
  have of2 : ∀ Z, G12_of (p : Int) 2 Z = some (Z 1 (18 + 8 * p)) := fun Z => g12_of2 (by omega)
  have of5 : ∀ Z, G12_of (p : Int) 5 Z = some (Z 1 (21 + 8 * p)) := fun Z => g12_of5 (by omega)
  have of6 : ∀ Z, G12_of (p : Int) 6 Z = some (Z 1 (22 + 8 * p)) := fun Z => g12_of6 (by omega)
  have hse : G12_seasonOf (S 1 (16 + 8 * p)) (x_up (x_up S 0 17 0) 0 18 0) = some (if S 1 7 = 4 then S 1 (16 + 8 * p) / 4 else S 1 7) := by
    have := g12_seasonOf (S := x_up (x_up S 0 17 0) 0 18 0) (f := f) (by rw [e1, e1]; exact hi) hf16
    rw [e1, e1] at this
    rw [hf]; exact this
  have g15 : (if x_rem (S 1 (16 + 8 * p)) 4 = 0 then (1 : Int) else 0) = 0 ∨ (if x_rem (S 1 (16 + 8 * p)) 4 = 0 then (1 : Int) else 0) = 1 := by
    by_cases h : x_rem (S 1 (16 + 8 * p)) 4 = 0
    · rw [if_pos h]; exact .inr rfl
    · rw [if_neg h]; exact .inl rfl
  have g16 : (if S 1 (22 + 8 * p) ≤ 0 then (0 : Int) else 1) = 0 ∨ (if S 1 (22 + 8 * p) ≤ 0 then (0 : Int) else 1) = 1 := by
    by_cases h : S 1 (22 + 8 * p) ≤ 0
    · rw [if_pos h]; exact .inl rfl
    · rw [if_neg h]; exact .inr rfl
  have r12 : ∀ (a0 a1 a2 a3 a4 a5 a6 a7 a8 : Int), x_up (x_up (x_up (x_up (x_up (x_up (x_up (x_up (x_up (x_up (x_up S 0 17 0) 0 18 0) 6 0 a0) 6 1 a1) 6 2 a2) 6 3 a3) 6 4 a4) 6 5 a5) 6 6 a6) 0 15 a7) 0 16 a8 0 12 = S 0 12 := by
    intro a0 a1 a2 a3 a4 a5 a6 a7 a8
    rw [up_i (by decide), up_i (by decide), up_o (by decide), up_o (by decide), up_o (by decide), up_o (by decide), up_o (by decide), up_o (by decide), up_o (by decide), up_i (by decide), up_i (by decide)]
  rw [G12_strideOf, of0, x_b1s, e1, e1, hse, x_b1s, if_neg (by exact h1)]
  simp only [of0, of1, of2, of5, of6, x_b1s, e1, e6, x_its, r12]
  rw [x_gd_t g15, x_gd_t g16]
  rfl
end STR
