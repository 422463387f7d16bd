/-! The state at the start. -/
section STA
variable {X T N La Kp Lc S : xU} {A : xA} {m : Nat → Int}
/-- without a law, both stride alike -/
theorem lr_no (h6 : La 0 6 = -1) (m1 : m 1 = -1) : LR La m := by
  refine ⟨h6.trans m1.symm, fun La1 C S p e1 hc hi lw hp => ?_⟩
  have h7 := hi.many
  have hm := hi.mk hp
  have s1 : S 1 1 = -1 := lw.1.trans m1
  have l6 : La1 0 6 = -1 := e1.1.2.trans h6
  obtain ⟨f, hf⟩ := Int.eq_ofNat_of_zero_le hm.1.1
  have hf16 : f < 16 := by have := hm.1.2; omega
  have hpa := hm.2.1
  have zr : ∀ (Z : xU) (i : Nat) (v : Int), x_up Z 0 i v 1 = Z 1 := fun _ _ _ => up_o (by decide)
  have of0 : ∀ Z, G12_of (p : Int) 0 Z = some (Z 1 (16 + 8 * p)) := fun Z => g12_of0 (by omega)
  have of1 : ∀ Z, G12_of (p : Int) 1 Z = some (Z 1 (17 + 8 * p)) := fun Z => g12_of1 (by omega)
  have hse : G12_seasonOf (f : Int) (x_up (x_up S 0 17 0) 0 18 0) = some (if S 1 7 = 4 then (f : Int) / 4 else S 1 7) := by
    have zq := g12_seasonOf (S := x_up (x_up S 0 17 0) 0 18 0) (f := f) (by rw [zr, zr]; exact hi) hf16
    rw [zr, zr] at zq
    exact zq
  have hsc := g1_seasonOf hc hi hf16
  have fr : Kq S (x_up (x_up S 0 17 0) 0 18 0) := ⟨rfl, rfl, rfl, rfl, rfl, rfl, rfl, rfl, rfl, fun w => (w.i (by decide) (by decide)).i (by decide) (by decide)⟩
  have er : ∀ v : Int, v = max 0 (S 1 (17 + 8 * p) - (if (if S 1 7 = 4 then (f : Int) / 4 else S 1 7) = 3 then 1 else 0)) → G12_strideOf (p : Int) S = some (v, x_up (x_up S 0 17 0) 0 18 0) := by
    intro v hv
    rw [G12_strideOf, of0, x_b1s, zr, zr, hf, hse, x_b1s, s1, if_pos rfl, of1, x_b1s, zr, zr]
    by_cases z : (if S 1 7 = 4 then (f : Int) / 4 else S 1 7) = 3
    · rw [if_pos z] at hv
      rw [if_pos z, x_b1s, x_sub_of ⟨by omega, by omega⟩, g12_greater, x_b1s, hv]
    · rw [if_neg z] at hv
      rw [if_neg z, x_b1s, x_sub_of ⟨by omega, by omega⟩, g12_greater, x_b1s, hv]
  have ec : ∀ v : Int, v = max 0 (S 1 (17 + 8 * p) - (if (if S 1 7 = 4 then (f : Int) / 4 else S 1 7) = 3 then 1 else 0)) → G4_strideOf (p : Int) C La1 = some (v, La1) := by
    intro v hv
    rw [G4_strideOf, g1_of1 hc hi hp, x_b1s, l6, if_pos rfl, g1_of0 hc hi hp, x_b1s, hf, hsc, x_b1s]
    by_cases z : (if S 1 7 = 4 then (f : Int) / 4 else S 1 7) = 3
    · rw [if_pos z] at hv
      rw [if_pos z, x_b1s, if_neg (by decide), x_sub_of ⟨by omega, by omega⟩, x_b1s, hv]
    · rw [if_neg z] at hv
      rw [if_neg z, x_b1s, if_pos rfl, x_b1s, show v = S 1 (17 + 8 * p) by omega]
  have hb : 0 ≤ max 0 (S 1 (17 + 8 * p) - (if (if S 1 7 = 4 then (f : Int) / 4 else S 1 7) = 3 then 1 else 0)) ∧ max 0 (S 1 (17 + 8 * p) - (if (if S 1 7 = 4 then (f : Int) / 4 else S 1 7) = 3 then 1 else 0)) ≤ 15 := by
    by_cases z : (if S 1 7 = 4 then (f : Int) / 4 else S 1 7) = 3
    · rw [if_pos z]; omega
    · rw [if_neg z]; omega
  exact ⟨_, La1, _, hb.1, hb.2, ec _ rfl, e1, er _ rfl, by rw [zr, zr], rfl, fr⟩
/-- the start -/
theorem gr_start (n3 : N 0 3 = 0) (n4 : N 0 4 = 0) (n5 : N 0 5 = 0) (n6 : N 0 6 = 0) (n7 : N 0 7 = 0) (n8 : N 0 8 = 4) (n9 : N 0 9 = 0) (n10 : N 0 10 = 4) (n11 : N 0 11 = 1) (nst : ∀ w, w < 4 → N 2 w = 20) (n1 : ∀ i, N 1 i = 0) (nl1 : N 3 1 = 0) (nl2 : N 3 2 = 0)
    (hLa : La 0 6 = -1) (hT : T 0 2 = 0) (hX : X 0 16 = S 0 12) (x13 : X 0 13 = 0) (x14 : X 0 14 = 0) (x15 : X 0 15 = 0)
    (z0 : S 1 0 = 0) (z1 : S 1 1 = -1) (z3 : S 1 3 = 0) (z4 : S 1 4 = 0) (z5 : S 1 5 = 0) (z6 : S 1 6 = 0) (z7 : S 1 7 = 4) (z8 : S 1 8 = 0) (z9 : S 1 9 = 4) (z10 : S 1 10 = 0) (z11 : S 1 11 = 1) (zst : ∀ w, w < 4 → S 1 (12 + w) = 20)
    (s3 : S 0 3 = 0) (s6 : S 0 6 = 0) (s8 : S 0 8 = 0) (s15 : S 0 15 = 0) (s16 : S 0 16 = 0) : GR X T N La Kp Lc A S := by
  refine ⟨⟨⟨n3.trans z3.symm, n4.trans z0.symm, n5.trans z4.symm, n6.trans z5.symm, n7.trans z6.symm, n8.trans z7.symm, n9.trans z8.symm, n10.trans z9.symm, n11.trans z11.symm⟩, fun w hw => (nst w hw).trans (zst w hw).symm, fun p k hp => absurd hp (by omega), fun p k _ _ _ _ => n1 _, nl1.trans z10.symm, 0, by decide, nl2, fun g hg => absurd hg (by omega)⟩,
    ⟨⟨⟨by omega, by omega⟩, ⟨by omega, by omega⟩, ⟨by omega, by omega⟩, ⟨by omega, by omega⟩, ⟨by omega, by omega⟩, ⟨by omega, by omega⟩, ⟨by omega, by omega⟩, ⟨by omega, by omega⟩, ⟨by omega, by omega⟩, ⟨by omega, by omega⟩⟩, fun w hw => by have := zst w hw; omega, fun p hp => absurd hp (by omega), fun g hg => absurd hg (by omega), fun p q hp => absurd hp (by omega)⟩,
    lr_no hLa z1, ⟨0, by decide, hT, s8, fun i hi => absurd hi (by omega)⟩, hX, ⟨x13.trans s3.symm, .inl s3⟩, ⟨0, 0, x14, x15, s6, by decide, by decide, fun k hk => absurd hk (by omega)⟩, .inl s15, .inl s16⟩
end STA
