/-! Hours, both ways; the seed, undoing, the image and the way back. -/
section Q11
variable {X N S La Kp Lc : xU} {A : xA}
/-- the image, both ways -/
def IR (X Kp Lc S : xU) : Prop := X 0 13 = S 0 3 ∧ (S 0 3 = 0 ∨ (CR Kp (S 2) ∧ Iv (S 2) ∧ LR Lc (S 2)))
/-- hours of the class beside hours of the reference -/
theorem s_goes {d : Int} {f : (Int × Int × xU × xU) → Option ((Int × Int × xU × xU) ⊕ (Int × xU × xU))} {n : Nat} (hn : n ≤ 72)
    (hf1 : ∀ (v : Int) (j : Nat) (C La2 : xU), j < n → f (v, (j : Int), C, La2) = x_b3 (G1_passHour d C La2) fun (v13 : Int) (N14 : xU) (La15 : xU) => some (.inl ((x_add v (x_bc v13)), (x_add (j : Int) 1), N14, La15)))
    (hf2 : ∀ (v : Int) (C La2 : xU), f (v, (n : Int), C, La2) = some (.inr (v, C, La2))) (h : CR N (S 1)) (hi : Iv (S 1)) (hL : LR La (S 1)) :
    ∃ v C' La' S', whl xFU f (0, 0, N, La) = some (v, C', La') ∧ G12_goes (n : Int) d S = some (v, S') ∧ Nx La S C' La' S' := by
  obtain ⟨r1, r2, w1, w2, v, C', La', S', e1, e2, e3⟩ := w_sim (f1 := f) (f2 := G12_goes_L5 (n : Int) d)
    (fun j s1 s2 => ∃ v C2 La2 S2, s1 = (v, (j : Int), C2, La2) ∧ s2 = (v, (j : Int), S2) ∧ Nx La S C2 La2 S2) (fun r1 r2 => ∃ v C' La' S', r1 = (v, C', La') ∧ r2 = (v, S') ∧ Nx La S C' La' S')
    n (by unfold xFU; omega) (by
      rintro j s1 s2 hj ⟨v, C2, La2, S2, rfl, rfl, hN⟩
      obtain ⟨b, C3, La3, S3, g1, g2, g3, g4, g5⟩ := s_pass (d := d) hN.1 hN.2.1 (hL.mv hN.2.2.2.2.2 hN.2.2.2.2.1)
      refine ⟨(x_add v (x_bc (b : Int)), ((j + 1 : Nat) : Int), C3, La3), (x_add v (x_bc (b : Int)), ((j + 1 : Nat) : Int), S3), ?_, ?_, _, C3, La3, S3, rfl, rfl, hN.tr g4⟩
      · rw [hf1 v j C2 La2 hj, g1, x_b3s, n_inc (by omega)]
      · show (if (n : Int) ≤ (j : Int) then _ else _) = _
        rw [if_neg (by omega), g2, x_b2s, n_inc (by omega)]) (by
      rintro s1 s2 ⟨v, C2, La2, S2, rfl, rfl, hN⟩
      refine ⟨(v, C2, La2), (v, S2), hf2 v C2 La2, ?_, v, C2, La2, S2, rfl, rfl, hN⟩
      show (if (n : Int) ≤ (n : Int) then _ else _) = _
      rw [if_pos (by omega)]) (s1 := (0, 0, N, La)) (s2 := (0, 0, S)) ⟨0, N, La, S, rfl, rfl, ⟨h, hi, rfl, Kq.rf, Lw.rf, LaEq.rf⟩⟩
  subst e1
  subst e2
  refine ⟨v, C', La', S', w1, ?_, e3⟩
  rw [G12_goes, w2, x_b2s]
theorem L_hours {a : Int} (h : CR N (S 1)) (hi : Iv (S 1)) (hL : LR La (S 1)) (hA : AR X A S) : ∃ o X' N' La' A' r S', G11_hours a X N La A = some (o, X', N', La', A') ∧ G12_hours a S = some (r, S') ∧ Ag (fun _ => 1) o r S' ∧ Aft X S X' S' N' A' ∧ LaEq La La' := by
  rw [G11_hours, G12_hours, g12_isIn]
  by_cases h0 : 1 ≤ a ∧ a ≤ 72
  · rw [if_neg (show ¬ a < 1 by omega), if_pos h0.2, if_pos h0]
    obtain ⟨n, rfl⟩ := Int.eq_ofNat_of_zero_le (show 0 ≤ a by omega)
    obtain ⟨X', A', S1, e1, e2, e3, e4, e5, e6⟩ := s_rem (S := x_up S 0 0 0) (X := X) (N := N) (A := A) (by rw [x_up1]; exact h) (by rw [x_up1]; exact hi) hA.th
    have q1 : S1 1 = S 1 := (e4.1 1 (by decide) (by decide)).trans (up_o (by decide))
    have q0 : S1 0 0 = 0 := (e4.2 0 (by decide)).trans up_s
    obtain ⟨v, C', La', S', w1, w2, w3⟩ := s_goes (N := N) (La := La) (S := S1) (f := G11_hours_L27 (n : Int)) (d := 1) (n := n) (by omega) (fun v j C La2 hj => by
      show (if (n : Int) ≤ (j : Int) then _ else _) = _
      rw [if_neg (by omega)]) (fun v C La2 => by
      show (if (n : Int) ≤ (n : Int) then _ else _) = _
      rw [if_pos (by omega)]) (by rw [q1]; exact h) (by rw [q1]; exact hi) (by rw [q1]; exact hL)
    refine ⟨.inl v, X', C', La', A', v, S', ?_, ?_, ⟨w3.2.2.2.1.2.2.2.2.1.trans q0, rfl⟩, Aft.of e3 e4 w3.2.2.2.1 w3.2.2.2.2.1 w3.1 w3.2.1 e5 e6, w3.2.2.2.2.2⟩
    · rw [e1, x_b2s, w1, x_b3s]
    · simp only [x_b1s, x_b2s, x_b3s, x_tvn, x_tvs, up_s, Int.reduceEq, Int.reduceLE, reduceIte]
      rw [e2, x_b1s, w2, x_b2s]
  · rw [if_neg h0]
    refine ⟨.inr 0, X, N, La, A, 0, x_up S 0 0 1, ?_, rfl, rfl, Aft.rf h hi hA, LaEq.rf⟩
    by_cases h1 : a < 1
    · rw [if_pos h1]
    · rw [if_neg h1, if_neg (by omega)]
theorem L_seed {a : Int} (ha : R32 a) (h : CR N (S 1)) (hi : Iv (S 1)) (hA : AR X A S) : ∃ v S', G11_seed a N = some (v, x_up N 0 11 a) ∧ G12_seed a S = some (v, S') ∧ S' 0 0 = 0 ∧ Aft X S X S' (x_up N 0 11 a) A := by
  refine ⟨N 0 11, x_up (x_up S 0 0 0) 1 11 a, rfl, ?_, ?_, ?_⟩
  · rw [G12_seed, h.1.2.2.2.2.2.2.2.2, x_up1]
  · rw [up_o (by decide), up_s]
  · have := Aft.rf (t := 0) h hi hA
    refine ⟨this.1.sc (by omega), this.2.1.sc (.inr (.inr (.inr (.inr (.inr (.inr (.inr ⟨rfl, ha⟩))))))), this.2.2.1.mv Kq.m (Lw.up (by omega)), this.2.2.2.1.tr (Lw.up (by omega)), ⟨?_, ?_, ?_, ?_, ?_⟩, fun _ _ => rfl, fun _ _ _ => rfl⟩
    · rw [up_o (by decide), up_o (by decide)]
    · rw [up_o (by decide), up_o (by decide)]
    · rw [up_o (by decide), up_i (by decide)]
    · rw [up_o (by decide), up_i (by decide)]
    · exact ⟨by rw [up_o (by decide), up_i (by decide)], fun w => (w.i (by decide) (by decide)).o (by decide)⟩
theorem L_undo (h : CR N (S 1)) (hi : Iv (S 1)) (hA : AR X A S) : ∃ v X' N' S', G11_undo X N A = some (v, X', N') ∧ G12_undo S = some (v, S') ∧ S' 0 0 = 0 ∧ Aft X S X' S' N' A := by
  obtain ⟨f, a, x1, x2, x3, hf, ha, hk⟩ := id hA
  have y6 : x_up S 0 0 0 0 6 = (a : Int) := (up_i (by decide)).trans x3
  rw [G11_undo, G12_undo, y6, x2]
  cases a with
  | zero => exact ⟨0, X, N, x_up S 0 0 0, rfl, rfl, up_s, Aft.rf h hi hA⟩
  | succ a =>
    have es : x_sub ((a + 1 : Nat) : Int) 1 = (a : Int) := by rw [x_sub_of ⟨by omega, by omega⟩]; omega
    have ep : x_mod (x_add (X 0 14) (a : Int)) 12 = (((f + a) % 12 : Nat) : Int) := by
      rw [x1, n_add (by omega), x_mod]; omega
    rw [if_pos (by omega), if_neg (by omega), es, ep, Int.toNat_natCast]
    generalize hT : x_up (x_up S 0 0 0) 0 6 (a : Int) = T0
    have t4 : T0 4 = S 4 := by rw [← hT, up_o (by decide), up_o (by decide)]
    have t6 : T0 0 6 = (a : Int) := by rw [← hT, up_s]
    have to : ∀ o, o ≠ 0 → T0 o = S o := fun o ho => by rw [← hT, up_o ho, up_o ho]
    have t0 : ∀ i, i ≠ 0 → i ≠ 6 → T0 0 i = S 0 i := fun i h1 h2 => by rw [← hT, up_i h2, up_i h1]
    have t00 : T0 0 0 = 0 := by rw [← hT, up_i (by decide), up_s]
    have w : whl xFU G12_undo_L26 (0, T0) = some (rcp T0 1 0 4 (372 * a) 372) :=
      w_rcp 1 0 4 (372 * a) 372 (by decide) (by decide) (fun j hj => by
        have e0 : rcp T0 1 0 4 (372 * a) j 0 6 = (a : Int) := by rw [rcp_o (by decide)]; exact t6
        have e1 : x_add (x_mul 372 (a : Int)) (j : Int) = ((372 * a + j : Nat) : Int) := by
          rw [x_mul_of ⟨by omega, by omega⟩, x_add_of ⟨by omega, by omega⟩]; omega
        show (if (372 : Int) ≤ (j : Int) then _ else _) = _
        rw [if_neg (by omega), e0, e1, x_gd_t ⟨by omega, by omega⟩, x_gd_t ⟨by omega, by omega⟩, n_inc (by omega), Int.toNat_natCast, Int.toNat_natCast, Nat.zero_add]) rfl
    obtain ⟨g1, g2, g3, g4⟩ := hk a (by omega)
    have ec : ∀ i, i < 372 → rcp T0 1 0 4 (372 * a) 372 1 i = (fun i => S 4 (372 * a + i)) i := by
      intro i hi2
      have := rcp_in (S := T0) (o1 := 1) (b1 := 0) (o2 := 4) (b2 := 372 * a) hi2
      rw [Nat.zero_add] at this
      rw [this, t4]
    refine ⟨1, x_up X 0 15 (a : Int), x_cf N (A (6 + (f + a) % 12)), rcp T0 1 0 4 (372 * a) 372, rfl, by rw [w, x_b1s], ?_, (cf_CR g1 g2.many.2).cg g2 ec, g2.cg ec, ⟨f, a, ?_, up_s, ?_, hf, by omega, ?_⟩, ⟨?_, ?_, ?_⟩, ⟨?_, ?_, ?_, ?_, ?_, fun w => w.cg (by rw [rcp_o (by decide), t0 15 (by decide) (by decide)]) (by rw [rcp_o (by decide), t0 16 (by decide) (by decide)])⟩, fun o ho => up_o ho, fun i _ h2 => up_i h2⟩
    · rw [rcp_o (by decide), t00]
    · rw [up_i (by decide)]; exact x1
    · rw [rcp_o (by decide)]; exact t6
    · intro k hk2
      rw [rcp_o (o := 4) (by decide), t4, ec 1 (by decide), ec 2 (by decide)]
      obtain ⟨q1, q2, q3, q4⟩ := hk k (by omega)
      exact ⟨q1, q2, q3.trans g3.symm, q4.trans g4.symm⟩
    · rw [ec 1 (by decide)]; exact g3
    · rw [ec 2 (by decide)]; exact g4
    · intro k h1 h2
      rw [rcp_out (by omega), to 1 (by decide)]
    · rw [rcp_o (by decide), to 2 (by decide)]
    · rw [rcp_o (by decide), to 5 (by decide)]
    · rw [rcp_o (by decide), t0 3 (by decide) (by decide)]
    · rw [rcp_o (by decide), t0 8 (by decide) (by decide)]
    · rw [rcp_o (by decide), t0 12 (by decide) (by decide)]
theorem L_image (h : CR N (S 1)) (hi : Iv (S 1)) (hL : LR La (S 1)) (hA : AR X A S) : ∃ S', G11_image X N Kp La Lc = some (x_up X 0 13 1, x_cf Kp N, lf Lc La) ∧ G12_image S = some S' ∧ S' 0 0 = 0 ∧ S' 1 = S 1 ∧ S' 5 = S 5 ∧ S' 0 8 = S 0 8 ∧ S' 0 12 = S 0 12 ∧ (Fl S → Fl S') ∧ AR (x_up X 0 13 1) A S' ∧ IR (x_up X 0 13 1) (x_cf Kp N) (lf Lc La) S' := by
  have w : whl xFU G12_image_L7 (0, x_up S 0 0 0) = some (rcp (x_up S 0 0 0) 2 0 1 0 772) :=
    w_rcp 2 0 1 0 772 (by decide) (by decide) (fun j hj => by
      show (if (772 : Int) ≤ (j : Int) then _ else _) = _
      rw [if_neg (by omega), x_gd_t ⟨by omega, by omega⟩, x_gd_t ⟨by omega, by omega⟩, n_inc (by omega), Int.toNat_natCast, Nat.zero_add]) rfl
  have ec : ∀ i, i < 772 → x_up (rcp (x_up S 0 0 0) 2 0 1 0 772) 0 3 1 2 i = S 1 i := by
    intro i hi2
    have := rcp_in (S := x_up S 0 0 0) (o1 := 2) (b1 := 0) (o2 := 1) (b2 := 0) hi2
    rw [Nat.zero_add] at this
    rw [up_o (by decide), this, x_up1]
  refine ⟨x_up (rcp (x_up S 0 0 0) 2 0 1 0 772) 0 3 1, rfl, ?_, ?_, ?_, ?_, ?_, ?_, fun w => w.cg (by rw [up_i (by decide), rcp_o (by decide), up_i (by decide)]) (by rw [up_i (by decide), rcp_o (by decide), up_i (by decide)]), ?_, ⟨up_s.trans up_s.symm, .inr ⟨?_, ?_, ?_⟩⟩⟩
  · rw [G12_image, w, x_b1s]
  · rw [up_i (by decide), rcp_o (by decide), up_s]
  · rw [up_o (by decide), rcp_o (by decide), up_o (by decide)]
  · rw [up_o (by decide), rcp_o (by decide), up_o (by decide)]
  · rw [up_i (by decide), rcp_o (by decide), up_i (by decide)]
  · rw [up_i (by decide), rcp_o (by decide), up_i (by decide)]
  · have := hA.th (t := 0)
    obtain ⟨f, a, x1, x2, x3, hf, ha, hk⟩ := this
    refine ⟨f, a, (up_i (by decide)).trans x1, (up_i (by decide)).trans x2, ?_, hf, ha, ?_⟩
    · rw [up_i (by decide), rcp_o (by decide)]; exact x3
    · intro k hk2
      have e4 : x_up (rcp (x_up S 0 0 0) 2 0 1 0 772) 0 3 1 4 = (x_up S 0 0 0) 4 := by rw [up_o (by decide), rcp_o (by decide)]
      have e1 : x_up (rcp (x_up S 0 0 0) 2 0 1 0 772) 0 3 1 1 = (x_up S 0 0 0) 1 := by rw [up_o (by decide), rcp_o (by decide)]
      rw [e4, e1]
      exact hk k hk2
  · exact (cf_CR h hi.many.2).cg hi (fun i hi2 => ec i (by omega))
  · exact hi.cg (fun i hi2 => ec i (by omega))
  · exact hL.mv lf_La ⟨ec 1 (by decide), ec 2 (by decide), fun k _ h2 => ec k h2⟩
theorem L_back (h : CR N (S 1)) (hi : Iv (S 1)) (hL : LR La (S 1)) (hA : AR X A S) (hI : IR X Kp Lc S) : ∃ v X' N' La' S', G11_back X N Kp La Lc = some (v, X', N', La') ∧ G12_back S = some (v, S') ∧ S' 0 0 = 0 ∧ CR N' (S' 1) ∧ Iv (S' 1) ∧ LR La' (S' 1) ∧ AR X' A S' ∧ S' 2 = S 2 ∧ S' 5 = S 5 ∧ S' 0 3 = S 0 3 ∧ S' 0 8 = S 0 8 ∧ S' 0 12 = S 0 12 ∧ (Fl S → Fl S') ∧ (∀ i, i ≠ 15 → X' 0 i = X 0 i) ∧ ∀ o, o ≠ 0 → X' o = X o := by
  have y3 : x_up S 0 0 0 0 3 = S 0 3 := up_i (by decide)
  rw [G11_back, G12_back, y3, hI.1]
  by_cases h3 : S 0 3 = 0
  · rw [if_pos h3, if_pos h3]
    refine ⟨0, X, N, La, x_up S 0 0 0, rfl, rfl, up_s, by rw [x_up1]; exact h, by rw [x_up1]; exact hi, by rw [x_up1]; exact hL, hA.th, up_o (by decide), up_o (by decide), up_i (by decide), up_i (by decide), up_i (by decide), fun w => w.i (by decide) (by decide), fun _ _ => rfl, fun _ _ => rfl⟩
  · rw [if_neg h3, if_neg h3]
    obtain ⟨i1, i2, i3⟩ := hI.2.resolve_left h3
    have w : whl xFU G12_back_L16 (0, x_up S 0 0 0) = some (rcp (x_up S 0 0 0) 1 0 2 0 772) :=
      w_rcp 1 0 2 0 772 (by decide) (by decide) (fun j hj => by
        show (if (772 : Int) ≤ (j : Int) then _ else _) = _
        rw [if_neg (by omega), x_gd_t ⟨by omega, by omega⟩, x_gd_t ⟨by omega, by omega⟩, n_inc (by omega), Int.toNat_natCast, Nat.zero_add]) rfl
    have ec : ∀ i, i < 772 → x_up (rcp (x_up S 0 0 0) 1 0 2 0 772) 0 6 0 1 i = S 2 i := by
      intro i hi2
      have := rcp_in (S := x_up S 0 0 0) (o1 := 1) (b1 := 0) (o2 := 2) (b2 := 0) hi2
      rw [Nat.zero_add] at this
      rw [up_o (by decide), this, up_o (by decide)]
    obtain ⟨f, a, x1, x2, x3, hf, ha, hk⟩ := hA
    refine ⟨1, x_up X 0 15 0, x_cf N Kp, lf La Lc, x_up (rcp (x_up S 0 0 0) 1 0 2 0 772) 0 6 0, rfl, by rw [w, x_b1s], ?_, (cf_CR i1 i2.many.2).cg i2 (fun i hi2 => ec i (by omega)), i2.cg (fun i hi2 => ec i (by omega)), i3.mv lf_La ⟨ec 1 (by decide), ec 2 (by decide), fun k _ h2 => ec k h2⟩, ⟨f, 0, (up_i (by decide)).trans x1, up_s, up_s, hf, by omega, fun k hk2 => absurd hk2 (by omega)⟩, ?_, ?_, ?_, ?_, ?_, fun w => w.cg (by rw [up_i (by decide), rcp_o (by decide), up_i (by decide)]) (by rw [up_i (by decide), rcp_o (by decide), up_i (by decide)]), fun i h1 => up_i h1, fun o ho => up_o ho⟩
    · rw [up_i (by decide), rcp_o (by decide), up_s]
    · rw [up_o (by decide), rcp_o (by decide), up_o (by decide)]
    · rw [up_o (by decide), rcp_o (by decide), up_o (by decide)]
    · rw [up_i (by decide), rcp_o (by decide), up_i (by decide)]
    · rw [up_i (by decide), rcp_o (by decide), up_i (by decide)]
    · rw [up_i (by decide), rcp_o (by decide), up_i (by decide)]
end Q11
