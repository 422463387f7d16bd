/-! Acts: the bell, the mood, the pace, crossing, finding, filling, stalls changed; hours. -/
def Kt (S S' : xU) : Prop := S' 2 = S 2 ∧ S' 5 = S 5 ∧ S' 0 3 = S 0 3 ∧ S' 0 8 = S 0 8 ∧ S' 0 12 = S 0 12 ∧ (Fl S → Fl S')
/-- after an act: what both have -/
def Aft (X S X' S' N' : xU) (A' : xA) : Prop := CR N' (S' 1) ∧ Iv (S' 1) ∧ AR X' A' S' ∧ Lw (S 1) (S' 1) ∧ Kt S S' ∧ (∀ o, o ≠ 0 → X' o = X o) ∧ ∀ i, i ≠ 14 → i ≠ 15 → X' 0 i = X 0 i
theorem x_b1s {α β : Type} {a : α} {f : α → Option β} : x_b1 (some a) f = f a := rfl
theorem x_b2s {α1 α2 β : Type} {a : α1} {b : α2} {f : α1 → α2 → Option β} : x_b2 (some (a, b)) f = f a b := rfl
theorem x_b3s {α1 α2 α3 β : Type} {a : α1} {b : α2} {c : α3} {f : α1 → α2 → α3 → Option β} : x_b3 (some (a, b, c)) f = f a b c := rfl
theorem x_b4s {α1 α2 α3 α4 β : Type} {a : α1} {b : α2} {c : α3} {d : α4} {f : α1 → α2 → α3 → α4 → Option β} : x_b4 (some (a, b, c, d)) f = f a b c d := rfl
theorem x_tvn {α : Type} {a : Option α} {f : Nat → Option α} : x_tv none a f = a := rfl
theorem x_tvs {α : Type} {e : Nat} {a : Option α} {f : Nat → Option α} : x_tv (some e) a f = f e := rfl
section Q9
variable {X N S S1 S2 La X' N' : xU} {A A' : xA}
theorem AR.cg (h : AR X A S) (e4 : S1 4 = S 4) (e6 : S1 0 6 = S 0 6) (a1 : S1 1 1 = S 1 1) (a2 : S1 1 2 = S 1 2) : AR X A S1 := by
  obtain ⟨f, a, x1, x2, x3, hf, ha, hk⟩ := h
  refine ⟨f, a, x1, x2, e6.trans x3, hf, ha, fun k hk2 => ?_⟩
  rw [e4, a1, a2]
  exact hk k hk2
theorem AR.mv (h : AR X A S) (k : Kq S S1) (l : Lw (S 1) (S1 1)) : AR X A S1 := h.cg k.2.2.1 k.2.2.2.2.2.2.1 l.1 l.2.1
theorem AR.th {t : Int} (h : AR X A S) : AR X A (x_up S 0 0 t) := h.cg (up_o (by decide)) (up_i (by decide)) (congrFun (up_o (by decide)) _) (congrFun (up_o (by decide)) _)
theorem Aft.rf {t : Int} (h : CR N (S 1)) (hi : Iv (S 1)) (hA : AR X A S) : Aft X S X (x_up S 0 0 t) N A :=
  ⟨by rw [x_up1]; exact h, by rw [x_up1]; exact hi, hA.th, by rw [x_up1]; exact Lw.rf, ⟨up_o (by decide), up_o (by decide), up_i (by decide), up_i (by decide), up_i (by decide), fun w => w.i (by decide) (by decide)⟩, fun _ _ => rfl, fun _ _ _ => rfl⟩
theorem Aft.of {t : Int} (hA : AR X' A' S1) (hk : Kr (x_up S 0 0 t) S1) (hq : Kq S1 S2) (hl : Lw (S1 1) (S2 1)) (h : CR N' (S2 1)) (hi : Iv (S2 1)) (x1 : ∀ o, o ≠ 0 → X' o = X o) (x2 : ∀ i, i ≠ 14 → i ≠ 15 → X' 0 i = X 0 i) : Aft X S X' S2 N' A' := by
  have e1 : S1 1 = S 1 := (hk.1 1 (by decide) (by decide)).trans (up_o (by decide))
  refine ⟨h, hi, hA.mv hq hl, by rw [e1] at hl; exact hl, ⟨?_, ?_, ?_, ?_, ?_, fun w => hq.2.2.2.2.2.2.2.2.2 (w.cg ((hk.2 15 (by decide)).trans (up_i (by decide))) ((hk.2 16 (by decide)).trans (up_i (by decide))))⟩, x1, x2⟩
  · exact hq.1.trans ((hk.1 2 (by decide) (by decide)).trans (up_o (by decide)))
  · exact hq.2.2.2.1.trans ((hk.1 5 (by decide) (by decide)).trans (up_o (by decide)))
  · exact hq.2.2.2.2.2.1.trans ((hk.2 3 (by decide)).trans (up_i (by decide)))
  · exact hq.2.2.2.2.2.2.2.1.trans ((hk.2 8 (by decide)).trans (up_i (by decide)))
  · exact hq.2.2.2.2.2.2.2.2.1.trans ((hk.2 12 (by decide)).trans (up_i (by decide)))
/-- an act that puts a number into the row -/
theorem s_sets {i : Nat} {v t : Int} (h : CR N (S 1)) (hi : Iv (S 1)) (hA : AR X A S) (h2 : i < 772) :
    ∃ X' A' S1, G11_remember X N A = some (X', A') ∧ G12_sets (i : Int) v (x_up S 0 0 t) = some (S 1 i, x_up S1 1 i v) ∧ S1 1 = S 1 ∧ S1 0 0 = t ∧ AR X' A' S1 ∧ Kr (x_up S 0 0 t) S1 ∧ (∀ o, o ≠ 0 → X' o = X o) ∧ (∀ i, i ≠ 14 → i ≠ 15 → X' 0 i = X 0 i) := by
  obtain ⟨X', A', S1, e1, e2, e3, e4, e5, e6⟩ := s_rem (S := x_up S 0 0 t) (X := X) (N := N) (A := A) (by rw [x_up1]; exact h) (by rw [x_up1]; exact hi) hA.th
  have q1 : S1 1 = S 1 := (e4.1 1 (by decide) (by decide)).trans (up_o (by decide))
  refine ⟨X', A', S1, e1, ?_, q1, (e4.2 0 (by decide)).trans up_s, e3, e4, e5, e6⟩
  rw [G12_sets, e2, x_b1, Option.bind_some, x_gd_t ⟨by omega, by omega⟩, x_gd_t ⟨by omega, by omega⟩, q1]
  rfl
theorem L_bell {a : Int} (h : CR N (S 1)) (hi : Iv (S 1)) (hA : AR X A S) : ∃ o X' N' A' b S', G11_bell a X N A = some (o, X', N', A') ∧ G12_bell a S = some (b, S') ∧ Ag (fun _ => 1) o b S' ∧ Aft X S X' S' N' A' := by
  rw [G11_bell, G12_bell, g11_needFlag, g12_isFlag]
  by_cases h0 : 0 ≤ a ∧ a ≤ 15
  · rw [if_pos h0, if_pos h0]
    obtain ⟨X', A', S1, e1, e2, e3, e0, e4, e5, e6, e7⟩ := s_sets (i := 6) (v := a) (t := 0) h hi hA (by decide)
    refine ⟨.inl (N 0 7), X', x_up N 0 7 a, A', S 1 6, x_up S1 1 6 a, ?_, ?_, ⟨?_, ?_⟩, Aft.of e4 e5 Kq.m (Lw.up (by omega)) (by rw [← e3] at h; exact h.sc (by omega)) (by rw [← e3] at hi; exact hi.sc (by omega)) e6 e7⟩
    · simp only [x_b1s, x_b2s, x_tvn, x_tvs, up_s, Int.reduceEq, Int.reduceLE, reduceIte]
      rw [e1]; rfl
    · simp only [x_b1s, x_b2s, x_tvn, x_tvs, up_s, Int.reduceEq, Int.reduceLE, reduceIte]
      rw [show G12_sets 6 a (x_up S 0 0 0) = _ from e2]; rfl
    · rw [up_o (by decide), e0]
    · exact h.1.2.2.2.2.1.symm
  · rw [if_neg h0, if_neg h0]
    exact ⟨.inr 1, X, N, A, 0, x_up S 0 0 1, rfl, rfl, rfl, Aft.rf h hi hA⟩
theorem L_mood {a : Int} (h : CR N (S 1)) (hi : Iv (S 1)) (hA : AR X A S) : ∃ o X' N' A' b S', G11_mood a X N A = some (o, X', N', A') ∧ G12_mood a S = some (b, S') ∧ Ag (fun _ => 1) o b S' ∧ Aft X S X' S' N' A' := by
  rw [G11_mood, G12_mood, g11_needWithin, g12_isIn]
  by_cases h0 : 0 ≤ a ∧ a ≤ 4
  · rw [if_pos h0, if_pos h0]
    obtain ⟨X', A', S1, e1, e2, e3, e0, e4, e5, e6, e7⟩ := s_sets (i := 7) (v := a) (t := 0) h hi hA (by decide)
    refine ⟨.inl (N 0 8), X', x_up N 0 8 a, A', S 1 7, x_up S1 1 7 a, ?_, ?_, ⟨?_, ?_⟩, Aft.of e4 e5 Kq.m (Lw.up (by omega)) (by rw [← e3] at h; exact h.sc (by omega)) (by rw [← e3] at hi; exact hi.sc (by omega)) e6 e7⟩
    · simp only [x_b1s, x_b2s, x_tvn, x_tvs, up_s, Int.reduceEq, Int.reduceLE, reduceIte]
      rw [e1]; rfl
    · simp only [x_b1s, x_b2s, x_tvn, x_tvs, up_s, Int.reduceEq, Int.reduceLE, reduceIte]
      rw [show G12_sets 7 a (x_up S 0 0 0) = _ from e2]; rfl
    · rw [up_o (by decide), e0]
    · exact h.1.2.2.2.2.2.1.symm
  · rw [if_neg h0, if_neg h0]
    exact ⟨.inr 0, X, N, A, 0, x_up S 0 0 1, rfl, rfl, rfl, Aft.rf h hi hA⟩
theorem L_pace {a b : Int} (h : CR N (S 1)) (hi : Iv (S 1)) (hA : AR X A S) : ∃ o X' N' A' r S', G11_pace a b X N A = some (o, X', N', A') ∧ G12_pace a b S = some (r, S') ∧ Ag (fun E => if E = 1 then 1 else 2) o r S' ∧ Aft X S X' S' N' A' := by
  have h7 := hi.many
  rw [G11_pace, G12_pace, g11_needMonk h, g12_isMonk hi.many, g12_isIn, g11_needWithin]
  by_cases h0 : 0 ≤ a ∧ a < S 1 3
  · rw [if_pos h0, if_pos h0]
    obtain ⟨p, rfl⟩ := Int.eq_ofNat_of_zero_le h0.1
    by_cases h1 : 0 ≤ b ∧ b ≤ 8
    · rw [if_pos h1, if_pos h1]
      obtain ⟨X', A', S1, e1, e2, e3, e0, e4, e5, e6, e7⟩ := s_sets (i := 16 + 8 * p + 1) (v := b) (t := 0) h hi hA (by omega)
      refine ⟨.inl (S 1 (17 + 8 * p)), X', x_up N 1 (7 * 1 + p) b, A', S 1 (16 + 8 * p + 1), x_up S1 1 (16 + 8 * p + 1) b, ?_, ?_, ⟨?_, ?_⟩, Aft.of e4 e5 Kq.m (Lw.up (by omega)) (by rw [← e3] at h hi; exact h.put hi (by rw [e3]; exact h0.2) (by decide)) (by rw [← e3] at hi; exact hi.put (by rw [e3]; exact h0.2) (by decide) (by decide) (mku_1 (hi.mk (by rw [e3]; exact h0.2)) h1)) e6 e7⟩
      · simp only [x_b1s, x_b2s, x_tvn, x_tvs, up_s, Int.reduceEq, Int.reduceLE, reduceIte]
        rw [e1]
        simp only [x_b1s, x_b2s, x_tvn, x_tvs, up_s, Int.reduceEq, Int.reduceLE, reduceIte]
        rw [g1_of1 h hi h0.2]
        simp only [x_b1s, x_b2s, x_tvn, x_tvs, up_s, Int.reduceEq, Int.reduceLE, reduceIte]
        rw [show G1_put 1 (p : Int) b N = _ from g1_put (k := 1) (by decide) (by omega)]
        rfl
      · simp only [x_b1s, x_b2s, x_tvn, x_tvs, up_s, Int.reduceEq, Int.reduceLE, reduceIte]
        rw [show x_add (x_add 16 (x_mul 8 (p : Int))) 1 = _ from n_iy (k := 1) (by decide) (by omega), e2]; rfl
      · rw [up_o (by decide), e0]
      · rw [show 16 + 8 * p + 1 = 17 + 8 * p by omega]
    · rw [if_neg h1, if_neg h1]
      exact ⟨.inr 0, X, N, A, 0, x_up S 0 0 2, rfl, rfl, rfl, Aft.rf h hi hA⟩
  · rw [if_neg h0, if_neg h0]
    exact ⟨.inr 1, X, N, A, 0, x_up S 0 0 1, rfl, rfl, rfl, Aft.rf h hi hA⟩
theorem L_find {a : Int} (h : CR N (S 1)) (hi : Iv (S 1)) (hA : AR X A S) : ∃ o X' N' A' r S', G11_find a X N A = some (o, X', N', A') ∧ G12_find a S = some (r, S') ∧ Ag (fun E => (E : Int)) o r S' ∧ Aft X S X' S' N' A' := by
  have h7 := hi.many
  rw [G11_find, G12_find, g11_needMonk h, g12_isMonk hi.many]
  by_cases h0 : 0 ≤ a ∧ a < S 1 3
  · rw [if_pos h0, if_pos h0]
    obtain ⟨p, rfl⟩ := Int.eq_ofNat_of_zero_le h0.1
    have hm := hi.mk h0.2
    have eL : G12_isLost (p : Int) (x_up S 0 0 0) = some (if 0 < S 1 (20 + 8 * p) then 1 else 0) := by rw [g12_isLost (by omega), x_up1]
    by_cases h1 : 0 < S 1 (20 + 8 * p)
    · obtain ⟨X', A', S1, e1, e2, e3, e0, e4, e5, e6, e7⟩ := s_sets (S := x_up S 0 0 0) (i := 16 + 8 * p + 4) (v := 0) (t := 0) (by rw [x_up1]; exact h) (by rw [x_up1]; exact hi) hA.th (by omega)
      rw [x_up1] at e2 e3
      have e5' : Kr (x_up S 0 0 0) S1 := by
        rw [show x_up (x_up S 0 0 0) 0 0 0 = x_up S 0 0 0 from up_id up_s] at e5; exact e5
      refine ⟨.inl (S 1 (20 + 8 * p)), X', x_up N 1 (7 * 4 + p) 0, A', S 1 (16 + 8 * p + 4), x_up S1 1 (16 + 8 * p + 4) 0, ?_, ?_, ⟨?_, ?_⟩, Aft.of e4 e5' Kq.m (Lw.up (by omega)) (by rw [← e3] at h hi; exact h.put hi (by rw [e3]; exact h0.2) (by decide)) (by rw [← e3] at hi; exact hi.put (by rw [e3]; exact h0.2) (by decide) (by decide) (mku_4 (hi.mk (by rw [e3]; exact h0.2)) (by omega))) e6 e7⟩
      · simp only [x_b1s, x_b2s, x_tvn, x_tvs, up_s, Int.reduceEq, Int.reduceLE, reduceIte]
        rw [g1_isLost h hi h0.2, if_pos h1]
        simp only [x_b1s, x_b2s, x_tvn, x_tvs, up_s, Int.reduceEq, Int.reduceLE, reduceIte]
        rw [e1]
        simp only [x_b1s, x_b2s, x_tvn, x_tvs, up_s, Int.reduceEq, Int.reduceLE, reduceIte]
        rw [g1_of4 h hi h0.2]
        simp only [x_b1s, x_b2s, x_tvn, x_tvs, up_s, Int.reduceEq, Int.reduceLE, reduceIte]
        rw [show G1_put 4 (p : Int) 0 N = _ from g1_put (k := 4) (by decide) (by omega)]
        rfl
      · simp only [x_b1s, x_b2s, x_tvn, x_tvs, up_s, Int.reduceEq, Int.reduceLE, reduceIte]
        rw [eL, if_pos h1]
        simp only [x_b1s, x_b2s, x_tvn, x_tvs, up_s, Int.reduceEq, Int.reduceLE, reduceIte]
        rw [show x_add (x_add 16 (x_mul 8 (p : Int))) 4 = _ from n_iy (k := 4) (by decide) (by omega), e2]; rfl
      · rw [up_o (by decide), e0]
      · rw [show 16 + 8 * p + 4 = 20 + 8 * p by omega]
    · refine ⟨.inr 2, X, N, A, 0, x_up S 0 0 2, ?_, ?_, rfl, Aft.rf h hi hA⟩
      · simp only [x_b1s, x_b2s, x_tvn, x_tvs, up_s, Int.reduceEq, Int.reduceLE, reduceIte]
        rw [g1_isLost h hi h0.2, if_neg h1]; rfl
      · simp only [x_b1s, x_b2s, x_tvn, x_tvs, up_s, Int.reduceEq, Int.reduceLE, reduceIte]
        rw [eL, if_neg h1]
        have : x_up (x_up S 0 0 0) 0 0 2 = x_up S 0 0 2 := by
          funext o i
          unfold x_up
          by_cases q : o = 0 ∧ i = 0
          · rw [if_pos q, if_pos q]
          · rw [if_neg q, if_neg q, if_neg q]
        rw [← this]
        rfl
  · rw [if_neg h0, if_neg h0]
    exact ⟨.inr 1, X, N, A, 0, x_up S 0 0 1, rfl, rfl, rfl, Aft.rf h hi hA⟩
end Q9
