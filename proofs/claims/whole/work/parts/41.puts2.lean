/-! Acts: crossing, filling, stalls changed; the seed, undoing, the image, hours. -/
section Q10
variable {X N S C S1 S2 La X' N' Kp Lc : xU} {A A' : xA}
theorem CR.pu {p k : Nat} {v : Int} (h : CR C (S 1)) (h7 : 0 ≤ S 1 3 ∧ S 1 3 ≤ 7) (hp : (p : Int) < S 1 3) (hk : k < 8) : CR (x_up C 1 (7 * k + p) v) (x_up S 1 (16 + 8 * p + k) v 1) := by
  obtain ⟨a1, a2, a3, a4, a5, n, a6, a7, a8⟩ := h
  have e3 : x_up S 1 (16 + 8 * p + k) v 1 3 = S 1 3 := up_i (by omega)
  refine ⟨?_, ?_, ?_, ?_, ?_, n, a6, ?_, ?_⟩
  · refine ⟨?_, ?_, ?_, ?_, ?_, ?_, ?_, ?_, ?_⟩ <;> rw [up_o (by decide), up_i (by omega)]
    · exact a1.1
    · exact a1.2.1
    · exact a1.2.2.1
    · exact a1.2.2.2.1
    · exact a1.2.2.2.2.1
    · exact a1.2.2.2.2.2.1
    · exact a1.2.2.2.2.2.2.1
    · exact a1.2.2.2.2.2.2.2.1
    · exact a1.2.2.2.2.2.2.2.2
  · intro w hw
    rw [up_o (by decide), up_i (by omega)]
    exact a2 w hw
  · intro p2 k2 hp2 hk2
    rw [e3] at hp2
    by_cases e : p2 = p ∧ k2 = k
    · obtain ⟨rfl, rfl⟩ := e
      rw [up_s, up_s]
    · rw [up_i (by omega), up_i (by omega)]
      exact a3 p2 k2 hp2 hk2
  · intro p2 k2 h1 hp2 h4 hk2
    rw [e3] at hp2
    rw [up_i (by omega)]
    exact a4 p2 k2 h1 hp2 h4 hk2
  · rw [up_o (by decide), up_i (by omega)]
    exact a5
  · rw [up_o (by decide)]
    exact a7
  · intro g hg
    rw [up_i (by omega)] at hg
    rw [up_o (by decide), up_i (by omega), up_i (by omega), up_i (by omega), up_i (by omega), up_i (by omega)]
    exact a8 g hg

/-- two stalls change their monks -/
theorem Iv.swap {p q : Nat} (hi : Iv (S 1)) (hp : (p : Int) < S 1 3) (hq : (q : Int) < S 1 3) (hn : p ≠ q) : Iv (x_up (x_up S 1 (16 + 8 * p + 2) (S 1 (18 + 8 * q))) 1 (16 + 8 * q + 2) (S 1 (18 + 8 * p)) 1) := by
  have h7 := hi.many
  have e : ∀ j, j ≠ 18 + 8 * p → j ≠ 18 + 8 * q → x_up (x_up S 1 (16 + 8 * p + 2) (S 1 (18 + 8 * q))) 1 (16 + 8 * q + 2) (S 1 (18 + 8 * p)) 1 j = S 1 j := fun j h1 h2 => by rw [up_i (by omega), up_i (by omega)]
  have ep : x_up (x_up S 1 (16 + 8 * p + 2) (S 1 (18 + 8 * q))) 1 (16 + 8 * q + 2) (S 1 (18 + 8 * p)) 1 (18 + 8 * p) = S 1 (18 + 8 * q) := by
    rw [up_i (by omega), show 18 + 8 * p = 16 + 8 * p + 2 by omega, up_s]
  have eq : x_up (x_up S 1 (16 + 8 * p + 2) (S 1 (18 + 8 * q))) 1 (16 + 8 * q + 2) (S 1 (18 + 8 * p)) 1 (18 + 8 * q) = S 1 (18 + 8 * p) := by
    rw [show 18 + 8 * q = 16 + 8 * q + 2 by omega, up_s]
  have hz := hi.1.2.2.2.2.2.2.2.2.2
  generalize x_up (x_up S 1 (16 + 8 * p + 2) (S 1 (18 + 8 * q))) 1 (16 + 8 * q + 2) (S 1 (18 + 8 * p)) 1 = m at *
  obtain ⟨a1, a2, a3, a4, a5⟩ := hi
  have mp := a3 p hp
  have mq := a3 q hq
  have e3 : m 3 = S 1 3 := e 3 (by omega) (by omega)
  refine ⟨?_, ?_, ?_, ?_, ?_⟩
  · rw [e3, e 0 (by omega) (by omega), e 4 (by omega) (by omega), e 5 (by omega) (by omega), e 6 (by omega) (by omega), e 7 (by omega) (by omega), e 8 (by omega) (by omega), e 9 (by omega) (by omega), e 11 (by omega) (by omega), e 10 (by omega) (by omega)]
    exact a1
  · intro w hw; rw [e _ (by omega) (by omega)]; exact a2 w hw
  · intro r hr
    rw [e3] at hr
    have mr := a3 r hr
    unfold Mk at mr mp mq ⊢
    rw [e (16 + 8 * r) (by omega) (by omega), e (17 + 8 * r) (by omega) (by omega), e (19 + 8 * r) (by omega) (by omega), e (20 + 8 * r) (by omega) (by omega), e (21 + 8 * r) (by omega) (by omega), e (22 + 8 * r) (by omega) (by omega), e (23 + 8 * r) (by omega) (by omega)]
    refine ⟨mr.1, mr.2.1, ?_, mr.2.2.2⟩
    by_cases h1 : r = p
    · subst h1; rw [ep]; exact mq.2.2.1
    · by_cases h2 : r = q
      · subst h2; rw [eq]; exact mp.2.2.1
      · rw [e _ (by omega) (by omega)]; exact mr.2.2.1
  · intro g hg
    rw [e 10 (by omega) (by omega)] at hg
    have := a4 g hg
    unfold Lg at this ⊢
    rw [e _ (by omega) (by omega), e _ (by omega) (by omega), e _ (by omega) (by omega), e _ (by omega) (by omega), e _ (by omega) (by omega)]
    exact this
  · have key : ∀ r : Nat, (r : Int) < S 1 3 → m (18 + 8 * r) = S 1 (18 + 8 * (if r = p then q else if r = q then p else r)) := by
      intro r hr
      by_cases h1 : r = p
      · subst h1; rw [ep, if_pos rfl]
      · by_cases h2 : r = q
        · subst h2; rw [eq, if_neg h1, if_pos rfl]
        · rw [if_neg h1, if_neg h2, e _ (by omega) (by omega)]
    intro r t hr ht hrt
    rw [e3] at hr ht
    rw [key r hr, key t ht] at hrt
    have hb : ∀ r : Nat, (r : Int) < S 1 3 → (((if r = p then q else if r = q then p else r) : Nat) : Int) < S 1 3 := by
      intro r hr
      by_cases h1 : r = p
      · rw [if_pos h1]; exact hq
      · by_cases h2 : r = q
        · rw [if_neg h1, if_pos h2]; exact hp
        · rw [if_neg h1, if_neg h2]; exact hr
    have := a5 _ _ (hb r hr) (hb t ht) hrt
    by_cases h1 : r = p
    · by_cases h2 : t = p
      · omega
      · rw [if_pos h1, if_neg h2] at this
        by_cases h3 : t = q
        · rw [if_pos h3] at this; omega
        · rw [if_neg h3] at this; omega
    · rw [if_neg h1] at this
      by_cases h4 : r = q
      · rw [if_pos h4] at this
        by_cases h2 : t = p
        · rw [if_pos h2] at this; omega
        · rw [if_neg h2] at this
          by_cases h3 : t = q
          · rw [if_pos h3] at this; omega
          · rw [if_neg h3] at this; omega
      · rw [if_neg h4] at this
        by_cases h2 : t = p
        · rw [if_pos h2] at this; omega
        · rw [if_neg h2] at this
          by_cases h3 : t = q
          · rw [if_pos h3] at this; omega
          · rw [if_neg h3] at this; omega
theorem g11_needTwo {a b : Int} {m : Nat → Int} (h : CR N m) : G11_needTwo a b N = some (if (0 ≤ a ∧ a < m 3) ∧ (0 ≤ b ∧ b < m 3) then (if a = b then some 0 else none) else some 1) := by
  rw [G11_needTwo, g11_needMonk h, g11_needMonk h]
  by_cases h0 : 0 ≤ a ∧ a < m 3
  · by_cases h1 : 0 ≤ b ∧ b < m 3
    · have hh : (0 ≤ a ∧ a < m 3) ∧ (0 ≤ b ∧ b < m 3) := ⟨h0, h1⟩
      rw [if_pos hh, if_pos h0, if_pos h1, x_b1s, x_tvn, x_b1s, x_tvn]
      by_cases q : a = b
      · rw [if_pos q, if_pos q]
      · rw [if_neg q, if_neg q]
    · have hh : ¬ ((0 ≤ a ∧ a < m 3) ∧ (0 ≤ b ∧ b < m 3)) := fun q => h1 q.2
      rw [if_neg hh, if_pos h0, if_neg h1]; rfl
  · have hh : ¬ ((0 ≤ a ∧ a < m 3) ∧ (0 ≤ b ∧ b < m 3)) := fun q => h0 q.1
    rw [if_neg hh, if_neg h0]; rfl
theorem g12_areTwo {a b : Int} (h : 0 ≤ S 1 3 ∧ S 1 3 ≤ 7) : G12_areTwo a b S = some (x_up S 0 0 (if (0 ≤ a ∧ a < S 1 3) ∧ (0 ≤ b ∧ b < S 1 3) then (if a = b then 2 else 0) else 1)) := by
  rw [G12_areTwo, g12_isMonk h, g12_isMonk h]
  by_cases h0 : 0 ≤ a ∧ a < S 1 3
  · by_cases h1 : 0 ≤ b ∧ b < S 1 3
    · have hh : (0 ≤ a ∧ a < S 1 3) ∧ (0 ≤ b ∧ b < S 1 3) := ⟨h0, h1⟩
      rw [if_pos hh, if_pos h0, if_pos h1]
      simp only [x_b1s, x_b2s, x_b3s, x_tvn, x_tvs, up_s, Int.reduceEq, Int.reduceLE, reduceIte]
      by_cases q : a = b
      · rw [if_pos q, if_pos q, x_b1s]
      · rw [if_neg q, if_neg q, x_b1s]
    · have hh : ¬ ((0 ≤ a ∧ a < S 1 3) ∧ (0 ≤ b ∧ b < S 1 3)) := fun q => h1 q.2
      rw [if_neg hh, if_pos h0, if_neg h1]
      simp only [x_b1s, x_b2s, x_b3s, x_tvn, x_tvs, up_s, Int.reduceEq, Int.reduceLE, reduceIte]
  · have hh : ¬ ((0 ≤ a ∧ a < S 1 3) ∧ (0 ≤ b ∧ b < S 1 3)) := fun q => h0 q.1
    rw [if_neg hh, if_neg h0]
    simp only [x_b1s, x_b2s, x_b3s, x_tvn, x_tvs, up_s, Int.reduceEq, Int.reduceLE, reduceIte]
theorem L_change {a b : Int} (h : CR N (S 1)) (hi : Iv (S 1)) (hA : AR X A S) : ∃ o X' N' A' r S', G11_change a b X N A = some (o, X', N', A') ∧ G12_change a b S = some (r, S') ∧ Ag (fun E => if E = 1 then 1 else 2) o r S' ∧ Aft X S X' S' N' A' := by
  have h7 := hi.many
  rw [G11_change, G12_change, g11_needTwo h, g12_areTwo h7]
  by_cases h0 : (0 ≤ a ∧ a < S 1 3) ∧ (0 ≤ b ∧ b < S 1 3)
  · rw [if_pos h0, if_pos h0]
    by_cases hq : a = b
    · rw [if_pos hq, if_pos hq]
      exact ⟨.inr 0, X, N, A, 0, x_up S 0 0 2, rfl, rfl, rfl, Aft.rf h hi hA⟩
    · rw [if_neg hq, if_neg hq]
      obtain ⟨p, rfl⟩ := Int.eq_ofNat_of_zero_le h0.1.1
      obtain ⟨q, rfl⟩ := Int.eq_ofNat_of_zero_le h0.2.1
      obtain ⟨X', A', S1, e1, e2, e3, e0, e4, e5, e6, e7⟩ := s_sets (i := 16 + 8 * p + 2) (v := S 1 (18 + 8 * q)) (t := 0) h hi hA (by omega)
      have hn : p ≠ q := fun z => hq (by rw [z])
      have c1 : CR (x_up N 1 (7 * 2 + p) (S 1 (18 + 8 * q))) (x_up S1 1 (16 + 8 * p + 2) (S 1 (18 + 8 * q)) 1) := by
        rw [← e3] at h; exact h.pu (by rw [e3]; exact h7) (by rw [e3]; exact h0.1.2) (by decide)
      have e33 : x_up S1 1 (16 + 8 * p + 2) (S 1 (18 + 8 * q)) 1 3 = S 1 3 := by rw [up_i (by omega), e3]
      have c2 : CR (x_up (x_up N 1 (7 * 2 + p) (S 1 (18 + 8 * q))) 1 (7 * 2 + q) (S 1 (18 + 8 * p))) (x_up (x_up S1 1 (16 + 8 * p + 2) (S 1 (18 + 8 * q))) 1 (16 + 8 * q + 2) (S 1 (18 + 8 * p)) 1) :=
        c1.pu (by rw [e33]; exact h7) (by rw [e33]; exact h0.2.2) (by decide)
      have i2 : Iv (x_up (x_up S1 1 (16 + 8 * p + 2) (S 1 (18 + 8 * q))) 1 (16 + 8 * q + 2) (S 1 (18 + 8 * p)) 1) := by
        have := Iv.swap (S := S1) (p := p) (q := q) (by rw [e3]; exact hi) (by rw [e3]; exact h0.1.2) (by rw [e3]; exact h0.2.2) hn
        rw [e3] at this; exact this
      refine ⟨.inl (S 1 (18 + 8 * q)), X', _, A', S 1 (18 + 8 * q), x_up (x_up S1 1 (16 + 8 * p + 2) (S 1 (18 + 8 * q))) 1 (16 + 8 * q + 2) (S 1 (18 + 8 * p)), ?_, ?_, ⟨?_, rfl⟩, Aft.of e4 e5 (Kq.m.tr Kq.m) ((Lw.up (by omega)).tr (Lw.up (by omega))) c2 i2 e6 e7⟩
      · simp only [x_b1s, x_b2s, x_b3s, x_tvn, x_tvs, up_s, Int.reduceEq, Int.reduceLE, reduceIte]
        rw [e1, x_b2s, g1_of2 h hi h0.1.2, x_b1s, g1_of2 h hi h0.2.2, x_b1s, show G1_put 2 (p : Int) (S 1 (18 + 8 * q)) N = _ from g1_put (k := 2) (by decide) (by omega), x_b1s, show G1_put 2 (q : Int) (S 1 (18 + 8 * p)) _ = _ from g1_put (k := 2) (by decide) (by omega), x_b1s]
        rw [show G1_of 2 (p : Int) _ = _ from g1_of (k := 2) (p := p) (by decide) (by omega), x_b1s, up_i (by omega), up_s]
      · simp only [x_b1s, x_b2s, x_b3s, x_tvn, x_tvs, up_s, Int.reduceEq, Int.reduceLE, reduceIte]
        rw [g12_of2 (by omega), x_up1, x_b1s, show x_add (x_add 16 (x_mul 8 (p : Int))) 2 = _ from n_iy (k := 2) (by decide) (by omega), e2, x_b2s, show S 1 (16 + 8 * p + 2) = S 1 (18 + 8 * p) by congr 1; omega, show G12_lays (q : Int) 2 (S 1 (18 + 8 * p)) _ = _ from g12_lays (k := 2) (by decide) (by omega), x_b1s, g12_of2 (by omega), x_b1s, up_i (by omega), show 18 + 8 * p = 16 + 8 * p + 2 by omega, up_s]
      · rw [up_o (by decide), up_o (by decide), e0]
  · rw [if_neg h0, if_neg h0]
    exact ⟨.inr 1, X, N, A, 0, x_up S 0 0 1, rfl, rfl, rfl, Aft.rf h hi hA⟩
theorem L_cross {a : Int} (h : CR N (S 1)) (hi : Iv (S 1)) (hA : AR X A S) : ∃ o X' N' A' r S', G11_cross a X N A = some (o, X', N', A') ∧ G12_cross a S = some (r, S') ∧ Ag (fun E => (E : Int)) o r S' ∧ Aft X S X' S' N' A' := by
  have h7 := hi.many
  rw [G11_cross, G12_cross, g11_needMonk h, g12_isMonk hi.many]
  by_cases h0 : 0 ≤ a ∧ a < S 1 3
  · rw [if_pos h0, if_pos h0]
    obtain ⟨p, rfl⟩ := Int.eq_ofNat_of_zero_le h0.1
    have hm := hi.mk h0.2
    have h9 := hi.1.2.2.2.2.2.2.2.1
    have eL : G12_isLost (p : Int) (x_up S 0 0 0) = some (if 0 < S 1 (20 + 8 * p) then 1 else 0) := by rw [g12_isLost (by omega), x_up1]
    have u0 : x_up (x_up S 0 0 0) 0 0 0 = x_up S 0 0 0 := up_id up_s
    by_cases h1 : 0 < S 1 (20 + 8 * p)
    · refine ⟨.inr 2, X, N, A, 0, x_up S 0 0 2, ?_, ?_, rfl, Aft.rf h hi hA⟩
      · simp only [x_b1s, x_b2s, x_b3s, x_tvn, x_tvs, up_s, Int.reduceEq, Int.reduceLE, reduceIte]
        rw [g1_isLost h hi h0.2, if_pos h1]; rfl
      · simp only [x_b1s, x_b2s, x_b3s, x_tvn, x_tvs, up_s, Int.reduceEq, Int.reduceLE, reduceIte]
        rw [eL, if_pos h1]
        have : x_up (x_up S 0 0 0) 0 0 2 = x_up S 0 0 2 := by
          funext o i
          unfold x_up
          by_cases q : o = 0 ∧ i = 0
          · rw [if_pos q, if_pos q]
          · rw [if_neg q, if_neg q, if_neg q]
        rw [← this]
        rfl
    · obtain ⟨X', A', S1, e1, e2, e3, e0, e4, e5, e6, e7⟩ := s_sets (i := 16 + 8 * p + 4) (v := S 1 9) (t := 0) h hi hA (by omega)
      obtain ⟨f, hf⟩ := Int.eq_ofNat_of_zero_le hm.1.1
      have hm0 := mk_0 hi h0.2
      have hh : N 0 10 = S 1 9 := h.1.2.2.2.2.2.2.2.1
      have ef : x_rem (x_add (S 1 (16 + 8 * p)) 8) 16 = (((f + 8) % 16 : Nat) : Int) := by
        rw [hf, show x_add (f : Int) 8 = ((f + 8 : Nat) : Int) from n_add (b := 8) (by omega), x_rem_pos (R32n (by omega)) ⟨by decide, by decide⟩ (by decide) (by omega)]; omega
      have c1 : CR (x_up N 1 (7 * 4 + p) (S 1 9)) (x_up S1 1 (16 + 8 * p + 4) (S 1 9) 1) := by
        rw [← e3] at h; exact h.pu (by rw [e3]; exact h7) (by rw [e3]; exact h0.2) (by decide)
      have i1 : Iv (x_up S1 1 (16 + 8 * p + 4) (S 1 9) 1) := by
        rw [← e3] at hi; exact hi.put (by rw [e3]; exact h0.2) (by decide) (by decide) (mku_4 (hi.mk (by rw [e3]; exact h0.2)) h9)
      have e33 : x_up S1 1 (16 + 8 * p + 4) (S 1 9) 1 3 = S 1 3 := by rw [up_i (by omega), e3]
      have c2 : CR (x_up (x_up N 1 (7 * 0 + p) (((f + 8) % 16 : Nat) : Int)) 1 (7 * 4 + p) (S 1 9)) (x_up (x_up S1 1 (16 + 8 * p + 4) (S 1 9)) 1 (16 + 8 * p + 0) (((f + 8) % 16 : Nat) : Int) 1) := by
        rw [up_comm (by omega)]
        exact c1.pu (by rw [e33]; exact h7) (by rw [e33]; exact h0.2) (by decide)
      have i2 : Iv (x_up (x_up S1 1 (16 + 8 * p + 4) (S 1 9)) 1 (16 + 8 * p + 0) (((f + 8) % 16 : Nat) : Int) 1) :=
        i1.put (by rw [e33]; exact h0.2) (by decide) (by decide) (mku_0 (i1.mk (by rw [e33]; exact h0.2)) ⟨by omega, by omega⟩)
      refine ⟨.inl (((f + 8) % 16 : Nat) : Int), X', _, A', (((f + 8) % 16 : Nat) : Int), x_up (x_up S1 1 (16 + 8 * p + 4) (S 1 9)) 1 (16 + 8 * p + 0) (((f + 8) % 16 : Nat) : Int), ?_, ?_, ⟨?_, rfl⟩, Aft.of e4 e5 (Kq.m.tr Kq.m) ((Lw.up (by omega)).tr (Lw.up (by omega))) c2 i2 e6 e7⟩
      · simp only [x_b1s, x_b2s, x_b3s, x_tvn, x_tvs, up_s, Int.reduceEq, Int.reduceLE, reduceIte]
        rw [g1_isLost h hi h0.2, if_neg h1]
        simp only [x_b1s, x_b2s, x_b3s, x_tvn, x_tvs, up_s, Int.reduceEq, Int.reduceLE, reduceIte]
        rw [e1, x_b2s, g1_of0 h hi h0.2, x_b1s, ef, show G1_put 0 (p : Int) _ N = _ from g1_put (k := 0) (by decide) (by omega), x_b1s, show x_up N 1 (7 * 0 + p) (((f + 8) % 16 : Nat) : Int) 0 10 = S 1 9 by rw [up_o (by decide), hh], show G1_put 4 (p : Int) (S 1 9) _ = _ from g1_put (k := 4) (by decide) (by omega), x_b1s]
        rw [show G1_of 0 (p : Int) _ = _ from g1_of (k := 0) (p := p) (by decide) (by omega), x_b1s, up_i (by omega), up_s]
      · simp only [x_b1s, x_b2s, x_b3s, x_tvn, x_tvs, up_s, Int.reduceEq, Int.reduceLE, reduceIte]
        rw [eL, if_neg h1]
        simp only [x_b1s, x_b2s, x_b3s, x_tvn, x_tvs, up_s, Int.reduceEq, Int.reduceLE, reduceIte]
        rw [u0, x_up1, show x_add (x_add 16 (x_mul 8 (p : Int))) 4 = _ from n_iy (k := 4) (by decide) (by omega), e2, x_b2s, g12_of0 (by omega), x_b1s, show x_up S1 1 (16 + 8 * p + 4) (S 1 9) 1 (16 + 8 * p) = S 1 (16 + 8 * p) by rw [up_i (by omega), e3], ef, show G12_lays (p : Int) 0 _ _ = _ from g12_lays (k := 0) (by decide) (by omega), x_b1s, g12_of0 (by omega), x_b1s, show 16 + 8 * p = 16 + 8 * p + 0 by omega, up_s]
      · rw [up_o (by decide), up_o (by decide), e0]
  · rw [if_neg h0, if_neg h0]
    exact ⟨.inr 1, X, N, A, 0, x_up S 0 0 1, rfl, rfl, rfl, Aft.rf h hi hA⟩
theorem L_fill {a b : Int} (h : CR N (S 1)) (hi : Iv (S 1)) (hA : AR X A S) : ∃ o X' N' A' r S', G11_fill a b X N A = some (o, X', N', A') ∧ G12_fill a b S = some (r, S') ∧ Ag (fun E => if E = 1 then 1 else 2) o r S' ∧ Aft X S X' S' N' A' := by
  rw [G11_fill, G12_fill, g11_needWalk, g12_isWalk, g12_isIn]
  by_cases h0 : 0 ≤ a ∧ a ≤ 3
  · rw [if_pos h0, if_pos h0]
    obtain ⟨w, rfl⟩ := Int.eq_ofNat_of_zero_le h0.1
    have hw : w < 4 := by omega
    have hs := hi.st hw
    by_cases h1 : 1 ≤ b ∧ b ≤ 99
    · rw [if_pos h1, if_neg (show ¬ b < 1 by omega), if_pos h1.2]
      obtain ⟨X', A', S1, e1, e2, e3, e0, e4, e5, e6, e7⟩ := s_sets (i := 12 + w) (v := min 999 (S 1 (12 + w) + b)) (t := 0) h hi hA (by omega)
      have ea : x_add 12 (w : Int) = ((12 + w : Nat) : Int) := n_add (a := 12) (by omega)
      have eb : x_add (S 1 (12 + w)) b = S 1 (12 + w) + b := x_add_of ⟨by omega, by omega⟩
      refine ⟨.inl (min 999 (S 1 (12 + w) + b)), X', x_up N 2 w (min 999 (S 1 (12 + w) + b)), A', min 999 (S 1 (12 + w) + b), x_up S1 1 (12 + w) (min 999 (S 1 (12 + w) + b)), ?_, ?_, ⟨?_, rfl⟩, Aft.of e4 e5 Kq.m (Lw.up (by omega)) (by rw [← e3] at h; exact h.st hw) (by rw [← e3] at hi; exact hi.pst hw ⟨by omega, by omega⟩) e6 e7⟩
      · simp only [x_b1s, x_b2s, x_b3s, x_tvn, x_tvs, up_s, Int.reduceEq, Int.reduceLE, reduceIte]
        rw [e1, x_b2s, g1_addStore h hi hw ⟨by omega, by omega⟩, x_b1s]
        show x_b1 (G1_storeOf (w : Int) _) _ = _
        rw [G1_storeOf, if_neg (by omega), if_neg (by omega), x_gd_t ⟨by omega, by omega⟩, Int.toNat_natCast, up_s]
        rfl
      · simp only [x_b1s, x_b2s, x_b3s, x_tvn, x_tvs, up_s, Int.reduceEq, Int.reduceLE, reduceIte]
        rw [ea, x_gd_t ⟨by omega, by omega⟩, x_up1, Int.toNat_natCast, eb, g12_lesser, x_b1s, e2, x_b2s, x_gd_t ⟨by omega, by omega⟩, up_s]
      · rw [up_o (by decide), e0]
    · rw [if_neg h1]
      refine ⟨.inr 0, X, N, A, 0, x_up S 0 0 2, ?_, rfl, rfl, Aft.rf h hi hA⟩
      simp only [x_b1s, x_b2s, x_b3s, x_tvn, x_tvs, up_s, Int.reduceEq, Int.reduceLE, reduceIte]
      by_cases h2 : b < 1
      · rw [if_pos h2]
      · rw [if_neg h2, if_neg (by omega)]
  · rw [if_neg h0, if_neg h0]
    exact ⟨.inr 1, X, N, A, 0, x_up S 0 0 1, rfl, rfl, rfl, Aft.rf h hi hA⟩
end Q10
