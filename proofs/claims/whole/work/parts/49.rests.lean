/-! Walks without a monk; who would rest. -/
section Q18
variable {X N S T La Th C Fo : xU} {A : xA} {m : Nat → Int}
theorem inW_zero {n : Nat} {w : Int} : inW m w n = 0 ↔ ∀ p, p < n → m (16 + 8 * p) / 4 ≠ w := by
  unfold inW
  induction n with
  | zero => exact ⟨fun _ p hp => absurd hp (by omega), fun _ => rfl⟩
  | succ n ih =>
    have hb := sm_bd (q := fun p => if decide (m (16 + 8 * p) / 4 = w) then 1 else 0) (n := n) (B := 1) (fun p _ => c01)
    rw [sm_s]
    by_cases q : m (16 + 8 * n) / 4 = w
    · rw [if_pos (decide_eq_true q)]
      exact ⟨fun z => by omega, fun z => absurd q (z n (by omega))⟩
    · rw [if_neg (by simp [q]), Int.add_zero, ih]
      constructor
      · intro z p hp
        by_cases e : p = n
        · subst e; exact q
        · exact z p (by omega)
      · intro z p hp
        exact z p (by omega)
def emt (m : Nat → Int) (n : Nat) : Nat := fo (fun p s => dif s (2 ^ (m (16 + 8 * p) / 4).toNat)) 15 n
theorem emt_bit {n w : Nat} (hi : Iv m) (e : m 3 = (n : Int)) : ∀ k, k ≤ n → (emt m k).testBit w = (decide (w < 4) && decide (∀ p, p < k → m (16 + 8 * p) / 4 ≠ (w : Int))) := by
  intro k
  induction k with
  | zero =>
    intro _
    show (15 : Nat).testBit w = _
    rw [show (15 : Nat) = 2 ^ 4 - 1 by decide, Nat.testBit_two_pow_sub_one]
    simp
  | succ k ih =>
    intro hk
    have h0 := mk_0 hi (p := k) (by omega)
    show (dif (emt m k) (2 ^ (m (16 + 8 * k) / 4).toNat)).testBit w = _
    rw [dif_bit, ih (by omega), Nat.testBit_two_pow]
    by_cases q : m (16 + 8 * k) / 4 = (w : Int)
    · have h1 : decide ((m (16 + 8 * k) / 4).toNat = w) = true := by simp; omega
      have h2 : decide (∀ p, p < k + 1 → m (16 + 8 * p) / 4 ≠ (w : Int)) = false := by
        apply decide_eq_false
        intro z
        exact z k (by omega) q
      rw [h1, h2]
      simp
    · have h1 : decide ((m (16 + 8 * k) / 4).toNat = w) = false := by simp; omega
      have h2 : decide (∀ p, p < k + 1 → m (16 + 8 * p) / 4 ≠ (w : Int)) = decide (∀ p, p < k → m (16 + 8 * p) / 4 ≠ (w : Int)) := by
        apply decide_eq_decide.mpr
        constructor
        · intro z p hp
          exact z p (by omega)
        · intro z p hp
          by_cases e : p = k
          · subst e; exact q
          · exact z p (by omega)
      rw [h1, h2]
      simp
theorem L_empty (h : CR N (S 1)) (hi : Iv (S 1)) : ∃ b, G11_empty N = some b ∧ G12_empty S = some (b, x_up S 0 0 0) := by
  obtain ⟨n, hn, e⟩ := hi.nn
  refine ⟨((emt (S 1) n : Nat) : Int), ?_, ?_⟩
  · rw [G11_empty, show whl xFU (G11_empty_L5 N) (15, 0) = some ((emt (S 1) n : Nat) : Int) from w_fo (f := G11_empty_L5 N) (g := fun p s => dif s (2 ^ (S 1 (16 + 8 * p) / 4).toNat)) (a := 15) (em := fun j s => (((s : Nat) : Int), (j : Int))) (out := fun s => ((s : Nat) : Int)) n (by unfold xFU; omega) (fun j s => s < 2 ^ 4) (by decide) (fun j s hj hs => dif_lt hs) (fun j s hj hs => by
      have h0 := mk_0 hi (p := j) (by omega)
      obtain ⟨w, hw⟩ := Int.eq_ofNat_of_zero_le (show 0 ≤ S 1 (16 + 8 * j) / 4 by omega)
      show (if N 0 3 ≤ (j : Int) then _ else _) = _
      rw [h.1.1, if_neg (by omega), g1_walkOf h hi (by omega), x_b1s, n_inc (by omega), hw, n_clr (by omega) (by omega)]
      rfl) (fun s hs => by
      show (if N 0 3 ≤ (n : Int) then _ else _) = _
      rw [h.1.1, if_pos (by omega)]), x_b1s]
  · have eb : emt (S 1) n = bs (fun w => decide (inW (S 1) (w : Int) n = 0)) 4 := by
      apply Nat.eq_of_testBit_eq
      intro w
      rw [emt_bit hi e n (Nat.le_refl _), bs_bit]
      congr 1
      exact decide_eq_decide.mpr inW_zero.symm
    have hR : ∀ w : Nat, G12_inWalk (w : Int) 1 (x_up S 0 0 0) = some (inW (S 1) (w : Int) n) := by
      intro w
      have := g12_inWalk1 (S := x_up S 0 0 0) (w := (w : Int)) (n := n) (by rw [x_up1]; exact hi) (by rw [x_up1]; exact e)
      rw [x_up1] at this
      exact this
    rw [eb, G12_empty, show whl xFU (G12_empty_L9 S) (0, 0) = some ((bs (fun w => decide (inW (S 1) (w : Int) n = 0)) 4 : Nat) : Int) from w_bs _ (by decide) (fun j s hj hs => by
      show (if (4 : Int) ≤ (j : Int) then _ else _) = _
      have hp31 := p31 (show j ≤ 30 by omega)
      rw [if_neg (by omega), hR, x_b1s, n_inc (by omega)]
      by_cases q : inW (S 1) (j : Int) n = 0
      · rw [if_pos q, x_b1s, if_pos (decide_eq_true q), n_set (by omega) (by omega)]
      · rw [if_neg q, x_b1s, if_neg (by simp [q]), n_or0 (by omega)]) (fun s => rfl), x_b1s]
/-- what a monk and the gardener have -/
theorem g12_heHas0 {p : Nat} {c : Int} (hi : Iv (S 1)) (hp : (p : Int) < S 1 3) : G12_heHas (p : Int) 0 c S = some (if c = 0 then -(S 1 9) else stp (S 1 (16 + 8 * p)) (S 1 6)) := by
  have h7 := hi.many
  have h9 := hi.1.2.2.2.2.2.2.2.1
  have h6 := hi.1.2.2.2.2.1
  rw [G12_heHas, if_neg (by decide)]
  by_cases q : c = 0
  · rw [if_pos q, if_pos q, x_b1s, x_neg_of ⟨by omega, by omega⟩]
  · rw [if_neg q, if_neg q, g12_of0 (by omega), x_b1s, g12_steps (mk_0 hi hp) h6, x_b1s, x_b1s]
theorem L_rests {a : Int} (h : CR N (S 1)) (hi : Iv (S 1)) : ∃ o r v, G11_rests a N = some o ∧ G12_rests a S = some (r, x_up S 0 0 v) ∧ Ag (fun _ => 1) o r (x_up S 0 0 v) := by
  have h7 := hi.many
  have h9 := hi.1.2.2.2.2.2.2.2.1
  have h6 := hi.1.2.2.2.2.1
  rw [G11_rests, G12_rests, g11_needMonk h, g12_isMonk hi.many]
  by_cases h0 : 0 ≤ a ∧ a < S 1 3
  · rw [if_pos h0, if_pos h0]
    obtain ⟨p, rfl⟩ := Int.eq_ofNat_of_zero_le h0.1
    have hl := mk_4 hi h0.2
    have h00 := mk_0 hi h0.2
    have eL : G12_isLost (p : Int) (x_up S 0 0 0) = some (if 0 < S 1 (20 + 8 * p) then 1 else 0) := by rw [g12_isLost (by omega), x_up1]
    by_cases h1 : 0 < S 1 (20 + 8 * p)
    · refine ⟨.inl (-1), -1, 0, ?_, ?_, up_s, rfl⟩
      · simp only [x_b1s, x_b2s, x_b3s, x_b4s, x_tvn, x_tvs, up_s, Int.reduceEq, Int.reduceLE, reduceIte]
        rw [g1_isLost h hi h0.2, if_pos h1]; rfl
      · simp only [x_b1s, x_b2s, x_b3s, x_b4s, x_tvn, x_tvs, up_s, Int.reduceEq, Int.reduceLE, reduceIte]
        rw [eL, if_pos h1]; rfl
    · have e10 : N 0 10 = S 1 9 := h.1.2.2.2.2.2.2.2.1
      have e7 : N 0 7 = S 1 6 := h.1.2.2.2.2.1
      have g0 : G0_gainOfMonk (p : Int) 0 N = some (-(S 1 9)) := by rw [G0_gainOfMonk, if_pos rfl, e10, x_neg_of ⟨by omega, by omega⟩]
      have g1 : G0_gainOfMonk (p : Int) 1 N = some (stp (S 1 (16 + 8 * p)) (S 1 6)) := by
        rw [G0_gainOfMonk, if_neg (by decide), if_pos rfl, g1_of0 h hi h0.2, x_b1s, e7, g11_steps h00 h6, x_b1s, x_b1s]
      have g2 : G0_gainOfMonk (p : Int) 2 N = some 0 := rfl
      have g3 : G0_gainOfMonk (p : Int) 3 N = some 0 := rfl
      have k0 : G12_heHas (p : Int) 0 0 (x_up S 0 0 0) = some (-(S 1 9)) := by
        have := g12_heHas0 (S := x_up S 0 0 0) (p := p) (c := 0) (by rw [x_up1]; exact hi) (by rw [x_up1]; exact h0.2)
        rw [x_up1, if_pos rfl] at this; exact this
      have k1 : G12_heHas (p : Int) 0 1 (x_up S 0 0 0) = some (stp (S 1 (16 + 8 * p)) (S 1 6)) := by
        have := g12_heHas0 (S := x_up S 0 0 0) (p := p) (c := 1) (by rw [x_up1]; exact hi) (by rw [x_up1]; exact h0.2)
        rw [x_up1, if_neg (by decide)] at this; exact this
      have k2 : G12_heHas (p : Int) 1 0 (x_up S 0 0 0) = some 0 := rfl
      have k3 : G12_heHas (p : Int) 1 1 (x_up S 0 0 0) = some 0 := rfl
      generalize S 1 9 = u at *
      generalize stp (S 1 (16 + 8 * p)) (S 1 6) = v at *
      have key : ∃ r r2, whl xFU (G0_restsOf_L5 (p : Int) N) (0, 0) = some r ∧ whl xFU (G12_rests_L40 (p : Int) S 0) (0, 0) = some r2 ∧ r = r2 := by
        refine w_sim (f1 := G0_restsOf_L5 (p : Int) N) (f2 := G12_rests_L40 (p : Int) S 0) (fun j s1 s2 => ∃ s : Int, s1 = (s, (j : Int)) ∧ s2 = (s, (j : Int))) (fun r r2 => r = r2) 4 (by decide) ?_ (by
          rintro s1 s2 ⟨s, rfl, rfl⟩
          exact ⟨s, s, rfl, rfl, rfl⟩) ⟨0, rfl, rfl⟩
        rintro j s1 s2 hj ⟨s, rfl, rfl⟩
        rcases (show j = 0 ∨ j = 1 ∨ j = 2 ∨ j = 3 by omega) with rfl | rfl | rfl | rfl
        · refine ⟨((if -u < 0 then s else x_or s (x_shl 1 0)), 1), ((if -u < 0 then s else x_or s (x_shl 1 0)), 1), ?_, ?_, _, rfl, rfl⟩
          · rw [show ((0 : Nat) : Int) = 0 from rfl, G0_restsOf_L5]
            rw [if_neg (by decide), g0, x_b1s, show x_xor 0 2 = 2 by decide, g2, x_b1s]
            by_cases q : -u < 0
            · rw [if_pos q, if_pos q]; rfl
            · rw [if_neg q, if_neg q]; rfl
          · rw [show ((0 : Nat) : Int) = 0 from rfl, G12_rests_L40]
            rw [if_neg (by decide), show x_sub 1 (x_div 0 2) = 1 by decide, show x_div 0 2 = 0 by decide, show x_rem 0 2 = 0 by decide, k2, x_b1s, k0, x_b1s]
            by_cases q : -u < 0
            · rw [if_pos q, if_pos q]; rfl
            · rw [if_neg q, if_neg q]; rfl
        · refine ⟨((if v < 0 then s else s), 2), ((if v < 0 then s else s), 2), ?_, ?_, _, rfl, rfl⟩
          · rw [show ((1 : Nat) : Int) = 1 from rfl, G0_restsOf_L5]
            rw [if_neg (by decide), g1, x_b1s, show x_xor 1 2 = 3 by decide, g3, x_b1s]
            by_cases q : v < 0
            · rw [if_pos q, if_pos q]; rfl
            · rw [if_neg q, if_neg q]; rfl
          · rw [show ((1 : Nat) : Int) = 1 from rfl, G12_rests_L40]
            rw [if_neg (by decide), show x_sub 1 (x_div 1 2) = 1 by decide, show x_div 1 2 = 0 by decide, show x_rem 1 2 = 1 by decide, k3, x_b1s, k1, x_b1s]
            by_cases q : v < 0
            · rw [if_pos q, if_pos q]; rfl
            · rw [if_neg q, if_neg q]; rfl
        · refine ⟨((if 0 < -u then s else s), 3), ((if 0 < -u then s else s), 3), ?_, ?_, _, rfl, rfl⟩
          · rw [show ((2 : Nat) : Int) = 2 from rfl, G0_restsOf_L5]
            rw [if_neg (by decide), g2, x_b1s, show x_xor 2 2 = 0 by decide, g0, x_b1s]
            by_cases q : 0 < -u
            · rw [if_pos q, if_pos q]; rfl
            · rw [if_neg q, if_neg q]; rfl
          · rw [show ((2 : Nat) : Int) = 2 from rfl, G12_rests_L40]
            rw [if_neg (by decide), show x_sub 1 (x_div 2 2) = 0 by decide, show x_div 2 2 = 1 by decide, show x_rem 2 2 = 0 by decide, k0, x_b1s, k2, x_b1s]
            by_cases q : 0 < -u
            · rw [if_pos q, if_pos q]; rfl
            · rw [if_neg q, if_neg q]; rfl
        · refine ⟨((if 0 < v then s else x_or s (x_shl 1 3)), 4), ((if 0 < v then s else x_or s (x_shl 1 3)), 4), ?_, ?_, _, rfl, rfl⟩
          · rw [show ((3 : Nat) : Int) = 3 from rfl, G0_restsOf_L5]
            rw [if_neg (by decide), g3, x_b1s, show x_xor 3 2 = 1 by decide, g1, x_b1s]
            by_cases q : 0 < v
            · rw [if_pos q, if_pos q]; rfl
            · rw [if_neg q, if_neg q]; rfl
          · rw [show ((3 : Nat) : Int) = 3 from rfl, G12_rests_L40]
            rw [if_neg (by decide), show x_sub 1 (x_div 3 2) = 0 by decide, show x_div 3 2 = 1 by decide, show x_rem 3 2 = 1 by decide, k1, x_b1s, k3, x_b1s]
            by_cases q : 0 < v
            · rw [if_pos q, if_pos q]; rfl
            · rw [if_neg q, if_neg q]; rfl
      obtain ⟨r, _, q1, q2, rfl⟩ := key
      refine ⟨.inl r, r, 0, ?_, ?_, up_s, rfl⟩
      · simp only [x_b1s, x_b2s, x_b3s, x_b4s, x_tvn, x_tvs, up_s, Int.reduceEq, Int.reduceLE, reduceIte]
        rw [g1_isLost h hi h0.2, if_neg h1]
        simp only [x_b1s, x_b2s, x_b3s, x_b4s, x_tvn, x_tvs, up_s, Int.reduceEq, Int.reduceLE, reduceIte]
        rw [G0_restsOf, q1, x_b1s, x_b1s, x_b1s]
      · simp only [x_b1s, x_b2s, x_b3s, x_b4s, x_tvn, x_tvs, up_s, Int.reduceEq, Int.reduceLE, reduceIte]
        rw [eL, if_neg h1]
        simp only [x_b1s, x_b2s, x_b3s, x_b4s, x_tvn, x_tvs, up_s, Int.reduceEq, Int.reduceLE, reduceIte]
        rw [q2, x_b1s]
  · rw [if_neg h0, if_neg h0]
    exact ⟨.inr 1, 0, 1, rfl, rfl, rfl⟩
end Q18
