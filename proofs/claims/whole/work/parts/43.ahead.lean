/-! What comes: hours ahead, put aside and back. -/
/-- all that the reference keeps is as before -/
def Kw (S S' : xU) : Prop := (∀ i, i < 772 → S' 1 i = S 1 i) ∧ S' 2 = S 2 ∧ S' 4 = S 4 ∧ S' 5 = S 5 ∧ S' 0 3 = S 0 3 ∧ S' 0 6 = S 0 6 ∧ S' 0 8 = S 0 8 ∧ S' 0 12 = S 0 12 ∧ (Fl S → Fl S')
theorem Kw.rf {S : xU} : Kw S S := ⟨fun _ _ => rfl, rfl, rfl, rfl, rfl, rfl, rfl, rfl, fun h => h⟩
theorem Kw.th {S : xU} {v : Int} : Kw S (x_up S 0 0 v) := ⟨fun _ _ => by rw [x_up1], up_o (by decide), up_o (by decide), up_o (by decide), up_i (by decide), up_i (by decide), up_i (by decide), up_i (by decide), fun w => w.i (by decide) (by decide)⟩
theorem Kw.tr {S S' S2 : xU} (h : Kw S S') (k : Kw S' S2) : Kw S S2 := by
  obtain ⟨a1, a2, a3, a4, a5, a6, a7, a8, a9⟩ := h
  obtain ⟨b1, b2, b3, b4, b5, b6, b7, b8, b9⟩ := k
  exact ⟨fun i hi => (b1 i hi).trans (a1 i hi), b2.trans a2, b3.trans a3, b4.trans a4, b5.trans a5, b6.trans a6, b7.trans a7, b8.trans a8, fun w => b9 (a9 w)⟩
theorem Kw.lw {S S' : xU} (h : Kw S S') : Lw (S 1) (S' 1) := ⟨h.1 1 (by decide), h.1 2 (by decide), fun k _ h2 => h.1 k h2⟩
theorem Kw.cr {C S S' : xU} (h : Kw S S') (hc : CR C (S 1)) (hi : Iv (S 1)) : CR C (S' 1) := hc.cg hi (fun i h1 => h.1 i (by omega))
theorem Kw.iv {S S' : xU} (h : Kw S S') (hi : Iv (S 1)) : Iv (S' 1) := hi.cg (fun i h1 => h.1 i (by omega))
theorem w_until {σ1 ρ1 σ2 ρ2 : Type} {f1 : σ1 → Option (σ1 ⊕ ρ1)} {f2 : σ2 → Option (σ2 ⊕ ρ2)} (R : Nat → σ1 → σ2 → Prop) (Q : ρ1 → ρ2 → Prop) (n : Nat) (hn : n + 1 < xFU)
    (hs : ∀ j s1 s2, j < n → R j s1 s2 → (∃ t1 t2, f1 s1 = some (.inl t1) ∧ f2 s2 = some (.inl t2) ∧ R (j + 1) t1 t2) ∨ (∃ r1 r2 t2, f1 s1 = some (.inr r1) ∧ f2 s2 = some (.inl t2) ∧ f2 t2 = some (.inr r2) ∧ Q r1 r2))
    (he : ∀ s1 s2, R n s1 s2 → ∃ r1 r2, f1 s1 = some (.inr r1) ∧ f2 s2 = some (.inr r2) ∧ Q r1 r2)
    {s1 : σ1} {s2 : σ2} (h0 : R 0 s1 s2) : ∃ r1 r2, whl xFU f1 s1 = some r1 ∧ whl xFU f2 s2 = some r2 ∧ Q r1 r2 := by
  have key : ∀ d j s1 s2 k, j + d = n → d + 1 < k → R j s1 s2 → ∃ r1 r2, whl k f1 s1 = some r1 ∧ whl k f2 s2 = some r2 ∧ Q r1 r2 := by
    intro d
    induction d with
    | zero =>
      intro j s1 s2 k hj hk hr
      cases k with
      | zero => omega
      | succ k =>
        have : j = n := by omega
        subst this
        obtain ⟨r1, r2, e1, e2, q⟩ := he s1 s2 hr
        exact ⟨r1, r2, by rw [whl, e1], by rw [whl, e2], q⟩
    | succ d ih =>
      intro j s1 s2 k hj hk hr
      cases k with
      | zero => omega
      | succ k =>
        rcases hs j s1 s2 (by omega) hr with ⟨t1, t2, e1, e2, q⟩ | ⟨r1, r2, t2, e1, e2, e3, q⟩
        · obtain ⟨r1, r2, g1, g2, gq⟩ := ih (j + 1) t1 t2 k (by omega) (by omega) q
          exact ⟨r1, r2, by rw [whl, e1]; exact g1, by rw [whl, e2]; exact g2, gq⟩
        · cases k with
          | zero => omega
          | succ k =>
            refine ⟨r1, r2, by rw [whl, e1], ?_, q⟩
            rw [whl, e2]
            show whl (k + 1) f2 t2 = _
            rw [whl, e3]
  exact key n 0 s1 s2 xFU (by omega) hn h0
section Q12
variable {X N S S7 La Th C : xU} {A : xA}
theorem s_bk (hq : Kq (rcp S 3 0 1 0 372) S7) (hl : Lw (S 1) (S7 1)) : Kw S (rcp S7 1 0 3 0 372) ∧ rcp S7 1 0 3 0 372 0 0 = S 0 0 ∧ rcp S7 1 0 3 0 372 7 = S7 7 := by
  refine ⟨⟨fun i hi => ?_, ?_, ?_, ?_, ?_, ?_, ?_, ?_, fun w => (hq.2.2.2.2.2.2.2.2.2 (w.cg (congrFun (rcp_o (by decide)) _) (congrFun (rcp_o (by decide)) _))).cg (congrFun (rcp_o (by decide)) _) (congrFun (rcp_o (by decide)) _)⟩, ?_, ?_⟩
  · by_cases h : i < 372
    · have h1 := rcp_in (S := S7) (o1 := 1) (b1 := 0) (o2 := 3) (b2 := 0) h
      have h2 := rcp_in (S := S) (o1 := 3) (b1 := 0) (o2 := 1) (b2 := 0) h
      rw [Nat.zero_add] at h1 h2
      rw [h1, hq.2.1, h2]
    · rw [rcp_out (by omega), hl.2.2 i (by omega) hi]
  all_goals rw [rcp_o (by decide)]
  · rw [hq.1, rcp_o (by decide)]
  · rw [hq.2.2.1, rcp_o (by decide)]
  · rw [hq.2.2.2.1, rcp_o (by decide)]
  · rw [hq.2.2.2.2.2.1, rcp_o (by decide)]
  · rw [hq.2.2.2.2.2.2.1, rcp_o (by decide)]
  · rw [hq.2.2.2.2.2.2.2.1, rcp_o (by decide)]
  · rw [hq.2.2.2.2.2.2.2.2.1, rcp_o (by decide)]
  · rw [hq.2.2.2.2.1, rcp_o (by decide)]
theorem as1 : rcp S 3 0 1 0 372 1 = S 1 := rcp_o (by decide)
theorem g3_look (h : CR N (S 1)) (hi : Iv (S 1)) : ∃ T2, G3_look N Th = some T2 ∧ CR T2 (S 1) := ⟨x_cf Th N, rfl, cf_CR h hi.many.2⟩
/-- until what is asked comes about -/
theorem s_until {f1 : (Int × xU × xU) → Option ((Int × xU × xU) ⊕ ((xU × xU) ⊕ (Int × xU × xU)))} {f2 : (Int × Int × xU) → Option ((Int × Int × xU) ⊕ (Int × xU))} (t : (Nat → Int) → Bool)
    (h1 : ∀ (j : Nat) (C La2 S5 : xU), j ≤ 72 → CR C (S5 1) → Iv (S5 1) → S5 1 3 = S 1 3 → f1 ((j : Int), C, La2) = if t (S5 1) then some (.inr (.inr ((j : Int), C, La2))) else x_b3 (G1_passHour 0 C La2) fun (_ : Int) (T3 : xU) (La3 : xU) => some (.inl (x_add (j : Int) 1, T3, La3)))
    (h1e : ∀ C La2, f1 (73, C, La2) = some (.inr (.inl (C, La2))))
    (h2 : ∀ (j : Nat) (S5 : xU), j ≤ 72 → Iv (S5 1) → S5 1 3 = S 1 3 → f2 (-1, (j : Int), S5) = x_b2 (G12_passes 0 S5) fun (_ : Int) (S25 : xU) => some (.inl (if t (S5 1) then (j : Int) else -1, x_add (j : Int) 1, S25)))
    (h2e : ∀ S5, f2 (-1, 73, S5) = some (.inr (-1, S5))) (h2f : ∀ (v j : Nat) (S5 : xU), f2 ((v : Int), (j : Int), S5) = some (.inr ((v : Int), S5)))
    (h : CR C (S 1)) (hi : Iv (S 1)) (hL : LR La (S 1)) :
    ∃ v C' La' S7, x_lr (whl xFU f1 (0, C, La)) (fun (q : (xU × xU)) => x_e2 q fun (T6 : xU) (La7 : xU) => (some ((-1), T6, La7))) (fun (q : (Int × xU × xU)) => some q) = some (v, C', La') ∧ whl xFU f2 (-1, 0, S) = some (v, S7) ∧ Kq S S7 ∧ Lw (S 1) (S7 1) ∧ LaEq La La' := by
  obtain ⟨r1, r2, w1, w2, v, C', La', S7, e1, e2, e3, e4, e5⟩ := w_until (f1 := f1) (f2 := f2)
    (fun j s1 s2 => ∃ C2 La2 S2, s1 = ((j : Int), C2, La2) ∧ s2 = (-1, (j : Int), S2) ∧ Nx La S C2 La2 S2)
    (fun r1 r2 => ∃ v C' La' S7, (r1 = .inl (C', La') ∧ v = -1 ∨ r1 = .inr (v, C', La')) ∧ r2 = (v, S7) ∧ Kq S S7 ∧ Lw (S 1) (S7 1) ∧ LaEq La La')
    73 (by decide) (by
      rintro j s1 s2 hj ⟨C2, La2, S2, rfl, rfl, hN⟩
      obtain ⟨b, C3, La3, S3, g1, g2, g3, g4, g5⟩ := s_pass (d := 0) hN.1 hN.2.1 (hL.mv hN.2.2.2.2.2 hN.2.2.2.2.1)
      have q1 := h1 j C2 La2 S2 (by omega) hN.1 hN.2.1 hN.2.2.1
      have q2 := h2 j S2 (by omega) hN.2.1 hN.2.2.1
      rw [g2, x_b2s, n_inc (by omega)] at q2
      by_cases q : t (S2 1) = true
      · right
        rw [if_pos q] at q1 q2
        exact ⟨_, _, _, q1, q2, h2f j (j + 1) S3, (j : Int), C2, La2, S3, .inr rfl, rfl, hN.2.2.2.1.tr g4.2.2.2.1, hN.2.2.2.2.1.tr g4.2.2.2.2.1, hN.2.2.2.2.2⟩
      · left
        rw [if_neg q] at q1 q2
        rw [g1, x_b3s, n_inc (by omega)] at q1
        exact ⟨_, _, q1, q2, C3, La3, S3, rfl, rfl, hN.tr g4⟩) (by
      rintro s1 s2 ⟨C2, La2, S2, rfl, rfl, hN⟩
      exact ⟨_, _, h1e C2 La2, h2e S2, -1, C2, La2, S2, .inl ⟨rfl, rfl⟩, rfl, hN.2.2.2.1, hN.2.2.2.2.1, hN.2.2.2.2.2⟩)
    (s1 := (0, C, La)) (s2 := (-1, 0, S)) ⟨C, La, S, rfl, rfl, ⟨h, hi, rfl, Kq.rf, Lw.rf, LaEq.rf⟩⟩
  refine ⟨v, C', La', S7, ?_, by rw [w2, e2], e3, e4, e5⟩
  rw [w1]
  rcases e1 with ⟨rfl, rfl⟩ | rfl
  · rfl
  · rfl
theorem L_when {a b : Int} (h : CR N (S 1)) (hi : Iv (S 1)) (hL : LR La (S 1)) : ∃ o T' La' r S', G11_when a b N Th La = some (o, T', La') ∧ G12_when a b S = some (r, S') ∧ Ag (fun _ => 1) o r S' ∧ Kw S S' ∧ LaEq La La' := by
  have h7 := hi.many
  rw [G11_when, G12_when, g11_needMonk h, g12_isMonk hi.many, g11_needFlag, g12_isFlag]
  by_cases h0 : 0 ≤ a ∧ a < S 1 3
  · rw [if_pos h0, if_pos h0]
    obtain ⟨p, rfl⟩ := Int.eq_ofNat_of_zero_le h0.1
    by_cases h1 : 0 ≤ b ∧ b ≤ 15
    · rw [if_pos h1, if_pos h1]
      obtain ⟨T2, l1, l2⟩ := g3_look (Th := Th) h hi
      obtain ⟨v, C', La', S7, k1, k2, k3, k4, k5⟩ := s_until (f1 := G3_firstAt_L8 (p : Int) b) (f2 := G12_firstAt_L10 (p : Int) b (p : Int)) (S := rcp (x_up S 0 0 0) 3 0 1 0 372) (C := T2) (La := La) (fun m => decide (m (20 + 8 * p) = 0 ∧ m (16 + 8 * p) = b))
        (fun j C La2 S5 hj hc hi5 h3 => by
          show (if 72 < (j : Int) then _ else _) = _
          rw [as1, x_up1] at h3
          rw [if_neg (by omega), g1_isAt hc hi5 (by rw [h3]; exact h0.2), x_b1s]
          by_cases q : decide (S5 1 (20 + 8 * p) = 0 ∧ S5 1 (16 + 8 * p) = b) = true
          · rw [if_pos q, if_pos q, if_neg (by decide)]
          · rw [if_neg q, if_neg q, if_pos rfl])
        (fun C La2 => rfl)
        (fun j S5 hj hi5 h3 => by
          show (if 72 < (j : Int) then _ else _) = _
          rw [as1, x_up1] at h3
          have hl := mk_4 hi5 (p := p) (by rw [h3]; exact h0.2)
          rw [if_neg (by omega), if_pos rfl, if_neg (by omega), g12_of0 (by omega), x_b1s, g12_isLost (by omega)]
          by_cases q1 : S5 1 (16 + 8 * p) = b
          · rw [if_pos q1, x_b1s, if_neg (by decide)]
            by_cases q2 : 0 < S5 1 (20 + 8 * p)
            · rw [if_pos q2, x_b1s, if_neg (by decide), x_b1s, if_neg (show ¬ decide (S5 1 (20 + 8 * p) = 0 ∧ S5 1 (16 + 8 * p) = b) = true by simp; omega)]
            · rw [if_neg q2, x_b1s, if_pos rfl, x_b1s, if_pos (show decide (S5 1 (20 + 8 * p) = 0 ∧ S5 1 (16 + 8 * p) = b) = true by simp [q1]; omega)]
          · rw [if_neg q1, x_b1s, if_pos rfl, x_b1s, if_neg (show ¬ decide (S5 1 (20 + 8 * p) = 0 ∧ S5 1 (16 + 8 * p) = b) = true by simp [q1])])
        (fun S5 => rfl)
        (fun v j S5 => by
          show (if 72 < (j : Int) then _ else _) = _
          by_cases q : (72 : Int) < (j : Int)
          · rw [if_pos q]
          · rw [if_neg q, if_neg (by omega)])
        (by rw [as1, x_up1]; exact l2) (by rw [as1, x_up1]; exact hi) (by rw [as1, x_up1]; exact hL)
      obtain ⟨z1, z2, z3⟩ := s_bk k3 (by rw [as1] at k4; exact k4)
      refine ⟨.inl v, C', La', v, rcp S7 1 0 3 0 372, ?_, ?_, ⟨z2.trans up_s, rfl⟩, Kw.th.tr z1, k5⟩
      · simp only [x_b1s, x_b2s, x_b3s, x_tvn, x_tvs, up_s, Int.reduceEq, Int.reduceLE, reduceIte]
        rw [G3_firstAt, l1, x_b1s, k1, x_b3s]
      · simp only [x_b1s, x_b2s, x_b3s, x_tvn, x_tvs, up_s, Int.reduceEq, Int.reduceLE, reduceIte]
        rw [G12_firstAt, g12_putsAside, x_b1s, k2, x_b2s, g12_comesBack, x_b1s, x_b2s, x_b2s]
    · rw [if_neg h1, if_neg h1]
      exact ⟨.inr 1, Th, La, 0, x_up S 0 0 1, rfl, rfl, rfl, Kw.th, LaEq.rf⟩
  · rw [if_neg h0, if_neg h0]
    exact ⟨.inr 1, Th, La, 0, x_up S 0 0 1, rfl, rfl, rfl, Kw.th, LaEq.rf⟩
theorem L_meet {a b : Int} (h : CR N (S 1)) (hi : Iv (S 1)) (hL : LR La (S 1)) : ∃ o T' La' r S', G11_meet a b N Th La = some (o, T', La') ∧ G12_meet a b S = some (r, S') ∧ Ag (fun E => if E = 1 then 1 else 2) o r S' ∧ Kw S S' ∧ LaEq La La' := by
  have h7 := hi.many
  rw [G11_meet, G12_meet, g11_needTwo h, g12_areTwo h7]
  by_cases h0 : (0 ≤ a ∧ a < S 1 3) ∧ (0 ≤ b ∧ b < S 1 3)
  · rw [if_pos h0, if_pos h0]
    by_cases hq : a = b
    · rw [if_pos hq, if_pos hq]
      exact ⟨.inr 0, Th, La, 0, x_up S 0 0 2, rfl, rfl, rfl, Kw.th, LaEq.rf⟩
    · rw [if_neg hq, if_neg hq]
      obtain ⟨p, rfl⟩ := Int.eq_ofNat_of_zero_le h0.1.1
      obtain ⟨q, rfl⟩ := Int.eq_ofNat_of_zero_le h0.2.1
      obtain ⟨T2, l1, l2⟩ := g3_look (Th := Th) h hi
      obtain ⟨v, C', La', S7, k1, k2, k3, k4, k5⟩ := s_until (f1 := G3_firstTogether_L8 (p : Int) (q : Int)) (f2 := G12_firstAt_L10 (p : Int) (-1) (q : Int)) (S := rcp (x_up S 0 0 0) 3 0 1 0 372) (C := T2) (La := La) (fun m => decide (m (20 + 8 * p) = 0 ∧ m (20 + 8 * q) = 0 ∧ m (16 + 8 * q) = m (16 + 8 * p)))
        (fun j C La2 S5 hj hc hi5 h3 => by
          show (if 72 < (j : Int) then _ else _) = _
          rw [as1, x_up1] at h3
          have hl := mk_4 hi5 (p := p) (by rw [h3]; exact h0.1.2)
          rw [if_neg (by omega), g1_isLost hc hi5 (by rw [h3]; exact h0.1.2), x_b1s]
          by_cases q2 : 0 < S5 1 (20 + 8 * p)
          · rw [if_pos q2, if_neg (by decide), if_neg (by simp; omega)]
          · rw [if_neg q2, if_pos rfl, g1_of0 hc hi5 (by rw [h3]; exact h0.1.2), x_b1s, g1_isAt hc hi5 (by rw [h3]; exact h0.2.2), x_b1s]
            by_cases q3 : decide (S5 1 (20 + 8 * q) = 0 ∧ S5 1 (16 + 8 * q) = S5 1 (16 + 8 * p)) = true
            · rw [if_pos q3, if_neg (by decide), if_pos (by simp at q3 ⊢; omega)]
            · rw [if_neg q3, if_pos rfl, if_neg (by simp at q3 ⊢; omega)])
        (fun C La2 => rfl)
        (fun j S5 hj hi5 h3 => by
          show (if 72 < (j : Int) then _ else _) = _
          rw [as1, x_up1] at h3
          have hl := mk_4 hi5 (p := p) (by rw [h3]; exact h0.1.2)
          have hl2 := mk_4 hi5 (p := q) (by rw [h3]; exact h0.2.2)
          rw [if_neg (by omega), if_pos rfl, if_pos rfl, g12_isLost (by omega), x_b1s, g12_of0 (p := p) (by omega), x_b1s, g12_of0 (by omega), x_b1s, g12_isLost (by omega)]
          by_cases q1 : 0 < S5 1 (20 + 8 * q)
          · rw [if_pos q1, if_neg (by decide), x_b1s, if_pos rfl, x_b1s, if_neg (by simp; omega)]
          · rw [if_neg q1, if_pos rfl]
            by_cases q2 : S5 1 (16 + 8 * p) = S5 1 (16 + 8 * q)
            · rw [if_pos q2, x_b1s, if_neg (by decide)]
              by_cases q3 : 0 < S5 1 (20 + 8 * p)
              · rw [if_pos q3, x_b1s, if_neg (by decide), x_b1s, if_neg (by simp; omega)]
              · rw [if_neg q3, x_b1s, if_pos rfl, x_b1s, if_pos (by simp; omega)]
            · rw [if_neg q2, x_b1s, if_pos rfl, x_b1s, if_neg (by simp; omega)])
        (fun S5 => rfl)
        (fun v j S5 => by
          show (if 72 < (j : Int) then _ else _) = _
          by_cases q : (72 : Int) < (j : Int)
          · rw [if_pos q]
          · rw [if_neg q, if_neg (by omega)])
        (by rw [as1, x_up1]; exact l2) (by rw [as1, x_up1]; exact hi) (by rw [as1, x_up1]; exact hL)
      obtain ⟨z1, z2, z3⟩ := s_bk k3 (by rw [as1] at k4; exact k4)
      refine ⟨.inl v, C', La', v, rcp S7 1 0 3 0 372, ?_, ?_, ⟨z2.trans up_s, rfl⟩, Kw.th.tr z1, k5⟩
      · simp only [x_b1s, x_b2s, x_b3s, x_tvn, x_tvs, up_s, Int.reduceEq, Int.reduceLE, reduceIte]
        rw [G3_firstTogether, l1, x_b1s, k1, x_b3s]
      · simp only [x_b1s, x_b2s, x_b3s, x_tvn, x_tvs, up_s, Int.reduceEq, Int.reduceLE, reduceIte]
        rw [G12_firstAt, g12_putsAside, x_b1s, k2, x_b2s, g12_comesBack, x_b1s, x_b2s, x_b2s]
  · rw [if_neg h0, if_neg h0]
    exact ⟨.inr 1, Th, La, 0, x_up S 0 0 1, rfl, rfl, rfl, Kw.th, LaEq.rf⟩
end Q12
