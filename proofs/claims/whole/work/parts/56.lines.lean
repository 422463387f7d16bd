/-! The other lines of a cloister's text. -/
section LIN
variable {n : Nat} {bt : Nat → Int} {T S S' S2 C : xU} {q p : Nat} {f : Int} {m : Nat → Int}
theorem PQ.mv (h : PQ n bt T S f) (h9 : S 0 9 = -1) (h1 : ∀ o, o ≠ 1 → S' o = S o) : PQ n bt T S' f := by
  obtain ⟨hL, hf, q, t1, t2⟩ := h
  exact ⟨hL.mv h9 (congrFun (h1 0 (by decide)) _) (congrFun (h1 0 (by decide)) _) (h1 5 (by decide)), by rw [h1 0 (by decide)]; exact hf, q, t1, fun w => by rw [h1 0 (by decide)]; exact t2 w⟩
theorem Ln.u1 {i : Nat} {v : Int} (h : 3 ≤ i ∧ i < 372) : Ln S (x_up S 1 i v) := ⟨fun o _ h1 => up_o h1, fun _ _ _ => congrFun (up_o (by decide)) _, Lw.up (by omega), up_i (by omega), fun w => by rw [up_o (by decide)]; exact w⟩
/-- a number of the cloister said -/
theorem st_says {b : Int} {i c : Nat} (hn : n ≤ 400) (hb : (i = 6 ∧ c = 7 ∧ b = 15) ∨ (i = 8 ∧ c = 9 ∧ b = 100) ∨ (i = 9 ∧ c = 10 ∧ b = 20) ∨ (i = 4 ∧ c = 5 ∧ b = 23) ∨ (i = 5 ∧ c = 6 ∧ b = 999)) (h : PQ n bt T S f) (h9 : S 0 9 = -1) (hc : CR C (S 1)) (hi : Iv (S 1)) :
    ∃ T' C' S' f', (x_b2 (G10_takeNumber b T) fun (v : Int) (T2 : xU) => (some (T2, x_up C 0 c v))) = some (T', C') ∧ G12_says (i : Int) 0 b S = some S' ∧ PQ n bt T' S' f' ∧ (f' = -1 → CR C' (S' 1) ∧ Iv (S' 1)) ∧ Ln S S' := by
  obtain ⟨vc, vr, T', S1, f', k1, k2, k3, k4, k5, k6⟩ := st_number (b := b) hn h
  have r1 : S1 1 = S 1 := k4.1 1 (by decide)
  rw [k1, x_b2s, G12_says, k2, x_b2s, k3.2.1]
  by_cases z : f' = -1
  · obtain ⟨a1, a2, a3⟩ := k6 z
    rw [if_pos z, x_gd_t (by omega), x_b1s, Int.toNat_natCast, a1]
    have h9' : S1 0 9 = -1 := (k4.2.1 9 (by decide) (by decide)).trans h9
    refine ⟨T', _, _, f', rfl, rfl, k3.mv h9' (fun o ho => up_o ho), fun _ => ⟨?_, ?_⟩, k4.ln.tr (Ln.u1 (by omega))⟩
    · rw [← r1] at hc; exact hc.sc (by omega)
    · rw [← r1] at hi; exact hi.sc (by omega)
  · rw [if_neg z, x_b1s]
    exact ⟨T', _, S1, f', rfl, rfl, k3, fun w => absurd w z, k4.ln⟩
/-- which season a token is -/
def sea (n : Nat) (bt : Nat → Int) (q : Nat) : Int := if wm n bt 8 q then 0 else if wm n bt 9 q then 1 else if wm n bt 10 q then 2 else if wm n bt 11 q then 3 else -1
theorem sea_bd : -1 ≤ sea n bt q ∧ sea n bt q ≤ 3 := by
  unfold sea
  cases wm n bt 8 q <;> cases wm n bt 9 q <;> cases wm n bt 10 q <;> cases wm n bt 11 q <;> decide
theorem sea_own (h : wm n bt 7 q = true) : sea n bt q = -1 := by
  have e7 : en n bt q = q + 3 := (of_decide_eq_true h).2.1
  have no : ∀ k, x_sl.getD k 0 = 6 → wm n bt k q = false := fun k hk => decide_eq_false (fun y => by
    have := y.2.1
    rw [hk] at this
    omega)
  unfold sea
  rw [no 8 rfl, no 9 rfl, no 10 rfl, no 11 rfl]
  rfl
theorem c_season (hn : n ≤ 400) (h : TK n bt T q f) : ∃ T', G10_takeSeason T = some (sea n bt q, T') ∧ TK n bt T' (if sea n bt q = -1 then q else sk n bt (en n bt q)) (if sea n bt q = -1 then (if f = -1 then (q : Int) else f) else f) := by
  have e1 : (x_b1 (G10_isWord 8 T) fun (v1 : Int) => (if v1 = 0 then (x_b1 (G10_isWord 9 T) fun (v5 : Int) => (if v5 = 0 then (x_b1 (G10_isWord 10 T) fun (v7 : Int) => (if v7 = 0 then (x_b1 (G10_isWord 11 T) fun (v9 : Int) => (if v9 = 0 then (some (-1 : Int)) else (some 3))) else (some 2))) else (some 1))) else (some 0))) = some (sea n bt q) := by
    rw [c_isWord hn h, x_b1s, c_isWord hn h, x_b1s, c_isWord hn h, x_b1s, c_isWord hn h, x_b1s]
    unfold sea
    cases wm n bt 8 q <;> cases wm n bt 9 q <;> cases wm n bt 10 q <;> cases wm n bt 11 q <;> rfl
  rw [G10_takeSeason]
  obtain ⟨v1, y1, y2⟩ := x_bd1 e1
  rw [y1, x_b1s, y2, x_b1s]
  by_cases z : sea n bt q = -1
  · obtain ⟨T2, k1, k2⟩ := c_refuse h
    rw [if_pos z, if_pos z, if_pos z, k1, x_b1s, x_b1s]
    exact ⟨T2, rfl, k2⟩
  · obtain ⟨T2, k1, k2⟩ := c_next hn h.1 h.2.2.2.1 h.2.2.2.2.2.2.1 (en_le h.2.1)
    rw [if_neg z, if_neg z, if_neg z, k1, x_b1s, x_b1s]
    exact ⟨T2, rfl, k2⟩
/-- has, once more at the same token -/
theorem r_hasq {k : Nat} (hn : n ≤ 400) (hL : LT n bt S) (hq : q ≤ n) (hk1 : kA n bt q ≠ 1) (hk : 0 < x_sl.getD k 0) : G12_has k (x_up S 0 11 (q : Int)) = some (if wm n bt k q then (1, x_up S 0 11 (en n bt q : Int)) else (0, x_up S 0 11 (q : Int))) := by
  rw [r_has hn (hL.fr Fr.u11) up_s hq hk, sk_id hk1, up_up, up_up]
theorem r_season {a : Int} (hn : n ≤ 400) (hL : LT n bt S) (hf : S 0 12 = -1) (hq : q ≤ n) (hk1 : kA n bt q ≠ 1) :
    G12_seasonName a (x_up S 0 11 (q : Int)) = some (if sea n bt q = -1 then (if a ≠ 0 ∧ wm n bt 7 q = true then (4, x_up S 0 11 (en n bt q : Int)) else (0, x_up (x_up S 0 11 (q : Int)) 0 12 (q : Int))) else (sea n bt q, x_up S 0 11 (en n bt q : Int))) := by
  have hf1 : x_up S 0 11 (q : Int) 0 12 = -1 := (up_i (by decide)).trans hf
  have hh : G12_here (x_up S 0 11 (q : Int)) = some ((q : Int), x_up S 0 11 (q : Int)) := by
    rw [G12_here, r_skip hn (hL.fr Fr.u11) up_s hq, sk_id hk1, up_up, x_b1s, up_s]
  have hw : G12_wrong (q : Int) (x_up S 0 11 (q : Int)) = some (x_up (x_up S 0 11 (q : Int)) 0 12 (q : Int)) := by
    rw [G12_wrong, if_pos hf1, x_b1s]
  have R : ∀ k, 0 < x_sl.getD k 0 → G12_has k (x_up S 0 11 (q : Int)) = some (if wm n bt k q then (1, x_up S 0 11 (en n bt q : Int)) else (0, x_up S 0 11 (q : Int))) := fun k hk => r_hasq hn hL hq hk1 hk
  rw [G12_seasonName, if_pos hf1, R 8 (by decide)]
  cases w8 : wm n bt 8 q with
  | true =>
    have hs : sea n bt q = 0 := by unfold sea; rw [w8]; rfl
    rw [hs, if_neg (show ¬ (0 : Int) = -1 by decide)]
    simp only [x_b1s, x_b2s, Int.reduceEq, Int.reduceNeg, reduceIte]
  | false =>
    rw [if_neg Bool.false_ne_true, x_b2s, if_pos rfl, R 9 (by decide)]
    cases w9 : wm n bt 9 q with
    | true =>
      have hs : sea n bt q = 1 := by unfold sea; rw [w8, w9]; rfl
      rw [hs, if_neg (show ¬ (1 : Int) = -1 by decide)]
      simp only [x_b1s, x_b2s, Int.reduceEq, Int.reduceNeg, reduceIte]
    | false =>
      rw [if_neg Bool.false_ne_true, x_b2s, if_pos rfl, R 10 (by decide)]
      cases w10 : wm n bt 10 q with
      | true =>
        have hs : sea n bt q = 2 := by unfold sea; rw [w8, w9, w10]; rfl
        rw [hs, if_neg (show ¬ (2 : Int) = -1 by decide)]
        simp only [x_b1s, x_b2s, Int.reduceEq, Int.reduceNeg, reduceIte]
      | false =>
        rw [if_neg Bool.false_ne_true, x_b2s, if_pos rfl, R 11 (by decide)]
        cases w11 : wm n bt 11 q with
        | true =>
          have hs : sea n bt q = 3 := by unfold sea; rw [w8, w9, w10, w11]; rfl
          rw [hs, if_neg (show ¬ (3 : Int) = -1 by decide)]
          simp only [x_b1s, x_b2s, Int.reduceEq, Int.reduceNeg, reduceIte]
        | false =>
          have hs : sea n bt q = -1 := by unfold sea; rw [w8, w9, w10, w11]; rfl
          rw [if_neg Bool.false_ne_true, x_b2s, if_pos rfl, hs, if_pos (show (-1 : Int) = -1 from rfl)]
          by_cases ha : a = 0
          · rw [if_neg (show ¬ (a ≠ 0 ∧ wm n bt 7 q = true) from fun y => y.1 ha), if_pos ha, x_b2s, if_pos rfl, hh, x_b2s, hw, x_b1s, x_b1s, if_pos rfl, x_b1s]
          · rw [if_neg ha, R 7 (by decide)]
            cases w7 : wm n bt 7 q with
            | true =>
              rw [if_pos (show a ≠ 0 ∧ true = true from ⟨ha, rfl⟩)]
              simp only [x_b1s, x_b2s, Int.reduceEq, Int.reduceNeg, reduceIte]
            | false =>
              rw [if_neg (show ¬ (a ≠ 0 ∧ false = true) from fun y => Bool.false_ne_true y.2), if_neg Bool.false_ne_true, x_b2s, if_pos rfl, x_b2s, if_pos rfl, hh, x_b2s, hw, x_b1s, x_b1s, if_pos rfl, x_b1s]
/-- the store of a season -/
theorem st_store (hn : n ≤ 400) (hT : TK n bt T q (-1)) (hL : LT n bt S) (hf : S 0 12 = -1) (h9 : S 0 9 = -1) (hc : CR C (S 1)) (hi : Iv (S 1)) (h11 : S 0 11 = ((p : Nat) : Int)) (hp : p ≤ n) (hpq : sk n bt p = q) :
    ∃ T' C' S' f', (x_b2 (G10_takeSeason T) fun (v35 : Int) (T36 : xU) => (x_b2 (G10_takeNumber 999 T36) fun (v38 : Int) (T39 : xU) => (x_b1 (G1_putStore v35 v38 C) fun (Dr41 : xU) => (some (T39, Dr41))))) = some (T', C') ∧ (x_b2 (G12_seasonName 0 S) fun (v36 : Int) (S37 : xU) => (x_b1 (G12_says (x_add 12 v36) 0 999 S37) fun (S39 : xU) => (some S39))) = some S' ∧ PQ n bt T' S' f' ∧ (f' = -1 → CR C' (S' 1) ∧ Iv (S' 1)) ∧ Ln S S' := by
  obtain ⟨T1, e1, e2⟩ := c_season hn hT
  have hk1 := hT.2.2.2.2.2.2.2
  have hR : G12_seasonName 0 S = some (if sea n bt q = -1 then (0, x_up (x_up S 0 11 (q : Int)) 0 12 (q : Int)) else (sea n bt q, x_up S 0 11 (en n bt q : Int))) := by
    have hR0 := r_season (S := S) (a := 0) hn hL hf hT.2.1 hk1
    rw [if_neg (show ¬ ((0 : Int) ≠ 0 ∧ wm n bt 7 q = true) from fun y => y.1 rfl)] at hR0
    have hS : G12_seasonName 0 S = G12_seasonName 0 (x_up S 0 11 (q : Int)) := by
      have hf1 : x_up S 0 11 (q : Int) 0 12 = -1 := (up_i (by decide)).trans hf
      have a1 := r_has (k := 8) hn hL h11 hp (by decide)
      rw [hpq] at a1
      have a2 := r_hasq (k := 8) hn hL hT.2.1 hk1 (by decide)
      rw [G12_seasonName, G12_seasonName, if_pos hf, if_pos hf1, a1, a2]
    rw [hS]; exact hR0
  rw [e1, x_b2s, hR]
  by_cases z : sea n bt q = -1
  · rw [if_pos z, if_pos z, if_pos rfl] at e2
    rw [if_pos z, x_b2s]
    obtain ⟨T2, k1, k2⟩ := c_takeNumber (a := 999) hn e2
    have hq : ¬ (q : Int) = -1 := by omega
    rw [if_neg hq, ite_self] at k2
    have hd : ¬ x_up (x_up S 0 11 (q : Int)) 0 12 (q : Int) 0 12 = -1 := by rw [up_s]; omega
    rw [k1, x_b2s, z, G1_putStore, if_pos (by decide), x_b1s, x_b1s, G12_says, G12_figures, if_neg hd, x_b2s, if_neg hd, x_b1s, x_b1s]
    exact ⟨T2, C, _, (q : Int), rfl, rfl, ⟨hL.fr (Fr.u11.tr Fr.u12), up_s, _, k2, fun w => absurd w hq⟩, fun w => absurd w hq, (Fr.u11.tr Fr.u12).ln⟩
  · rw [if_neg z, if_neg z] at e2
    rw [if_neg z, x_b2s]
    have hb := sea_bd (n := n) (bt := bt) (q := q)
    obtain ⟨w, hw⟩ := Int.eq_ofNat_of_zero_le (show 0 ≤ sea n bt q by omega)
    rw [hw] at hb ⊢
    have P1 : PQ n bt T1 (x_up S 0 11 (en n bt q : Int)) (-1) := ⟨hL.fr Fr.u11, (up_i (by decide)).trans hf, _, e2, fun _ => ⟨_, en_le hT.2.1, up_s, rfl⟩⟩
    obtain ⟨vc, vr, T2, S1, f', k1, k2, k3, k4, k5, k6⟩ := st_number (b := 999) hn P1
    have k4' : Fr S S1 := Fr.u11.tr k4
    have r1 : S1 1 = S 1 := k4'.1 1 (by decide)
    have ew : x_add 12 (w : Int) = ((12 + w : Nat) : Int) := n_add (a := 12) (by omega)
    rw [k1, x_b2s, g1_putStore (by omega), x_b1s, G12_says, k2, x_b2s, k3.2.1, ew]
    by_cases z2 : f' = -1
    · obtain ⟨a1, a2, a3⟩ := k6 z2
      rw [if_pos z2, x_gd_t (by omega), x_b1s, x_b1s, Int.toNat_natCast, a1]
      have h9' : S1 0 9 = -1 := (k4'.2.1 9 (by decide) (by decide)).trans h9
      refine ⟨T2, _, _, f', rfl, rfl, k3.mv h9' (fun o ho => up_o ho), fun _ => ⟨?_, ?_⟩, k4'.ln.tr (Ln.u1 (by omega))⟩
      · rw [← r1] at hc; exact hc.st (by omega)
      · rw [← r1] at hi; exact hi.pst (by omega) ⟨a2, a3⟩
    · rw [if_neg z2, x_b1s, x_b1s]
      exact ⟨T2, _, S1, f', rfl, rfl, k3, fun y => absurd y z2, k4'.ln⟩
/-- the mood -/
theorem st_mood (hn : n ≤ 400) (hT : TK n bt T q (-1)) (hL : LT n bt S) (hf : S 0 12 = -1) (h9 : S 0 9 = -1) (hc : CR C (S 1)) (hi : Iv (S 1)) (h11 : S 0 11 = ((p : Nat) : Int)) (hp : p ≤ n) (hpq : sk n bt p = q) :
    ∃ T' C' S' f', (x_b2 (G10_takeMood T) fun (v49 : Int) (T50 : xU) => (some (T50, (x_up C 0 8 v49)))) = some (T', C') ∧ (x_b2 (G12_seasonName 1 S) fun (v45 : Int) (S46 : xU) => (x_b1 (if (S46 0 12) = (-1) then (some (x_up S46 1 7 v45)) else (some S46)) fun (S48 : xU) => (some S48))) = some S' ∧ PQ n bt T' S' f' ∧ (f' = -1 → CR C' (S' 1) ∧ Iv (S' 1)) ∧ Ln S S' := by
  have hk1 := hT.2.2.2.2.2.2.2
  have hR : G12_seasonName 1 S = some (if sea n bt q = -1 then (if wm n bt 7 q = true then (4, x_up S 0 11 (en n bt q : Int)) else (0, x_up (x_up S 0 11 (q : Int)) 0 12 (q : Int))) else (sea n bt q, x_up S 0 11 (en n bt q : Int))) := by
    have hR0 := r_season (S := S) (a := 1) hn hL hf hT.2.1 hk1
    have hS : G12_seasonName 1 S = G12_seasonName 1 (x_up S 0 11 (q : Int)) := by
      have hf1 : x_up S 0 11 (q : Int) 0 12 = -1 := (up_i (by decide)).trans hf
      have a1 := r_has (k := 8) hn hL h11 hp (by decide)
      rw [hpq] at a1
      have a2 := r_hasq (k := 8) hn hL hT.2.1 hk1 (by decide)
      rw [G12_seasonName, G12_seasonName, if_pos hf, if_pos hf1, a1, a2]
    rw [hS, hR0]
    by_cases y : wm n bt 7 q = true
    · rw [if_pos y, if_pos (show (1 : Int) ≠ 0 ∧ wm n bt 7 q = true from ⟨by decide, y⟩)]
    · rw [if_neg y, if_neg (show ¬ ((1 : Int) ≠ 0 ∧ wm n bt 7 q = true) from fun z => y z.2)]
  have hf2 : ∀ v : Int, x_up S 0 11 v 0 12 = -1 := fun v => (up_i (by decide)).trans hf
  obtain ⟨T0, e0, e0'⟩ := c_takeWord (k := 7) hn hT
  have fin : ∀ (T' : xU) (q2 : Nat) (v : Int), TK n bt T' (sk n bt (en n bt q)) (-1) → 0 ≤ v → v < 5 → PQ n bt T' (x_up (x_up S 0 11 (en n bt q : Int)) 1 7 v) (-1) ∧ (CR (x_up C 0 8 v) (x_up (x_up S 0 11 (en n bt q : Int)) 1 7 v 1) ∧ Iv (x_up (x_up S 0 11 (en n bt q : Int)) 1 7 v 1)) ∧ Ln S (x_up (x_up S 0 11 (en n bt q : Int)) 1 7 v) := by
    intro T' q2 v hT' hv0 hv1
    have r1 : x_up S 0 11 (en n bt q : Int) 1 = S 1 := up_o (by decide)
    have P1 : PQ n bt T' (x_up S 0 11 (en n bt q : Int)) (-1) := ⟨hL.fr Fr.u11, hf2 _, _, hT', fun _ => ⟨_, en_le hT.2.1, up_s, rfl⟩⟩
    refine ⟨P1.mv ((up_i (by decide)).trans h9) (fun o ho => up_o ho), ⟨?_, ?_⟩, Fr.u11.ln.tr (Ln.u1 (by omega))⟩
    · rw [← r1] at hc; exact hc.sc (by omega)
    · rw [← r1] at hi; exact hi.sc (by omega)
  rw [G10_takeMood, e0, x_b2s, hR]
  by_cases y : wm n bt 7 q = true
  · rw [if_pos y] at e0'
    rw [if_pos y, if_neg (show ¬ (1 : Int) = 0 by decide), x_b2s, x_b2s, if_pos (sea_own y), if_pos y, x_b2s, if_pos (hf2 _), x_b1s]
    obtain ⟨g1, g2, g3⟩ := fin T0 q 4 e0' (by decide) (by decide)
    exact ⟨T0, _, _, -1, rfl, rfl, g1, fun _ => g2, g3⟩
  · rw [if_neg y] at e0'
    obtain ⟨T1, e1, e2⟩ := c_season hn e0'
    rw [if_neg y, if_pos rfl, e1, x_b2s, x_b2s, x_b2s, if_neg y]
    by_cases z : sea n bt q = -1
    · rw [if_pos z, if_pos z, if_pos rfl] at e2
      have hd : ¬ x_up (x_up S 0 11 (q : Int)) 0 12 (q : Int) 0 12 = -1 := by rw [up_s]; omega
      rw [if_pos z, x_b2s, if_neg hd, x_b1s]
      exact ⟨T1, _, _, (q : Int), rfl, rfl, ⟨hL.fr (Fr.u11.tr Fr.u12), up_s, _, e2, fun w => absurd w (by omega)⟩, fun w => absurd w (by omega), (Fr.u11.tr Fr.u12).ln⟩
    · rw [if_neg z, if_neg z] at e2
      have hb := sea_bd (n := n) (bt := bt) (q := q)
      rw [if_neg z, x_b2s, if_pos (hf2 _), x_b1s]
      obtain ⟨g1, g2, g3⟩ := fin T1 q (sea n bt q) e2 (by omega) (by omega)
      exact ⟨T1, _, _, -1, rfl, rfl, g1, fun _ => g2, g3⟩
end LIN
