/-! A monk's line, both ways. -/
section MLN
variable {n : Nat} {bt : Nat → Int} {T S S' S2 C : xU} {q p : Nat} {f : Int} {m : Nat → Int}
/-- class and reference at the same place of a text, or both past the same fault -/
def PQ (n : Nat) (bt : Nat → Int) (T S : xU) (f : Int) : Prop := LT n bt S ∧ S 0 12 = f ∧ ∃ q, TK n bt T q f ∧ (f = -1 → ∃ p : Nat, p ≤ n ∧ S 0 11 = (p : Int) ∧ sk n bt p = q)
def Fr (S S' : xU) : Prop := (∀ o, o ≠ 0 → S' o = S o) ∧ (∀ i, i ≠ 11 → i ≠ 12 → S' 0 i = S 0 i) ∧ (0 ≤ S 0 11 → 0 ≤ S' 0 11)
theorem Fr.rf : Fr S S := ⟨fun _ _ => rfl, fun _ _ _ => rfl, fun h => h⟩
theorem Fr.tr (h : Fr S S') (k : Fr S' S2) : Fr S S2 := ⟨fun o ho => (k.1 o ho).trans (h.1 o ho), fun i h1 h2 => (k.2.1 i h1 h2).trans (h.2.1 i h1 h2), fun w => k.2.2 (h.2.2 w)⟩
theorem Fr.u11 {v : Nat} : Fr S (x_up S 0 11 (v : Int)) := ⟨fun _ ho => up_o ho, fun _ h1 _ => up_i h1, fun _ => by rw [up_s]; omega⟩
theorem Fr.u12 {v : Int} : Fr S (x_up S 0 12 v) := ⟨fun _ ho => up_o ho, fun _ _ h2 => up_i h2, fun w => by rw [up_i (by decide)]; exact w⟩
theorem LT.fr (h : LT n bt S) (k : Fr S S') : LT n bt S' := by
  refine ⟨(k.2.1 10 (by decide) (by decide)).trans h.1, ?_⟩
  rw [k.2.1 9 (by decide) (by decide), k.1 5 (by decide), k.1 1 (by decide)]
  exact h.2
theorem PQ.live (h : PQ n bt T S (-1)) : ∃ q p, TK n bt T q (-1) ∧ p ≤ n ∧ S 0 11 = ((p : Nat) : Int) ∧ sk n bt p = q := by
  obtain ⟨_, _, q, h1, h2⟩ := h
  obtain ⟨p, h3, h4, h5⟩ := h2 rfl
  exact ⟨q, p, h1, h3, h4, h5⟩
/-- a word that must be there -/
theorem st_expect {k : Nat} (hn : n ≤ 400) (hk : 0 < x_sl.getD k 0) (h : PQ n bt T S f) : ∃ T' S' f', G10_expectWord k T = some T' ∧ (if (S 0 12) = (-1) then (x_b2 (G12_has k S) fun (v3 : Int) (S4 : xU) => (if v3 = 0 then (x_b1 (G12_wrong (S4 0 11) S4) fun (S6 : xU) => (some S6)) else (some S4))) else (some S)) = some S' ∧ PQ n bt T' S' f' ∧ Fr S S' ∧ (f ≠ -1 → f' = f) := by
  obtain ⟨hL, hf, q, hT, hp⟩ := h
  obtain ⟨T', e1, e2⟩ := c_expectWord (k := k) hn hT
  by_cases z : f = -1
  · subst z
    obtain ⟨p, p1, p2, p3⟩ := hp rfl
    rw [if_pos hf, r_has hn hL p2 p1 hk, p3]
    by_cases y : wm n bt k q = true
    · rw [if_pos y, if_pos y] at e2
      rw [if_pos y, x_b2s, if_neg (by decide)]
      exact ⟨T', _, -1, e1, rfl, ⟨hL.fr Fr.u11, (up_i (by decide)).trans hf, _, e2, fun _ => ⟨_, en_le hT.2.1, up_s, rfl⟩⟩, Fr.u11, fun w => absurd rfl w⟩
    · rw [if_neg y, if_neg y, if_pos rfl] at e2
      rw [if_neg y, x_b2s, if_pos rfl, up_s, G12_wrong, up_i (by decide), hf, if_pos rfl, x_b1s, x_b1s]
      exact ⟨T', _, q, e1, rfl, ⟨hL.fr (Fr.u11.tr Fr.u12), up_s, _, e2, fun w => absurd w (by omega)⟩, Fr.u11.tr Fr.u12, fun w => absurd rfl w⟩
  · rw [if_neg (show ¬ S 0 12 = -1 by rw [hf]; exact z)]
    rw [if_neg z, ite_self] at e2
    exact ⟨T', S, f, e1, rfl, ⟨hL, hf, _, e2, fun w => absurd w z⟩, Fr.rf, fun _ => rfl⟩
/-- a number -/
theorem st_number {b : Int} (hn : n ≤ 400) (h : PQ n bt T S f) : ∃ vc vr T' S' f', G10_takeNumber b T = some (vc, T') ∧ G12_figures 0 b S = some (vr, S') ∧ PQ n bt T' S' f' ∧ Fr S S' ∧ (f ≠ -1 → f' = f) ∧ (f' = -1 → vc = vr ∧ 0 ≤ vr ∧ vr ≤ b) := by
  obtain ⟨hL, hf, q, hT, hp⟩ := h
  obtain ⟨T', e1, e2⟩ := c_takeNumber (a := b) hn hT
  by_cases z : f = -1
  · subst z
    obtain ⟨p, p1, p2, p3⟩ := hp rfl
    obtain ⟨r1, r2⟩ := r_figures (b := b) hn hL p2 p1 hf
    rw [p3] at r1 r2
    by_cases y : num n bt q ≠ -1 ∧ num n bt q ≤ b
    · rw [if_pos y, if_pos y] at e2
      rw [if_pos y] at e1
      exact ⟨_, _, T', _, -1, e1, r1 y, ⟨hL.fr Fr.u11, (up_i (by decide)).trans hf, _, e2, fun _ => ⟨_, en_le hT.2.1, up_s, rfl⟩⟩, Fr.u11, fun w => absurd rfl w, fun _ => ⟨rfl, (num_bd y.1).1, y.2⟩⟩
    · rw [if_neg y, if_neg y, if_pos rfl] at e2
      rw [if_neg y] at e1
      obtain ⟨v, r, hr, e3⟩ := r2 y
      exact ⟨_, _, T', _, q, e1, e3, ⟨hL.fr (Fr.u11.tr Fr.u12), up_s, _, e2, fun w => absurd w (by omega)⟩, Fr.u11.tr Fr.u12, fun w => absurd rfl w, fun w => absurd w (by omega)⟩
  · rw [if_neg z, ite_self] at e2
    refine ⟨_, 0, T', S, f, e1, ?_, ⟨hL, hf, _, e2, fun w => absurd w z⟩, Fr.rf, fun _ => rfl, fun w => absurd w z⟩
    rw [G12_figures, if_neg (by rw [hf]; exact z)]
/-- a pace, where one is told -/
theorem st_pace (hn : n ≤ 400) (h : PQ n bt T S f) : ∃ vc vr T' S' f', (x_b2 (G10_takeWord 3 T) fun (v21 : Int) (T22 : xU) => (if v21 = 0 then (some (2, T22)) else (x_b2 (G10_takeNumber 8 T22) fun (v27 : Int) (T28 : xU) => (some (v27, T28))))) = some (vc, T') ∧
    (if (S 0 12) = (-1) then (x_b2 (G12_has 3 S) fun (v39 : Int) (S40 : xU) => (if v39 = 0 then (some (2, S40)) else (x_b2 (G12_figures 0 8 S40) fun (v42 : Int) (S43 : xU) => (some (v42, S43))))) else (some (2, S))) = some (vr, S') ∧ PQ n bt T' S' f' ∧ Fr S S' ∧ (f ≠ -1 → f' = f) ∧ (f' = -1 → vc = vr ∧ 0 ≤ vr ∧ vr ≤ 8) := by
  obtain ⟨hL, hf, q, hT, hp⟩ := h
  obtain ⟨T1, e1, e2⟩ := c_takeWord (k := 3) hn hT
  rw [e1, x_b2s]
  by_cases z : f = -1
  · subst z
    obtain ⟨p, p1, p2, p3⟩ := hp rfl
    rw [if_pos hf, r_has hn hL p2 p1 (by decide), p3]
    by_cases y : wm n bt 3 q = true
    · rw [if_pos y] at e2
      rw [if_pos y, if_pos y, x_b2s, if_neg (by decide), if_neg (by decide)]
      have hP : PQ n bt T1 (x_up S 0 11 (en n bt q : Int)) (-1) := ⟨hL.fr Fr.u11, (up_i (by decide)).trans hf, _, e2, fun _ => ⟨_, en_le hT.2.1, up_s, rfl⟩⟩
      obtain ⟨vc, vr, T', S', f', k1, k2, k3, k4, k5, k6⟩ := st_number (b := 8) hn hP
      rw [k1, k2, x_b2s, x_b2s]
      exact ⟨_, _, T', S', f', rfl, rfl, k3, Fr.u11.tr k4, fun w => absurd rfl w, k6⟩
    · rw [if_neg y] at e2
      rw [if_neg y, if_neg y, x_b2s, if_pos rfl, if_pos rfl]
      exact ⟨2, 2, T1, _, -1, rfl, rfl, ⟨hL.fr Fr.u11, (up_i (by decide)).trans hf, _, e2, fun _ => ⟨q, hT.2.1, up_s, sk_id hT.2.2.2.2.2.2.2⟩⟩, Fr.u11, fun w => absurd rfl w, fun _ => ⟨rfl, by decide, by decide⟩⟩
  · rw [if_neg (show ¬ S 0 12 = -1 by rw [hf]; exact z)]
    by_cases y : wm n bt 3 q = true
    · rw [if_pos y, if_neg (by decide)]
      obtain ⟨T', k1, k2⟩ := c_takeNumber (a := 8) hn e2
      rw [if_neg z, ite_self] at k2
      rw [k1, x_b2s]
      exact ⟨_, _, T', S, f, rfl, rfl, ⟨hL, hf, _, k2, fun w => absurd w z⟩, Fr.rf, fun _ => rfl, fun w => absurd w z⟩
    · rw [if_neg y, if_pos rfl]
      exact ⟨_, _, T1, S, f, rfl, rfl, ⟨hL, hf, _, e2, fun w => absurd w z⟩, Fr.rf, fun _ => rfl, fun w => absurd w z⟩
/-- months, where some are told -/
theorem st_likes (hn : n ≤ 400) (hby : ∀ i, i < n → 0 ≤ bt i ∧ bt i ≤ 255) (h : PQ n bt T S f) : ∃ vc vr T' S' f', (x_b2 (G10_takeWord 4 T) fun (v30 : Int) (T31 : xU) => (if v30 = 0 then (some (0, T31)) else (x_b2 (G10_takeMonths T31) fun (v36 : Int) (T37 : xU) => (some (v36, T37))))) = some (vc, T') ∧
    (if (S 0 12) = (-1) then (x_b2 (G12_has 4 S) fun (v48 : Int) (S49 : xU) => (if v48 = 0 then (some (0, S49)) else (x_b2 (G12_months S49) fun (v51 : Int) (S52 : xU) => (some (v51, S52))))) else (some (0, S))) = some (vr, S') ∧ PQ n bt T' S' f' ∧ Fr S S' ∧ (f ≠ -1 → f' = f) ∧ (f' = -1 → vc = vr ∧ 0 ≤ vr ∧ vr < 4096) := by
  obtain ⟨hL, hf, q, hT, hp⟩ := h
  obtain ⟨T1, e1, e2⟩ := c_takeWord (k := 4) hn hT
  rw [e1, x_b2s]
  by_cases z : f = -1
  · subst z
    obtain ⟨p, p1, p2, p3⟩ := hp rfl
    rw [if_pos hf, r_has hn hL p2 p1 (by decide), p3]
    by_cases y : wm n bt 4 q = true
    · rw [if_pos y] at e2
      rw [if_pos y, if_pos y, x_b2s, if_neg (by decide), if_neg (by decide)]
      have hf1 : x_up S 0 11 (en n bt q : Int) 0 12 = -1 := (up_i (by decide)).trans hf
      have hL1 : LT n bt (x_up S 0 11 (en n bt q : Int)) := hL.fr Fr.u11
      obtain ⟨vc, T', q', f', c1, c2, c3, c4, c5⟩ := c_months hn hby e2
      obtain ⟨r1, r2⟩ := r_months hn hL1 up_s (en_le hT.2.1) hf1
      rw [c1, x_b2s]
      cases hm : mon n bt (sk n bt (en n bt q)) with
      | true =>
        obtain ⟨d1, d2, d3⟩ := c4 rfl hm
        subst d1; subst d2; subst d3
        rw [r1 hm, x_b2s, up_up]
        have hlt := ms_lt (bt := bt) (q := sk n bt (en n bt q)) (en n bt (sk n bt (en n bt q)) - sk n bt (en n bt q))
        exact ⟨_, _, T', _, -1, rfl, rfl, ⟨hL.fr Fr.u11, (up_i (by decide)).trans hf, _, c2, fun _ => ⟨_, en_le (sk_le (en_le hT.2.1)), up_s, rfl⟩⟩, Fr.u11, fun w => absurd rfl w, fun _ => ⟨rfl, by omega, by omega⟩⟩
      | false =>
        obtain ⟨v, r, hr, e3⟩ := r2 hm
        have d := c5 rfl hm
        subst d
        rw [e3, x_b2s, up_up]
        exact ⟨_, _, T', _, _, rfl, rfl, ⟨hL.fr (Fr.u11.tr Fr.u12), up_s, _, c2, fun w => absurd w (by omega)⟩, Fr.u11.tr Fr.u12, fun w => absurd rfl w, fun w => absurd w (by omega)⟩
    · rw [if_neg y] at e2
      rw [if_neg y, if_neg y, x_b2s, if_pos rfl, if_pos rfl]
      exact ⟨0, 0, T1, _, -1, rfl, rfl, ⟨hL.fr Fr.u11, (up_i (by decide)).trans hf, _, e2, fun _ => ⟨q, hT.2.1, up_s, sk_id hT.2.2.2.2.2.2.2⟩⟩, Fr.u11, fun w => absurd rfl w, fun _ => ⟨rfl, by decide, by decide⟩⟩
  · rw [if_neg (show ¬ S 0 12 = -1 by rw [hf]; exact z)]
    by_cases y : wm n bt 4 q = true
    · rw [if_pos y, if_neg (by decide)]
      obtain ⟨vc, T', q', f', c1, c2, c3, c4, c5⟩ := c_months hn hby e2
      have := c3 z
      subst this
      rw [c1, x_b2s]
      exact ⟨_, _, T', S, _, rfl, rfl, ⟨hL, hf, _, c2, fun w => absurd w z⟩, Fr.rf, fun _ => rfl, fun w => absurd w z⟩
    · rw [if_neg y, if_pos rfl]
      exact ⟨_, _, T1, S, f, rfl, rfl, ⟨hL, hf, _, e2, fun w => absurd w z⟩, Fr.rf, fun _ => rfl, fun w => absurd w z⟩
/-- the stall -/
theorem st_stall {k : Nat} (hn : n ≤ 400) (h : PQ n bt T S f) (hc : CR C (S 1)) (hi : Iv (S 1)) (e : S 1 3 = (k : Int)) : ∃ vc vr T' S' f',
    (x_b1 (G10_expectWord 2 T) fun (T8 : xU) => (x_b1 (G10_numberHere T8) fun (v10 : Int) => (x_b1 (G1_hasStall v10 C) fun (v12 : Int) => (x_b1 (if v12 = 0 then (some T8) else (x_b1 (G10_refuse T8) fun (T16 : xU) => (some T16))) fun (T14 : xU) => G10_takeNumber 11 T14)))) = some (vc, T') ∧
    (x_b2 (if (S 0 12) = (-1) then (x_b2 (G12_has 2 S) fun (v11 : Int) (S12 : xU) => (if v11 = 0 then (some (0, S12)) else (some (1, S12)))) else (some (0, S))) fun (v8 : Int) (S9 : xU) => (x_b1 (if (S9 0 12) = (-1) then (if v8 = 0 then (x_b1 (G12_wrong (S9 0 11) S9) fun (S16 : xU) => (some S16)) else (some S9)) else (some S9)) fun (S14 : xU) => (x_b2 (if v8 = 0 then (some ((S14 0 11), S14)) else (x_b2 (G12_here S14) fun (v21 : Int) (S22 : xU) => (some (v21, S22)))) fun (v18 : Int) (S19 : xU) => (x_b2 (if v8 = 0 then (some (0, S19)) else (x_b2 (G12_figures 0 11 S19) fun (v27 : Int) (S28 : xU) => (some (v27, S28)))) fun (v24 : Int) (S25 : xU) => (x_b1 (if (S25 0 12) = (-1) then (x_b1 (G12_isStall v24 S25) fun (v32 : Int) => (if v32 = 0 then (some S25) else (x_b1 (G12_wrong v18 S25) fun (S34 : xU) => (some S34)))) else (some S25)) fun (S30 : xU) => some (v24, S30)))))) = some (vr, S') ∧ PQ n bt T' S' f' ∧ Fr S S' ∧ (f ≠ -1 → f' = f) ∧ (f' = -1 → vc = vr ∧ 0 ≤ vr ∧ vr ≤ 11 ∧ hsB (S 1) vr k = false) := by
  obtain ⟨hL, hf, q, hT, hp⟩ := h
  obtain ⟨T8, e1, e2⟩ := c_expectWord (k := 2) hn hT
  rw [e1, x_b1s, c_number hn e2, x_b1s, c_hasStall hc hi e, x_b1s]
  -- the class goes on, whatever it has
  have cls : ∀ (q2 : Nat) (f2 : Int), TK n bt T8 q2 f2 → f2 ≠ -1 → ∃ vc T' q3, (x_b1 (if (if hsB (S 1) (num n bt (if wm n bt 2 q then sk n bt (en n bt q) else q)) k = true then (1 : Int) else 0) = 0 then (some T8) else (x_b1 (G10_refuse T8) fun (T16 : xU) => (some T16))) fun (T14 : xU) => G10_takeNumber 11 T14) = some (vc, T') ∧ TK n bt T' q3 f2 := by
    intro q2 f2 h2 hf2
    by_cases y : (if hsB (S 1) (num n bt (if wm n bt 2 q then sk n bt (en n bt q) else q)) k = true then (1 : Int) else 0) = 0
    · rw [if_pos y, x_b1s]
      obtain ⟨T', k1, k2⟩ := c_takeNumber (a := 11) hn h2
      rw [if_neg hf2, ite_self] at k2
      exact ⟨_, T', _, k1, k2⟩
    · rw [if_neg y]
      obtain ⟨T9, k1, k2⟩ := c_refuse h2
      rw [if_neg hf2] at k2
      rw [k1, x_b1s, x_b1s]
      obtain ⟨T', k3, k4⟩ := c_takeNumber (a := 11) hn k2
      rw [if_neg hf2, ite_self] at k4
      exact ⟨_, T', _, k3, k4⟩
  by_cases z : f = -1
  · subst z
    obtain ⟨p, p1, p2, p3⟩ := hp rfl
    rw [if_pos hf, r_has hn hL p2 p1 (by decide), p3]
    by_cases y : wm n bt 2 q = true
    · simp only [if_pos y] at e2 cls ⊢
      have hf1 : x_up S 0 11 (en n bt q : Int) 0 12 = -1 := (up_i (by decide)).trans hf
      have hL1 : LT n bt (x_up S 0 11 (en n bt q : Int)) := hL.fr Fr.u11
      have hle := en_le (n := n) (bt := bt) hT.2.1
      rw [x_b2s, if_neg (show ¬ (1 : Int) = 0 by decide), x_b2s, if_pos hf1, if_neg (show ¬ (1 : Int) = 0 by decide), x_b1s, if_neg (show ¬ (1 : Int) = 0 by decide), G12_here, r_skip hn hL1 up_s hle, x_b1s, up_s, x_b2s, x_b2s, if_neg (show ¬ (1 : Int) = 0 by decide), up_up]
      have hq2 := sk_le (bt := bt) hle
      have hid := sk_id (n := n) (bt := bt) (sk_kA (n := n) (bt := bt) hle)
      generalize sk n bt (en n bt q) = q2 at *
      have hf2 : x_up S 0 11 (q2 : Int) 0 12 = -1 := (up_i (by decide)).trans hf
      have hL2 : LT n bt (x_up S 0 11 (q2 : Int)) := hL.fr Fr.u11
      obtain ⟨r1, r2⟩ := r_figures (b := 11) hn hL2 up_s hq2 hf2
      rw [hid] at r1 r2
      obtain ⟨T', k1, k2⟩ := c_takeNumber (a := 11) hn e2
      by_cases y2 : num n bt q2 ≠ -1 ∧ num n bt q2 ≤ 11
      · rw [r1 y2, x_b2s, x_b2s, up_up]
        have hf3 : x_up S 0 11 (en n bt q2 : Int) 0 12 = -1 := (up_i (by decide)).trans hf
        have eS1 : x_up S 0 11 (en n bt q2 : Int) 1 = S 1 := up_o (by decide)
        have his := r_isStall (S := x_up S 0 11 (en n bt q2 : Int)) (a := num n bt q2) (k := k) (by rw [eS1]; exact hi) (by rw [eS1]; exact e)
        rw [eS1] at his
        rw [if_pos hf3, his, x_b1s]
        by_cases y3 : hsB (S 1) (num n bt q2) k = true
        · obtain ⟨T9, k3, k4⟩ := c_refuse e2
          rw [if_pos rfl] at k4
          obtain ⟨T2, k5, k6⟩ := c_takeNumber (a := 11) hn k4
          rw [if_neg (show ¬ (q2 : Int) = -1 by omega), ite_self] at k6
          rw [if_pos y3, if_neg (by decide), if_neg (by decide), k3, x_b1s, x_b1s, k5, G12_wrong, hf3, if_pos rfl, x_b1s, x_b1s, x_b1s]
          exact ⟨_, _, T2, _, (q2 : Int), rfl, rfl, ⟨hL.fr (Fr.u11.tr Fr.u12), up_s, _, k6, fun w => absurd w (by omega)⟩, Fr.u11.tr Fr.u12, fun w => absurd rfl w, fun w => absurd w (by omega)⟩
        · rw [if_neg y3, if_pos rfl, if_pos rfl, x_b1s, x_b1s, k1]
          rw [if_pos y2, if_pos y2] at k2
          rw [if_pos y2]
          exact ⟨_, _, T', _, -1, rfl, rfl, ⟨hL.fr Fr.u11, hf3, _, k2, fun _ => ⟨_, en_le hq2, up_s, rfl⟩⟩, Fr.u11, fun w => absurd rfl w, fun _ => ⟨rfl, (num_bd y2.1).1, y2.2, by simpa using y3⟩⟩
      · obtain ⟨v, r, hr, e3⟩ := r2 y2
        rw [e3, x_b2s, x_b2s, up_up, if_neg (show ¬ x_up (x_up S 0 11 (r : Int)) 0 12 (q2 : Int) 0 12 = -1 by rw [up_s]; omega), x_b1s]
        by_cases y3 : hsB (S 1) (num n bt q2) k = true
        · obtain ⟨T9, k3, k4⟩ := c_refuse e2
          rw [if_pos rfl] at k4
          obtain ⟨T2, k5, k6⟩ := c_takeNumber (a := 11) hn k4
          rw [if_neg (show ¬ (q2 : Int) = -1 by omega), ite_self] at k6
          rw [if_pos y3, if_neg (by decide), k3, x_b1s, x_b1s, k5]
          exact ⟨_, _, T2, _, (q2 : Int), rfl, rfl, ⟨hL.fr (Fr.u11.tr Fr.u12), up_s, _, k6, fun w => absurd w (by omega)⟩, Fr.u11.tr Fr.u12, fun w => absurd rfl w, fun w => absurd w (by omega)⟩
        · rw [if_neg y3, if_pos rfl, x_b1s, k1]
          rw [if_neg y2, if_neg y2, if_pos rfl] at k2
          exact ⟨_, _, T', _, (q2 : Int), rfl, rfl, ⟨hL.fr (Fr.u11.tr Fr.u12), up_s, _, k2, fun w => absurd w (by omega)⟩, Fr.u11.tr Fr.u12, fun w => absurd rfl w, fun w => absurd w (by omega)⟩
    · rw [if_neg y, if_neg y, if_pos rfl] at e2
      obtain ⟨vc, T', q3, k1, k2⟩ := cls q q e2 (by omega)
      have hf1 : x_up S 0 11 (q : Int) 0 12 = -1 := (up_i (by decide)).trans hf
      have hf2 : ¬ x_up (x_up S 0 11 (q : Int)) 0 12 (q : Int) 0 12 = -1 := by rw [up_s]; omega
      rw [k1, if_neg y, x_b2s, if_pos rfl, x_b2s, if_pos hf1, if_pos rfl, up_s, G12_wrong, if_pos hf1, x_b1s, x_b1s, x_b1s, if_pos rfl, x_b2s, if_pos rfl, x_b2s, if_neg hf2, x_b1s]
      exact ⟨_, _, T', _, (q : Int), rfl, rfl, ⟨hL.fr (Fr.u11.tr Fr.u12), up_s, _, k2, fun w => absurd w (by omega)⟩, Fr.u11.tr Fr.u12, fun w => absurd rfl w, fun w => absurd w (by omega)⟩
  · have hf1 : ¬ S 0 12 = -1 := by rw [hf]; exact z
    rw [if_neg z, ite_self] at e2
    obtain ⟨vc, T', q3, k1, k2⟩ := cls _ f e2 z
    rw [k1, if_neg hf1, x_b2s, if_neg hf1, x_b1s, if_pos rfl, x_b2s, if_pos rfl, x_b2s, if_neg hf1, x_b1s]
    exact ⟨_, _, T', S, f, rfl, rfl, ⟨hL, hf, _, k2, fun w => absurd w z⟩, Fr.rf, fun _ => rfl, fun w => absurd w z⟩
end MLN
