/-! Hungry ones, hours told, trials and spans. -/
section Q13
variable {X N S S7 La Th C Fo : xU} {A : xA}
theorem sm_pos {q : Nat → Int} {n : Nat} (h : ∀ p, p < n → 0 ≤ q p) : 0 < sm q n ↔ ∃ p, p < n ∧ 0 < q p := by
  induction n with
  | zero => exact ⟨fun z => absurd z (by show ¬ (0 : Int) < 0; omega), fun ⟨p, hp, _⟩ => absurd hp (by omega)⟩
  | succ n ih =>
    have ih := ih (fun p hp => h p (by omega))
    have hn := h n (by omega)
    have hb : 0 ≤ sm q n := by
      by_cases z : 0 < sm q n
      · omega
      · have key : ∀ k, k ≤ n → 0 ≤ sm q k := by
          intro k
          induction k with
          | zero => intro _; exact Int.le_refl _
          | succ k ik => intro hk; rw [sm_s]; have := ik (by omega); have := h k (by omega); omega
        exact key n (Nat.le_refl _)
    rw [sm_s]
    constructor
    · intro z
      by_cases w : 0 < q n
      · exact ⟨n, by omega, w⟩
      · obtain ⟨p, hp, hq⟩ := ih.mp (by omega)
        exact ⟨p, by omega, hq⟩
    · rintro ⟨p, hp, hq⟩
      by_cases e : p = n
      · subst e; omega
      · have := ih.mpr ⟨p, by omega, hq⟩
        omega
/-- whether one hungers -/
def hg (n : Nat) (m : Nat → Int) : Bool := decide (0 < sm (fun p => m (22 + 8 * p)) n)
theorem w_hg {S5 : xU} {n j : Nat} (hi : Iv (S5 1)) (e : S5 1 3 = (n : Int)) (hj : j ≤ 72) : whl xFU (G12_starves_L26 (j : Int) S5) (-1, 0) = some (if hg n (S5 1) then (j : Int) else -1) := by
  have h7 := hi.many
  have e0 : ((-1 : Int), (0 : Int)) = ((if decide (0 < sm (fun p => S5 1 (22 + 8 * p)) 0) then (j : Int) else -1), ((0 : Nat) : Int)) := by
    rw [if_neg (by show ¬ decide ((0 : Int) < 0) = true; decide)]; rfl
  rw [e0]
  refine w_run (fun k => ((if decide (0 < sm (fun p => S5 1 (22 + 8 * p)) k) then (j : Int) else -1), (k : Int))) n (by unfold xFU; omega) (fun k hk => ?_) ?_
  · have h6 := mk_6 hi (p := k) (by omega)
    have hs := sm_bd (q := fun p => S5 1 (22 + 8 * p)) (n := k) (B := 99) (fun p hp => mk_6 hi (by omega))
    show (if S5 1 3 ≤ (k : Int) then _ else _) = _
    rw [if_neg (by omega), g12_of6 (by omega), x_b1s, n_inc (by omega)]
    by_cases q : S5 1 (22 + 8 * k) ≤ 0
    · rw [if_pos q, x_b1s, show sm (fun p => S5 1 (22 + 8 * p)) (k + 1) = sm (fun p => S5 1 (22 + 8 * p)) k from by rw [sm_s]; show _ + S5 1 (22 + 8 * k) = _; omega]
    · rw [if_neg q, x_b1s, if_pos (show decide (0 < sm (fun p => S5 1 (22 + 8 * p)) (k + 1)) = true from by rw [sm_s]; show decide (0 < _ + S5 1 (22 + 8 * k)) = true; simp; omega)]
  · show (if S5 1 3 ≤ (n : Int) then _ else _) = _
    rw [if_pos (by omega)]
    rfl
theorem L_starves (h : CR N (S 1)) (hi : Iv (S 1)) (hL : LR La (S 1)) : ∃ v T' La' S', G11_starves N Th La = some (v, T', La') ∧ G12_starves S = some (v, S') ∧ S' 0 0 = 0 ∧ Kw S S' ∧ LaEq La La' := by
  obtain ⟨n, hn, e⟩ := hi.nn
  obtain ⟨T2, l1, l2⟩ := g3_look (Th := Th) h hi
  obtain ⟨v, C', La', S7, k1, k2, k3, k4, k5⟩ := s_until (f1 := G3_firstHunger_L7) (f2 := G12_starves_L13) (S := rcp (x_up S 0 0 0) 3 0 1 0 372) (C := T2) (La := La) (hg n)
    (fun j C La2 S5 hj hc hi5 h3 => by
      show (if 72 < (j : Int) then _ else _) = _
      rw [as1, x_up1] at h3
      have hs := sm_bd (q := fun p => S5 1 (22 + 8 * p)) (n := n) (B := 99) (fun p hp => mk_6 hi5 (by omega))
      rw [if_neg (by omega), g1_sumOf6 hc hi5 (h3.trans e), x_b1s]
      by_cases q : hg n (S5 1) = true
      · have : 0 < sm (fun p => S5 1 (22 + 8 * p)) n := by rw [hg] at q; simpa using q
        rw [if_pos q, if_neg (by omega)]
      · have : ¬ 0 < sm (fun p => S5 1 (22 + 8 * p)) n := by rw [hg] at q; simpa using q
        rw [if_neg q, if_pos (by omega)])
    (fun C La2 => rfl)
    (fun j S5 hj hi5 h3 => by
      show (if 72 < (j : Int) then _ else _) = _
      rw [as1, x_up1] at h3
      rw [if_neg (by omega), if_pos rfl, w_hg hi5 (h3.trans e) hj, x_b1s])
    (fun S5 => rfl)
    (fun v j S5 => by
      show (if 72 < (j : Int) then _ else _) = _
      by_cases q : (72 : Int) < (j : Int)
      · rw [if_pos q]
      · rw [if_neg q, if_neg (by omega)])
    (by rw [as1, x_up1]; exact l2) (by rw [as1, x_up1]; exact hi) (by rw [as1, x_up1]; exact hL)
  obtain ⟨z1, z2, z3⟩ := s_bk k3 (by rw [as1] at k4; exact k4)
  refine ⟨v, C', La', rcp S7 1 0 3 0 372, ?_, ?_, z2.trans up_s, Kw.th.tr z1, k5⟩
  · rw [G11_starves, G3_firstHunger, l1, x_b1s, k1, x_b3s]
  · rw [G12_starves, g12_putsAside, x_b1s, k2, x_b2s, g12_comesBack, x_b1s]
/-- hours, without what they count -/
theorem s_hrs {d : Int} {n : Nat} (hn : n ≤ 72) (h : CR C (S 1)) (hi : Iv (S 1)) (hL : LR La (S 1)) :
    ∃ v C' La' S', G3_passHours (n : Int) d C La = some (C', La') ∧ G12_goes (n : Int) d S = some (v, S') ∧ Nx La S C' La' S' := by
  obtain ⟨r1, r2, w1, w2, v, C', La', S', e1, e2, e3⟩ := w_sim (f1 := G3_passHours_L3 (n : Int) d) (f2 := G12_goes_L5 (n : Int) d)
    (fun j s1 s2 => ∃ v C2 La2 S2, s1 = ((j : Int), C2, La2) ∧ s2 = (v, (j : Int), S2) ∧ Nx La S C2 La2 S2) (fun r1 r2 => ∃ v C' La' S', r1 = (C', La') ∧ r2 = (v, S') ∧ Nx La S C' La' S')
    n (by unfold xFU; omega) (by
      rintro j s1 s2 hj ⟨v, C2, La2, S2, rfl, rfl, hN⟩
      obtain ⟨b, C3, La3, S3, g1, g2, g3, g4, g5⟩ := s_pass (d := d) hN.1 hN.2.1 (hL.mv hN.2.2.2.2.2 hN.2.2.2.2.1)
      refine ⟨(((j + 1 : Nat) : Int), C3, La3), (x_add v (x_bc (b : Int)), ((j + 1 : Nat) : Int), S3), ?_, ?_, _, C3, La3, S3, rfl, rfl, hN.tr g4⟩
      · show (if (n : Int) ≤ (j : Int) then _ else _) = _
        rw [if_neg (by omega), g1, x_b3s, n_inc (by omega)]
      · show (if (n : Int) ≤ (j : Int) then _ else _) = _
        rw [if_neg (by omega), g2, x_b2s, n_inc (by omega)]) (by
      rintro s1 s2 ⟨v, C2, La2, S2, rfl, rfl, hN⟩
      refine ⟨(C2, La2), (v, S2), ?_, ?_, v, C2, La2, S2, rfl, rfl, hN⟩
      · show (if (n : Int) ≤ (n : Int) then _ else _) = _
        rw [if_pos (by omega)]
      · show (if (n : Int) ≤ (n : Int) then _ else _) = _
        rw [if_pos (by omega)]) (s1 := (0, C, La)) (s2 := (0, 0, S)) ⟨0, C, La, S, rfl, rfl, ⟨h, hi, rfl, Kq.rf, Lw.rf, LaEq.rf⟩⟩
  subst e1
  subst e2
  refine ⟨v, C', La', S', ?_, ?_, e3⟩
  · rw [G3_passHours, w1, x_b2s]
  · rw [G12_goes, w2, x_b2s]
theorem L_trial {a b : Int} (h : CR N (S 1)) (hi : Iv (S 1)) (hL : LR La (S 1)) : ∃ o T' La' r S', G11_trial a b N Th La = some (o, T', La') ∧ G12_trial a b S = some (r, S') ∧ Ag (fun _ => 1) o r S' ∧ Kw S S' ∧ LaEq La La' := by
  rw [G11_trial, G12_trial, g11_needWithin, g12_isIn]
  by_cases h0 : 0 ≤ a ∧ a ≤ 72
  · rw [if_pos h0, if_pos h0]
    obtain ⟨n, rfl⟩ := Int.eq_ofNat_of_zero_le h0.1
    obtain ⟨k, hk, e⟩ := hi.nn
    obtain ⟨T2, l1, l2⟩ := g3_look (Th := Th) h hi
    obtain ⟨v, C', La', S7, k1, k2, hN⟩ := s_hrs (d := 1) (n := n) (S := rcp (x_up S 0 0 0) 3 0 1 0 372) (C := T2) (La := La) (by omega) (by rw [as1, x_up1]; exact l2) (by rw [as1, x_up1]; exact hi) (by rw [as1, x_up1]; exact hL)
    have e7 : S7 1 3 = (k : Int) := by rw [hN.2.2.1, as1, x_up1, e]
    obtain ⟨z1, z2, z3⟩ := s_bk hN.2.2.2.1 (by have := hN.2.2.2.2.1; rw [as1] at this; exact this)
    by_cases hb : b = 0
    · refine ⟨.inl (sm (fun p => S7 1 (21 + 8 * p)) k), C', La', sm (fun p => S7 1 (21 + 8 * p)) k, rcp S7 1 0 3 0 372, ?_, ?_, ⟨z2.trans up_s, rfl⟩, Kw.th.tr z1, hN.2.2.2.2.2⟩
      · simp only [x_b1s, x_b2s, x_b3s, x_tvn, x_tvs, up_s, Int.reduceEq, Int.reduceLE, reduceIte]
        rw [l1, x_b1s, k1, x_b2s, if_pos hb, g1_sumOf5 hN.1 hN.2.1 e7, x_b1s, x_b1s]
      · simp only [x_b1s, x_b2s, x_b3s, x_tvn, x_tvs, up_s, Int.reduceEq, Int.reduceLE, reduceIte]
        rw [g12_putsAside, x_b1s, k2, x_b2s, if_pos hb, g12_lateOfAll hN.2.1 e7, x_b1s, x_b1s, g12_comesBack, x_b1s]
    · refine ⟨.inl (S7 1 7), C', La', S7 1 7, rcp S7 1 0 3 0 372, ?_, ?_, ⟨z2.trans up_s, rfl⟩, Kw.th.tr z1, hN.2.2.2.2.2⟩
      · simp only [x_b1s, x_b2s, x_b3s, x_tvn, x_tvs, up_s, Int.reduceEq, Int.reduceLE, reduceIte]
        rw [l1, x_b1s, k1, x_b2s, if_neg hb, x_b1s, hN.1.1.2.2.2.2.2.1]
      · simp only [x_b1s, x_b2s, x_b3s, x_tvn, x_tvs, up_s, Int.reduceEq, Int.reduceLE, reduceIte]
        rw [g12_putsAside, x_b1s, k2, x_b2s, if_neg hb, x_b1s, g12_comesBack, x_b1s]
  · rw [if_neg h0, if_neg h0]
    exact ⟨.inr 0, Th, La, 0, x_up S 0 0 1, rfl, rfl, rfl, Kw.th, LaEq.rf⟩
theorem L_ahead {a b c : Int} (h : CR N (S 1)) (hi : Iv (S 1)) (hL : LR La (S 1)) : ∃ o T' La' r S', G11_ahead a b c N Th La = some (o, T', La') ∧ G12_ahead a b c S = some (r, S') ∧ Ag (fun E => if E = 1 then 1 else if E = 0 then 2 else 3) o r S' ∧ Kw S S' ∧ LaEq La La' := by
  have h7 := hi.many
  rw [G11_ahead, G12_ahead, g11_needMonk h, g12_isMonk hi.many, g11_needWithin, g12_isIn, g12_isIn]
  by_cases h0 : 0 ≤ a ∧ a < S 1 3
  · rw [if_pos h0, if_pos h0]
    obtain ⟨p, rfl⟩ := Int.eq_ofNat_of_zero_le h0.1
    by_cases h1 : 0 ≤ b ∧ b ≤ 72
    · rw [if_pos h1, if_pos h1]
      obtain ⟨n, rfl⟩ := Int.eq_ofNat_of_zero_le h1.1
      by_cases h2 : 0 ≤ c ∧ c ≤ 2
      · rw [if_pos h2, if_neg (show ¬ c < 0 by omega), if_pos h2.2]
        obtain ⟨T2, l1, l2⟩ := g3_look (Th := Th) h hi
        obtain ⟨v, C', La', S7, k1, k2, hN⟩ := s_hrs (d := 0) (n := n) (S := rcp (x_up S 0 0 0) 3 0 1 0 372) (C := T2) (La := La) (by omega) (by rw [as1, x_up1]; exact l2) (by rw [as1, x_up1]; exact hi) (by rw [as1, x_up1]; exact hL)
        have e7 : S7 1 3 = S 1 3 := by rw [hN.2.2.1, as1, x_up1]
        obtain ⟨z1, z2, z3⟩ := s_bk hN.2.2.2.1 (by have := hN.2.2.2.2.1; rw [as1] at this; exact this)
        have hp7 : (p : Int) < S7 1 3 := by rw [e7]; exact h0.2
        rcases (show c = 0 ∨ c = 1 ∨ c = 2 by omega) with rfl | rfl | rfl
        · refine ⟨.inl (S7 1 (16 + 8 * p)), C', La', S7 1 (16 + 8 * p), rcp S7 1 0 3 0 372, ?_, ?_, ⟨z2.trans up_s, rfl⟩, Kw.th.tr z1, hN.2.2.2.2.2⟩
          · simp only [x_b1s, x_b2s, x_b3s, x_tvn, x_tvs, up_s, Int.reduceEq, Int.reduceLE, reduceIte]
            rw [l1, x_b1s, k1, x_b2s, g1_of0 hN.1 hN.2.1 hp7, x_b1s]
          · simp only [x_b1s, x_b2s, x_b3s, x_tvn, x_tvs, up_s, Int.reduceEq, Int.reduceLE, reduceIte]
            rw [g12_putsAside, x_b1s, k2, x_b2s, g12_of0 (by omega), x_b1s, g12_comesBack, x_b1s]
        · refine ⟨.inl (S7 1 (21 + 8 * p)), C', La', S7 1 (21 + 8 * p), rcp S7 1 0 3 0 372, ?_, ?_, ⟨z2.trans up_s, rfl⟩, Kw.th.tr z1, hN.2.2.2.2.2⟩
          · simp only [x_b1s, x_b2s, x_b3s, x_tvn, x_tvs, up_s, Int.reduceEq, Int.reduceLE, reduceIte]
            rw [l1, x_b1s, k1, x_b2s, g1_of5 hN.1 hN.2.1 hp7, x_b1s]
          · simp only [x_b1s, x_b2s, x_b3s, x_tvn, x_tvs, up_s, Int.reduceEq, Int.reduceLE, reduceIte]
            rw [g12_putsAside, x_b1s, k2, x_b2s, g12_of5 (by omega), x_b1s, g12_comesBack, x_b1s]
        · refine ⟨.inl (S7 1 (22 + 8 * p)), C', La', S7 1 (22 + 8 * p), rcp S7 1 0 3 0 372, ?_, ?_, ⟨z2.trans up_s, rfl⟩, Kw.th.tr z1, hN.2.2.2.2.2⟩
          · simp only [x_b1s, x_b2s, x_b3s, x_tvn, x_tvs, up_s, Int.reduceEq, Int.reduceLE, reduceIte]
            rw [l1, x_b1s, k1, x_b2s, g1_of6 hN.1 hN.2.1 hp7, x_b1s]
          · simp only [x_b1s, x_b2s, x_b3s, x_tvn, x_tvs, up_s, Int.reduceEq, Int.reduceLE, reduceIte]
            rw [g12_putsAside, x_b1s, k2, x_b2s, g12_of6 (by omega), x_b1s, g12_comesBack, x_b1s]
      · rw [if_neg h2]
        refine ⟨.inr 3, Th, La, 0, x_up S 0 0 3, ?_, rfl, rfl, Kw.th, LaEq.rf⟩
        simp only [x_b1s, x_b2s, x_b3s, x_tvn, x_tvs, up_s, Int.reduceEq, Int.reduceLE, reduceIte]
        by_cases h3 : c < 0
        · rw [if_pos h3]
        · rw [if_neg h3, if_neg (by omega)]
    · rw [if_neg h1, if_neg h1]
      exact ⟨.inr 0, Th, La, 0, x_up S 0 0 2, rfl, rfl, rfl, Kw.th, LaEq.rf⟩
  · rw [if_neg h0, if_neg h0]
    exact ⟨.inr 1, Th, La, 0, x_up S 0 0 1, rfl, rfl, rfl, Kw.th, LaEq.rf⟩
theorem L_span {a b : Int} (h : CR N (S 1)) (hi : Iv (S 1)) (hL : LR La (S 1)) : ∃ o T' La' r S', G11_span a b N Th La = some (o, T', La') ∧ G12_span a b S = some (r, S') ∧ Ag (fun _ => 1) o r S' ∧ Kw S S' ∧ LaEq La La' := by
  rw [G11_span, G12_span, g11_needWithin, g12_isIn]
  by_cases h0 : 0 ≤ a ∧ a ≤ 72
  · rw [if_pos h0, if_pos h0]
    obtain ⟨n, rfl⟩ := Int.eq_ofNat_of_zero_le h0.1
    obtain ⟨k, hk, e⟩ := hi.nn
    have key := w_sim (f1 := G3_spanOf_L10 (n : Int) N) (f2 := G12_span_L37 (n : Int) b)
      (fun j s1 s2 => ∃ v1 v2 T5 La5 v7 S9, s1 = (v1, v2, ((j + 1 : Nat) : Int), T5, La5) ∧ s2 = (v7, ((j + 1 : Nat) : Int), S9) ∧ LaEq La La5 ∧ Kw (x_up S 0 0 0) S9 ∧ S9 0 0 = 0 ∧ (∀ i, i < 372 → S9 3 i = S 1 i) ∧
        (j = 0 ∧ v1 = 1000000 ∧ v2 = 0 ∧ v7 = -1 ∨ 0 < j ∧ 0 ≤ v1 ∧ v1 ≤ 1000000 ∧ 0 ≤ v2 ∧ v7 = if b = 0 then v1 else v2))
      (fun r1 r2 => ∃ v1 v2 T5 La5 S9, r1 = (v1, v2, T5, La5) ∧ r2 = ((if b = 0 then v1 else v2), S9) ∧ LaEq La La5 ∧ Kw (x_up S 0 0 0) S9 ∧ S9 0 0 = 0)
      6 (by decide) ?_ ?_ (s1 := (1000000, 0, 1, Th, La)) (s2 := (-1, 1, rcp (x_up S 0 0 0) 3 0 1 0 372))
      ⟨1000000, 0, Th, La, -1, rcp (x_up S 0 0 0) 3 0 1 0 372, rfl, rfl, LaEq.rf, ⟨fun i _ => by rw [as1], rcp_o (by decide), rcp_o (by decide), rcp_o (by decide), congrFun (rcp_o (by decide)) _, congrFun (rcp_o (by decide)) _, congrFun (rcp_o (by decide)) _, congrFun (rcp_o (by decide)) _, fun w => w.cg (congrFun (rcp_o (by decide)) _) (congrFun (rcp_o (by decide)) _)⟩, by rw [rcp_o (by decide), up_s], fun i hi2 => by
        have := rcp_in (S := x_up S 0 0 0) (o1 := 3) (b1 := 0) (o2 := 1) (b2 := 0) hi2
        rw [Nat.zero_add] at this
        rw [this, x_up1], .inl ⟨rfl, rfl, rfl, rfl⟩⟩
    · obtain ⟨r1, r2, w1, w2, v1, v2, T5, La5, S9, rfl, rfl, k1, k2, k3⟩ := key
      refine ⟨.inl (if b = 0 then v1 else v2), T5, La5, if b = 0 then v1 else v2, S9, ?_, ?_, ⟨k3, rfl⟩, Kw.th.tr k2, k1⟩
      · simp only [x_b1s, x_b2s, x_b3s, x_tvn, x_tvs, up_s, Int.reduceEq, Int.reduceLE, reduceIte]
        rw [G3_spanOf, w1]
        show x_b3 (x_b1 (if b = 0 then some v1 else some v2) fun v19 => some (v19, T5, La5)) _ = _
        by_cases hb : b = 0
        · rw [if_pos hb, if_pos hb]; rfl
        · rw [if_neg hb, if_neg hb]; rfl
      · simp only [x_b1s, x_b2s, x_b3s, x_tvn, x_tvs, up_s, Int.reduceEq, Int.reduceLE, reduceIte]
        rw [g12_putsAside, x_b1s, w2, x_b2s]
    · rintro j s1 s2 hj ⟨v1, v2, T5, La5, v7, S9, rfl, rfl, hLa, hK, h00, h3, hv⟩
      obtain ⟨T2, l1, l2⟩ := g3_look (Th := T5) h hi
      have i9 : Iv (S9 1) := hK.iv (by rw [x_up1]; exact hi)
      have e9 : ∀ i, i < 772 → S9 1 i = S 1 i := fun i h1 => by rw [hK.1 i h1, x_up1]
      have c9 : CR T2 (S9 1) := l2.cg hi (fun i h1 => e9 i (by omega))
      have c10 : CR (x_up T2 0 11 ((j + 1 : Nat) : Int)) (x_up S9 1 11 ((j + 1 : Nat) : Int) 1) := c9.sc (by omega)
      have i10 : Iv (x_up S9 1 11 ((j + 1 : Nat) : Int) 1) := i9.sc (.inr (.inr (.inr (.inr (.inr (.inr (.inr ⟨rfl, R32n (by omega)⟩)))))))
      have L10 : LR La5 (x_up S9 1 11 ((j + 1 : Nat) : Int) 1) := hL.mv hLa ⟨by rw [up_i (by decide), e9 1 (by decide)], by rw [up_i (by decide), e9 2 (by decide)], fun i h1 h2 => by rw [up_i (by omega), e9 i h2]⟩
      obtain ⟨v, C', La', S7, k1, k2, hN⟩ := s_hrs (d := 1) (n := n) (S := x_up S9 1 11 ((j + 1 : Nat) : Int)) (C := x_up T2 0 11 ((j + 1 : Nat) : Int)) (La := La5) (by omega) c10 i10 L10
      have e7 : S7 1 3 = (k : Int) := by rw [hN.2.2.1, up_i (by decide), e9 3 (by decide), e]
      have hs := sm_bd (q := fun p => S7 1 (21 + 8 * p)) (n := k) (B := 999) (fun p hp => mk_5 hN.2.1 (by omega))
      have hs2 : sm (fun p => S7 1 (21 + 8 * p)) k ≤ 1000000 := by omega
      have hq := hN.2.2.2.1
      have s3 : S7 3 = S9 3 := hq.2.1.trans (up_o (by decide))
      generalize hz : sm (fun p => S7 1 (21 + 8 * p)) k = z at *
      refine ⟨(min v1 z, max v2 z, ((j + 2 : Nat) : Int), C', La'), ((if b = 0 then min v1 z else max v2 z), ((j + 2 : Nat) : Int), rcp S7 1 0 3 0 372), ?_, ?_, min v1 z, max v2 z, C', La', if b = 0 then min v1 z else max v2 z, rcp S7 1 0 3 0 372, rfl, rfl, hLa.tr hN.2.2.2.2.2, ?_, ?_, ?_, .inr ⟨by omega, ?_, ?_, ?_, rfl⟩⟩
      · show (if 6 < ((j + 1 : Nat) : Int) then _ else _) = _
        rw [if_neg (by omega), l1, x_b1s, k1, x_b2s, g1_sumOf5 hN.1 hN.2.1 e7, hz, x_b1s, n_inc (by omega)]
      · show (if 6 < ((j + 1 : Nat) : Int) then _ else _) = _
        rw [if_neg (by omega), k2, x_b2s, g12_lateOfAll hN.2.1 e7, hz, x_b1s, g12_comesBack, x_b1s, n_inc (by omega), g12_lesser, g12_greater, x_b1s, x_b1s]
        rcases hv with ⟨_, hv1, hv2, hv7⟩ | ⟨_, hv1, hv2, hv3, hv7⟩
        · rw [if_pos hv7, x_b1s]
          congr 3
          by_cases hb : b = 0
          · rw [if_pos hb]; omega
          · rw [if_neg hb]; omega
        · by_cases hb : b = 0
          · rw [if_pos hb] at hv7
            rw [if_neg (by omega), if_pos hb, if_pos hb, x_b1s, hv7]
          · rw [if_neg hb] at hv7
            rw [if_neg (by omega), if_neg hb, if_neg hb, x_b1s, hv7]
      · refine ⟨fun i hi2 => ?_, ?_, ?_, ?_, ?_, ?_, ?_, ?_, fun w => (hq.2.2.2.2.2.2.2.2.2 ((hK.2.2.2.2.2.2.2.2 w).o (by decide))).cg (congrFun (rcp_o (by decide)) _) (congrFun (rcp_o (by decide)) _)⟩
        · by_cases h1 : i < 372
          · have := rcp_in (S := S7) (o1 := 1) (b1 := 0) (o2 := 3) (b2 := 0) h1
            rw [Nat.zero_add] at this
            rw [this, s3, h3 i h1, x_up1]
          · rw [rcp_out (by omega), hN.2.2.2.2.1.2.2 i (by omega) hi2, up_i (by omega), hK.1 i hi2]
        all_goals rw [rcp_o (by decide)]
        · rw [hq.1, up_o (by decide), hK.2.1]
        · rw [hq.2.2.1, up_o (by decide), hK.2.2.1]
        · rw [hq.2.2.2.1, up_o (by decide), hK.2.2.2.1]
        · rw [hq.2.2.2.2.2.1, up_o (by decide), hK.2.2.2.2.1]
        · rw [hq.2.2.2.2.2.2.1, up_o (by decide), hK.2.2.2.2.2.1]
        · rw [hq.2.2.2.2.2.2.2.1, up_o (by decide), hK.2.2.2.2.2.2.1]
        · rw [hq.2.2.2.2.2.2.2.2.1, up_o (by decide), hK.2.2.2.2.2.2.2.1]
      · rw [rcp_o (by decide), hq.2.2.2.2.1, up_o (by decide), h00]
      · intro i h1
        rw [rcp_o (by decide), s3, h3 i h1]
      · rcases hv with ⟨_, hv1, hv2, hv7⟩ | ⟨_, hv1, hv2, hv3, hv7⟩ <;> omega
      · omega
      · omega
    · rintro s1 s2 ⟨v1, v2, T5, La5, v7, S9, rfl, rfl, hLa, hK, h00, h3, hv⟩
      rcases hv with ⟨hj, _⟩ | ⟨_, _, _, _, hv7⟩
      · exact absurd hj (by decide)
      · refine ⟨(v1, v2, T5, La5), (v7, S9), rfl, rfl, v1, v2, T5, La5, S9, rfl, by rw [hv7], hLa, hK, h00⟩
  · rw [if_neg h0, if_neg h0]
    exact ⟨.inr 0, Th, La, 0, x_up S 0 0 1, rfl, rfl, rfl, Kw.th, LaEq.rf⟩
end Q13
