/-! Late ones told, the most late one, the best flag and the best mood. -/
section Q15
variable {X N S S7 La Th C Fo : xU} {A : xA}
theorem L_lates {a : Int} (h : CR N (S 1)) (hi : Iv (S 1)) (hL : LR La (S 1)) : ∃ o T' La' Fo' r S', G11_lates a N Th La Fo = some (o, T', La', Fo') ∧ G12_lates a S = some (r, S') ∧ Ag (fun _ => 1) o r S' ∧ Kw S S' ∧ LaEq La La' := by
  rw [G11_lates, G12_lates, g11_needWithin, g12_isIn]
  by_cases h0 : 0 ≤ a ∧ a ≤ 9
  · rw [if_pos h0, if_pos h0]
    obtain ⟨n, rfl⟩ := Int.eq_ofNat_of_zero_le h0.1
    obtain ⟨T2, l1, l2⟩ := g3_look (Th := Th) h hi
    obtain ⟨v, C', La', Fo', S', e1, e2, e3, e4, e5, e6, e7, e8, e9⟩ := s_offs (a := n) (S := x_up S 0 0 0) (C := T2) (La := La) (Fo := Fo) (by omega) (by rw [x_up1]; exact l2) (by rw [x_up1]; exact hi) (by rw [x_up1]; exact hL)
    refine ⟨.inl v, C', La', Fo', v, S', ?_, ?_, ⟨e5.trans up_s, rfl⟩, Kw.th.tr e4, e3⟩
    · simp only [x_b1s, x_b2s, x_b3s, x_b4s, x_tvn, x_tvs, up_s, Int.reduceEq, Int.reduceLE, reduceIte]
      rw [l1, x_b1s, e1, x_b4s]
    · simp only [x_b1s, x_b2s, x_b3s, x_b4s, x_tvn, x_tvs, up_s, Int.reduceEq, Int.reduceLE, reduceIte]
      rw [e2, x_b2s, x_b2s]
  · rw [if_neg h0, if_neg h0]
    exact ⟨.inr 0, Th, La, Fo, 0, x_up S 0 0 1, rfl, rfl, rfl, Kw.th, LaEq.rf⟩
theorem mx_inv {q : Nat → Int} {n : Nat} : mxP q n = (-1, 0) ∨ ∃ k : Nat, k < n ∧ mxP q n = ((k : Int), q k) ∧ 0 < q k := by
  induction n with
  | zero => exact .inl rfl
  | succ n ih =>
    show mxg q n (mxP q n) = _ ∨ ∃ k : Nat, k < n + 1 ∧ mxg q n (mxP q n) = _ ∧ _
    by_cases h : q n ≤ (mxP q n).2
    · rw [mxg, if_pos h]
      rcases ih with ih | ⟨k, hk, ih⟩
      · exact .inl ih
      · exact .inr ⟨k, by omega, ih⟩
    · rw [mxg, if_neg h]
      refine .inr ⟨n, by omega, rfl, ?_⟩
      rcases ih with ih | ⟨k, hk, ih, hq⟩
      · rw [ih] at h
        have : ¬ q n ≤ 0 := h
        omega
      · rw [ih] at h
        have : ¬ q n ≤ q k := h
        omega
theorem mx_congr {q q' : Nat → Int} {n : Nat} (h : ∀ i, i < n → q i = q' i) : mxP q n = mxP q' n :=
  fo_congr (fun j x hj => by rw [mxg, mxg, h j hj])
theorem mx_more {q : Nat → Int} {n : Nat} : ∀ d, (∀ i, n ≤ i → i < n + d → q i = 0) → mxP q (n + d) = mxP q n := by
  intro d
  induction d with
  | zero => intro _; rfl
  | succ d ih =>
    intro h
    show mxg q (n + d) (mxP q (n + d)) = _
    have hb : 0 ≤ (mxP q (n + d)).2 := by
      rcases mx_inv (q := q) (n := n + d) with e | ⟨k, _, e, hq⟩
      · rw [e]; exact Int.le_refl _
      · rw [e]; show 0 ≤ q k; omega
    rw [mxg, if_pos (by rw [h (n + d) (by omega) (by omega)]; exact hb)]
    exact ih (fun i h1 h2 => h i h1 (by omega))
theorem L_tardy (h : CR N (S 1)) (hi : Iv (S 1)) (hL : LR La (S 1)) : ∃ v T' La' Fo' S', G11_tardy N Th La Fo = some (v, T', La', Fo') ∧ G12_tardy S = some (v, S') ∧ S' 0 0 = 0 ∧ Kw S S' ∧ LaEq La La' := by
  obtain ⟨n, hn, e⟩ := hi.nn
  obtain ⟨T2, l1, l2⟩ := g3_look (Th := Th) h hi
  obtain ⟨v, C', La', Fo', S', e1, e2, e3, e4, e5, e6, e7, e8, e9⟩ := s_offs (a := 8) (S := x_up S 0 0 0) (C := T2) (La := La) (Fo := Fo) (by omega) (by rw [x_up1]; exact l2) (by rw [x_up1]; exact hi) (by rw [x_up1]; exact hL)
  have en : S' 1 3 = (n : Int) := by rw [e4.1 3 (by decide), x_up1, e]
  refine ⟨(mxP (fun i => S' 7 i) n).1, C', La', Fo', S', ?_, ?_, e5.trans up_s, Kw.th.tr e4, e3⟩
  · have w : whl xFU (G3_mostLate_L6 Fo') (-1, 0, 0) = some (mxP (fun i => Fo' 1 i) 7).1 := w_fo (f := G3_mostLate_L6 Fo') (g := mxg (fun i => Fo' 1 i)) (a := (-1, 0)) (em := fun j (x : Int × Int) => (x.1, x.2, (j : Int))) (out := fun x => x.1) 7 (by decide) (fun _ _ => True) trivial (fun _ _ _ _ => trivial) (fun j x hj hx => by
      show (if (7 : Int) ≤ (j : Int) then _ else _) = _
      rw [if_neg (by omega), x_gd_t ⟨by omega, by omega⟩, x_gd_t ⟨by omega, by omega⟩, Int.toNat_natCast, n_inc (by omega)]
      by_cases q : Fo' 1 j ≤ x.2
      · rw [if_pos q, mxg, if_pos q]; rfl
      · rw [if_neg q, mxg, if_neg q]; rfl) (fun x _ => rfl)
    have em : mxP (fun i => Fo' 1 i) 7 = mxP (fun i => S' 7 i) n := by
      rw [mx_congr (q' := fun i => S' 7 i) (fun i h1 => e7 i h1)]
      have hm := mx_more (q := fun i => S' 7 i) (n := n) (7 - n) (fun i h1 h2 => e9 i (by omega) (by rw [x_up1, e]; omega))
      rw [show n + (7 - n) = 7 by omega] at hm
      exact hm
    rw [G11_tardy, l1, x_b1s, show G3_passOffices 8 T2 La Fo = _ from e1, x_b4s, G3_mostLate, w, x_b1s, x_b1s, em]
  · have w : whl xFU (G12_tardy_L16 S') (-1, 0) = some (mxP (fun i => S' 7 i) n).1 := w_fo (f := G12_tardy_L16 S') (g := mxg (fun i => S' 7 i)) (a := (-1, 0)) (em := fun j (x : Int × Int) => (x.1, (j : Int))) (out := fun x => x.1) n (by unfold xFU; omega) (fun j x => x = (-1, 0) ∨ ∃ k : Nat, k < 7 ∧ x = ((k : Int), S' 7 k)) (.inl rfl) (fun j x hj hx => by
      by_cases q : S' 7 j ≤ x.2
      · rw [mxg, if_pos q]; exact hx
      · rw [mxg, if_neg q]; exact .inr ⟨j, by omega, rfl⟩) (fun j x hj hx => by
      show (if S' 1 3 ≤ (j : Int) then _ else _) = _
      rw [if_neg (by omega), x_gd_t ⟨by omega, by omega⟩, Int.toNat_natCast, n_inc (by omega)]
      have e9 : (if x.1 = -1 then some (0 : Int) else x_gd (0 ≤ x.1 ∧ x.1 < 7) (some (S' 7 x.1.toNat))) = some x.2 := by
        rcases hx with rfl | ⟨k, hk, rfl⟩
        · rfl
        · show (if (k : Int) = -1 then some (0 : Int) else x_gd (0 ≤ (k : Int) ∧ (k : Int) < 7) (some (S' 7 (k : Int).toNat))) = some (S' 7 k)
          rw [if_neg (by omega), x_gd_t ⟨by omega, by omega⟩, Int.toNat_natCast]
      rw [e9, x_b1s]
      by_cases q : S' 7 j ≤ x.2
      · rw [if_pos q, mxg, if_pos q]; rfl
      · rw [if_neg q, mxg, if_neg q]; rfl) (fun x _ => by
      show (if S' 1 3 ≤ (n : Int) then _ else _) = _
      rw [if_pos (by omega)])
    rw [G12_tardy, show G12_latesIn 8 (x_up S 0 0 0) = _ from e2, x_b2s, w, x_b1s]
/-- the choice by which the fewest are late -/
theorem s_best {a : Int} {c k n : Nat} (hp : (a = 0 ∧ c = 6 ∧ k = 7 ∧ n = 16) ∨ (a = 1 ∧ c = 7 ∧ k = 8 ∧ n = 5)) (h : CR N (S 1)) (hi : Iv (S 1)) (hL : LR La (S 1)) :
    ∃ v T' La' Fo' S', G3_bestChoice a N Th La Fo = some (v, T', La', Fo') ∧ G12_leastBy (c : Int) (n : Int) S = some (v, S') ∧ S' 0 0 = S 0 0 ∧ Kw S S' ∧ LaEq La La' := by
  obtain ⟨r1, r2, w1, w2, v, T', La', Fo', S', rfl, rfl, k1, k2, k3⟩ := w_sim (f1 := G3_bestChoice_L10 a N) (f2 := G12_leastBy_L18 (c : Int) (n : Int))
    (fun j s1 s2 => ∃ v1 v2 v3 T2 La2 F2 S2, s1 = (v1, v2, (j : Int), T2, La2, F2) ∧ s2 = (v1, v3, (j : Int), S2) ∧ LaEq La La2 ∧ Kw S (x_up S2 1 c (S 1 c)) ∧ S2 0 0 = S 0 0 ∧ (v2 = v3 ∨ 189 < v2 ∧ 189 < v3))
    (fun r1 r2 => ∃ v T2 La2 F2 S2, r1 = (v, T2, La2, F2) ∧ r2 = (v, S2) ∧ LaEq La La2 ∧ Kw S (x_up S2 1 c (S 1 c)) ∧ S2 0 0 = S 0 0)
    n (by unfold xFU; omega) (by
      rintro j s1 s2 hj ⟨v1, v2, v3, T2, La2, F2, S2, rfl, rfl, hLa, hK, h00, hv⟩
      obtain ⟨T3, l1, l2⟩ := g3_look (Th := T2) h hi
      have e9 : ∀ i, i < 772 → i ≠ c → S2 1 i = S 1 i := fun i h1 h2 => by
        have := hK.1 i h1
        rw [up_i h2] at this
        exact this
      have cg : ∀ i, i < 372 → x_up S2 1 c (j : Int) 1 i = x_up S 1 c (j : Int) 1 i := fun i h1 => by
        by_cases z : i = c
        · subst z; rw [up_s, up_s]
        · rw [up_i z, up_i z, e9 i (by omega) z]
      have i0 : Iv (x_up S 1 c (j : Int) 1) := by
        rcases hp with ⟨_, rfl, _, rfl⟩ | ⟨_, rfl, _, rfl⟩
        · exact hi.sc (by omega)
        · exact hi.sc (by omega)
      have c0 : CR (x_up T3 0 k (j : Int)) (x_up S 1 c (j : Int) 1) := by
        rcases hp with ⟨_, rfl, rfl, rfl⟩ | ⟨_, rfl, rfl, rfl⟩
        · exact l2.sc (by omega)
        · exact l2.sc (by omega)
      have c1 := c0.cg i0 cg
      have i1 := i0.cg cg
      have hc2 : 2 < c ∧ c < 372 := by omega
      have L1 : LR La2 (x_up S2 1 c (j : Int) 1) := hL.mv hLa ⟨by rw [up_i (by omega), e9 1 (by decide) (by omega)], by rw [up_i (by omega), e9 2 (by decide) (by omega)], fun i h1 h2 => by rw [up_i (by omega), e9 i h2 (by omega)]⟩
      obtain ⟨v, C', La', Fo', S', o1, o2, o3, o4, o5, o6, o7, o8, o9⟩ := s_offs (a := 8) (S := x_up S2 1 c (j : Int)) (C := x_up T3 0 k (j : Int)) (La := La2) (Fo := F2) (by omega) c1 i1 L1
      have eD : (if v2 ≤ v then (v1, v2) else ((j : Int), v)) = (if v2 ≤ v then v1 else (j : Int), if v2 ≤ v then v2 else v) := by
        by_cases q : v2 ≤ v
        · rw [if_pos q, if_pos q, if_pos q]
        · rw [if_neg q, if_neg q, if_neg q]
      have KE : Kw S (x_up S' 1 c (S 1 c)) := by
        refine ⟨fun i h1 => ?_, ?_, ?_, ?_, ?_, ?_, ?_, ?_, fun w => (o4.2.2.2.2.2.2.2.2 (Fl.o ((hK.2.2.2.2.2.2.2.2 w).cg (S' := S2) (congrFun (up_o (by decide)) _).symm (congrFun (up_o (by decide)) _).symm) (by decide))).o (by decide)⟩
        · by_cases z : i = c
          · subst z; rw [up_s]
          · rw [up_i z, o4.1 i h1, up_i z, e9 i h1 z]
        all_goals rw [up_o (by decide)]
        · rw [o4.2.1, up_o (by decide)]; have := hK.2.1; rw [up_o (by decide)] at this; exact this
        · rw [o4.2.2.1, up_o (by decide)]; have := hK.2.2.1; rw [up_o (by decide)] at this; exact this
        · rw [o4.2.2.2.1, up_o (by decide)]; have := hK.2.2.2.1; rw [up_o (by decide)] at this; exact this
        · rw [o4.2.2.2.2.1, up_o (by decide)]; have := hK.2.2.2.2.1; rw [up_o (by decide)] at this; exact this
        · rw [o4.2.2.2.2.2.1, up_o (by decide)]; have := hK.2.2.2.2.2.1; rw [up_o (by decide)] at this; exact this
        · rw [o4.2.2.2.2.2.2.1, up_o (by decide)]; have := hK.2.2.2.2.2.2.1; rw [up_o (by decide)] at this; exact this
        · rw [o4.2.2.2.2.2.2.2.1, up_o (by decide)]; have := hK.2.2.2.2.2.2.2.1; rw [up_o (by decide)] at this; exact this
      have o5' : S' 0 0 = S 0 0 := by rw [o5, up_o (by decide), h00]
      have o1' : G3_passOffices 8 (x_up T3 0 k (j : Int)) La2 F2 = some (v, C', La', Fo') := o1
      have o2' : G12_latesIn 8 (x_up S2 1 c (j : Int)) = some (v, S') := o2
      refine ⟨(if v2 ≤ v then v1 else (j : Int), if v2 ≤ v then v2 else v, ((j + 1 : Nat) : Int), C', La', Fo'), (if v2 ≤ v then v1 else (j : Int), if v2 ≤ v then v3 else v, ((j + 1 : Nat) : Int), S'), ?_, ?_, _, _, _, C', La', Fo', S', rfl, rfl, hLa.tr o3, KE, o5', ?_⟩
      · show x_b1 (if a = 0 then some 16 else some 5) _ = _
        have ea : (if a = 0 then some (16 : Int) else some 5) = some (n : Int) := by
          rcases hp with ⟨rfl, _, _, rfl⟩ | ⟨rfl, _, _, rfl⟩ <;> rfl
        have eb : ∀ T : xU, (if a = 0 then some (x_up T 0 7 (j : Int)) else some (x_up T 0 8 (j : Int))) = some (x_up T 0 k (j : Int)) := by
          intro T
          rcases hp with ⟨rfl, _, rfl, _⟩ | ⟨rfl, _, rfl, _⟩ <;> rfl
        rw [ea, x_b1s, if_neg (by omega), l1, x_b1s, eb, x_b1s, o1', x_b4s, n_inc (by omega)]
        by_cases q : v2 ≤ v
        · rw [if_pos q, if_pos q, if_pos q, x_b2s]
        · rw [if_neg q, if_neg q, if_neg q, x_b2s]
      · show (if (n : Int) ≤ (j : Int) then _ else _) = _
        rw [if_neg (by omega), x_gd_t ⟨by omega, by omega⟩, Int.toNat_natCast, o2', x_b2s, n_inc (by omega)]
        by_cases q : v2 ≤ v
        · rw [if_pos q, if_pos q, if_neg (by omega), x_b2s]
        · rw [if_neg q, if_neg q, if_pos (by omega), x_b2s]
      · by_cases q : v2 ≤ v
        · rw [if_pos q, if_pos q]; exact hv
        · rw [if_neg q, if_neg q]; exact .inl rfl) (by
      rintro s1 s2 ⟨v1, v2, v3, T2, La2, F2, S2, rfl, rfl, hLa, hK, h00, hv⟩
      refine ⟨(v1, T2, La2, F2), (v1, S2), ?_, ?_, v1, T2, La2, F2, S2, rfl, rfl, hLa, hK, h00⟩
      · show x_b1 (if a = 0 then some 16 else some 5) _ = _
        have ea : (if a = 0 then some (16 : Int) else some 5) = some (n : Int) := by
          rcases hp with ⟨rfl, _, _, rfl⟩ | ⟨rfl, _, _, rfl⟩ <;> rfl
        rw [ea, x_b1s, if_pos (by omega)]
      · show (if (n : Int) ≤ (n : Int) then _ else _) = _
        rw [if_pos (by omega)])
    (s1 := (0, 1000000, 0, Th, La, Fo)) (s2 := (0, 2000000000, 0, S)) ⟨0, 1000000, 2000000000, Th, La, Fo, S, rfl, rfl, LaEq.rf, by rw [up_id rfl]; exact Kw.rf, rfl, .inr ⟨by decide, by decide⟩⟩
  refine ⟨v, T', La', Fo', x_up S' 1 c (S 1 c), ?_, ?_, by rw [up_o (by decide)]; exact k3, k2, k1⟩
  · rw [G3_bestChoice, w1, x_b4s]
  · rw [G12_leastBy, x_gd_t (by omega), w2, x_b2s, x_gd_t (by omega), Int.toNat_natCast]
theorem L_ring (h : CR N (S 1)) (hi : Iv (S 1)) (hL : LR La (S 1)) : ∃ v T' La' Fo' S', G11_ring N Th La Fo = some (v, T', La', Fo') ∧ G12_ring S = some (v, S') ∧ S' 0 0 = 0 ∧ Kw S S' ∧ LaEq La La' := by
  obtain ⟨v, T', La', Fo', S', e1, e2, e3, e4, e5⟩ := s_best (S := x_up S 0 0 0) (N := N) (Th := Th) (La := La) (Fo := Fo) (a := 0) (.inl ⟨rfl, rfl, rfl, rfl⟩) (by rw [x_up1]; exact h) (by rw [x_up1]; exact hi) (by rw [x_up1]; exact hL)
  refine ⟨v, T', La', Fo', S', ?_, ?_, e3.trans up_s, Kw.th.tr e4, e5⟩
  · rw [G11_ring, e1, x_b4s]
  · rw [G12_ring, show G12_leastBy 6 16 (x_up S 0 0 0) = _ from e2, x_b2s]
theorem L_humour (h : CR N (S 1)) (hi : Iv (S 1)) (hL : LR La (S 1)) : ∃ v T' La' Fo' S', G11_humour N Th La Fo = some (v, T', La', Fo') ∧ G12_humour S = some (v, S') ∧ S' 0 0 = 0 ∧ Kw S S' ∧ LaEq La La' := by
  obtain ⟨v, T', La', Fo', S', e1, e2, e3, e4, e5⟩ := s_best (S := x_up S 0 0 0) (N := N) (Th := Th) (La := La) (Fo := Fo) (a := 1) (.inr ⟨rfl, rfl, rfl, rfl⟩) (by rw [x_up1]; exact h) (by rw [x_up1]; exact hi) (by rw [x_up1]; exact hL)
  refine ⟨v, T', La', Fo', S', ?_, ?_, e3.trans up_s, Kw.th.tr e4, e5⟩
  · rw [G11_humour, e1, x_b4s]
  · rw [G12_humour, show G12_leastBy 7 5 (x_up S 0 0 0) = _ from e2, x_b2s]
end Q15
