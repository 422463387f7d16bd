/-! A monk's line as a whole. -/
section MLW
variable {n : Nat} {bt : Nat → Int} {T S S' S2 C : xU} {q p : Nat} {f : Int} {m : Nat → Int}
theorem LT.mv (h : LT n bt S) (h9 : S 0 9 = -1) (e10 : S' 0 10 = S 0 10) (e9 : S' 0 9 = S 0 9) (e5 : S' 5 = S 5) : LT n bt S' := by
  refine ⟨e10.trans h.1, .inl ⟨e9.trans h9, fun i hi => ?_⟩⟩
  rw [e5]
  rcases h.2 with ⟨_, h2⟩ | ⟨h1, _⟩
  · exact h2 i hi
  · rw [h9] at h1; exact absurd h1 (by decide)
/-- what a line of a cloister's text may change -/
def Ln (S S' : xU) : Prop := (∀ o, o ≠ 0 → o ≠ 1 → S' o = S o) ∧ (∀ i, i ≠ 11 → i ≠ 12 → S' 0 i = S 0 i) ∧ Lw (S 1) (S' 1) ∧ S' 1 0 = S 1 0 ∧ (0 ≤ S 0 11 → 0 ≤ S' 0 11)
theorem Ln.rf : Ln S S := ⟨fun _ _ _ => rfl, fun _ _ _ => rfl, Lw.rf, rfl, fun h => h⟩
theorem Ln.tr (h : Ln S S') (k : Ln S' S2) : Ln S S2 := ⟨fun o h1 h2 => (k.1 o h1 h2).trans (h.1 o h1 h2), fun i h1 h2 => (k.2.1 i h1 h2).trans (h.2.1 i h1 h2), h.2.2.1.tr k.2.2.1, k.2.2.2.1.trans h.2.2.2.1, fun w => k.2.2.2.2 (h.2.2.2.2 w)⟩
theorem Fr.ln (h : Fr S S') : Ln S S' := ⟨fun o h1 _ => h.1 o h1, h.2.1, by rw [h.1 1 (by decide)]; exact Lw.rf, by rw [h.1 1 (by decide)], h.2.2⟩
theorem c_addMonk {a b c d : Int} (e : C 0 3 = (p : Int)) (hp : p < 7) : G1_addMonk a b c d C = some (x_up (x_up (x_up (x_up (x_up C 1 (7 * 0 + p) a) 1 (7 * 2 + p) b) 1 (7 * 1 + p) c) 1 (7 * 3 + p) d) 0 3 ((p + 1 : Nat) : Int)) := by
  have u : ∀ (Z : xU) (i : Nat) (v : Int), x_up Z 1 i v 0 3 = Z 0 3 := fun Z i v => congrFun (up_o (by decide)) _
  rw [G1_addMonk, e, if_neg (by omega), show G1_put 0 (p : Int) a C = _ from g1_put (k := 0) (by decide) hp, x_b1s, u, e, show G1_put 2 (p : Int) b _ = _ from g1_put (k := 2) (by decide) hp, x_b1s, u, u, e, show G1_put 1 (p : Int) c _ = _ from g1_put (k := 1) (by decide) hp, x_b1s, u, u, u, e, show G1_put 3 (p : Int) d _ = _ from g1_put (k := 3) (by decide) hp, x_b1s, u, u, u, u, e, n_inc (by omega), x_b1s]
theorem s_more {a b c d : Int} (hc : CR C (S 1)) (hi : Iv (S 1)) (e : S 1 3 = (p : Int)) (hp : p < 7) (ha : 0 ≤ a ∧ a < 16) (hb : 0 ≤ b ∧ b < 12) (hcc : 0 ≤ c ∧ c ≤ 8) (hd : 0 ≤ d ∧ d < 4096) (hh : hsB (S 1) b p = false)
    (k0 : S' 1 3 = ((p + 1 : Nat) : Int)) (k1 : ∀ i, i ≠ 3 → (i < 16 + 8 * p ∨ 24 + 8 * p ≤ i) → S' 1 i = S 1 i) (c0 : S' 1 (16 + 8 * p) = a) (c1 : S' 1 (17 + 8 * p) = c) (c2 : S' 1 (18 + 8 * p) = b) (c3 : S' 1 (19 + 8 * p) = d) (c4 : ∀ k, 4 ≤ k → k < 8 → S' 1 (16 + 8 * p + k) = 0) :
    CR (x_up (x_up (x_up (x_up (x_up C 1 (7 * 0 + p) a) 1 (7 * 2 + p) b) 1 (7 * 1 + p) c) 1 (7 * 3 + p) d) 0 3 ((p + 1 : Nat) : Int)) (S' 1) ∧ Iv (S' 1) := by
  have hz := hi.1.2.2.2.2.2.2.2.2.2
  have key : ∀ i v, x_up (x_up (x_up (x_up (x_up C 1 (7 * 0 + p) a) 1 (7 * 2 + p) b) 1 (7 * 1 + p) c) 1 (7 * 3 + p) d) 0 3 v 1 i = if i = 7 * 3 + p then d else if i = 7 * 1 + p then c else if i = 7 * 2 + p then b else if i = 7 * 0 + p then a else C 1 i := by
    intro i v
    rw [up_o (by decide)]
    simp only [x_up, true_and]
  have oth : ∀ o, o ≠ 0 → o ≠ 1 → x_up (x_up (x_up (x_up (x_up C 1 (7 * 0 + p) a) 1 (7 * 2 + p) b) 1 (7 * 1 + p) c) 1 (7 * 3 + p) d) 0 3 ((p + 1 : Nat) : Int) o = C o := fun o h0 h1 => by
    rw [up_o h0, up_o h1, up_o h1, up_o h1, up_o h1]
  have sc : ∀ i, i ≠ 3 → x_up (x_up (x_up (x_up (x_up C 1 (7 * 0 + p) a) 1 (7 * 2 + p) b) 1 (7 * 1 + p) c) 1 (7 * 3 + p) d) 0 3 ((p + 1 : Nat) : Int) 0 i = C 0 i := fun i h1 => by
    rw [up_i h1, up_o (by decide), up_o (by decide), up_o (by decide), up_o (by decide)]
  have s3 : x_up (x_up (x_up (x_up (x_up C 1 (7 * 0 + p) a) 1 (7 * 2 + p) b) 1 (7 * 1 + p) c) 1 (7 * 3 + p) d) 0 3 ((p + 1 : Nat) : Int) 0 3 = ((p + 1 : Nat) : Int) := up_s
  have key1 := fun i => key i ((p + 1 : Nat) : Int)
  generalize x_up (x_up (x_up (x_up (x_up C 1 (7 * 0 + p) a) 1 (7 * 2 + p) b) 1 (7 * 1 + p) c) 1 (7 * 3 + p) d) 0 3 ((p + 1 : Nat) : Int) = C' at *
  obtain ⟨⟨b1, b2, b3, b4, b5, b6, b7, b8, b9⟩, a2, a3, a4, a5, nn, a6, a7, a8⟩ := hc
  obtain ⟨i1, i2, i3, i4, i5⟩ := hi
  have hno : ∀ r, r < p → S 1 (18 + 8 * r) ≠ b := fun r hr h => by
    have : hsB (S 1) b p = true := decide_eq_true ⟨r, hr, h⟩
    rw [hh] at this; cases this
  refine ⟨⟨⟨?_, ?_, ?_, ?_, ?_, ?_, ?_, ?_, ?_⟩, ?_, ?_, ?_, ?_, nn, a6, ?_, ?_⟩, ?_, ?_, ?_, ?_, ?_⟩
  · rw [s3, k0]
  · rw [sc 4 (by decide), k1 0 (by omega) (by omega)]; exact b2
  · rw [sc 5 (by decide), k1 4 (by omega) (by omega)]; exact b3
  · rw [sc 6 (by decide), k1 5 (by omega) (by omega)]; exact b4
  · rw [sc 7 (by decide), k1 6 (by omega) (by omega)]; exact b5
  · rw [sc 8 (by decide), k1 7 (by omega) (by omega)]; exact b6
  · rw [sc 9 (by decide), k1 8 (by omega) (by omega)]; exact b7
  · rw [sc 10 (by decide), k1 9 (by omega) (by omega)]; exact b8
  · rw [sc 11 (by decide), k1 11 (by omega) (by omega)]; exact b9
  · intro w hw
    rw [oth 2 (by decide) (by decide), k1 _ (by omega) (by omega)]; exact a2 w hw
  · intro p2 k2 h1 h2
    rw [k0] at h1
    rw [key1]
    by_cases z : p2 = p
    · subst z
      rcases (show k2 = 0 ∨ k2 = 1 ∨ k2 = 2 ∨ k2 = 3 ∨ 4 ≤ k2 by omega) with rfl | rfl | rfl | rfl | h4
      · rw [if_neg (by omega), if_neg (by omega), if_neg (by omega), if_pos rfl, Nat.add_zero, c0]
      · rw [if_neg (by omega), if_pos rfl, show 16 + 8 * p2 + 1 = 17 + 8 * p2 by omega, c1]
      · rw [if_neg (by omega), if_neg (by omega), if_pos rfl, show 16 + 8 * p2 + 2 = 18 + 8 * p2 by omega, c2]
      · rw [if_pos rfl, show 16 + 8 * p2 + 3 = 19 + 8 * p2 by omega, c3]
      · rw [if_neg (by omega), if_neg (by omega), if_neg (by omega), if_neg (by omega), c4 k2 h4 h2]
        exact a4 p2 k2 hp (by omega) h4 h2
    · rw [if_neg (by omega), if_neg (by omega), if_neg (by omega), if_neg (by omega), k1 _ (by omega) (by omega)]
      exact a3 p2 k2 (by omega) h2
  · intro p2 k2 h1 h3 h4 h2
    rw [k0] at h3
    rw [key1, if_neg (by omega), if_neg (by omega), if_neg (by omega), if_neg (by omega)]
    exact a4 p2 k2 h1 (by omega) h4 h2
  · rw [oth 3 (by decide) (by decide), k1 10 (by omega) (by omega)]; exact a5
  · rw [oth 3 (by decide) (by decide)]; exact a7
  · intro g hg
    rw [k1 10 (by omega) (by omega)] at hg
    rw [oth 4 (by decide) (by decide), k1 _ (by omega) (by omega), k1 _ (by omega) (by omega), k1 _ (by omega) (by omega), k1 _ (by omega) (by omega), k1 _ (by omega) (by omega)]
    exact a8 g hg
  · rw [k0, k1 0 (by omega) (by omega), k1 4 (by omega) (by omega), k1 5 (by omega) (by omega), k1 6 (by omega) (by omega), k1 7 (by omega) (by omega), k1 8 (by omega) (by omega), k1 9 (by omega) (by omega), k1 11 (by omega) (by omega), k1 10 (by omega) (by omega)]
    exact ⟨⟨by omega, by omega⟩, i1.2⟩
  · intro w hw; rw [k1 _ (by omega) (by omega)]; exact i2 w hw
  · intro p2 h1
    rw [k0] at h1
    by_cases z : p2 = p
    · subst z
      unfold Mk
      have e4 := c4 4 (by decide) (by decide)
      have e5 := c4 5 (by decide) (by decide)
      have e6 := c4 6 (by decide) (by decide)
      have e7 := c4 7 (by decide) (by decide)
      rw [show 16 + 8 * p2 + 4 = 20 + 8 * p2 by omega] at e4
      rw [show 16 + 8 * p2 + 5 = 21 + 8 * p2 by omega] at e5
      rw [show 16 + 8 * p2 + 6 = 22 + 8 * p2 by omega] at e6
      rw [show 16 + 8 * p2 + 7 = 23 + 8 * p2 by omega] at e7
      rw [c0, c1, c2, c3, e4, e5, e6, e7]
      exact ⟨ha, hcc, hb, hd, by decide, by decide, by decide, by decide⟩
    · have := i3 p2 (by omega)
      unfold Mk at this ⊢
      rw [k1 _ (by omega) (by omega), k1 _ (by omega) (by omega), k1 _ (by omega) (by omega), k1 _ (by omega) (by omega), k1 _ (by omega) (by omega), k1 _ (by omega) (by omega), k1 _ (by omega) (by omega), k1 _ (by omega) (by omega)]
      exact this
  · intro g hg
    rw [k1 10 (by omega) (by omega)] at hg
    have := i4 g hg
    unfold Lg at this ⊢
    rw [k1 _ (by omega) (by omega), k1 _ (by omega) (by omega), k1 _ (by omega) (by omega), k1 _ (by omega) (by omega), k1 _ (by omega) (by omega)]
    exact this
  · intro p2 q2 h1 h2 h3
    rw [k0] at h1 h2
    by_cases z1 : p2 = p
    · by_cases z2 : q2 = p
      · omega
      · subst z1
        rw [c2, k1 _ (by omega) (by omega)] at h3
        exact absurd h3.symm (hno q2 (by omega))
    · by_cases z2 : q2 = p
      · subst z2
        rw [c2, k1 _ (by omega) (by omega)] at h3
        exact absurd h3 (hno p2 (by omega))
      · rw [k1 _ (by omega) (by omega), k1 _ (by omega) (by omega)] at h3
        exact i5 p2 q2 (by omega) (by omega) h3
/-- the reference lays a monk more -/
theorem r_more {a b c d : Int} (e : S 1 3 = (p : Int)) (hp : p < 7) : ∃ S', (x_b1 (whl xFU (G12_monkLine_L203 S) (0, S)) fun (S56 : xU) => (x_b1 (G12_lays (S 1 3) 0 a S56) fun (S61 : xU) => (x_b1 (G12_lays (S 1 3) 2 b S61) fun (S63 : xU) => (x_b1 (G12_lays (S 1 3) 1 c S63) fun (S65 : xU) => (x_b1 (G12_lays (S 1 3) 3 d S65) fun (S67 : xU) => (some (x_up S67 1 3 (x_add (S67 1 3) 1)))))))) = some S' ∧ (∀ o, o ≠ 1 → S' o = S o) ∧
    S' 1 3 = ((p + 1 : Nat) : Int) ∧ (∀ i, i ≠ 3 → (i < 16 + 8 * p ∨ 24 + 8 * p ≤ i) → S' 1 i = S 1 i) ∧ S' 1 (16 + 8 * p) = a ∧ S' 1 (17 + 8 * p) = c ∧ S' 1 (18 + 8 * p) = b ∧ S' 1 (19 + 8 * p) = d ∧ (∀ k, 4 ≤ k → k < 8 → S' 1 (16 + 8 * p + k) = 0) := by
  have w : whl xFU (G12_monkLine_L203 S) (0, S) = some (fun o i => if o = 1 ∧ 16 + 8 * p ≤ i ∧ i < 16 + 8 * p + 8 then 0 else S o i) := by
    have e0 : ((0 : Int), S) = (((0 : Nat) : Int), (fun o i => if o = 1 ∧ 16 + 8 * p ≤ i ∧ i < 16 + 8 * p + 0 then 0 else S o i : xU)) := by
      congr 1
      funext o i
      rw [if_neg (by omega)]
    rw [e0]
    refine w_run (fun j => ((j : Int), (fun o i => if o = 1 ∧ 16 + 8 * p ≤ i ∧ i < 16 + 8 * p + j then 0 else S o i : xU))) 8 (by decide) (fun j hj => ?_) (by rw [G12_monkLine_L203, if_pos (by omega)])
    rw [G12_monkLine_L203, if_neg (by omega), e, g12_lays (by omega) (by omega), x_b1s, n_inc (by omega)]
    congr 3
    funext o i
    by_cases h1 : o = 1
    · subst h1
      by_cases h2 : i = 16 + 8 * p + j
      · subst h2; rw [up_s, if_pos ⟨rfl, by omega, by omega⟩]
      · rw [up_i h2]
        by_cases h3 : 16 + 8 * p ≤ i ∧ i < 16 + 8 * p + j
        · rw [if_pos ⟨rfl, h3⟩, if_pos ⟨rfl, by omega, by omega⟩]
        · rw [if_neg (fun y => h3 y.2), if_neg (by omega)]
    · rw [up_o h1, if_neg (fun y => h1 y.1), if_neg (fun y => h1 y.1)]
  rw [w, x_b1s, e, show G12_lays (p : Int) 0 a _ = _ from g12_lays (k := 0) (by decide) (by omega), x_b1s, show G12_lays (p : Int) 2 b _ = _ from g12_lays (k := 2) (by decide) (by omega), x_b1s, show G12_lays (p : Int) 1 c _ = _ from g12_lays (k := 1) (by decide) (by omega), x_b1s, show G12_lays (p : Int) 3 d _ = _ from g12_lays (k := 3) (by decide) (by omega), x_b1s]
  refine ⟨_, rfl, ?_, ?_, ?_, ?_, ?_, ?_, ?_, ?_⟩
  · intro o ho
    rw [up_o ho, up_o ho, up_o ho, up_o ho, up_o ho]
    funext i
    rw [if_neg (fun y => ho y.1)]
  · rw [up_s, up_i (by omega), up_i (by omega), up_i (by omega), up_i (by omega)]
    show x_add (if 1 = 1 ∧ 16 + 8 * p ≤ 3 ∧ 3 < 16 + 8 * p + 8 then 0 else S 1 3) 1 = _
    rw [if_neg (by omega), e, n_inc (by omega)]
  · intro i h1 h2
    rw [up_i h1, up_i (by omega), up_i (by omega), up_i (by omega), up_i (by omega)]
    show (if 1 = 1 ∧ 16 + 8 * p ≤ i ∧ i < 16 + 8 * p + 8 then 0 else S 1 i) = _
    rw [if_neg (by omega)]
  · rw [up_i (by omega), up_i (by omega), up_i (by omega), up_i (by omega), show 16 + 8 * p = 16 + 8 * p + 0 by omega, up_s]
  · rw [up_i (by omega), up_i (by omega), show 17 + 8 * p = 16 + 8 * p + 1 by omega, up_s]
  · rw [up_i (by omega), up_i (by omega), up_i (by omega), show 18 + 8 * p = 16 + 8 * p + 2 by omega, up_s]
  · rw [up_i (by omega), show 19 + 8 * p = 16 + 8 * p + 3 by omega, up_s]
  · intro k h1 h2
    rw [up_i (by omega), up_i (by omega), up_i (by omega), up_i (by omega), up_i (by omega)]
    show (if 1 = 1 ∧ 16 + 8 * p ≤ 16 + 8 * p + k ∧ 16 + 8 * p + k < 16 + 8 * p + 8 then 0 else S 1 (16 + 8 * p + k)) = _
    rw [if_pos ⟨rfl, by omega, by omega⟩]
/-- a monk's line -/
theorem s_monkline (hn : n ≤ 400) (hby : ∀ i, i < n → 0 ≤ bt i ∧ bt i ≤ 255) (hT : TK n bt T q (-1)) (hw : wm n bt 0 q = true) (hL : LT n bt S) (h9 : S 0 9 = -1) (hf : S 0 12 = -1) (h11 : S 0 11 = (en n bt q : Int)) (hc : CR C (S 1)) (hi : Iv (S 1)) :
    ∃ T' C' S' f', G2_readMonk T C = some (T', C') ∧ G12_monkLine (q : Int) S = some S' ∧ PQ n bt T' S' f' ∧ (f' = -1 → CR C' (S' 1) ∧ Iv (S' 1)) ∧ Ln S S' := by
  obtain ⟨k, hk7, e⟩ := hi.nn
  have hle := en_le (n := n) (bt := bt) hT.2.1
  rw [G2_readMonk, G12_monkLine, hc.1.1, e]
  by_cases z : k = 7
  · subst z
    have hs : ∀ Z : xU, Z = x_up S 0 12 (q : Int) → ¬ Z 0 12 = -1 := fun Z hZ => by rw [hZ, up_s]; omega
    have hs := hs _ rfl
    obtain ⟨T1, e1, e2⟩ := c_refuse hT
    rw [if_neg (by decide), e1, x_b1s, if_pos (by decide), G12_wrong, if_pos hf, x_b1s, x_b1s, x_b1s]
    have hL2 : LT n bt (x_up S 0 12 (q : Int)) := hL.fr Fr.u12
    refine ⟨T1, C, x_up S 0 12 (q : Int), (q : Int), rfl, ?_, ⟨hL2, up_s, q, by rw [if_pos rfl] at e2; exact e2, fun w => absurd w (by omega)⟩, fun w => absurd w (by omega), Fr.u12.ln⟩
    generalize x_up S 0 12 (q : Int) = Z at *
    rw [G12_after, if_neg hs, x_b1s, G12_figures, if_neg hs, x_b2s, x_b2s, if_neg hs, x_b2s, if_neg hs, x_b1s, if_pos rfl, x_b2s, if_pos rfl, x_b2s, if_neg hs, x_b1s, if_neg hs, x_b2s, if_neg hs, x_b2s, if_neg hs]
  · rw [if_pos (by omega), if_neg (by omega), x_b1s]
    obtain ⟨T1, e1, e2⟩ := c_expectWord (k := 0) hn hT
    rw [if_pos hw, if_pos hw] at e2
    have P1 : PQ n bt T1 S (-1) := ⟨hL, hf, _, e2, fun _ => ⟨_, hle, h11, rfl⟩⟩
    obtain ⟨T2, Sb, f2, u1, u2, P2, F2, d2⟩ := st_expect (k := 1) hn (by decide) P1
    obtain ⟨vc3, vr3, T3, Sc, f3, u3, u4, P3, F3, d3, w3⟩ := st_number (b := 15) hn P2
    have F13 := F2.tr F3
    have r3 : Sc 1 = S 1 := F13.1 1 (by decide)
    obtain ⟨vc4, vr4, T4, Sd, f4, u5, u6, P4, F4, d4, w4⟩ := st_stall (C := C) (k := k) hn P3 (by rw [r3]; exact hc) (by rw [r3]; exact hi) (by rw [r3]; exact e)
    obtain ⟨vc5, vr5, T5, Se, f5, u7, u8, P5, F5, d5, w5⟩ := st_pace hn P4
    obtain ⟨vc6, vr6, T6, Sf, f6, u9, u10, P6, F6, d6, w6⟩ := st_likes hn hby P5
    have F := ((F13.tr F4).tr F5).tr F6
    have rf : Sf 1 = S 1 := F.1 1 (by decide)
    -- the class
    obtain ⟨T8, x1, x2⟩ := x_bd1 u5
    obtain ⟨v10, x3, x4⟩ := x_bd1 x2
    obtain ⟨v12, x5, x6⟩ := x_bd1 x4
    obtain ⟨T14, x7, x8⟩ := x_bd1 x6
    obtain ⟨v21, T22, x9, x10⟩ := x_bd2 u7
    obtain ⟨v30, T31, x11, x12⟩ := x_bd2 u9
    have hcls : (x_b1 (G10_expectWord 0 T) fun (T1 : xU) => (x_b1 (G10_expectWord 1 T1) fun (T3 : xU) => (x_b2 (G10_takeNumber 15 T3) fun (v5 : Int) (T6 : xU) => (x_b1 (G10_expectWord 2 T6) fun (T8 : xU) => (x_b1 (G10_numberHere T8) fun (v10 : Int) => (x_b1 (G1_hasStall v10 C) fun (v12 : Int) => (x_b1 (if v12 = 0 then (some T8) else (x_b1 (G10_refuse T8) fun (T16 : xU) => (some T16))) fun (T14 : xU) => (x_b2 (G10_takeNumber 11 T14) fun (v18 : Int) (T19 : xU) => (x_b2 (G10_takeWord 3 T19) fun (v21 : Int) (T22 : xU) => (x_b2 (if v21 = 0 then (some (2, T22)) else (x_b2 (G10_takeNumber 8 T22) fun (v27 : Int) (T28 : xU) => (some (v27, T28)))) fun (v24 : Int) (T25 : xU) => (x_b2 (G10_takeWord 4 T25) fun (v30 : Int) (T31 : xU) => (x_b2 (if v30 = 0 then (some (0, T31)) else (x_b2 (G10_takeMonths T31) fun (v36 : Int) (T37 : xU) => (some (v36, T37)))) fun (v33 : Int) (T34 : xU) => (x_b1 (G1_addMonk v5 v18 v24 v33 C) fun (Dr39 : xU) => (some (T34, Dr39))))))))))))))) = some (T6, x_up (x_up (x_up (x_up (x_up C 1 (7 * 0 + k) vc3) 1 (7 * 2 + k) vc4) 1 (7 * 1 + k) vc5) 1 (7 * 3 + k) vc6) 0 3 ((k + 1 : Nat) : Int)) := by
      rw [e1, x_b1s, u1, x_b1s, u3, x_b2s, x1, x_b1s, x3, x_b1s, x5, x_b1s, x7, x_b1s, x8, x_b2s, x9, x_b2s, x10, x_b2s, x11, x_b2s, x12, x_b2s, c_addMonk (by rw [hc.1.1, e]) (by omega), x_b1s]
    rw [hcls]
    -- the reference
    obtain ⟨v8, S9, y1, y2⟩ := x_bd2 u6
    obtain ⟨S14, y3, y4⟩ := x_bd1 y2
    obtain ⟨v18, S19, y5, y6⟩ := x_bd2 y4
    obtain ⟨v24, S25, y7, y8⟩ := x_bd2 y6
    obtain ⟨S30, y9, y10⟩ := x_bd1 y8
    cases y10
    rw [G12_after, u2, x_b1s, u4, x_b2s, x_b2s, y1, x_b2s, y3, x_b1s, y5, x_b2s, y7, x_b2s, y9, x_b1s, u8, x_b2s, u10, x_b2s, P6.2.1]
    by_cases z6 : f6 = -1
    · have g5 : f5 = -1 := by
        by_cases y : f5 = -1
        · exact y
        · rw [d6 y] at z6; exact z6
      have g4 : f4 = -1 := by
        by_cases y : f4 = -1
        · exact y
        · rw [d5 y] at g5; exact g5
      have g3 : f3 = -1 := by
        by_cases y : f3 = -1
        · exact y
        · rw [d4 y] at g4; exact g4
      obtain ⟨a1, a2, a3⟩ := w3 g3
      obtain ⟨b1, b2, b3, b4⟩ := w4 g4
      obtain ⟨c1, c2, c3⟩ := w5 g5
      obtain ⟨m1, m2, m3⟩ := w6 z6
      rw [r3] at b4
      rw [if_pos z6]
      obtain ⟨S', h1, h2, h3, h4, h5, h6, h7, h8, h9'⟩ := r_more (S := Sf) (a := vr3) (b := vr4) (c := vr5) (d := vr6) (p := k) (by rw [rf]; exact e) (by omega)
      rw [h1]
      have := s_more (S := Sf) (S' := S') (C := C) (p := k) (a := vr3) (b := vr4) (c := vr5) (d := vr6) (by rw [rf]; exact hc) (by rw [rf]; exact hi) (by rw [rf]; exact e) (by omega) ⟨a2, by omega⟩ ⟨b2, by omega⟩ ⟨c2, c3⟩ ⟨m2, m3⟩ (by rw [rf]; exact b4) h3 h4 h5 h6 h7 h8 h9'
      have hLf := P6.1
      have e9 : Sf 0 9 = -1 := (F.2.1 9 (by decide) (by decide)).trans h9
      obtain ⟨q6, t6, t7⟩ := P6.2.2
      refine ⟨T6, _, S', f6, rfl, rfl, ⟨hLf.mv e9 (congrFun (h2 0 (by decide)) _) (congrFun (h2 0 (by decide)) _) (h2 5 (by decide)), by rw [h2 0 (by decide)]; exact P6.2.1, q6, t6, fun w => by rw [h2 0 (by decide)]; exact t7 w⟩, fun _ => by rw [a1, b1, c1, m1]; exact this, fun o h0 h1' => (h2 o h1').trans (F.1 o h0), fun i h0 h1' => by rw [h2 0 (by decide)]; exact F.2.1 i h0 h1', ?_, ?_, ?_⟩
      · rw [← rf]
        exact ⟨h4 1 (by decide) (by omega), h4 2 (by decide) (by omega), fun i h0 _ => h4 i (by omega) (by omega)⟩
      · rw [h4 0 (by decide) (by omega), rf]
      · intro w; rw [h2 0 (by decide)]; exact F.2.2 w
    · rw [if_neg z6]
      exact ⟨T6, _, Sf, f6, rfl, rfl, P6, fun w => absurd w z6, F.ln⟩
end MLW
