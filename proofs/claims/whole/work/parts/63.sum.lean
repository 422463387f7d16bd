/-! A sum of a law's text, both ways. -/
/-- code that leaves a sum -/
def EvS (u : (Nat → Int) → Int) (Lb : xU) (e0 e1 : Nat) : Prop := ∀ (La : xU) (c : Nat → Int) (b : Nat) (s f : Int), (∀ i, e0 ≤ i → i < e1 → La 4 i = Lb 4 i) → Cc c La → e1 ≤ b → b ≤ 400 → Sg (G4_holds_L11 (b : Int) La) (s, 0, f, (e0 : Int)) (s, u c, f, (e1 : Int)) (e1 - e0)
theorem EvS.c {u : (Nat → Int) → Int} {L1 L2 : xU} {e0 e1 : Nat} (h : EvS u L1 e0 e1) (hh : ∀ i, e0 ≤ i → i < e1 → L2 4 i = L1 4 i) : EvS u L2 e0 e1 :=
  fun La c b s f h1 => h La c b s f (fun i i0 i1 => (h1 i i0 i1).trans (hh i i0 i1))
theorem sum_L2 {v : Int} {T Lb : xU} : G5_readSum_L2 (v, T, Lb) = (if 400 ≤ v then (some (.inr (T, Lb))) else (x_b1 (G10_isRight T) fun (v8 : Int) => (if v8 = 0 then (some (.inr (T, Lb))) else (if v = 0 then (x_b2 (cPart T Lb) fun (T14 : xU) (Lb15 : xU) => (some (.inl ((x_add v 1), T14, Lb15)))) else (x_b2 (G10_takeSign 43 T) fun (v28 : Int) (T29 : xU) => (if v28 = 0 then (some (.inr (T29, Lb))) else (x_b2 (cPart T29 Lb) fun (T35 : xU) (Lb36 : xU) => (some (.inl ((x_add v 1), T35, Lb36)))))))))) := by
  rw [G5_readSum_L2]
  simp only [cPart, x_b12, x_b22]
section SUM
variable {n : Nat} {bt : Nat → Int} {q d : Nat}
theorem sum_dC : ∀ (v : Int) (T Lb : xU) (q : Nat) (f : Int), f ≠ -1 → TK n bt T q f → G5_readSum_L2 (v, T, Lb) = some (.inr (T, Lb)) := by
  intro v T Lb q f hf hT
  rw [sum_L2]
  by_cases z : 400 ≤ v
  · rw [if_pos z]
  · rw [if_neg z, c_isRight hT, if_neg hf, x_b1s, if_pos rfl]
theorem sum_dR : ∀ (v : Int) (S : xU), S 0 12 ≠ -1 → G12_sum_L5 (v, S) = some (.inr (v, S)) := by
  intro v S h
  rw [G12_sum_L5, if_neg h]
theorem sum_turn (hn : n ≤ 400) (hd : d ≤ 7) : ∀ p, p ≤ n → TnS n bt (fun a : Int => a) G12_sum_L5 G5_readSum_L2 d p ∨ (∃ p1 t, p < p1 ∧ p1 ≤ n ∧ TnG n bt (fun a : Int => a) G12_sum_L5 G5_readSum_L2 EvA d p p1 t) ∨ ∃ f, TnB n bt (fun a : Int => a) G12_sum_L5 G5_readSum_L2 (fun _ => True) d p f := by
  intro p hp
  have hge := sk_ge (n := n) (bt := bt) (q := p)
  have hq := sk_le (bt := bt) hp
  generalize hqq : sk n bt p = q at hge hq
  by_cases z : q < n ∧ bt q = 43
  · have hz : decide (q < n ∧ bt q = 43) = true := decide_eq_true z
    have hq1 := sk_ge (n := n) (bt := bt) (q := q + 1)
    have hq1n := sk_le (n := n) (bt := bt) (q := q + 1) (by omega)
    have refq : ∀ S c a, RS n bt q d S c → G12_sum_L5 (a, S) = x_b2 (G12_part (x_up S 0 11 ((q + 1 : Nat) : Int))) fun (v13 : Int) (S14 : xU) => (some (.inl ((x_add a v13), S14))) := by
      intro S c a hS
      rw [G12_sum_L5, if_pos hS.2.1, hS.sign hn, if_pos hz, x_b2s, if_neg (by decide), up_s, up_up, n_inc (by omega)]
    have clsq : ∀ T Lb (j : Nat), TK n bt T q (-1) → 1 ≤ j → j ≤ p → ∃ T29, TK n bt T29 (sk n bt (q + 1)) (-1) ∧ G5_readSum_L2 ((j : Int), T, Lb) = x_b2 (cPart T29 Lb) fun (T35 : xU) (Lb36 : xU) => (some (.inl (((j + 1 : Nat) : Int), T35, Lb36))) := by
      intro T Lb j hT h1 h2
      obtain ⟨T29, k1, k2⟩ := c_takeSign (a := 43) (by decide) (by decide) hn hT
      rw [if_pos hz] at k2
      refine ⟨T29, k2, ?_⟩
      rw [sum_L2, if_neg (by omega), c_isRight hT, if_pos rfl, x_b1s, if_neg (by decide), if_neg (by omega), k1, if_pos hz, x_b2s, if_neg (by decide), n_inc (by omega)]
    rcases s_part (n := n) (bt := bt) (q := sk n bt (q + 1)) hn hq1n (sk_kA (by omega)) with ⟨p1, u, h1, h2, o1, o2, o3, -⟩ | ⟨f, b1, b2⟩
    · right; left
      refine ⟨p1, fun c a => x_add a (u c), by omega, h2, ?_, ?_, ?_⟩
      · intro S c a hS
        rw [hqq] at hS
        rw [refq S c a hS, o1 d _ c (hS.mv (p := q + 1) (by omega)), x_b2s, up_up]
      · intro T Lb e0 j hT hj1 hj2 he hb
        rw [hqq] at hT
        obtain ⟨T29, k1, k2⟩ := clsq T Lb j hT hj1 hj2
        obtain ⟨T', Lb', e1, r1, r2, r3, r4, r5, r6⟩ := o2 T29 Lb e0 k1 he (by omega)
        rw [k2, r1, x_b2s]
        exact ⟨T', Lb', e1, rfl, r2, by omega, r4, r5, r6⟩
      · intro T Lb j hT hj1 hj2
        rw [hqq] at hT
        obtain ⟨T29, k1, k2⟩ := clsq T Lb j hT hj1 hj2
        obtain ⟨T', Lb', r1, r2⟩ := o3 T29 Lb k1
        rw [k2, r1, x_b2s]
        exact ⟨T', Lb', rfl, r2⟩
    · right; right
      refine ⟨f, ?_, ?_⟩
      · intro S c a hS
        rw [hqq] at hS
        obtain ⟨v, S', w1, w2, w3, w4, w5⟩ := b1 d hd _ c (hS.mv (p := q + 1) (by omega))
        rw [refq S c a hS, w1, x_b2s]
        exact ⟨_, S', rfl, trivial, w3, (F3.u (.inl rfl)).tr w4, w5⟩
      · intro T Lb j hT hj1 hj2
        rw [hqq] at hT
        obtain ⟨T29, k1, k2⟩ := clsq T Lb j hT hj1 hj2
        obtain ⟨T', Lb', q', r1, r2⟩ := b2 T29 Lb k1
        rw [k2, r1, x_b2s]
        exact ⟨_, T', Lb', q', rfl, r2⟩
  · have hz : ¬ decide (q < n ∧ bt q = 43) = true := fun w => z (of_decide_eq_true w)
    left
    refine ⟨?_, ?_⟩
    · intro S c a hS
      rw [hqq] at hS ⊢
      rw [G12_sum_L5, if_pos hS.2.1, hS.sign hn, if_neg hz, x_b2s, if_pos rfl]
    · intro T Lb j hT h1 h2
      rw [hqq] at hT ⊢
      obtain ⟨T29, k1, k2⟩ := c_takeSign (a := 43) (by decide) (by decide) hn hT
      rw [if_neg hz] at k2
      by_cases y : 400 ≤ (j : Int)
      · exact ⟨T, by rw [sum_L2, if_pos y], hT⟩
      · refine ⟨T29, ?_, k2⟩
        rw [sum_L2, if_neg y, c_isRight hT, if_pos rfl, x_b1s, if_neg (by decide), if_neg (by omega), k1, if_neg hz, x_b2s, if_pos rfl]
/-- a sum -/
theorem s_sum (hn : n ≤ 400) (hd : d ≤ 7) (hq : q ≤ n) (hk1 : kA n bt q ≠ 1) :
    (∃ p u, q < p ∧ p ≤ n ∧ OkR n bt G12_sum q d p u ∧ OkC n bt G5_readSum q p 0 (EvS u) ∧ OkD n bt G5_readSum q p) ∨
    ∃ f, BadR n bt G12_sum q d (fun _ => True) f ∧ BadC n bt G5_readSum q f := by
  have first : ∀ T Lb, TK n bt T q (-1) → G5_readSum T Lb = x_b2 (cPart T Lb) fun (T1 : xU) (L1 : xU) => whl (xFU - 1) G5_readSum_L2 (((1 : Nat) : Int), T1, L1) := by
    intro T Lb hT
    have e : G5_readSum_L2 (0, T, Lb) = x_b2 (cPart T Lb) fun (T14 : xU) (Lb15 : xU) => (some (.inl (((1 : Nat) : Int), T14, Lb15))) := by
      rw [sum_L2, if_neg (by decide), c_isRight hT, if_pos rfl, x_b1s, if_neg (by decide), if_pos rfl]; rfl
    rw [G5_readSum, show xFU = (xFU - 1) + 1 from rfl, whl, e]
    cases cPart T Lb with
    | none => rfl
    | some r =>
      obtain ⟨T1, L1⟩ := r
      rw [x_b2s, x_b2s]
      show x_b2 (whl (xFU - 1) G5_readSum_L2 (((1 : Nat) : Int), T1, L1)) _ = whl (xFU - 1) G5_readSum_L2 (((1 : Nat) : Int), T1, L1)
      cases whl (xFU - 1) G5_readSum_L2 (((1 : Nat) : Int), T1, L1) <;> rfl
  have dead : ∀ T Lb q' (f : Nat), TK n bt T q' (f : Int) → whl (xFU - 1) G5_readSum_L2 (((1 : Nat) : Int), T, Lb) = some (T, Lb) := fun T Lb q' f hT => by
    rw [show xFU - 1 = (xFU - 2) + 1 from rfl, whl_r (sum_dC _ _ _ q' f (by omega) hT)]
  rcases s_part (n := n) (bt := bt) (q := q) hn hq hk1 with ⟨p1, u, h1, h2, o1, o2, o3, o4⟩ | ⟨f, b1, b2⟩
  · rcases tail_all (n := n) (bt := bt) (enc := fun a : Int => a) (fR := G12_sum_L5) (fC := G5_readSum_L2) (E := EvA) (gd := fun _ => True) (d := d) (fun _ _ => EvA.id) (fun _ _ _ _ _ _ a b c e => EvA.tr a b c e) (fun _ _ _ _ _ a b => b.c a) sum_dR sum_dC (sum_turn hn hd) (n - p1) p1 (Nat.le_refl _) h2 with ⟨p2, t, i1, i2, r1, r2, r3⟩ | ⟨f, r1, r2⟩
    · left
      refine ⟨p2, fun c => t c (u c), by omega, i2, ?_, ?_, ?_⟩
      · intro S c hS
        rw [G12_sum, o1 d S c hS, x_b2s, r1 _ c (u c) xFU (hS.mv h2) (by unfold xFU; omega), x_b2s, up_up]
      · intro T Lb e0 hT he hb
        obtain ⟨T1, L1, e1, u1, u2, u3, u4, u5, u6⟩ := o2 T Lb e0 hT he (by omega)
        obtain ⟨T2, L2, e2, v1, v2, v3, v4, v5, v6⟩ := r2 T1 L1 e1 1 (xFU - 1) u2 (by omega) (by omega) (by unfold xFU; omega) u5.1 (by omega)
        rw [first T Lb hT, u1, x_b2s]
        refine ⟨T2, L2, e2, v1, v2, by omega, by omega, u5.tr v5 u4 v4, ?_⟩
        intro La c b s f hh hc hb1 hb4
        have k := EvA.tr u4 v4 (u6.c (L2 := L2) (fun i _ hi => v5.2.2.2 i (.inl hi))) v6 La c b s 0 f hh hc hb1 hb4
        have e0u : x_add 0 (u c) = u c := by
          have := o4 c La hc
          rw [x_add_of (by rw [Int.zero_add]; exact this), Int.zero_add]
        dsimp only at k
        rw [e0u] at k
        exact k
      · intro T Lb hT
        obtain ⟨T1, L1, u1, u2⟩ := o3 T Lb hT
        rw [first T Lb hT, u1, x_b2s]
        exact r3 T1 L1 1 (xFU - 1) u2 (by omega) (by omega) (by unfold xFU; omega)
    · right
      refine ⟨f, ?_, ?_⟩
      · intro S c hS
        obtain ⟨v, S', w1, w2, w3, w4, w5⟩ := r1 _ c (u c) xFU (hS.mv h2) (by unfold xFU; omega)
        rw [G12_sum, o1 d S c hS, x_b2s, w1, x_b2s]
        exact ⟨v, S', rfl, trivial, w3, (F3.u (.inl rfl)).tr w4, w5⟩
      · intro T Lb hT
        obtain ⟨T1, L1, u1, u2⟩ := o3 T Lb hT
        rw [first T Lb hT, u1, x_b2s]
        exact r2 T1 L1 1 (xFU - 1) u2 (by omega) (by omega) (by unfold xFU; omega)
  · right
    refine ⟨f, ?_, ?_⟩
    · intro S c hS
      obtain ⟨v, S', w1, w2, w3, w4, w5⟩ := b1 d hd S c hS
      rw [G12_sum, w1, x_b2s, show xFU = (xFU - 1) + 1 from rfl, whl_r (sum_dR v S' (by rw [w3]; omega)), x_b2s]
      exact ⟨v, S', rfl, trivial, w3, w4, w5⟩
    · intro T Lb hT
      obtain ⟨T1, L1, q', u1, u2⟩ := b2 T Lb hT
      rw [first T Lb hT, u1, x_b2s, dead T1 L1 q' f u2]
      exact ⟨T1, L1, q', rfl, u2⟩
end SUM
