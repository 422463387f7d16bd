/-! Reading what a law asks: what the reference reads, and what the class writes down, at a place of a text. -/
/-- what is asked about, as the reference has it -/
def Cx (c : Nat → Int) (S : xU) : Prop := (∀ i : Nat, i < 7 → S 6 i = c i) ∧ S 0 15 = c 7 ∧ S 0 16 = c 8 ∧ (c 7 = 0 ∨ c 7 = 1) ∧ (c 8 = 0 ∨ c 8 = 1)
/-- only the place, the fault and the depth change -/
def F3 (S S' : xU) : Prop := (∀ o, o ≠ 0 → S' o = S o) ∧ ∀ i, i ≠ 11 → i ≠ 12 → i ≠ 13 → S' 0 i = S 0 i
theorem F3.rf {S : xU} : F3 S S := ⟨fun _ _ => rfl, fun _ _ _ _ => rfl⟩
theorem F3.tr {S S' S2 : xU} (h : F3 S S') (k : F3 S' S2) : F3 S S2 := ⟨fun o ho => (k.1 o ho).trans (h.1 o ho), fun i h1 h2 h3 => (k.2 i h1 h2 h3).trans (h.2 i h1 h2 h3)⟩
theorem F3.u {S : xU} {i : Nat} {v : Int} (h : i = 11 ∨ i = 12 ∨ i = 13) : F3 S (x_up S 0 i v) := ⟨fun _ ho => up_o ho, fun _ h1 h2 h3 => up_i (by omega)⟩
section RDG
variable (n : Nat) (bt : Nat → Int)
/-- the reference is at a token, live -/
def RS (q d : Nat) (S : xU) (c : Nat → Int) : Prop := LT n bt S ∧ S 0 12 = -1 ∧ (∃ p : Nat, S 0 11 = (p : Int) ∧ p ≤ n ∧ sk n bt p = q) ∧ S 0 13 = (d : Int) ∧ Cx c S
def OkR (R : xU → Option (Int × xU)) (q d p : Nat) (u : (Nat → Int) → Int) : Prop := ∀ S c, RS n bt q d S c → R S = some (u c, x_up S 0 11 (p : Int))
def BadR (R : xU → Option (Int × xU)) (q d : Nat) (gd : Int → Prop) (f : Nat) : Prop := ∀ S c, RS n bt q d S c → ∃ v S', R S = some (v, S') ∧ gd v ∧ S' 0 12 = (f : Int) ∧ F3 S S' ∧ 0 ≤ S' 0 11 ∧ S' 0 11 ≤ (n : Int) + 7 - (d : Int)
def OkC (F : xU → xU → Option (xU × xU)) (q p w : Nat) (Pv : xU → Nat → Nat → Prop) : Prop := ∀ T Lb (e0 : Nat), TK n bt T q (-1) → Lb 0 5 = (e0 : Int) → e0 + p + w ≤ 400 + q → ∃ T' Lb' e1, F T Lb = some (T', Lb') ∧ TK n bt T' (sk n bt p) (-1) ∧ e1 + q ≤ e0 + p + w ∧ e0 ≤ e1 ∧ Ex Lb Lb' e0 e1 ∧ Pv Lb' e0 e1
def OkD (F : xU → xU → Option (xU × xU)) (q p : Nat) : Prop := ∀ T Lb, TK n bt T q (-1) → ∃ T' Lb', F T Lb = some (T', Lb') ∧ TK n bt T' (sk n bt p) (-1)
def BadC (F : xU → xU → Option (xU × xU)) (q f : Nat) : Prop := ∀ T Lb, TK n bt T q (-1) → ∃ T' Lb' q', F T Lb = some (T', Lb') ∧ TK n bt T' q' (f : Int)
end RDG
section RDH
variable {n : Nat} {bt : Nat → Int} {S : xU} {c : Nat → Int} {q d : Nat}
theorem LT.f3 {S' : xU} (h : LT n bt S) (k : F3 S S') : LT n bt S' := by
  refine ⟨(k.2 10 (by decide) (by decide) (by decide)).trans h.1, ?_⟩
  rw [k.2 9 (by decide) (by decide) (by decide), k.1 5 (by decide), k.1 1 (by decide)]
  exact h.2
theorem Cx.f3 {S' : xU} (h : Cx c S) (k : F3 S S') : Cx c S' := by
  refine ⟨fun i hi => by rw [k.1 6 (by decide)]; exact h.1 i hi, ?_, ?_, h.2.2.2⟩
  · rw [k.2 15 (by decide) (by decide) (by decide)]; exact h.2.1
  · rw [k.2 16 (by decide) (by decide) (by decide)]; exact h.2.2.1
theorem RS.mv {p : Nat} (h : RS n bt q d S c) (hp : p ≤ n) : RS n bt (sk n bt p) d (x_up S 0 11 (p : Int)) c :=
  ⟨h.1.f3 (F3.u (.inl rfl)), (up_i (by decide)).trans h.2.1, ⟨p, up_s, hp, rfl⟩, (up_i (by decide)).trans h.2.2.2.1, h.2.2.2.2.f3 (F3.u (.inl rfl))⟩
theorem RS.tok (h : RS n bt q d S c) : q ≤ n ∧ kA n bt q ≠ 1 ∧ sk n bt q = q := by
  obtain ⟨-, -, ⟨p, -, h2, h3⟩, -, -⟩ := h
  subst h3
  exact ⟨sk_le h2, sk_kA h2, sk_id (sk_kA h2)⟩
theorem RS.at (h : RS n bt q d S c) : RS n bt q d (x_up S 0 11 (q : Int)) c := by
  have t := h.tok
  have k := h.mv (p := q) t.1
  rw [t.2.2] at k
  exact k
theorem RS.skip (hn : n ≤ 400) (h : RS n bt q d S c) : G12_skip S = some (x_up S 0 11 (q : Int)) := by
  obtain ⟨h1, -, ⟨p, h2, h3, h4⟩, -, -⟩ := h
  rw [r_skip hn h1 h2 h3, h4]
theorem RS.has {k : Nat} (hn : n ≤ 400) (h : RS n bt q d S c) (hk : 0 < x_sl.getD k 0) : G12_has k S = some (if wm n bt k q then (1, x_up S 0 11 (en n bt q : Int)) else (0, x_up S 0 11 (q : Int))) := by
  obtain ⟨h1, -, ⟨p, h2, h3, h4⟩, -, -⟩ := h
  rw [r_has hn h1 h2 h3 hk, h4]
theorem RS.sign {a : Int} (hn : n ≤ 400) (h : RS n bt q d S c) : G12_isSign a S = some ((if decide (q < n ∧ bt q = a) then 1 else 0), x_up S 0 11 (q : Int)) := by
  obtain ⟨h1, -, ⟨p, h2, h3, h4⟩, -, -⟩ := h
  rw [r_isSign hn h1 h2 h3, h4]
end RDH
/-! A list with signs or words between: one turn, and all of them. -/
section TAI
variable (n : Nat) (bt : Nat → Int) {τ : Type} (enc : τ → Int) (fR : Int × xU → Option ((Int × xU) ⊕ (Int × xU))) (fC : Int × xU × xU → Option ((Int × xU × xU) ⊕ (xU × xU))) (E : ((Nat → Int) → τ → τ) → xU → Nat → Nat → Prop) (gd : Int → Prop) (d : Nat)
def TnS (p : Nat) : Prop := (∀ S c a, RS n bt (sk n bt p) d S c → fR (enc a, S) = some (.inr (enc a, x_up S 0 11 (sk n bt p : Int)))) ∧ ∀ T Lb (j : Nat), TK n bt T (sk n bt p) (-1) → 1 ≤ j → j ≤ p → ∃ T', fC ((j : Int), T, Lb) = some (.inr (T', Lb)) ∧ TK n bt T' (sk n bt p) (-1)
def TnG (p p1 : Nat) (t : (Nat → Int) → τ → τ) : Prop := (∀ S c a, RS n bt (sk n bt p) d S c → fR (enc a, S) = some (.inl (enc (t c a), x_up S 0 11 (p1 : Int)))) ∧
  (∀ T Lb (e0 j : Nat), TK n bt T (sk n bt p) (-1) → 1 ≤ j → j ≤ p → Lb 0 5 = (e0 : Int) → e0 + p1 ≤ 400 + p → ∃ T' Lb' e1, fC ((j : Int), T, Lb) = some (.inl (((j + 1 : Nat) : Int), T', Lb')) ∧ TK n bt T' (sk n bt p1) (-1) ∧ e1 + p ≤ e0 + p1 ∧ e0 ≤ e1 ∧ Ex Lb Lb' e0 e1 ∧ E t Lb' e0 e1) ∧
  ∀ T Lb (j : Nat), TK n bt T (sk n bt p) (-1) → 1 ≤ j → j ≤ p → ∃ T' Lb', fC ((j : Int), T, Lb) = some (.inl (((j + 1 : Nat) : Int), T', Lb')) ∧ TK n bt T' (sk n bt p1) (-1)
def TnB (p f : Nat) : Prop := (∀ S c a, RS n bt (sk n bt p) d S c → ∃ v S', fR (enc a, S) = some (.inl (v, S')) ∧ gd v ∧ S' 0 12 = (f : Int) ∧ F3 S S' ∧ 0 ≤ S' 0 11 ∧ S' 0 11 ≤ (n : Int) + 7 - (d : Int)) ∧
  ∀ T Lb (j : Nat), TK n bt T (sk n bt p) (-1) → 1 ≤ j → j ≤ p → ∃ v T' Lb' q', fC ((j : Int), T, Lb) = some (.inl (v, T', Lb')) ∧ TK n bt T' q' (f : Int)
def TlG (p p1 : Nat) (t : (Nat → Int) → τ → τ) : Prop := (∀ S c a k, RS n bt (sk n bt p) d S c → n - p + 2 < k → whl k fR (enc a, S) = some (enc (t c a), x_up S 0 11 (p1 : Int))) ∧
  (∀ T Lb (e0 j k : Nat), TK n bt T (sk n bt p) (-1) → 1 ≤ j → j ≤ p → n - p + 2 < k → Lb 0 5 = (e0 : Int) → e0 + p1 ≤ 400 + p → ∃ T' Lb' e1, whl k fC ((j : Int), T, Lb) = some (T', Lb') ∧ TK n bt T' (sk n bt p1) (-1) ∧ e1 + p ≤ e0 + p1 ∧ e0 ≤ e1 ∧ Ex Lb Lb' e0 e1 ∧ E t Lb' e0 e1) ∧
  ∀ T Lb (j k : Nat), TK n bt T (sk n bt p) (-1) → 1 ≤ j → j ≤ p → n - p + 2 < k → ∃ T' Lb', whl k fC ((j : Int), T, Lb) = some (T', Lb') ∧ TK n bt T' (sk n bt p1) (-1)
def TlB (p f : Nat) : Prop := (∀ S c a k, RS n bt (sk n bt p) d S c → n - p + 2 < k → ∃ v S', whl k fR (enc a, S) = some (v, S') ∧ gd v ∧ S' 0 12 = (f : Int) ∧ F3 S S' ∧ 0 ≤ S' 0 11 ∧ S' 0 11 ≤ (n : Int) + 7 - (d : Int)) ∧
  ∀ T Lb (j k : Nat), TK n bt T (sk n bt p) (-1) → 1 ≤ j → j ≤ p → n - p + 2 < k → ∃ T' Lb' q', whl k fC ((j : Int), T, Lb) = some (T', Lb') ∧ TK n bt T' q' (f : Int)
variable {n bt enc fR fC E gd d}
theorem tail_all (hE0 : ∀ Lb e, E (fun _ a => a) Lb e e)
    (hE1 : ∀ t1 t2 Lb e0 e1 e2, e0 ≤ e1 → e1 ≤ e2 → E t1 Lb e0 e1 → E t2 Lb e1 e2 → E (fun c a => t2 c (t1 c a)) Lb e0 e2)
    (hE2 : ∀ t L1 L2 e0 e1, (∀ i, e0 ≤ i → i < e1 → L2 4 i = L1 4 i) → E t L1 e0 e1 → E t L2 e0 e1)
    (dR : ∀ v S, S 0 12 ≠ -1 → fR (v, S) = some (.inr (v, S)))
    (dC : ∀ v T Lb q f, f ≠ -1 → TK n bt T q f → fC (v, T, Lb) = some (.inr (T, Lb)))
    (turn : ∀ p, p ≤ n → TnS n bt enc fR fC d p ∨ (∃ p1 t, p < p1 ∧ p1 ≤ n ∧ TnG n bt enc fR fC E d p p1 t) ∨ ∃ f, TnB n bt enc fR fC gd d p f) :
    ∀ m p, n - p ≤ m → p ≤ n → (∃ p1 t, p ≤ p1 ∧ p1 ≤ n ∧ TlG n bt enc fR fC E d p p1 t) ∨ ∃ f, TlB n bt enc fR fC gd d p f := by
  intro m
  induction m using Nat.strongRecOn with
  | ind m ih =>
    intro p hm hp
    rcases turn p hp with ⟨s1, s2⟩ | ⟨p1, t, h1, h2, g1, g2, g3⟩ | ⟨f, b1, b2⟩
    · left
      refine ⟨sk n bt p, fun _ a => a, sk_ge, sk_le hp, ?_, ?_, ?_⟩
      · intro S c a k hS hk
        obtain ⟨k, rfl⟩ : ∃ k', k = k' + 1 := ⟨k - 1, by omega⟩
        rw [whl_r (s1 S c a hS)]
      · intro T Lb e0 j k hT h1 h2 hk he hb
        obtain ⟨k, rfl⟩ : ∃ k', k = k' + 1 := ⟨k - 1, by omega⟩
        obtain ⟨T', u1, u2⟩ := s2 T Lb j hT h1 h2
        have hle := sk_ge (n := n) (bt := bt) (q := p)
        rw [sk_id (sk_kA hp)]
        exact ⟨T', Lb, e0, whl_r u1, u2, by omega, Nat.le_refl _, Ex.rf he, hE0 _ _⟩
      · intro T Lb j k hT h1 h2 hk
        obtain ⟨k, rfl⟩ : ∃ k', k = k' + 1 := ⟨k - 1, by omega⟩
        obtain ⟨T', u1, u2⟩ := s2 T Lb j hT h1 h2
        rw [sk_id (sk_kA hp)]
        exact ⟨T', Lb, whl_r u1, u2⟩
    · rcases ih (n - p1) (by omega) p1 (Nat.le_refl _) h2 with ⟨p2, t2, i1, i2, r1, r2, r3⟩ | ⟨f, r1, r2⟩
      · left
        refine ⟨p2, fun c a => t2 c (t c a), by omega, i2, ?_, ?_, ?_⟩
        · intro S c a k hS hk
          obtain ⟨k, rfl⟩ : ∃ k', k = k' + 1 := ⟨k - 1, by omega⟩
          rw [whl_l (g1 S c a hS), r1 _ c _ k (hS.mv h2) (by omega), up_up]
        · intro T Lb e0 j k hT hj1 hj2 hk he hb
          obtain ⟨k, rfl⟩ : ∃ k', k = k' + 1 := ⟨k - 1, by omega⟩
          obtain ⟨T1, L1, e1, u1, u2, u3, u4, u5, u6⟩ := g2 T Lb e0 j hT hj1 hj2 he (by omega)
          obtain ⟨T2, L2, e2, v1, v2, v3, v4, v5, v6⟩ := r2 T1 L1 e1 (j + 1) k u2 (by omega) (by omega) (by omega) u5.1 (by omega)
          rw [whl_l u1]
          exact ⟨T2, L2, e2, v1, v2, by omega, by omega, u5.tr v5 u4 v4, hE1 _ _ _ _ _ _ u4 v4 (hE2 _ _ _ _ _ (fun i _ hi => v5.2.2.2 i (.inl hi)) u6) v6⟩
        · intro T Lb j k hT hj1 hj2 hk
          obtain ⟨k, rfl⟩ : ∃ k', k = k' + 1 := ⟨k - 1, by omega⟩
          obtain ⟨T1, L1, u1, u2⟩ := g3 T Lb j hT hj1 hj2
          rw [whl_l u1]
          exact r3 T1 L1 (j + 1) k u2 (by omega) (by omega) (by omega)
      · right
        refine ⟨f, ?_, ?_⟩
        · intro S c a k hS hk
          obtain ⟨k, rfl⟩ : ∃ k', k = k' + 1 := ⟨k - 1, by omega⟩
          obtain ⟨v, S', w1, w2, w3, w4, w5⟩ := r1 _ c (t c a) k (hS.mv h2) (by omega)
          rw [whl_l (g1 S c a hS)]
          exact ⟨v, S', w1, w2, w3, (F3.u (.inl rfl)).tr w4, w5⟩
        · intro T Lb j k hT hj1 hj2 hk
          obtain ⟨k, rfl⟩ : ∃ k', k = k' + 1 := ⟨k - 1, by omega⟩
          obtain ⟨T1, L1, u1, u2⟩ := g3 T Lb j hT hj1 hj2
          rw [whl_l u1]
          exact r2 T1 L1 (j + 1) k u2 (by omega) (by omega) (by omega)
    · right
      refine ⟨f, ?_, ?_⟩
      · intro S c a k hS hk
        obtain ⟨k, rfl⟩ : ∃ k', k = k' + 1 + 1 := ⟨k - 2, by omega⟩
        obtain ⟨v, S', w1, w2, w3, w4, w5⟩ := b1 S c a hS
        rw [whl_l w1, whl_r (dR v S' (by rw [w3]; omega))]
        exact ⟨v, S', rfl, w2, w3, w4, w5⟩
      · intro T Lb j k hT hj1 hj2 hk
        obtain ⟨k, rfl⟩ : ∃ k', k = k' + 1 + 1 := ⟨k - 2, by omega⟩
        obtain ⟨v, T', Lb', q', w1, w2⟩ := b2 T Lb j hT hj1 hj2
        rw [whl_l w1, whl_r (dC v T' Lb' q' f (by omega) w2)]
        exact ⟨T', Lb', q', rfl, w2⟩
end TAI
