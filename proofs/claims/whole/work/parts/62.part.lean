/-! A part and a sum of a law's text, both ways. -/
theorem x_b12 {α β1 β2 γ : Type} {m : Option α} {g : α → Option (β1 × β2)} {f : β1 → β2 → Option γ} : x_b2 (x_b1 m g) f = x_b1 m fun a => x_b2 (g a) f := by cases m <;> rfl
theorem x_b22 {α1 α2 β1 β2 γ : Type} {m : Option (α1 × α2)} {g : α1 → α2 → Option (β1 × β2)} {f : β1 → β2 → Option γ} : x_b2 (x_b2 m g) f = x_b2 m fun a b => x_b2 (g a b) f := by cases m <;> rfl
theorem x_bif {β1 β2 γ : Type} {P : Prop} [Decidable P] {a b : Option (β1 × β2)} {f : β1 → β2 → Option γ} : x_b2 (if P then a else b) f = if P then x_b2 a f else x_b2 b f := by by_cases h : P <;> simp [h]
/-- which part a word names -/
def pw (n : Nat) (bt : Nat → Int) (q : Nat) : Int := if wm n bt 0 q then 0 else if wm n bt 26 q then 1 else if wm n bt 3 q then 2 else if wm n bt 27 q then 3 else if wm n bt 28 q then 4 else if wm n bt 15 q then 5 else if wm n bt 2 q then 6 else -1
/-- the class reads a part -/
def cPart (T Lb : xU) : Option (xU × xU) := (x_b1 (G5_partHere T) fun (v31 : Int) => (x_b1 (G10_isNumber T) fun (v33 : Int) => (if v33 = 0 then (if v31 = (-1) then (x_b1 (G10_refuse T) fun (T38 : xU) => (some (T38, Lb))) else (x_b1 (G4_addStep 1 v31 Lb) fun (Lb40 : xU) => (x_b1 (G10_readNext T) fun (T42 : xU) => (some (T42, Lb40))))) else (x_b2 (G10_takeNumber 999 T) fun (v44 : Int) (T45 : xU) => (x_b1 (G4_addStep 0 v44 Lb) fun (Lb47 : xU) => (some (T45, Lb47)))))))
/-- code that adds up -/
def EvA (t : (Nat → Int) → Int → Int) (Lb : xU) (e0 e1 : Nat) : Prop := ∀ (La : xU) (c : Nat → Int) (b : Nat) (s a f : Int), (∀ i, e0 ≤ i → i < e1 → La 4 i = Lb 4 i) → Cc c La → e1 ≤ b → b ≤ 400 → Sg (G4_holds_L11 (b : Int) La) (s, a, f, (e0 : Int)) (s, t c a, f, (e1 : Int)) (e1 - e0)
theorem EvA.c {t : (Nat → Int) → Int → Int} {L1 L2 : xU} {e0 e1 : Nat} (h : EvA t L1 e0 e1) (hh : ∀ i, e0 ≤ i → i < e1 → L2 4 i = L1 4 i) : EvA t L2 e0 e1 :=
  fun La c b s a f h1 => h La c b s a f (fun i i0 i1 => (h1 i i0 i1).trans (hh i i0 i1))
theorem EvA.id {Lb : xU} {e : Nat} : EvA (fun _ a => a) Lb e e := fun La c b s a f _ _ _ _ => by rw [Nat.sub_self]; exact Sg.rf
theorem EvA.tr {t1 t2 : (Nat → Int) → Int → Int} {Lb : xU} {e0 e1 e2 : Nat} (h1 : e0 ≤ e1) (h2 : e1 ≤ e2) (h : EvA t1 Lb e0 e1) (k : EvA t2 Lb e1 e2) : EvA (fun c a => t2 c (t1 c a)) Lb e0 e2 := by
  intro La c b s a f hh hc hb hb4
  rw [show e2 - e0 = (e1 - e0) + (e2 - e1) by omega]
  exact (h La c b s a f (fun i i0 i1 => hh i i0 (by omega)) hc (by omega) hb4).tr (k La c b s _ f (fun i i0 i1 => hh i (by omega) i1) hc hb hb4)
section PRT
variable {n : Nat} {bt : Nat → Int} {T S Lb : xU} {q : Nat} {f : Int}
theorem wm_kA {k : Nat} (h : wm n bt k q = true) : kA n bt q = 2 := (of_decide_eq_true h).1
theorem pw_kA (h : pw n bt q ≠ -1) : kA n bt q = 2 := by
  unfold pw at h
  by_cases w0 : wm n bt 0 q = true
  · exact wm_kA w0
  by_cases w1 : wm n bt 26 q = true
  · exact wm_kA w1
  by_cases w2 : wm n bt 3 q = true
  · exact wm_kA w2
  by_cases w3 : wm n bt 27 q = true
  · exact wm_kA w3
  by_cases w4 : wm n bt 28 q = true
  · exact wm_kA w4
  by_cases w5 : wm n bt 15 q = true
  · exact wm_kA w5
  by_cases w6 : wm n bt 2 q = true
  · exact wm_kA w6
  rw [if_neg w0, if_neg w1, if_neg w2, if_neg w3, if_neg w4, if_neg w5, if_neg w6] at h
  exact absurd rfl h
theorem pw_bd : pw n bt q = -1 ∨ ∃ k : Nat, k < 7 ∧ pw n bt q = (k : Int) := by
  unfold pw
  cases wm n bt 0 q
  · cases wm n bt 26 q
    · cases wm n bt 3 q
      · cases wm n bt 27 q
        · cases wm n bt 28 q
          · cases wm n bt 15 q
            · cases wm n bt 2 q
              · exact .inl rfl
              · exact .inr ⟨6, by decide, rfl⟩
            · exact .inr ⟨5, by decide, rfl⟩
          · exact .inr ⟨4, by decide, rfl⟩
        · exact .inr ⟨3, by decide, rfl⟩
      · exact .inr ⟨2, by decide, rfl⟩
    · exact .inr ⟨1, by decide, rfl⟩
  · exact .inr ⟨0, by decide, rfl⟩
theorem c_partHere (hn : n ≤ 400) (h : TK n bt T q f) : G5_partHere T = some (pw n bt q) := by
  rw [G5_partHere, c_isWord hn h, x_b1s, c_isWord hn h, x_b1s, c_isWord hn h, x_b1s, c_isWord hn h, x_b1s, c_isWord hn h, x_b1s, c_isWord hn h, x_b1s, c_isWord hn h, x_b1s]
  unfold pw
  cases wm n bt 0 q
  · cases wm n bt 26 q
    · cases wm n bt 3 q
      · cases wm n bt 27 q
        · cases wm n bt 28 q
          · cases wm n bt 15 q
            · cases wm n bt 2 q <;> rfl
            · rfl
          · rfl
        · rfl
      · rfl
    · rfl
  · rfl
theorem c_isNumber (h : TK n bt T q f) : G10_isNumber T = some (if kA n bt q = 3 then 1 else 0) := by
  rw [G10_isNumber, h.2.2.2.2.1]
  by_cases z : kA n bt q = 3
  · rw [if_pos z, if_pos z, x_b1s, x_gd_t (.inr rfl)]
  · rw [if_neg z, if_neg z, x_b1s, x_gd_t (.inl rfl)]
/-- the reference looks for the part's word -/
theorem r_pw {γ : Type} {K : Int → xU → Option γ} {d : Nat} {c : Nat → Int} (hn : n ≤ 400) (h : RS n bt q d S c) :
    (x_b2 (G12_has 0 S) fun (v3 : Int) (S4 : xU) => (x_b2 (if v3 = 0 then (x_b2 (G12_has 26 S4) fun (v9 : Int) (S10 : xU) => (if v9 = 0 then (x_b2 (G12_has 3 S10) fun (v12 : Int) (S13 : xU) => (if v12 = 0 then (x_b2 (G12_has 27 S13) fun (v15 : Int) (S16 : xU) => (if v15 = 0 then (x_b2 (G12_has 28 S16) fun (v18 : Int) (S19 : xU) => (if v18 = 0 then (x_b2 (G12_has 15 S19) fun (v21 : Int) (S22 : xU) => (if v21 = 0 then (x_b2 (G12_has 2 S22) fun (v24 : Int) (S25 : xU) => (if v24 = 0 then (some ((-1), S25)) else (some (6, S25)))) else (some (5, S22)))) else (some (4, S19)))) else (some (3, S16)))) else (some (2, S13)))) else (some (1, S10)))) else (some (0, S4))) fun (v6 : Int) (S7 : xU) => K v6 S7)) =
    K (pw n bt q) (x_up S 0 11 (if pw n bt q = -1 then (q : Int) else (en n bt q : Int))) := by
  have R : ∀ k, 0 < x_sl.getD k 0 → G12_has k (x_up S 0 11 (q : Int)) = some (if wm n bt k q then (1, x_up S 0 11 (en n bt q : Int)) else (0, x_up S 0 11 (q : Int))) := fun k hk => by
    rw [h.at.has hn hk, up_up, up_up]
  rw [h.has hn (by decide)]
  unfold pw
  cases w0 : wm n bt 0 q with
  | true => simp only [x_b2s, Int.reduceEq, Int.reduceNeg, reduceIte]
  | false =>
    simp only [Bool.false_eq_true, x_b2s, reduceIte, R 26 (by decide)]
    cases w1 : wm n bt 26 q with
    | true => simp only [x_b2s, Int.reduceEq, Int.reduceNeg, reduceIte]
    | false =>
      simp only [Bool.false_eq_true, x_b2s, reduceIte, R 3 (by decide)]
      cases w2 : wm n bt 3 q with
      | true => simp only [x_b2s, Int.reduceEq, Int.reduceNeg, reduceIte]
      | false =>
        simp only [Bool.false_eq_true, x_b2s, reduceIte, R 27 (by decide)]
        cases w3 : wm n bt 27 q with
        | true => simp only [x_b2s, Int.reduceEq, Int.reduceNeg, reduceIte]
        | false =>
          simp only [Bool.false_eq_true, x_b2s, reduceIte, R 28 (by decide)]
          cases w4 : wm n bt 28 q with
          | true => simp only [x_b2s, Int.reduceEq, Int.reduceNeg, reduceIte]
          | false =>
            simp only [Bool.false_eq_true, x_b2s, reduceIte, R 15 (by decide)]
            cases w5 : wm n bt 15 q with
            | true => simp only [x_b2s, Int.reduceEq, Int.reduceNeg, reduceIte]
            | false =>
              simp only [Bool.false_eq_true, x_b2s, reduceIte, R 2 (by decide)]
              cases w6 : wm n bt 2 q with
              | true => simp only [x_b2s, Int.reduceEq, Int.reduceNeg, reduceIte]
              | false => simp only [Bool.false_eq_true, x_b2s, Int.reduceEq, Int.reduceNeg, reduceIte]
/-- a part -/
theorem s_part (hn : n ≤ 400) (hq : q ≤ n) (hk1 : kA n bt q ≠ 1) :
    (∃ p u, q < p ∧ p ≤ n ∧ (∀ d, OkR n bt G12_part q d p u) ∧ OkC n bt cPart q p 0 (EvA fun c a => x_add a (u c)) ∧ OkD n bt cPart q p ∧ ∀ c La, Cc c La → R32 (u c)) ∨
    ∃ f, (∀ d, d ≤ 7 → BadR n bt G12_part q d (fun _ => True) f) ∧ BadC n bt cPart q f := by
  have hle := en_le (n := n) (bt := bt) hq
  -- the reference, live
  have ref : ∀ d S c, RS n bt q d S c → G12_part S = (if kA n bt q = 3 then (x_b2 (G12_figures 0 999 (x_up S 0 11 (q : Int))) fun (v59 : Int) (S60 : xU) => (some (v59, S60))) else (if pw n bt q = (-1) then (some (0, x_up (x_up S 0 11 (q : Int)) 0 12 (q : Int))) else (x_gd ((0 : Int) ≤ pw n bt q ∧ pw n bt q < 7) (some ((S 6 (pw n bt q).toNat), x_up S 0 11 (en n bt q : Int)))))) := by
    intro d S c hS
    have w12 : x_up S 0 11 (q : Int) 0 12 = -1 := (up_i (by decide)).trans hS.2.1
    have r10 : x_up S 0 11 (q : Int) 0 10 = (n : Int) := (up_i (by decide)).trans hS.1.1
    have fin : (if pw n bt q = (-1) then (x_b1 (G12_wrong (x_up (x_up S 0 11 (q : Int)) 0 11 (if pw n bt q = -1 then (q : Int) else (en n bt q : Int)) 0 11) (x_up (x_up S 0 11 (q : Int)) 0 11 (if pw n bt q = -1 then (q : Int) else (en n bt q : Int)))) fun (S27 : xU) => (some ((0 : Int), S27))) else (x_gd ((0 : Int) ≤ pw n bt q ∧ pw n bt q < 7) (some ((x_up (x_up S 0 11 (q : Int)) 0 11 (if pw n bt q = -1 then (q : Int) else (en n bt q : Int)) 6 (pw n bt q).toNat), x_up (x_up S 0 11 (q : Int)) 0 11 (if pw n bt q = -1 then (q : Int) else (en n bt q : Int)))))) =
        (if pw n bt q = (-1) then (some (0, x_up (x_up S 0 11 (q : Int)) 0 12 (q : Int))) else (x_gd ((0 : Int) ≤ pw n bt q ∧ pw n bt q < 7) (some ((S 6 (pw n bt q).toNat), x_up S 0 11 (en n bt q : Int))))) := by
      by_cases z : pw n bt q = -1
      · rw [if_pos z, if_pos z, if_pos z, up_up, up_s, G12_wrong, if_pos w12, x_b1s, x_b1s]
      · rw [if_neg z, if_neg z, if_neg z, up_up, up_o (by decide)]
    rw [G12_part, if_pos hS.2.1, hS.skip hn, x_b1s, r10, up_s]
    by_cases z : q < n
    · have hl := g12_letter (S := x_up S 0 11 (q : Int)) hn hS.at.1 z
      have ek : kA n bt q = kd (bt q) := by unfold kA; rw [if_pos z]
      rw [if_neg (by omega), hl, x_b1s, g12_isIn, x_b1s]
      by_cases y : 48 ≤ bt q ∧ bt q ≤ 57
      · rw [if_pos y, if_neg (by decide), if_pos (by rw [ek]; exact kd_3.mpr y)]
      · rw [if_neg y, if_pos rfl, if_neg (by rw [ek]; exact fun w => y (kd_3.mp w)), r_pw hn hS.at]
        exact fin
    · rw [if_pos (by omega), if_neg (by rw [kA_0.mpr z]; decide), r_pw hn hS.at]
      exact fin
  -- the class
  have cls : ∀ T Lb f, TK n bt T q f → cPart T Lb = (if kA n bt q = 3 then (x_b2 (G10_takeNumber 999 T) fun (v44 : Int) (T45 : xU) => (x_b1 (G4_addStep 0 v44 Lb) fun (Lb47 : xU) => (some (T45, Lb47)))) else (if pw n bt q = (-1) then (x_b1 (G10_refuse T) fun (T38 : xU) => (some (T38, Lb))) else (x_b1 (G4_addStep 1 (pw n bt q) Lb) fun (Lb40 : xU) => (x_b1 (G10_readNext T) fun (T42 : xU) => (some (T42, Lb40)))))) := by
    intro T Lb f hT
    rw [cPart, c_partHere hn hT, x_b1s, c_isNumber hT, x_b1s]
    by_cases z : kA n bt q = 3
    · rw [if_pos z, if_pos z, if_neg (by decide)]
    · rw [if_neg z, if_neg z, if_pos rfl]
  by_cases z : kA n bt q = 3
  · have hqn : q < n := kA_lt (by rw [z]; decide)
    by_cases y : num n bt q ≠ -1
    · obtain ⟨b1, b2, b3, b4⟩ := num_bd y
      obtain ⟨g, hg⟩ := Int.eq_ofNat_of_zero_le b1
      have y2 : num n bt q ≠ -1 ∧ num n bt q ≤ 999 := ⟨y, b2⟩
      left
      refine ⟨en n bt q, fun _ => num n bt q, en_gt hqn, hle, ?_, ?_, ?_, fun _ _ _ => show R32 (num n bt q) from ⟨by omega, by omega⟩⟩
      · intro d S c hS
        obtain ⟨r1, r2⟩ := r_figures (b := 999) hn hS.at.1 up_s hq hS.at.2.1
        rw [sk_id hk1, up_up] at r1
        rw [ref d S c hS, if_pos z, r1 y2, x_b2s]
      · intro T Lb e0 hT he hb
        obtain ⟨T', k1, k2⟩ := c_takeNumber (a := 999) hn hT
        rw [if_pos y2, if_pos y2] at k2
        rw [if_pos y2] at k1
        have hgt := en_gt (n := n) (bt := bt) hqn
        obtain ⟨Lb', s1, s2, s3⟩ := c_step (a := 0) (g := g) (by decide) (by omega) he (by omega)
        rw [cls T Lb _ hT, if_pos z, k1, x_b2s, hg, show G4_addStep 0 (g : Int) Lb = _ from s1, x_b1s]
        refine ⟨T', Lb', e0 + 1, rfl, k2, by omega, by omega, s2, ?_⟩
        intro La c b s a f hh hc hb1 hb4
        rw [show e0 + 1 - e0 = 1 by omega]
        exact Sg.one (la_0 (by rw [hh e0 (Nat.le_refl _) (by omega)]; exact s3) (by omega) hb4 (by omega))
      · intro T Lb hT
        obtain ⟨T', k1, k2⟩ := c_takeNumber (a := 999) hn hT
        rw [if_pos y2, if_pos y2] at k2
        obtain ⟨Lb', s1⟩ := c_stepd (a := 0) (g := if num n bt q ≠ -1 ∧ num n bt q ≤ 999 then num n bt q else -1) (Lb := Lb)
        rw [cls T Lb _ hT, if_pos z, k1, x_b2s, s1, x_b1s]
        exact ⟨T', Lb', rfl, k2⟩
    · right
      have y2 : ¬ (num n bt q ≠ -1 ∧ num n bt q ≤ 999) := fun w => y w.1
      refine ⟨q, ?_, ?_⟩
      · intro d hd S c hS
        obtain ⟨r1, r2⟩ := r_figures (b := 999) hn hS.at.1 up_s hq hS.at.2.1
        rw [sk_id hk1] at r2
        obtain ⟨v, r, hr, e3⟩ := r2 y2
        rw [up_up] at e3
        rw [ref d S c hS, if_pos z, e3, x_b2s]
        exact ⟨v, _, rfl, trivial, up_s, (F3.u (.inl rfl)).tr (F3.u (.inr (.inl rfl))), by rw [up_i (by decide), up_s]; omega, by rw [up_i (by decide), up_s]; omega⟩
      · intro T Lb hT
        obtain ⟨T', k1, k2⟩ := c_takeNumber (a := 999) hn hT
        rw [if_neg y2, if_neg y2, if_pos rfl] at k2
        obtain ⟨Lb', s1⟩ := c_stepd (a := 0) (g := if num n bt q ≠ -1 ∧ num n bt q ≤ 999 then num n bt q else -1) (Lb := Lb)
        rw [cls T Lb _ hT, if_pos z, k1, x_b2s, s1, x_b1s]
        exact ⟨T', Lb', q, rfl, k2⟩
  · rcases pw_bd (n := n) (bt := bt) (q := q) with y | ⟨g, hg, y⟩
    · right
      refine ⟨q, ?_, ?_⟩
      · intro d hd S c hS
        rw [ref d S c hS, if_neg z, if_pos y]
        exact ⟨_, _, rfl, trivial, up_s, (F3.u (.inl rfl)).tr (F3.u (.inr (.inl rfl))), by rw [up_i (by decide), up_s]; omega, by rw [up_i (by decide), up_s]; omega⟩
      · intro T Lb hT
        obtain ⟨T', k1, k2⟩ := c_refuse hT
        rw [if_pos rfl] at k2
        rw [cls T Lb _ hT, if_neg z, if_pos y, k1, x_b1s]
        exact ⟨T', Lb, q, rfl, k2⟩
    · have hqn : q < n := kA_lt (by rw [pw_kA (n := n) (bt := bt) (q := q) (by omega)]; decide)
      have nx : ∀ T, TK n bt T q (-1) → ∃ T', G10_readNext T = some T' ∧ TK n bt T' (sk n bt (en n bt q)) (-1) := fun T hT => c_next hn hT.1 hT.2.2.2.1 hT.2.2.2.2.2.2.1 hle
      left
      refine ⟨en n bt q, fun c => c g, en_gt hqn, hle, ?_, ?_, ?_, fun c La hc => (hc.1 g hg).2⟩
      · intro d S c hS
        rw [ref d S c hS, if_neg z, y, if_neg (by omega), x_gd_t ⟨by omega, by omega⟩, Int.toNat_natCast, hS.2.2.2.2.1 g hg]
      · intro T Lb e0 hT he hb
        have hgt := en_gt (n := n) (bt := bt) hqn
        obtain ⟨T', k1, k2⟩ := nx T hT
        obtain ⟨Lb', s1, s2, s3⟩ := c_step (a := 1) (g := g) (by decide) (by omega) he (by omega)
        rw [cls T Lb _ hT, if_neg z, y, if_neg (by omega), show G4_addStep 1 (g : Int) Lb = _ from s1, x_b1s, k1, x_b1s]
        refine ⟨T', Lb', e0 + 1, rfl, k2, by omega, by omega, s2, ?_⟩
        intro La c b s a f hh hc hb1 hb4
        rw [show e0 + 1 - e0 = 1 by omega]
        exact Sg.one (la_1 (by rw [hh e0 (Nat.le_refl _) (by omega)]; exact s3) (by omega) hb4 hg hc)
      · intro T Lb hT
        obtain ⟨T', k1, k2⟩ := nx T hT
        obtain ⟨Lb', s1⟩ := c_stepd (a := 1) (g := pw n bt q) (Lb := Lb)
        rw [cls T Lb _ hT, if_neg z, if_neg (by omega), s1, x_b1s, k1, x_b1s]
        exact ⟨T', Lb', rfl, k2⟩
end PRT
