/-! What may be thrown. -/
def Er {β : Type} (p : β → Int ⊕ Nat) (l : List Nat) (o : Option β) : Prop := ∀ r E, o = some r → p r = .inr E → E ∈ l
section ERS
variable {α1 α2 α3 α4 β : Type} {p : β → Int ⊕ Nat} {l : List Nat}
theorem er_b1 {o : Option α1} {f : α1 → Option β} (h : ∀ a, Er p l (f a)) : Er p l (x_b1 o f) := fun r E hr hE => by
  cases o with
  | none => exact nomatch (show (none : Option β) = some r from hr)
  | some a => exact h a r E hr hE
theorem er_b2 {o : Option (α1 × α2)} {f : α1 → α2 → Option β} (h : ∀ a b, Er p l (f a b)) : Er p l (x_b2 o f) := fun r E hr hE => by
  cases o with
  | none => exact nomatch (show (none : Option β) = some r from hr)
  | some q => obtain ⟨a, b⟩ := q; exact h a b r E hr hE
theorem er_b3 {o : Option (α1 × α2 × α3)} {f : α1 → α2 → α3 → Option β} (h : ∀ a b c, Er p l (f a b c)) : Er p l (x_b3 o f) := fun r E hr hE => by
  cases o with
  | none => exact nomatch (show (none : Option β) = some r from hr)
  | some q => obtain ⟨a, b, c⟩ := q; exact h a b c r E hr hE
theorem er_b4 {o : Option (α1 × α2 × α3 × α4)} {f : α1 → α2 → α3 → α4 → Option β} (h : ∀ a b c d, Er p l (f a b c d)) : Er p l (x_b4 o f) := fun r E hr hE => by
  cases o with
  | none => exact nomatch (show (none : Option β) = some r from hr)
  | some q => obtain ⟨a, b, c, d⟩ := q; exact h a b c d r E hr hE
theorem er_gd {c : Prop} [Decidable c] {a : Option β} (h : Er p l a) : Er p l (x_gd c a) := fun r E hr hE => by
  by_cases z : c
  · rw [x_gd_t z] at hr; exact h r E hr hE
  · exact nomatch (show (none : Option β) = some r by rw [← hr]; exact (if_neg z).symm)
theorem er_if {c : Prop} [Decidable c] {a b : Option β} (ha : Er p l a) (hb : Er p l b) : Er p l (if c then a else b) := fun r E hr hE => by
  by_cases z : c
  · rw [if_pos z] at hr; exact ha r E hr hE
  · rw [if_neg z] at hr; exact hb r E hr hE
theorem er_nd1 {o : Option (Option Nat)} {f : Option β} {t : Nat → Option β} (hN : ∀ E, o = some (some E) → E ∈ l) (hf : Er p l f) (ht : ∀ E, E ∈ l → Er p l (t E)) : Er p l (x_b1 o fun o1 => x_tv o1 f t) := fun r E hr hE => by
  cases o with
  | none => exact nomatch (show (none : Option β) = some r from hr)
  | some q =>
    cases q with
    | none => exact hf r E hr hE
    | some E2 => exact ht E2 (hN E2 rfl) r E hr hE
theorem er_nd2 {o : Option (Option Nat × α1)} {f : α1 → Option β} {t : α1 → Nat → Option β} (hN : ∀ E c, o = some (some E, c) → E ∈ l) (hf : ∀ c, Er p l (f c)) (ht : ∀ c E, E ∈ l → Er p l (t c E)) : Er p l (x_b2 o fun o1 c => x_tv o1 (f c) (t c)) := fun r E hr hE => by
  cases o with
  | none => exact nomatch (show (none : Option β) = some r from hr)
  | some q =>
    obtain ⟨q, c⟩ := q
    cases q with
    | none => exact hf c r E hr hE
    | some E2 => exact ht c E2 (hN E2 c rfl) r E hr hE
theorem er_ok {r : β} {v : Int} (h : p r = .inl v) : Er p l (some r) := fun r2 E hr hE => by
  have e : r = r2 := Option.some.inj hr
  subst e
  rw [h] at hE
  exact nomatch hE
theorem er_no {r : β} {E2 : Nat} (h : p r = .inr E2) (hl : E2 ∈ l) : Er p l (some r) := fun r2 E hr hE => by
  have e : r = r2 := Option.some.inj hr
  subst e
  rw [h] at hE
  cases hE
  exact hl
end ERS
theorem ez_monk {a : Int} {N : xU} {E : Nat} (h : G11_needMonk a N = some (some E)) : E = 1 := by
  rw [G11_needMonk] at h
  by_cases h1 : a < 0
  · rw [if_pos h1] at h; cases h; rfl
  · rw [if_neg h1] at h
    by_cases h2 : a < N 0 3
    · rw [if_pos h2] at h; cases h
    · rw [if_neg h2] at h; cases h; rfl
theorem ez_walk {a : Int} {E : Nat} (h : G11_needWalk a = some (some E)) : E = 1 := by
  rw [g11_needWalk] at h
  by_cases h1 : 0 ≤ a ∧ a ≤ 3
  · rw [if_pos h1] at h; cases h
  · rw [if_neg h1] at h; cases h; rfl
theorem ez_flag {a : Int} {E : Nat} (h : G11_needFlag a = some (some E)) : E = 1 := by
  rw [g11_needFlag] at h
  by_cases h1 : 0 ≤ a ∧ a ≤ 15
  · rw [if_pos h1] at h; cases h
  · rw [if_neg h1] at h; cases h; rfl
theorem ez_within {a b : Int} {E : Nat} (h : G11_needWithin a b = some (some E)) : E = 0 := by
  rw [g11_needWithin] at h
  by_cases h1 : 0 ≤ a ∧ a ≤ b
  · rw [if_pos h1] at h; cases h
  · rw [if_neg h1] at h; cases h; rfl
theorem ez_two {a b : Int} {N : xU} {E : Nat} (h : G11_needTwo a b N = some (some E)) : E = 1 ∨ E = 0 := by
  rw [G11_needTwo] at h
  cases h1 : G11_needMonk a N with
  | none => rw [h1] at h; exact nomatch (show (none : Option (Option Nat)) = some (some E) from h)
  | some q =>
    rw [h1, x_b1s] at h
    cases q with
    | some E2 =>
      rw [x_tvs] at h
      have e : some E2 = some E := Option.some.inj h
      cases e
      exact .inl (ez_monk h1)
    | none =>
      rw [x_tvn] at h
      cases h2 : G11_needMonk b N with
      | none => rw [h2] at h; exact nomatch (show (none : Option (Option Nat)) = some (some E) from h)
      | some q =>
        rw [h2, x_b1s] at h
        cases q with
        | some E2 =>
          rw [x_tvs] at h
          have e : some E2 = some E := Option.some.inj h
          cases e
          exact .inl (ez_monk h2)
        | none =>
          rw [x_tvn] at h
          by_cases h3 : a = b
          · rw [if_pos h3] at h; cases h; exact .inr rfl
          · rw [if_neg h3] at h; cases h
theorem ez_rows {a : Int} {T T2 : xU} {E : Nat} (h : G11_needRows a T = some (some E, T2)) : E = 0 := by
  rw [G11_needRows] at h
  cases h1 : G10_useUp T with
  | none => rw [h1] at h; exact nomatch (show (none : Option (Option Nat × xU)) = some (some E, T2) from h)
  | some q =>
    rw [h1, x_b1s] at h
    by_cases h3 : a = 0
    · rw [if_pos h3] at h; cases h; rfl
    · rw [if_neg h3] at h; cases h
theorem ez2 {X : xU} {T : xU} {N : xU} {Dr : xU} {t0 : Int ⊕ Nat} {Xx : xU} {Tx : xU} {Nx : xU} {Drx : xU} (hX : G11_cloister X T N Dr = some (t0, Xx, Tx, Nx, Drx)) : ∀ E, t0 = .inr E → E ∈ ([0, 4] : List Nat) := by
  have zz : Er Prod.fst [0, 4] (G11_cloister X T N Dr) := by
    rw [G11_cloister]
    repeat' (first
      | with_reducible refine er_nd1 ?_ ?_ (fun E hE => ?_)
      | with_reducible refine er_nd2 ?_ (fun _ => ?_) (fun _ E hE => ?_)
      | with_reducible refine er_if ?_ ?_
      | with_reducible refine er_gd ?_
      | with_reducible refine er_b1 (fun _ => ?_)
      | with_reducible refine er_b2 (fun _ _ => ?_)
      | with_reducible refine er_b3 (fun _ _ _ => ?_)
      | with_reducible refine er_b4 (fun _ _ _ _ => ?_)
      | with_reducible refine er_ok rfl
      | with_reducible refine er_no rfl ?_
      | assumption
      | decide
      | exact fun E h => by rw [ez_monk h]; decide
      | exact fun E h => by rw [ez_walk h]; decide
      | exact fun E h => by rw [ez_flag h]; decide
      | exact fun E h => by rw [ez_within h]; decide
      | exact fun E h => by rcases ez_two h with e | e <;> (rw [e]; decide)
      | exact fun E _ h => by rw [ez_rows h]; decide)
  exact fun E hE => zz _ E hX hE
theorem ez3 {X : xU} {T : xU} {La : xU} {Lb : xU} {t0 : Int ⊕ Nat} {Xx : xU} {Tx : xU} {Lax : xU} {Lbx : xU} (hX : G11_law X T La Lb = some (t0, Xx, Tx, Lax, Lbx)) : ∀ E, t0 = .inr E → E ∈ ([0] : List Nat) := by
  have zz : Er Prod.fst [0] (G11_law X T La Lb) := by
    rw [G11_law]
    repeat' (first
      | with_reducible refine er_nd1 ?_ ?_ (fun E hE => ?_)
      | with_reducible refine er_nd2 ?_ (fun _ => ?_) (fun _ E hE => ?_)
      | with_reducible refine er_if ?_ ?_
      | with_reducible refine er_gd ?_
      | with_reducible refine er_b1 (fun _ => ?_)
      | with_reducible refine er_b2 (fun _ _ => ?_)
      | with_reducible refine er_b3 (fun _ _ _ => ?_)
      | with_reducible refine er_b4 (fun _ _ _ _ => ?_)
      | with_reducible refine er_ok rfl
      | with_reducible refine er_no rfl ?_
      | assumption
      | decide
      | exact fun E h => by rw [ez_monk h]; decide
      | exact fun E h => by rw [ez_walk h]; decide
      | exact fun E h => by rw [ez_flag h]; decide
      | exact fun E h => by rw [ez_within h]; decide
      | exact fun E h => by rcases ez_two h with e | e <;> (rw [e]; decide)
      | exact fun E _ h => by rw [ez_rows h]; decide)
  exact fun E hE => zz _ E hX hE
theorem ez5 {a1 : Int} {a2 : Int} {N : xU} {La : xU} {t0 : Int ⊕ Nat} {Lax : xU} (hX : G11_monk a1 a2 N La = some (t0, Lax)) : ∀ E, t0 = .inr E → E ∈ ([1, 3] : List Nat) := by
  have zz : Er Prod.fst [1, 3] (G11_monk a1 a2 N La) := by
    rw [G11_monk]
    repeat' (first
      | with_reducible refine er_nd1 ?_ ?_ (fun E hE => ?_)
      | with_reducible refine er_nd2 ?_ (fun _ => ?_) (fun _ E hE => ?_)
      | with_reducible refine er_if ?_ ?_
      | with_reducible refine er_gd ?_
      | with_reducible refine er_b1 (fun _ => ?_)
      | with_reducible refine er_b2 (fun _ _ => ?_)
      | with_reducible refine er_b3 (fun _ _ _ => ?_)
      | with_reducible refine er_b4 (fun _ _ _ _ => ?_)
      | with_reducible refine er_ok rfl
      | with_reducible refine er_no rfl ?_
      | assumption
      | decide
      | exact fun E h => by rw [ez_monk h]; decide
      | exact fun E h => by rw [ez_walk h]; decide
      | exact fun E h => by rw [ez_flag h]; decide
      | exact fun E h => by rw [ez_within h]; decide
      | exact fun E h => by rcases ez_two h with e | e <;> (rw [e]; decide)
      | exact fun E _ h => by rw [ez_rows h]; decide)
  exact fun E hE => zz _ E hX hE
theorem ez6 {a1 : Int} {N : xU} {t0 : Int ⊕ Nat} (hX : G11_store a1 N = some t0) : ∀ E, t0 = .inr E → E ∈ ([1] : List Nat) := by
  have zz : Er (fun r => r) [1] (G11_store a1 N) := by
    rw [G11_store]
    repeat' (first
      | with_reducible refine er_nd1 ?_ ?_ (fun E hE => ?_)
      | with_reducible refine er_nd2 ?_ (fun _ => ?_) (fun _ E hE => ?_)
      | with_reducible refine er_if ?_ ?_
      | with_reducible refine er_gd ?_
      | with_reducible refine er_b1 (fun _ => ?_)
      | with_reducible refine er_b2 (fun _ _ => ?_)
      | with_reducible refine er_b3 (fun _ _ _ => ?_)
      | with_reducible refine er_b4 (fun _ _ _ _ => ?_)
      | with_reducible refine er_ok rfl
      | with_reducible refine er_no rfl ?_
      | assumption
      | decide
      | exact fun E h => by rw [ez_monk h]; decide
      | exact fun E h => by rw [ez_walk h]; decide
      | exact fun E h => by rw [ez_flag h]; decide
      | exact fun E h => by rw [ez_within h]; decide
      | exact fun E h => by rcases ez_two h with e | e <;> (rw [e]; decide)
      | exact fun E _ h => by rw [ez_rows h]; decide)
  exact fun E hE => zz _ E hX hE
theorem ez7 {a1 : Int} {N : xU} {t0 : Int ⊕ Nat} (hX : G11_season a1 N = some t0) : ∀ E, t0 = .inr E → E ∈ ([1] : List Nat) := by
  have zz : Er (fun r => r) [1] (G11_season a1 N) := by
    rw [G11_season]
    repeat' (first
      | with_reducible refine er_nd1 ?_ ?_ (fun E hE => ?_)
      | with_reducible refine er_nd2 ?_ (fun _ => ?_) (fun _ E hE => ?_)
      | with_reducible refine er_if ?_ ?_
      | with_reducible refine er_gd ?_
      | with_reducible refine er_b1 (fun _ => ?_)
      | with_reducible refine er_b2 (fun _ _ => ?_)
      | with_reducible refine er_b3 (fun _ _ _ => ?_)
      | with_reducible refine er_b4 (fun _ _ _ _ => ?_)
      | with_reducible refine er_ok rfl
      | with_reducible refine er_no rfl ?_
      | assumption
      | decide
      | exact fun E h => by rw [ez_monk h]; decide
      | exact fun E h => by rw [ez_walk h]; decide
      | exact fun E h => by rw [ez_flag h]; decide
      | exact fun E h => by rw [ez_within h]; decide
      | exact fun E h => by rcases ez_two h with e | e <;> (rw [e]; decide)
      | exact fun E _ h => by rw [ez_rows h]; decide)
  exact fun E hE => zz _ E hX hE
theorem ez8 {a1 : Int} {X : xU} {N : xU} {La : xU} {A : xA} {t0 : Int ⊕ Nat} {Xx : xU} {Nx : xU} {Lax : xU} {Ax : xA} (hX : G11_hours a1 X N La A = some (t0, Xx, Nx, Lax, Ax)) : ∀ E, t0 = .inr E → E ∈ ([0] : List Nat) := by
  have zz : Er Prod.fst [0] (G11_hours a1 X N La A) := by
    rw [G11_hours]
    repeat' (first
      | with_reducible refine er_nd1 ?_ ?_ (fun E hE => ?_)
      | with_reducible refine er_nd2 ?_ (fun _ => ?_) (fun _ E hE => ?_)
      | with_reducible refine er_if ?_ ?_
      | with_reducible refine er_gd ?_
      | with_reducible refine er_b1 (fun _ => ?_)
      | with_reducible refine er_b2 (fun _ _ => ?_)
      | with_reducible refine er_b3 (fun _ _ _ => ?_)
      | with_reducible refine er_b4 (fun _ _ _ _ => ?_)
      | with_reducible refine er_ok rfl
      | with_reducible refine er_no rfl ?_
      | assumption
      | decide
      | exact fun E h => by rw [ez_monk h]; decide
      | exact fun E h => by rw [ez_walk h]; decide
      | exact fun E h => by rw [ez_flag h]; decide
      | exact fun E h => by rw [ez_within h]; decide
      | exact fun E h => by rcases ez_two h with e | e <;> (rw [e]; decide)
      | exact fun E _ h => by rw [ez_rows h]; decide)
  exact fun E hE => zz _ E hX hE
theorem ez9 {a1 : Int} {X : xU} {N : xU} {A : xA} {t0 : Int ⊕ Nat} {Xx : xU} {Nx : xU} {Ax : xA} (hX : G11_cross a1 X N A = some (t0, Xx, Nx, Ax)) : ∀ E, t0 = .inr E → E ∈ ([1, 2] : List Nat) := by
  have zz : Er Prod.fst [1, 2] (G11_cross a1 X N A) := by
    rw [G11_cross]
    repeat' (first
      | with_reducible refine er_nd1 ?_ ?_ (fun E hE => ?_)
      | with_reducible refine er_nd2 ?_ (fun _ => ?_) (fun _ E hE => ?_)
      | with_reducible refine er_if ?_ ?_
      | with_reducible refine er_gd ?_
      | with_reducible refine er_b1 (fun _ => ?_)
      | with_reducible refine er_b2 (fun _ _ => ?_)
      | with_reducible refine er_b3 (fun _ _ _ => ?_)
      | with_reducible refine er_b4 (fun _ _ _ _ => ?_)
      | with_reducible refine er_ok rfl
      | with_reducible refine er_no rfl ?_
      | assumption
      | decide
      | exact fun E h => by rw [ez_monk h]; decide
      | exact fun E h => by rw [ez_walk h]; decide
      | exact fun E h => by rw [ez_flag h]; decide
      | exact fun E h => by rw [ez_within h]; decide
      | exact fun E h => by rcases ez_two h with e | e <;> (rw [e]; decide)
      | exact fun E _ h => by rw [ez_rows h]; decide)
  exact fun E hE => zz _ E hX hE
theorem ez10 {a1 : Int} {X : xU} {N : xU} {A : xA} {t0 : Int ⊕ Nat} {Xx : xU} {Nx : xU} {Ax : xA} (hX : G11_bell a1 X N A = some (t0, Xx, Nx, Ax)) : ∀ E, t0 = .inr E → E ∈ ([1] : List Nat) := by
  have zz : Er Prod.fst [1] (G11_bell a1 X N A) := by
    rw [G11_bell]
    repeat' (first
      | with_reducible refine er_nd1 ?_ ?_ (fun E hE => ?_)
      | with_reducible refine er_nd2 ?_ (fun _ => ?_) (fun _ E hE => ?_)
      | with_reducible refine er_if ?_ ?_
      | with_reducible refine er_gd ?_
      | with_reducible refine er_b1 (fun _ => ?_)
      | with_reducible refine er_b2 (fun _ _ => ?_)
      | with_reducible refine er_b3 (fun _ _ _ => ?_)
      | with_reducible refine er_b4 (fun _ _ _ _ => ?_)
      | with_reducible refine er_ok rfl
      | with_reducible refine er_no rfl ?_
      | assumption
      | decide
      | exact fun E h => by rw [ez_monk h]; decide
      | exact fun E h => by rw [ez_walk h]; decide
      | exact fun E h => by rw [ez_flag h]; decide
      | exact fun E h => by rw [ez_within h]; decide
      | exact fun E h => by rcases ez_two h with e | e <;> (rw [e]; decide)
      | exact fun E _ h => by rw [ez_rows h]; decide)
  exact fun E hE => zz _ E hX hE
theorem ez11 {a1 : Int} {X : xU} {N : xU} {A : xA} {t0 : Int ⊕ Nat} {Xx : xU} {Nx : xU} {Ax : xA} (hX : G11_mood a1 X N A = some (t0, Xx, Nx, Ax)) : ∀ E, t0 = .inr E → E ∈ ([0] : List Nat) := by
  have zz : Er Prod.fst [0] (G11_mood a1 X N A) := by
    rw [G11_mood]
    repeat' (first
      | with_reducible refine er_nd1 ?_ ?_ (fun E hE => ?_)
      | with_reducible refine er_nd2 ?_ (fun _ => ?_) (fun _ E hE => ?_)
      | with_reducible refine er_if ?_ ?_
      | with_reducible refine er_gd ?_
      | with_reducible refine er_b1 (fun _ => ?_)
      | with_reducible refine er_b2 (fun _ _ => ?_)
      | with_reducible refine er_b3 (fun _ _ _ => ?_)
      | with_reducible refine er_b4 (fun _ _ _ _ => ?_)
      | with_reducible refine er_ok rfl
      | with_reducible refine er_no rfl ?_
      | assumption
      | decide
      | exact fun E h => by rw [ez_monk h]; decide
      | exact fun E h => by rw [ez_walk h]; decide
      | exact fun E h => by rw [ez_flag h]; decide
      | exact fun E h => by rw [ez_within h]; decide
      | exact fun E h => by rcases ez_two h with e | e <;> (rw [e]; decide)
      | exact fun E _ h => by rw [ez_rows h]; decide)
  exact fun E hE => zz _ E hX hE
theorem ez12 {a1 : Int} {a2 : Int} {X : xU} {N : xU} {A : xA} {t0 : Int ⊕ Nat} {Xx : xU} {Nx : xU} {Ax : xA} (hX : G11_change a1 a2 X N A = some (t0, Xx, Nx, Ax)) : ∀ E, t0 = .inr E → E ∈ ([1, 0] : List Nat) := by
  have zz : Er Prod.fst [1, 0] (G11_change a1 a2 X N A) := by
    rw [G11_change]
    repeat' (first
      | with_reducible refine er_nd1 ?_ ?_ (fun E hE => ?_)
      | with_reducible refine er_nd2 ?_ (fun _ => ?_) (fun _ E hE => ?_)
      | with_reducible refine er_if ?_ ?_
      | with_reducible refine er_gd ?_
      | with_reducible refine er_b1 (fun _ => ?_)
      | with_reducible refine er_b2 (fun _ _ => ?_)
      | with_reducible refine er_b3 (fun _ _ _ => ?_)
      | with_reducible refine er_b4 (fun _ _ _ _ => ?_)
      | with_reducible refine er_ok rfl
      | with_reducible refine er_no rfl ?_
      | assumption
      | decide
      | exact fun E h => by rw [ez_monk h]; decide
      | exact fun E h => by rw [ez_walk h]; decide
      | exact fun E h => by rw [ez_flag h]; decide
      | exact fun E h => by rw [ez_within h]; decide
      | exact fun E h => by rcases ez_two h with e | e <;> (rw [e]; decide)
      | exact fun E _ h => by rw [ez_rows h]; decide)
  exact fun E hE => zz _ E hX hE
theorem ez13 {a1 : Int} {a2 : Int} {X : xU} {N : xU} {A : xA} {t0 : Int ⊕ Nat} {Xx : xU} {Nx : xU} {Ax : xA} (hX : G11_pace a1 a2 X N A = some (t0, Xx, Nx, Ax)) : ∀ E, t0 = .inr E → E ∈ ([1, 0] : List Nat) := by
  have zz : Er Prod.fst [1, 0] (G11_pace a1 a2 X N A) := by
    rw [G11_pace]
    repeat' (first
      | with_reducible refine er_nd1 ?_ ?_ (fun E hE => ?_)
      | with_reducible refine er_nd2 ?_ (fun _ => ?_) (fun _ E hE => ?_)
      | with_reducible refine er_if ?_ ?_
      | with_reducible refine er_gd ?_
      | with_reducible refine er_b1 (fun _ => ?_)
      | with_reducible refine er_b2 (fun _ _ => ?_)
      | with_reducible refine er_b3 (fun _ _ _ => ?_)
      | with_reducible refine er_b4 (fun _ _ _ _ => ?_)
      | with_reducible refine er_ok rfl
      | with_reducible refine er_no rfl ?_
      | assumption
      | decide
      | exact fun E h => by rw [ez_monk h]; decide
      | exact fun E h => by rw [ez_walk h]; decide
      | exact fun E h => by rw [ez_flag h]; decide
      | exact fun E h => by rw [ez_within h]; decide
      | exact fun E h => by rcases ez_two h with e | e <;> (rw [e]; decide)
      | exact fun E _ h => by rw [ez_rows h]; decide)
  exact fun E hE => zz _ E hX hE
theorem ez14 {a1 : Int} {a2 : Int} {X : xU} {N : xU} {A : xA} {t0 : Int ⊕ Nat} {Xx : xU} {Nx : xU} {Ax : xA} (hX : G11_fill a1 a2 X N A = some (t0, Xx, Nx, Ax)) : ∀ E, t0 = .inr E → E ∈ ([1, 0] : List Nat) := by
  have zz : Er Prod.fst [1, 0] (G11_fill a1 a2 X N A) := by
    rw [G11_fill]
    repeat' (first
      | with_reducible refine er_nd1 ?_ ?_ (fun E hE => ?_)
      | with_reducible refine er_nd2 ?_ (fun _ => ?_) (fun _ E hE => ?_)
      | with_reducible refine er_if ?_ ?_
      | with_reducible refine er_gd ?_
      | with_reducible refine er_b1 (fun _ => ?_)
      | with_reducible refine er_b2 (fun _ _ => ?_)
      | with_reducible refine er_b3 (fun _ _ _ => ?_)
      | with_reducible refine er_b4 (fun _ _ _ _ => ?_)
      | with_reducible refine er_ok rfl
      | with_reducible refine er_no rfl ?_
      | assumption
      | decide
      | exact fun E h => by rw [ez_monk h]; decide
      | exact fun E h => by rw [ez_walk h]; decide
      | exact fun E h => by rw [ez_flag h]; decide
      | exact fun E h => by rw [ez_within h]; decide
      | exact fun E h => by rcases ez_two h with e | e <;> (rw [e]; decide)
      | exact fun E _ h => by rw [ez_rows h]; decide)
  exact fun E hE => zz _ E hX hE
theorem ez15 {a1 : Int} {X : xU} {N : xU} {A : xA} {t0 : Int ⊕ Nat} {Xx : xU} {Nx : xU} {Ax : xA} (hX : G11_find a1 X N A = some (t0, Xx, Nx, Ax)) : ∀ E, t0 = .inr E → E ∈ ([1, 2] : List Nat) := by
  have zz : Er Prod.fst [1, 2] (G11_find a1 X N A) := by
    rw [G11_find]
    repeat' (first
      | with_reducible refine er_nd1 ?_ ?_ (fun E hE => ?_)
      | with_reducible refine er_nd2 ?_ (fun _ => ?_) (fun _ E hE => ?_)
      | with_reducible refine er_if ?_ ?_
      | with_reducible refine er_gd ?_
      | with_reducible refine er_b1 (fun _ => ?_)
      | with_reducible refine er_b2 (fun _ _ => ?_)
      | with_reducible refine er_b3 (fun _ _ _ => ?_)
      | with_reducible refine er_b4 (fun _ _ _ _ => ?_)
      | with_reducible refine er_ok rfl
      | with_reducible refine er_no rfl ?_
      | assumption
      | decide
      | exact fun E h => by rw [ez_monk h]; decide
      | exact fun E h => by rw [ez_walk h]; decide
      | exact fun E h => by rw [ez_flag h]; decide
      | exact fun E h => by rw [ez_within h]; decide
      | exact fun E h => by rcases ez_two h with e | e <;> (rw [e]; decide)
      | exact fun E _ h => by rw [ez_rows h]; decide)
  exact fun E hE => zz _ E hX hE
theorem ez17 {a1 : Int} {a2 : Int} {N : xU} {Th : xU} {La : xU} {t0 : Int ⊕ Nat} {Thx : xU} {Lax : xU} (hX : G11_when a1 a2 N Th La = some (t0, Thx, Lax)) : ∀ E, t0 = .inr E → E ∈ ([1] : List Nat) := by
  have zz : Er Prod.fst [1] (G11_when a1 a2 N Th La) := by
    rw [G11_when]
    repeat' (first
      | with_reducible refine er_nd1 ?_ ?_ (fun E hE => ?_)
      | with_reducible refine er_nd2 ?_ (fun _ => ?_) (fun _ E hE => ?_)
      | with_reducible refine er_if ?_ ?_
      | with_reducible refine er_gd ?_
      | with_reducible refine er_b1 (fun _ => ?_)
      | with_reducible refine er_b2 (fun _ _ => ?_)
      | with_reducible refine er_b3 (fun _ _ _ => ?_)
      | with_reducible refine er_b4 (fun _ _ _ _ => ?_)
      | with_reducible refine er_ok rfl
      | with_reducible refine er_no rfl ?_
      | assumption
      | decide
      | exact fun E h => by rw [ez_monk h]; decide
      | exact fun E h => by rw [ez_walk h]; decide
      | exact fun E h => by rw [ez_flag h]; decide
      | exact fun E h => by rw [ez_within h]; decide
      | exact fun E h => by rcases ez_two h with e | e <;> (rw [e]; decide)
      | exact fun E _ h => by rw [ez_rows h]; decide)
  exact fun E hE => zz _ E hX hE
theorem ez18 {a1 : Int} {a2 : Int} {N : xU} {Th : xU} {La : xU} {t0 : Int ⊕ Nat} {Thx : xU} {Lax : xU} (hX : G11_meet a1 a2 N Th La = some (t0, Thx, Lax)) : ∀ E, t0 = .inr E → E ∈ ([1, 0] : List Nat) := by
  have zz : Er Prod.fst [1, 0] (G11_meet a1 a2 N Th La) := by
    rw [G11_meet]
    repeat' (first
      | with_reducible refine er_nd1 ?_ ?_ (fun E hE => ?_)
      | with_reducible refine er_nd2 ?_ (fun _ => ?_) (fun _ E hE => ?_)
      | with_reducible refine er_if ?_ ?_
      | with_reducible refine er_gd ?_
      | with_reducible refine er_b1 (fun _ => ?_)
      | with_reducible refine er_b2 (fun _ _ => ?_)
      | with_reducible refine er_b3 (fun _ _ _ => ?_)
      | with_reducible refine er_b4 (fun _ _ _ _ => ?_)
      | with_reducible refine er_ok rfl
      | with_reducible refine er_no rfl ?_
      | assumption
      | decide
      | exact fun E h => by rw [ez_monk h]; decide
      | exact fun E h => by rw [ez_walk h]; decide
      | exact fun E h => by rw [ez_flag h]; decide
      | exact fun E h => by rw [ez_within h]; decide
      | exact fun E h => by rcases ez_two h with e | e <;> (rw [e]; decide)
      | exact fun E _ h => by rw [ez_rows h]; decide)
  exact fun E hE => zz _ E hX hE
theorem ez19 {a1 : Int} {N : xU} {Th : xU} {La : xU} {Fo : xU} {t0 : Int ⊕ Nat} {Thx : xU} {Lax : xU} {Fox : xU} (hX : G11_lates a1 N Th La Fo = some (t0, Thx, Lax, Fox)) : ∀ E, t0 = .inr E → E ∈ ([0] : List Nat) := by
  have zz : Er Prod.fst [0] (G11_lates a1 N Th La Fo) := by
    rw [G11_lates]
    repeat' (first
      | with_reducible refine er_nd1 ?_ ?_ (fun E hE => ?_)
      | with_reducible refine er_nd2 ?_ (fun _ => ?_) (fun _ E hE => ?_)
      | with_reducible refine er_if ?_ ?_
      | with_reducible refine er_gd ?_
      | with_reducible refine er_b1 (fun _ => ?_)
      | with_reducible refine er_b2 (fun _ _ => ?_)
      | with_reducible refine er_b3 (fun _ _ _ => ?_)
      | with_reducible refine er_b4 (fun _ _ _ _ => ?_)
      | with_reducible refine er_ok rfl
      | with_reducible refine er_no rfl ?_
      | assumption
      | decide
      | exact fun E h => by rw [ez_monk h]; decide
      | exact fun E h => by rw [ez_walk h]; decide
      | exact fun E h => by rw [ez_flag h]; decide
      | exact fun E h => by rw [ez_within h]; decide
      | exact fun E h => by rcases ez_two h with e | e <;> (rw [e]; decide)
      | exact fun E _ h => by rw [ez_rows h]; decide)
  exact fun E hE => zz _ E hX hE
theorem ez24 {a1 : Int} {a2 : Int} {N : xU} {t0 : Int ⊕ Nat} (hX : G11_far a1 a2 N = some t0) : ∀ E, t0 = .inr E → E ∈ ([1] : List Nat) := by
  have zz : Er (fun r => r) [1] (G11_far a1 a2 N) := by
    rw [G11_far]
    repeat' (first
      | with_reducible refine er_nd1 ?_ ?_ (fun E hE => ?_)
      | with_reducible refine er_nd2 ?_ (fun _ => ?_) (fun _ E hE => ?_)
      | with_reducible refine er_if ?_ ?_
      | with_reducible refine er_gd ?_
      | with_reducible refine er_b1 (fun _ => ?_)
      | with_reducible refine er_b2 (fun _ _ => ?_)
      | with_reducible refine er_b3 (fun _ _ _ => ?_)
      | with_reducible refine er_b4 (fun _ _ _ _ => ?_)
      | with_reducible refine er_ok rfl
      | with_reducible refine er_no rfl ?_
      | assumption
      | decide
      | exact fun E h => by rw [ez_monk h]; decide
      | exact fun E h => by rw [ez_walk h]; decide
      | exact fun E h => by rw [ez_flag h]; decide
      | exact fun E h => by rw [ez_within h]; decide
      | exact fun E h => by rcases ez_two h with e | e <;> (rw [e]; decide)
      | exact fun E _ h => by rw [ez_rows h]; decide)
  exact fun E hE => zz _ E hX hE
theorem ez25 {a1 : Int} {a2 : Int} {T : xU} {N : xU} {Ro : xU} {t0 : Int ⊕ Nat} {Tx : xU} {Rox : xU} (hX : G11_road a1 a2 T N Ro = some (t0, Tx, Rox)) : ∀ E, t0 = .inr E → E ∈ ([1, 0] : List Nat) := by
  have zz : Er Prod.fst [1, 0] (G11_road a1 a2 T N Ro) := by
    rw [G11_road]
    repeat' (first
      | with_reducible refine er_nd1 ?_ ?_ (fun E hE => ?_)
      | with_reducible refine er_nd2 ?_ (fun _ => ?_) (fun _ E hE => ?_)
      | with_reducible refine er_if ?_ ?_
      | with_reducible refine er_gd ?_
      | with_reducible refine er_b1 (fun _ => ?_)
      | with_reducible refine er_b2 (fun _ _ => ?_)
      | with_reducible refine er_b3 (fun _ _ _ => ?_)
      | with_reducible refine er_b4 (fun _ _ _ _ => ?_)
      | with_reducible refine er_ok rfl
      | with_reducible refine er_no rfl ?_
      | assumption
      | decide
      | exact fun E h => by rw [ez_monk h]; decide
      | exact fun E h => by rw [ez_walk h]; decide
      | exact fun E h => by rw [ez_flag h]; decide
      | exact fun E h => by rw [ez_within h]; decide
      | exact fun E h => by rcases ez_two h with e | e <;> (rw [e]; decide)
      | exact fun E _ h => by rw [ez_rows h]; decide)
  exact fun E hE => zz _ E hX hE
theorem ez26 {a1 : Int} {N : xU} {St : xU} {t0 : Int ⊕ Nat} {Stx : xU} (hX : G11_seats a1 N St = some (t0, Stx)) : ∀ E, t0 = .inr E → E ∈ ([1] : List Nat) := by
  have zz : Er Prod.fst [1] (G11_seats a1 N St) := by
    rw [G11_seats]
    repeat' (first
      | with_reducible refine er_nd1 ?_ ?_ (fun E hE => ?_)
      | with_reducible refine er_nd2 ?_ (fun _ => ?_) (fun _ E hE => ?_)
      | with_reducible refine er_if ?_ ?_
      | with_reducible refine er_gd ?_
      | with_reducible refine er_b1 (fun _ => ?_)
      | with_reducible refine er_b2 (fun _ _ => ?_)
      | with_reducible refine er_b3 (fun _ _ _ => ?_)
      | with_reducible refine er_b4 (fun _ _ _ _ => ?_)
      | with_reducible refine er_ok rfl
      | with_reducible refine er_no rfl ?_
      | assumption
      | decide
      | exact fun E h => by rw [ez_monk h]; decide
      | exact fun E h => by rw [ez_walk h]; decide
      | exact fun E h => by rw [ez_flag h]; decide
      | exact fun E h => by rw [ez_within h]; decide
      | exact fun E h => by rcases ez_two h with e | e <;> (rw [e]; decide)
      | exact fun E _ h => by rw [ez_rows h]; decide)
  exact fun E hE => zz _ E hX hE
theorem ez28 {a1 : Int} {N : xU} {t0 : Int ⊕ Nat} (hX : G11_serves a1 N = some t0) : ∀ E, t0 = .inr E → E ∈ ([1] : List Nat) := by
  have zz : Er (fun r => r) [1] (G11_serves a1 N) := by
    rw [G11_serves]
    repeat' (first
      | with_reducible refine er_nd1 ?_ ?_ (fun E hE => ?_)
      | with_reducible refine er_nd2 ?_ (fun _ => ?_) (fun _ E hE => ?_)
      | with_reducible refine er_if ?_ ?_
      | with_reducible refine er_gd ?_
      | with_reducible refine er_b1 (fun _ => ?_)
      | with_reducible refine er_b2 (fun _ _ => ?_)
      | with_reducible refine er_b3 (fun _ _ _ => ?_)
      | with_reducible refine er_b4 (fun _ _ _ _ => ?_)
      | with_reducible refine er_ok rfl
      | with_reducible refine er_no rfl ?_
      | assumption
      | decide
      | exact fun E h => by rw [ez_monk h]; decide
      | exact fun E h => by rw [ez_walk h]; decide
      | exact fun E h => by rw [ez_flag h]; decide
      | exact fun E h => by rw [ez_within h]; decide
      | exact fun E h => by rcases ez_two h with e | e <;> (rw [e]; decide)
      | exact fun E _ h => by rw [ez_rows h]; decide)
  exact fun E hE => zz _ E hX hE
theorem ez29 {a1 : Int} {a2 : Int} {N : xU} {St : xU} {t0 : Int ⊕ Nat} {Stx : xU} (hX : G11_trade a1 a2 N St = some (t0, Stx)) : ∀ E, t0 = .inr E → E ∈ ([1] : List Nat) := by
  have zz : Er Prod.fst [1] (G11_trade a1 a2 N St) := by
    rw [G11_trade]
    repeat' (first
      | with_reducible refine er_nd1 ?_ ?_ (fun E hE => ?_)
      | with_reducible refine er_nd2 ?_ (fun _ => ?_) (fun _ E hE => ?_)
      | with_reducible refine er_if ?_ ?_
      | with_reducible refine er_gd ?_
      | with_reducible refine er_b1 (fun _ => ?_)
      | with_reducible refine er_b2 (fun _ _ => ?_)
      | with_reducible refine er_b3 (fun _ _ _ => ?_)
      | with_reducible refine er_b4 (fun _ _ _ _ => ?_)
      | with_reducible refine er_ok rfl
      | with_reducible refine er_no rfl ?_
      | assumption
      | decide
      | exact fun E h => by rw [ez_monk h]; decide
      | exact fun E h => by rw [ez_walk h]; decide
      | exact fun E h => by rw [ez_flag h]; decide
      | exact fun E h => by rw [ez_within h]; decide
      | exact fun E h => by rcases ez_two h with e | e <;> (rw [e]; decide)
      | exact fun E _ h => by rw [ez_rows h]; decide)
  exact fun E hE => zz _ E hX hE
theorem ez31 {a1 : Int} {T : xU} {N : xU} {Ri : xU} {t0 : Int ⊕ Nat} {Tx : xU} {Rix : xU} (hX : G11_seen a1 T N Ri = some (t0, Tx, Rix)) : ∀ E, t0 = .inr E → E ∈ ([0] : List Nat) := by
  have zz : Er Prod.fst [0] (G11_seen a1 T N Ri) := by
    rw [G11_seen]
    repeat' (first
      | with_reducible refine er_nd1 ?_ ?_ (fun E hE => ?_)
      | with_reducible refine er_nd2 ?_ (fun _ => ?_) (fun _ E hE => ?_)
      | with_reducible refine er_if ?_ ?_
      | with_reducible refine er_gd ?_
      | with_reducible refine er_b1 (fun _ => ?_)
      | with_reducible refine er_b2 (fun _ _ => ?_)
      | with_reducible refine er_b3 (fun _ _ _ => ?_)
      | with_reducible refine er_b4 (fun _ _ _ _ => ?_)
      | with_reducible refine er_ok rfl
      | with_reducible refine er_no rfl ?_
      | assumption
      | decide
      | exact fun E h => by rw [ez_monk h]; decide
      | exact fun E h => by rw [ez_walk h]; decide
      | exact fun E h => by rw [ez_flag h]; decide
      | exact fun E h => by rw [ez_within h]; decide
      | exact fun E h => by rcases ez_two h with e | e <;> (rw [e]; decide)
      | exact fun E _ h => by rw [ez_rows h]; decide)
  exact fun E hE => zz _ E hX hE
theorem ez32 {T : xU} {N : xU} {Ri : xU} {t0 : Int ⊕ Nat} {Tx : xU} {Rix : xU} (hX : G11_ask T N Ri = some (t0, Tx, Rix)) : ∀ E, t0 = .inr E → E ∈ ([0] : List Nat) := by
  have zz : Er Prod.fst [0] (G11_ask T N Ri) := by
    rw [G11_ask]
    repeat' (first
      | with_reducible refine er_nd1 ?_ ?_ (fun E hE => ?_)
      | with_reducible refine er_nd2 ?_ (fun _ => ?_) (fun _ E hE => ?_)
      | with_reducible refine er_if ?_ ?_
      | with_reducible refine er_gd ?_
      | with_reducible refine er_b1 (fun _ => ?_)
      | with_reducible refine er_b2 (fun _ _ => ?_)
      | with_reducible refine er_b3 (fun _ _ _ => ?_)
      | with_reducible refine er_b4 (fun _ _ _ _ => ?_)
      | with_reducible refine er_ok rfl
      | with_reducible refine er_no rfl ?_
      | assumption
      | decide
      | exact fun E h => by rw [ez_monk h]; decide
      | exact fun E h => by rw [ez_walk h]; decide
      | exact fun E h => by rw [ez_flag h]; decide
      | exact fun E h => by rw [ez_within h]; decide
      | exact fun E h => by rcases ez_two h with e | e <;> (rw [e]; decide)
      | exact fun E _ h => by rw [ez_rows h]; decide)
  exact fun E hE => zz _ E hX hE
theorem ez33 {a1 : Int} {T : xU} {Ri : xU} {t0 : Int ⊕ Nat} {Tx : xU} {Rix : xU} (hX : G11_rule a1 T Ri = some (t0, Tx, Rix)) : ∀ E, t0 = .inr E → E ∈ ([0] : List Nat) := by
  have zz : Er Prod.fst [0] (G11_rule a1 T Ri) := by
    rw [G11_rule]
    repeat' (first
      | with_reducible refine er_nd1 ?_ ?_ (fun E hE => ?_)
      | with_reducible refine er_nd2 ?_ (fun _ => ?_) (fun _ E hE => ?_)
      | with_reducible refine er_if ?_ ?_
      | with_reducible refine er_gd ?_
      | with_reducible refine er_b1 (fun _ => ?_)
      | with_reducible refine er_b2 (fun _ _ => ?_)
      | with_reducible refine er_b3 (fun _ _ _ => ?_)
      | with_reducible refine er_b4 (fun _ _ _ _ => ?_)
      | with_reducible refine er_ok rfl
      | with_reducible refine er_no rfl ?_
      | assumption
      | decide
      | exact fun E h => by rw [ez_monk h]; decide
      | exact fun E h => by rw [ez_walk h]; decide
      | exact fun E h => by rw [ez_flag h]; decide
      | exact fun E h => by rw [ez_within h]; decide
      | exact fun E h => by rcases ez_two h with e | e <;> (rw [e]; decide)
      | exact fun E _ h => by rw [ez_rows h]; decide)
  exact fun E hE => zz _ E hX hE
theorem ez34 {T : xU} {Ri : xU} {t0 : Int ⊕ Nat} {Tx : xU} {Rix : xU} (hX : G11_tells T Ri = some (t0, Tx, Rix)) : ∀ E, t0 = .inr E → E ∈ ([0] : List Nat) := by
  have zz : Er Prod.fst [0] (G11_tells T Ri) := by
    rw [G11_tells]
    repeat' (first
      | with_reducible refine er_nd1 ?_ ?_ (fun E hE => ?_)
      | with_reducible refine er_nd2 ?_ (fun _ => ?_) (fun _ E hE => ?_)
      | with_reducible refine er_if ?_ ?_
      | with_reducible refine er_gd ?_
      | with_reducible refine er_b1 (fun _ => ?_)
      | with_reducible refine er_b2 (fun _ _ => ?_)
      | with_reducible refine er_b3 (fun _ _ _ => ?_)
      | with_reducible refine er_b4 (fun _ _ _ _ => ?_)
      | with_reducible refine er_ok rfl
      | with_reducible refine er_no rfl ?_
      | assumption
      | decide
      | exact fun E h => by rw [ez_monk h]; decide
      | exact fun E h => by rw [ez_walk h]; decide
      | exact fun E h => by rw [ez_flag h]; decide
      | exact fun E h => by rw [ez_within h]; decide
      | exact fun E h => by rcases ez_two h with e | e <;> (rw [e]; decide)
      | exact fun E _ h => by rw [ez_rows h]; decide)
  exact fun E hE => zz _ E hX hE
theorem ez35 {a1 : Int} {a2 : Int} {N : xU} {Th : xU} {t0 : Int ⊕ Nat} {Thx : xU} (hX : G11_share a1 a2 N Th = some (t0, Thx)) : ∀ E, t0 = .inr E → E ∈ ([1, 0] : List Nat) := by
  have zz : Er Prod.fst [1, 0] (G11_share a1 a2 N Th) := by
    rw [G11_share]
    repeat' (first
      | with_reducible refine er_nd1 ?_ ?_ (fun E hE => ?_)
      | with_reducible refine er_nd2 ?_ (fun _ => ?_) (fun _ E hE => ?_)
      | with_reducible refine er_if ?_ ?_
      | with_reducible refine er_gd ?_
      | with_reducible refine er_b1 (fun _ => ?_)
      | with_reducible refine er_b2 (fun _ _ => ?_)
      | with_reducible refine er_b3 (fun _ _ _ => ?_)
      | with_reducible refine er_b4 (fun _ _ _ _ => ?_)
      | with_reducible refine er_ok rfl
      | with_reducible refine er_no rfl ?_
      | assumption
      | decide
      | exact fun E h => by rw [ez_monk h]; decide
      | exact fun E h => by rw [ez_walk h]; decide
      | exact fun E h => by rw [ez_flag h]; decide
      | exact fun E h => by rw [ez_within h]; decide
      | exact fun E h => by rcases ez_two h with e | e <;> (rw [e]; decide)
      | exact fun E _ h => by rw [ez_rows h]; decide)
  exact fun E hE => zz _ E hX hE
theorem ez36 {a1 : Int} {N : xU} {t0 : Int ⊕ Nat} (hX : G11_feeds a1 N = some t0) : ∀ E, t0 = .inr E → E ∈ ([1] : List Nat) := by
  have zz : Er (fun r => r) [1] (G11_feeds a1 N) := by
    rw [G11_feeds]
    repeat' (first
      | with_reducible refine er_nd1 ?_ ?_ (fun E hE => ?_)
      | with_reducible refine er_nd2 ?_ (fun _ => ?_) (fun _ E hE => ?_)
      | with_reducible refine er_if ?_ ?_
      | with_reducible refine er_gd ?_
      | with_reducible refine er_b1 (fun _ => ?_)
      | with_reducible refine er_b2 (fun _ _ => ?_)
      | with_reducible refine er_b3 (fun _ _ _ => ?_)
      | with_reducible refine er_b4 (fun _ _ _ _ => ?_)
      | with_reducible refine er_ok rfl
      | with_reducible refine er_no rfl ?_
      | assumption
      | decide
      | exact fun E h => by rw [ez_monk h]; decide
      | exact fun E h => by rw [ez_walk h]; decide
      | exact fun E h => by rw [ez_flag h]; decide
      | exact fun E h => by rw [ez_within h]; decide
      | exact fun E h => by rcases ez_two h with e | e <;> (rw [e]; decide)
      | exact fun E _ h => by rw [ez_rows h]; decide)
  exact fun E hE => zz _ E hX hE
theorem ez37 {a1 : Int} {N : xU} {Br : xU} {t0 : Int ⊕ Nat} {Brx : xU} (hX : G11_pairs a1 N Br = some (t0, Brx)) : ∀ E, t0 = .inr E → E ∈ ([1] : List Nat) := by
  have zz : Er Prod.fst [1] (G11_pairs a1 N Br) := by
    rw [G11_pairs]
    repeat' (first
      | with_reducible refine er_nd1 ?_ ?_ (fun E hE => ?_)
      | with_reducible refine er_nd2 ?_ (fun _ => ?_) (fun _ E hE => ?_)
      | with_reducible refine er_if ?_ ?_
      | with_reducible refine er_gd ?_
      | with_reducible refine er_b1 (fun _ => ?_)
      | with_reducible refine er_b2 (fun _ _ => ?_)
      | with_reducible refine er_b3 (fun _ _ _ => ?_)
      | with_reducible refine er_b4 (fun _ _ _ _ => ?_)
      | with_reducible refine er_ok rfl
      | with_reducible refine er_no rfl ?_
      | assumption
      | decide
      | exact fun E h => by rw [ez_monk h]; decide
      | exact fun E h => by rw [ez_walk h]; decide
      | exact fun E h => by rw [ez_flag h]; decide
      | exact fun E h => by rw [ez_within h]; decide
      | exact fun E h => by rcases ez_two h with e | e <;> (rw [e]; decide)
      | exact fun E _ h => by rw [ez_rows h]; decide)
  exact fun E hE => zz _ E hX hE
theorem ez40 {a1 : Int} {N : xU} {t0 : Int ⊕ Nat} (hX : G11_swings a1 N = some t0) : ∀ E, t0 = .inr E → E ∈ ([1] : List Nat) := by
  have zz : Er (fun r => r) [1] (G11_swings a1 N) := by
    rw [G11_swings]
    repeat' (first
      | with_reducible refine er_nd1 ?_ ?_ (fun E hE => ?_)
      | with_reducible refine er_nd2 ?_ (fun _ => ?_) (fun _ E hE => ?_)
      | with_reducible refine er_if ?_ ?_
      | with_reducible refine er_gd ?_
      | with_reducible refine er_b1 (fun _ => ?_)
      | with_reducible refine er_b2 (fun _ _ => ?_)
      | with_reducible refine er_b3 (fun _ _ _ => ?_)
      | with_reducible refine er_b4 (fun _ _ _ _ => ?_)
      | with_reducible refine er_ok rfl
      | with_reducible refine er_no rfl ?_
      | assumption
      | decide
      | exact fun E h => by rw [ez_monk h]; decide
      | exact fun E h => by rw [ez_walk h]; decide
      | exact fun E h => by rw [ez_flag h]; decide
      | exact fun E h => by rw [ez_within h]; decide
      | exact fun E h => by rcases ez_two h with e | e <;> (rw [e]; decide)
      | exact fun E _ h => by rw [ez_rows h]; decide)
  exact fun E hE => zz _ E hX hE
theorem ez42 {a1 : Int} {N : xU} {t0 : Int ⊕ Nat} (hX : G11_rests a1 N = some t0) : ∀ E, t0 = .inr E → E ∈ ([1] : List Nat) := by
  have zz : Er (fun r => r) [1] (G11_rests a1 N) := by
    rw [G11_rests]
    repeat' (first
      | with_reducible refine er_nd1 ?_ ?_ (fun E hE => ?_)
      | with_reducible refine er_nd2 ?_ (fun _ => ?_) (fun _ E hE => ?_)
      | with_reducible refine er_if ?_ ?_
      | with_reducible refine er_gd ?_
      | with_reducible refine er_b1 (fun _ => ?_)
      | with_reducible refine er_b2 (fun _ _ => ?_)
      | with_reducible refine er_b3 (fun _ _ _ => ?_)
      | with_reducible refine er_b4 (fun _ _ _ _ => ?_)
      | with_reducible refine er_ok rfl
      | with_reducible refine er_no rfl ?_
      | assumption
      | decide
      | exact fun E h => by rw [ez_monk h]; decide
      | exact fun E h => by rw [ez_walk h]; decide
      | exact fun E h => by rw [ez_flag h]; decide
      | exact fun E h => by rw [ez_within h]; decide
      | exact fun E h => by rcases ez_two h with e | e <;> (rw [e]; decide)
      | exact fun E _ h => by rw [ez_rows h]; decide)
  exact fun E hE => zz _ E hX hE
theorem ez43 {a1 : Int} {a2 : Int} {N : xU} {Fo : xU} {t0 : Int ⊕ Nat} {Fox : xU} (hX : G11_odds a1 a2 N Fo = some (t0, Fox)) : ∀ E, t0 = .inr E → E ∈ ([0] : List Nat) := by
  have zz : Er Prod.fst [0] (G11_odds a1 a2 N Fo) := by
    rw [G11_odds]
    repeat' (first
      | with_reducible refine er_nd1 ?_ ?_ (fun E hE => ?_)
      | with_reducible refine er_nd2 ?_ (fun _ => ?_) (fun _ E hE => ?_)
      | with_reducible refine er_if ?_ ?_
      | with_reducible refine er_gd ?_
      | with_reducible refine er_b1 (fun _ => ?_)
      | with_reducible refine er_b2 (fun _ _ => ?_)
      | with_reducible refine er_b3 (fun _ _ _ => ?_)
      | with_reducible refine er_b4 (fun _ _ _ _ => ?_)
      | with_reducible refine er_ok rfl
      | with_reducible refine er_no rfl ?_
      | assumption
      | decide
      | exact fun E h => by rw [ez_monk h]; decide
      | exact fun E h => by rw [ez_walk h]; decide
      | exact fun E h => by rw [ez_flag h]; decide
      | exact fun E h => by rw [ez_within h]; decide
      | exact fun E h => by rcases ez_two h with e | e <;> (rw [e]; decide)
      | exact fun E _ h => by rw [ez_rows h]; decide)
  exact fun E hE => zz _ E hX hE
theorem ez47 {a1 : Int} {N : xU} {t0 : Int ⊕ Nat} (hX : G11_round a1 N = some t0) : ∀ E, t0 = .inr E → E ∈ ([0] : List Nat) := by
  have zz : Er (fun r => r) [0] (G11_round a1 N) := by
    rw [G11_round]
    repeat' (first
      | with_reducible refine er_nd1 ?_ ?_ (fun E hE => ?_)
      | with_reducible refine er_nd2 ?_ (fun _ => ?_) (fun _ E hE => ?_)
      | with_reducible refine er_if ?_ ?_
      | with_reducible refine er_gd ?_
      | with_reducible refine er_b1 (fun _ => ?_)
      | with_reducible refine er_b2 (fun _ _ => ?_)
      | with_reducible refine er_b3 (fun _ _ _ => ?_)
      | with_reducible refine er_b4 (fun _ _ _ _ => ?_)
      | with_reducible refine er_ok rfl
      | with_reducible refine er_no rfl ?_
      | assumption
      | decide
      | exact fun E h => by rw [ez_monk h]; decide
      | exact fun E h => by rw [ez_walk h]; decide
      | exact fun E h => by rw [ez_flag h]; decide
      | exact fun E h => by rw [ez_within h]; decide
      | exact fun E h => by rcases ez_two h with e | e <;> (rw [e]; decide)
      | exact fun E _ h => by rw [ez_rows h]; decide)
  exact fun E hE => zz _ E hX hE
theorem ez50 {a1 : Int} {a2 : Int} {a3 : Int} {N : xU} {Th : xU} {La : xU} {t0 : Int ⊕ Nat} {Thx : xU} {Lax : xU} (hX : G11_ahead a1 a2 a3 N Th La = some (t0, Thx, Lax)) : ∀ E, t0 = .inr E → E ∈ ([1, 0, 3] : List Nat) := by
  have zz : Er Prod.fst [1, 0, 3] (G11_ahead a1 a2 a3 N Th La) := by
    rw [G11_ahead]
    repeat' (first
      | with_reducible refine er_nd1 ?_ ?_ (fun E hE => ?_)
      | with_reducible refine er_nd2 ?_ (fun _ => ?_) (fun _ E hE => ?_)
      | with_reducible refine er_if ?_ ?_
      | with_reducible refine er_gd ?_
      | with_reducible refine er_b1 (fun _ => ?_)
      | with_reducible refine er_b2 (fun _ _ => ?_)
      | with_reducible refine er_b3 (fun _ _ _ => ?_)
      | with_reducible refine er_b4 (fun _ _ _ _ => ?_)
      | with_reducible refine er_ok rfl
      | with_reducible refine er_no rfl ?_
      | assumption
      | decide
      | exact fun E h => by rw [ez_monk h]; decide
      | exact fun E h => by rw [ez_walk h]; decide
      | exact fun E h => by rw [ez_flag h]; decide
      | exact fun E h => by rw [ez_within h]; decide
      | exact fun E h => by rcases ez_two h with e | e <;> (rw [e]; decide)
      | exact fun E _ h => by rw [ez_rows h]; decide)
  exact fun E hE => zz _ E hX hE
theorem ez51 {a1 : Int} {a2 : Int} {N : xU} {Th : xU} {La : xU} {t0 : Int ⊕ Nat} {Thx : xU} {Lax : xU} (hX : G11_trial a1 a2 N Th La = some (t0, Thx, Lax)) : ∀ E, t0 = .inr E → E ∈ ([0] : List Nat) := by
  have zz : Er Prod.fst [0] (G11_trial a1 a2 N Th La) := by
    rw [G11_trial]
    repeat' (first
      | with_reducible refine er_nd1 ?_ ?_ (fun E hE => ?_)
      | with_reducible refine er_nd2 ?_ (fun _ => ?_) (fun _ E hE => ?_)
      | with_reducible refine er_if ?_ ?_
      | with_reducible refine er_gd ?_
      | with_reducible refine er_b1 (fun _ => ?_)
      | with_reducible refine er_b2 (fun _ _ => ?_)
      | with_reducible refine er_b3 (fun _ _ _ => ?_)
      | with_reducible refine er_b4 (fun _ _ _ _ => ?_)
      | with_reducible refine er_ok rfl
      | with_reducible refine er_no rfl ?_
      | assumption
      | decide
      | exact fun E h => by rw [ez_monk h]; decide
      | exact fun E h => by rw [ez_walk h]; decide
      | exact fun E h => by rw [ez_flag h]; decide
      | exact fun E h => by rw [ez_within h]; decide
      | exact fun E h => by rcases ez_two h with e | e <;> (rw [e]; decide)
      | exact fun E _ h => by rw [ez_rows h]; decide)
  exact fun E hE => zz _ E hX hE
theorem ez52 {a1 : Int} {a2 : Int} {N : xU} {Th : xU} {La : xU} {t0 : Int ⊕ Nat} {Thx : xU} {Lax : xU} (hX : G11_span a1 a2 N Th La = some (t0, Thx, Lax)) : ∀ E, t0 = .inr E → E ∈ ([0] : List Nat) := by
  have zz : Er Prod.fst [0] (G11_span a1 a2 N Th La) := by
    rw [G11_span]
    repeat' (first
      | with_reducible refine er_nd1 ?_ ?_ (fun E hE => ?_)
      | with_reducible refine er_nd2 ?_ (fun _ => ?_) (fun _ E hE => ?_)
      | with_reducible refine er_if ?_ ?_
      | with_reducible refine er_gd ?_
      | with_reducible refine er_b1 (fun _ => ?_)
      | with_reducible refine er_b2 (fun _ _ => ?_)
      | with_reducible refine er_b3 (fun _ _ _ => ?_)
      | with_reducible refine er_b4 (fun _ _ _ _ => ?_)
      | with_reducible refine er_ok rfl
      | with_reducible refine er_no rfl ?_
      | assumption
      | decide
      | exact fun E h => by rw [ez_monk h]; decide
      | exact fun E h => by rw [ez_walk h]; decide
      | exact fun E h => by rw [ez_flag h]; decide
      | exact fun E h => by rw [ez_within h]; decide
      | exact fun E h => by rcases ez_two h with e | e <;> (rw [e]; decide)
      | exact fun E _ h => by rw [ez_rows h]; decide)
  exact fun E hE => zz _ E hX hE
theorem ez53 {a1 : Int} {a2 : Int} {N : xU} {t0 : Int ⊕ Nat} (hX : G11_led a1 a2 N = some t0) : ∀ E, t0 = .inr E → E ∈ ([1] : List Nat) := by
  have zz : Er (fun r => r) [1] (G11_led a1 a2 N) := by
    rw [G11_led]
    repeat' (first
      | with_reducible refine er_nd1 ?_ ?_ (fun E hE => ?_)
      | with_reducible refine er_nd2 ?_ (fun _ => ?_) (fun _ E hE => ?_)
      | with_reducible refine er_if ?_ ?_
      | with_reducible refine er_gd ?_
      | with_reducible refine er_b1 (fun _ => ?_)
      | with_reducible refine er_b2 (fun _ _ => ?_)
      | with_reducible refine er_b3 (fun _ _ _ => ?_)
      | with_reducible refine er_b4 (fun _ _ _ _ => ?_)
      | with_reducible refine er_ok rfl
      | with_reducible refine er_no rfl ?_
      | assumption
      | decide
      | exact fun E h => by rw [ez_monk h]; decide
      | exact fun E h => by rw [ez_walk h]; decide
      | exact fun E h => by rw [ez_flag h]; decide
      | exact fun E h => by rw [ez_within h]; decide
      | exact fun E h => by rcases ez_two h with e | e <;> (rw [e]; decide)
      | exact fun E _ h => by rw [ez_rows h]; decide)
  exact fun E hE => zz _ E hX hE
theorem ez54 {a1 : Int} {a2 : Int} {N : xU} {t0 : Int ⊕ Nat} (hX : G11_log a1 a2 N = some t0) : ∀ E, t0 = .inr E → E ∈ ([3] : List Nat) := by
  have zz : Er (fun r => r) [3] (G11_log a1 a2 N) := by
    rw [G11_log]
    repeat' (first
      | with_reducible refine er_nd1 ?_ ?_ (fun E hE => ?_)
      | with_reducible refine er_nd2 ?_ (fun _ => ?_) (fun _ E hE => ?_)
      | with_reducible refine er_if ?_ ?_
      | with_reducible refine er_gd ?_
      | with_reducible refine er_b1 (fun _ => ?_)
      | with_reducible refine er_b2 (fun _ _ => ?_)
      | with_reducible refine er_b3 (fun _ _ _ => ?_)
      | with_reducible refine er_b4 (fun _ _ _ _ => ?_)
      | with_reducible refine er_ok rfl
      | with_reducible refine er_no rfl ?_
      | assumption
      | decide
      | exact fun E h => by rw [ez_monk h]; decide
      | exact fun E h => by rw [ez_walk h]; decide
      | exact fun E h => by rw [ez_flag h]; decide
      | exact fun E h => by rw [ez_within h]; decide
      | exact fun E h => by rcases ez_two h with e | e <;> (rw [e]; decide)
      | exact fun E _ h => by rw [ez_rows h]; decide)
  exact fun E hE => zz _ E hX hE
