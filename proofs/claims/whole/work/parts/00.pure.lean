/-! The pure words: numbers of the machine, memory by units, loops, guards. -/
abbrev xM : Type := Nat → Nat → Int
def R32 (x : Int) : Prop := -2147483648 ≤ x ∧ x < 2147483648
def R64 (x : Int) : Prop := -9223372036854775808 ≤ x ∧ x < 9223372036854775808
theorem x_of32 (z : Int32) : Int32.ofInt z.toInt = z := Int32.ofInt_toInt z
theorem x_of64 (z : Int64) : Int64.ofInt z.toInt = z := Int64.ofInt_toInt z
theorem x_r32 (z : Int32) : R32 z.toInt := ⟨Int32.le_toInt z, Int32.toInt_lt z⟩
theorem x_r64 (z : Int64) : R64 z.toInt := ⟨Int64.le_toInt z, Int64.toInt_lt z⟩
theorem x_to32 {x : Int} (h : R32 x) : (Int32.ofInt x).toInt = x := Int32.toInt_ofInt_of_le h.1 h.2
theorem x_to64 {x : Int} (h : R64 x) : (Int64.ofInt x).toInt = x := Int64.toInt_ofInt_of_le h.1 h.2
theorem x_le32 {a b : Int} (ha : R32 a) (hb : R32 b) : Int32.ofInt a ≤ Int32.ofInt b ↔ a ≤ b := by
  rw [Int32.le_iff_toInt_le, x_to32 ha, x_to32 hb]
theorem x_lt32 {a b : Int} (ha : R32 a) (hb : R32 b) : Int32.ofInt a < Int32.ofInt b ↔ a < b := by
  rw [Int32.lt_iff_toInt_lt, x_to32 ha, x_to32 hb]
theorem x_eq32 {a b : Int} (ha : R32 a) (hb : R32 b) : Int32.ofInt a = Int32.ofInt b ↔ a = b := by
  refine ⟨fun h => ?_, fun h => by rw [h]⟩
  have := congrArg Int32.toInt h
  rwa [x_to32 ha, x_to32 hb] at this
theorem x_z32 : Int32.ofInt 0 = 0 := by decide
theorem x_k32 : R32 0 := ⟨by omega, by omega⟩
/-- the operations on ints, as the machine does them -/
def x_add (a b : Int) : Int := (Int32.ofInt a + Int32.ofInt b).toInt
def x_sub (a b : Int) : Int := (Int32.ofInt a - Int32.ofInt b).toInt
def x_mul (a b : Int) : Int := (Int32.ofInt a * Int32.ofInt b).toInt
def x_div (a b : Int) : Int := (Int32.ofInt a / Int32.ofInt b).toInt
def x_rem (a b : Int) : Int := (Int32.ofInt a - Int32.ofInt a / Int32.ofInt b * Int32.ofInt b).toInt
def x_neg (a : Int) : Int := (- Int32.ofInt a).toInt
def x_shl (a b : Int) : Int := (Int32.ofInt a <<< (Int32.ofInt b &&& 31)).toInt
def x_shr (a b : Int) : Int := (Int32.ofInt a >>> (Int32.ofInt b &&& 31)).toInt
def x_ush (a b : Int) : Int := ((Int32.ofInt a).toUInt32 >>> ((Int32.ofInt b).toUInt32 &&& Int32.toUInt32 31)).toInt32.toInt
def x_and (a b : Int) : Int := (Int32.ofInt a &&& Int32.ofInt b).toInt
def x_or (a b : Int) : Int := (Int32.ofInt a ||| Int32.ofInt b).toInt
def x_xor (a b : Int) : Int := (Int32.ofInt a ^^^ Int32.ofInt b).toInt
def x_ladd (a b : Int) : Int := (Int64.ofInt a + Int64.ofInt b).toInt
def x_lmul (a b : Int) : Int := (Int64.ofInt a * Int64.ofInt b).toInt
def x_ldiv (a b : Int) : Int := (Int64.ofInt a / Int64.ofInt b).toInt
def x_i2l (a : Int) : Int := (Int32.ofInt a).toInt64.toInt
def x_l2i (a : Int) : Int := (Int64.ofInt a).toInt32.toInt
def x_nS : Nat := 29
def x_sl : List Nat := [4, 2, 5, 4, 5, 4, 4, 3, 6, 6, 6, 6, 6, 5, 5, 4, 3, 4, 5, 4, 2, 2, 3, 3, 6, 6, 4, 6, 4]
def x_sb : List (List Int32) := [[109, 111, 110, 107], [97, 116], [115, 116, 97, 108, 108], [112, 97, 99, 101], [108, 105, 107, 101, 115], [98, 101, 108, 108], [109, 111, 111, 100], [111, 119, 110], [115, 112, 114, 105, 110, 103], [115, 117, 109, 109, 101, 114], [97, 117, 116, 117, 109, 110], [119, 105, 110, 116, 101, 114], [102, 105, 99, 107, 108, 101], [103, 114, 97, 115, 115], [115, 116, 111, 114, 101], [104, 111, 117, 114], [100, 97, 121], [115, 108, 111, 119], [104, 97, 115, 116, 101], [107, 101, 101, 112], [105, 102], [111, 114], [97, 110, 100], [110, 111, 116], [99, 111, 114, 110, 101, 114], [104, 117, 110, 103, 114, 121], [102, 108, 97, 103], [115, 101, 97, 115, 111, 110], [108, 97, 116, 101]]
def x_up (f : xM) (id k : Nat) (x : Int) : xM := fun i j => if i = id ∧ j = k then x else f i j
abbrev xU : Type := Nat → Nat → Int
/-- a guard -/
def x_gd {α : Type} (c : Prop) [Decidable c] (k : Option α) : Option α := if c then k else none
theorem x_gd_some {α : Type} {c : Prop} [Decidable c] {k : Option α} {r : α} (h : x_gd c k = some r) : c ∧ k = some r := by
  unfold x_gd at h
  split at h
  · exact ⟨by assumption, h⟩
  · cases h
theorem x_gd_t {α : Type} {c : Prop} [Decidable c] {k : Option α} (h : c) : x_gd c k = k := by rw [x_gd, if_pos h]
theorem x_bd {α β : Type} {m : Option α} {f : α → Option β} {r : β} (h : m.bind f = some r) : ∃ a, m = some a ∧ f a = some r := Option.bind_eq_some_iff.mp h
/-- a loop: the body goes on (inl) or is done (inr) -/
def whl {σ ρ : Type} : Nat → (σ → Option (σ ⊕ ρ)) → σ → Option ρ
  | 0, _, _ => none
  | n + 1, f, s => match f s with
    | some (.inl s') => whl n f s'
    | some (.inr r) => some r
    | none => none
theorem e_whl {σ ρ : Type} (f : σ → Option (σ ⊕ ρ)) (E : σ → Prop) (X : ρ → Prop) (hb : ∀ s t, f s = some t → (∀ s', t = .inl s' → E s') → (∀ r, t = .inr r → X r) → E s) : ∀ (n : Nat) (s : σ) (r : ρ), whl n f s = some r → X r → E s := by
  intro n
  induction n with
  | zero => intro s r h; cases h
  | succ n ih =>
    intro s r h hx
    rw [whl] at h
    cases hf : f s with
    | none => rw [hf] at h; cases h
    | some t =>
      rw [hf] at h
      cases t with
      | inl s' => exact hb s _ hf (fun s2 q => by cases q; exact ih s' r h hx) (fun r2 q => by cases q)
      | inr r2 =>
        cases h
        exact hb s _ hf (fun s2 q => by cases q) (fun r3 q => by cases q; exact hx)
/-- a loop that is known turn by turn -/
theorem whl_run {σ ρ : Type} {f : σ → Option (σ ⊕ ρ)} (st : Nat → σ) {r : ρ} : ∀ (k i n : Nat), k < n → (∀ j, i ≤ j → j < i + k → f (st j) = some (.inl (st (j + 1)))) → f (st (i + k)) = some (.inr r) → whl n f (st i) = some r := by
  intro k
  induction k with
  | zero =>
    intro i n hn _ he
    cases n with
    | zero => omega
    | succ n => rw [whl, show st i = st (i + 0) by rfl, he]
  | succ k ih =>
    intro i n hn hs he
    cases n with
    | zero => omega
    | succ n =>
      rw [whl, hs i (Nat.le_refl _) (by omega)]
      exact ih (i + 1) n (by omega) (fun j h1 h2 => hs j (by omega) (by omega)) (by rw [show i + 1 + k = i + (k + 1) by omega]; exact he)
/-- loops of the class and of the reference turn less often than this -/
def xFU : Nat := 100000
theorem x_R {n : Int} (h : (decide (-2147483648 ≤ n) && decide (n < 2147483648)) = true) : R32 n := by
  rw [Bool.and_eq_true, decide_eq_true_eq, decide_eq_true_eq] at h
  exact h
theorem x_R6 {n : Int} (h : (decide (-9223372036854775808 ≤ n) && decide (n < 9223372036854775808)) = true) : R64 n := by
  rw [Bool.and_eq_true, decide_eq_true_eq, decide_eq_true_eq] at h
  exact h
def x_ti {α : Type} (o : Int ⊕ Nat) (f : Int → Option α) (t : Nat → Option α) : Option α := match o with
  | .inl r => f r
  | .inr E => t E
def x_tv {α : Type} (o : Option Nat) (f : Option α) (t : Nat → Option α) : Option α := match o with
  | none => f
  | some E => t E
theorem x_ti_l {α : Type} {r : Int} {f : Int → Option α} {t : Nat → Option α} {q : α} (h : x_ti (.inl r) f t = some q) : f r = some q := h
theorem x_ti_r {α : Type} {E : Nat} {f : Int → Option α} {t : Nat → Option α} {q : α} (h : x_ti (.inr E) f t = some q) : t E = some q := h
theorem x_tv_n {α : Type} {f : Option α} {t : Nat → Option α} {q : α} (h : x_tv none f t = some q) : f = some q := h
theorem x_tv_s {α : Type} {E : Nat} {f : Option α} {t : Nat → Option α} {q : α} (h : x_tv (some E) f t = some q) : t E = some q := h
/-- a loop that is left, or out of which the method returns -/
def x_lr {α β γ : Type} (m : Option (α ⊕ β)) (f : α → Option γ) (k : β → Option γ) : Option γ := m.bind fun q => match q with
  | .inl a => f a
  | .inr b => k b
theorem x_lrd {α β γ : Type} {m : Option (α ⊕ β)} {f : α → Option γ} {k : β → Option γ} {r : γ} (h : x_lr m f k = some r) : ∃ q, m = some q ∧ x_lr (some q) f k = some r := by
  cases m with
  | none => cases h
  | some q => exact ⟨q, rfl, h⟩
theorem x_lr_l {α β γ : Type} {a : α} {f : α → Option γ} {k : β → Option γ} {r : γ} (h : x_lr (some (.inl a)) f k = some r) : f a = some r := h
theorem x_lr_r {α β γ : Type} {b : β} {f : α → Option γ} {k : β → Option γ} {r : γ} (h : x_lr (some (.inr b)) f k = some r) : k b = some r := h
def x_ch (w : Nat) (k : Int) : Int := ((x_sb.getD w []).getD k.toNat 0).toInt
def x_b1 {α1 β : Type} (m : Option (α1)) (f : α1 → Option β) : Option β := m.bind fun p => f p
theorem x_bd1 {α1 β : Type} {m : Option (α1)} {f : α1 → Option β} {r : β} (h : x_b1 m f = some r) : ∃ a1, m = some a1 ∧ f a1 = some r := by
  obtain ⟨p, h1, h2⟩ := Option.bind_eq_some_iff.mp h
  exact ⟨p, h1, h2⟩
theorem x_bs1 {α1 β : Type} {m : Option (α1)} {f : α1 → Option β} {a1 : α1} (h : m = some a1) : x_b1 m f = f a1 := by
  rw [h]; rfl
def x_e1 {α1 β : Type} (p : α1) (f : α1 → β) : β := f p
theorem x_ed1 {α1 β : Type} {f : α1 → Option β} {a1 : α1} {r : β} (h : x_e1 a1 f = some r) : f a1 = some r := h
def x_b2 {α1 α2 β : Type} (m : Option (α1 × α2)) (f : α1 → α2 → Option β) : Option β := m.bind fun p => f p.1 p.2
theorem x_bd2 {α1 α2 β : Type} {m : Option (α1 × α2)} {f : α1 → α2 → Option β} {r : β} (h : x_b2 m f = some r) : ∃ a1 a2, m = some (a1, a2) ∧ f a1 a2 = some r := by
  obtain ⟨p, h1, h2⟩ := Option.bind_eq_some_iff.mp h
  exact ⟨p.1, p.2, h1, h2⟩
theorem x_bs2 {α1 α2 β : Type} {m : Option (α1 × α2)} {f : α1 → α2 → Option β} {a1 : α1} {a2 : α2} (h : m = some (a1, a2)) : x_b2 m f = f a1 a2 := by
  rw [h]; rfl
def x_e2 {α1 α2 β : Type} (p : α1 × α2) (f : α1 → α2 → β) : β := f p.1 p.2
theorem x_ed2 {α1 α2 β : Type} {f : α1 → α2 → Option β} {a1 : α1} {a2 : α2} {r : β} (h : x_e2 (a1, a2) f = some r) : f a1 a2 = some r := h
def x_b3 {α1 α2 α3 β : Type} (m : Option (α1 × α2 × α3)) (f : α1 → α2 → α3 → Option β) : Option β := m.bind fun p => f p.1 p.2.1 p.2.2
theorem x_bd3 {α1 α2 α3 β : Type} {m : Option (α1 × α2 × α3)} {f : α1 → α2 → α3 → Option β} {r : β} (h : x_b3 m f = some r) : ∃ a1 a2 a3, m = some (a1, a2, a3) ∧ f a1 a2 a3 = some r := by
  obtain ⟨p, h1, h2⟩ := Option.bind_eq_some_iff.mp h
  exact ⟨p.1, p.2.1, p.2.2, h1, h2⟩
theorem x_bs3 {α1 α2 α3 β : Type} {m : Option (α1 × α2 × α3)} {f : α1 → α2 → α3 → Option β} {a1 : α1} {a2 : α2} {a3 : α3} (h : m = some (a1, a2, a3)) : x_b3 m f = f a1 a2 a3 := by
  rw [h]; rfl
def x_e3 {α1 α2 α3 β : Type} (p : α1 × α2 × α3) (f : α1 → α2 → α3 → β) : β := f p.1 p.2.1 p.2.2
theorem x_ed3 {α1 α2 α3 β : Type} {f : α1 → α2 → α3 → Option β} {a1 : α1} {a2 : α2} {a3 : α3} {r : β} (h : x_e3 (a1, a2, a3) f = some r) : f a1 a2 a3 = some r := h
def x_b4 {α1 α2 α3 α4 β : Type} (m : Option (α1 × α2 × α3 × α4)) (f : α1 → α2 → α3 → α4 → Option β) : Option β := m.bind fun p => f p.1 p.2.1 p.2.2.1 p.2.2.2
theorem x_bd4 {α1 α2 α3 α4 β : Type} {m : Option (α1 × α2 × α3 × α4)} {f : α1 → α2 → α3 → α4 → Option β} {r : β} (h : x_b4 m f = some r) : ∃ a1 a2 a3 a4, m = some (a1, a2, a3, a4) ∧ f a1 a2 a3 a4 = some r := by
  obtain ⟨p, h1, h2⟩ := Option.bind_eq_some_iff.mp h
  exact ⟨p.1, p.2.1, p.2.2.1, p.2.2.2, h1, h2⟩
theorem x_bs4 {α1 α2 α3 α4 β : Type} {m : Option (α1 × α2 × α3 × α4)} {f : α1 → α2 → α3 → α4 → Option β} {a1 : α1} {a2 : α2} {a3 : α3} {a4 : α4} (h : m = some (a1, a2, a3, a4)) : x_b4 m f = f a1 a2 a3 a4 := by
  rw [h]; rfl
def x_e4 {α1 α2 α3 α4 β : Type} (p : α1 × α2 × α3 × α4) (f : α1 → α2 → α3 → α4 → β) : β := f p.1 p.2.1 p.2.2.1 p.2.2.2
theorem x_ed4 {α1 α2 α3 α4 β : Type} {f : α1 → α2 → α3 → α4 → Option β} {a1 : α1} {a2 : α2} {a3 : α3} {a4 : α4} {r : β} (h : x_e4 (a1, a2, a3, a4) f = some r) : f a1 a2 a3 a4 = some r := h
def x_b5 {α1 α2 α3 α4 α5 β : Type} (m : Option (α1 × α2 × α3 × α4 × α5)) (f : α1 → α2 → α3 → α4 → α5 → Option β) : Option β := m.bind fun p => f p.1 p.2.1 p.2.2.1 p.2.2.2.1 p.2.2.2.2
theorem x_bd5 {α1 α2 α3 α4 α5 β : Type} {m : Option (α1 × α2 × α3 × α4 × α5)} {f : α1 → α2 → α3 → α4 → α5 → Option β} {r : β} (h : x_b5 m f = some r) : ∃ a1 a2 a3 a4 a5, m = some (a1, a2, a3, a4, a5) ∧ f a1 a2 a3 a4 a5 = some r := by
  obtain ⟨p, h1, h2⟩ := Option.bind_eq_some_iff.mp h
  exact ⟨p.1, p.2.1, p.2.2.1, p.2.2.2.1, p.2.2.2.2, h1, h2⟩
theorem x_bs5 {α1 α2 α3 α4 α5 β : Type} {m : Option (α1 × α2 × α3 × α4 × α5)} {f : α1 → α2 → α3 → α4 → α5 → Option β} {a1 : α1} {a2 : α2} {a3 : α3} {a4 : α4} {a5 : α5} (h : m = some (a1, a2, a3, a4, a5)) : x_b5 m f = f a1 a2 a3 a4 a5 := by
  rw [h]; rfl
def x_e5 {α1 α2 α3 α4 α5 β : Type} (p : α1 × α2 × α3 × α4 × α5) (f : α1 → α2 → α3 → α4 → α5 → β) : β := f p.1 p.2.1 p.2.2.1 p.2.2.2.1 p.2.2.2.2
theorem x_ed5 {α1 α2 α3 α4 α5 β : Type} {f : α1 → α2 → α3 → α4 → α5 → Option β} {a1 : α1} {a2 : α2} {a3 : α3} {a4 : α4} {a5 : α5} {r : β} (h : x_e5 (a1, a2, a3, a4, a5) f = some r) : f a1 a2 a3 a4 a5 = some r := h
def x_b6 {α1 α2 α3 α4 α5 α6 β : Type} (m : Option (α1 × α2 × α3 × α4 × α5 × α6)) (f : α1 → α2 → α3 → α4 → α5 → α6 → Option β) : Option β := m.bind fun p => f p.1 p.2.1 p.2.2.1 p.2.2.2.1 p.2.2.2.2.1 p.2.2.2.2.2
theorem x_bd6 {α1 α2 α3 α4 α5 α6 β : Type} {m : Option (α1 × α2 × α3 × α4 × α5 × α6)} {f : α1 → α2 → α3 → α4 → α5 → α6 → Option β} {r : β} (h : x_b6 m f = some r) : ∃ a1 a2 a3 a4 a5 a6, m = some (a1, a2, a3, a4, a5, a6) ∧ f a1 a2 a3 a4 a5 a6 = some r := by
  obtain ⟨p, h1, h2⟩ := Option.bind_eq_some_iff.mp h
  exact ⟨p.1, p.2.1, p.2.2.1, p.2.2.2.1, p.2.2.2.2.1, p.2.2.2.2.2, h1, h2⟩
theorem x_bs6 {α1 α2 α3 α4 α5 α6 β : Type} {m : Option (α1 × α2 × α3 × α4 × α5 × α6)} {f : α1 → α2 → α3 → α4 → α5 → α6 → Option β} {a1 : α1} {a2 : α2} {a3 : α3} {a4 : α4} {a5 : α5} {a6 : α6} (h : m = some (a1, a2, a3, a4, a5, a6)) : x_b6 m f = f a1 a2 a3 a4 a5 a6 := by
  rw [h]; rfl
def x_e6 {α1 α2 α3 α4 α5 α6 β : Type} (p : α1 × α2 × α3 × α4 × α5 × α6) (f : α1 → α2 → α3 → α4 → α5 → α6 → β) : β := f p.1 p.2.1 p.2.2.1 p.2.2.2.1 p.2.2.2.2.1 p.2.2.2.2.2
theorem x_ed6 {α1 α2 α3 α4 α5 α6 β : Type} {f : α1 → α2 → α3 → α4 → α5 → α6 → Option β} {a1 : α1} {a2 : α2} {a3 : α3} {a4 : α4} {a5 : α5} {a6 : α6} {r : β} (h : x_e6 (a1, a2, a3, a4, a5, a6) f = some r) : f a1 a2 a3 a4 a5 a6 = some r := h
def x_b7 {α1 α2 α3 α4 α5 α6 α7 β : Type} (m : Option (α1 × α2 × α3 × α4 × α5 × α6 × α7)) (f : α1 → α2 → α3 → α4 → α5 → α6 → α7 → Option β) : Option β := m.bind fun p => f p.1 p.2.1 p.2.2.1 p.2.2.2.1 p.2.2.2.2.1 p.2.2.2.2.2.1 p.2.2.2.2.2.2
theorem x_bd7 {α1 α2 α3 α4 α5 α6 α7 β : Type} {m : Option (α1 × α2 × α3 × α4 × α5 × α6 × α7)} {f : α1 → α2 → α3 → α4 → α5 → α6 → α7 → Option β} {r : β} (h : x_b7 m f = some r) : ∃ a1 a2 a3 a4 a5 a6 a7, m = some (a1, a2, a3, a4, a5, a6, a7) ∧ f a1 a2 a3 a4 a5 a6 a7 = some r := by
  obtain ⟨p, h1, h2⟩ := Option.bind_eq_some_iff.mp h
  exact ⟨p.1, p.2.1, p.2.2.1, p.2.2.2.1, p.2.2.2.2.1, p.2.2.2.2.2.1, p.2.2.2.2.2.2, h1, h2⟩
theorem x_bs7 {α1 α2 α3 α4 α5 α6 α7 β : Type} {m : Option (α1 × α2 × α3 × α4 × α5 × α6 × α7)} {f : α1 → α2 → α3 → α4 → α5 → α6 → α7 → Option β} {a1 : α1} {a2 : α2} {a3 : α3} {a4 : α4} {a5 : α5} {a6 : α6} {a7 : α7} (h : m = some (a1, a2, a3, a4, a5, a6, a7)) : x_b7 m f = f a1 a2 a3 a4 a5 a6 a7 := by
  rw [h]; rfl
def x_e7 {α1 α2 α3 α4 α5 α6 α7 β : Type} (p : α1 × α2 × α3 × α4 × α5 × α6 × α7) (f : α1 → α2 → α3 → α4 → α5 → α6 → α7 → β) : β := f p.1 p.2.1 p.2.2.1 p.2.2.2.1 p.2.2.2.2.1 p.2.2.2.2.2.1 p.2.2.2.2.2.2
theorem x_ed7 {α1 α2 α3 α4 α5 α6 α7 β : Type} {f : α1 → α2 → α3 → α4 → α5 → α6 → α7 → Option β} {a1 : α1} {a2 : α2} {a3 : α3} {a4 : α4} {a5 : α5} {a6 : α6} {a7 : α7} {r : β} (h : x_e7 (a1, a2, a3, a4, a5, a6, a7) f = some r) : f a1 a2 a3 a4 a5 a6 a7 = some r := h
def x_b8 {α1 α2 α3 α4 α5 α6 α7 α8 β : Type} (m : Option (α1 × α2 × α3 × α4 × α5 × α6 × α7 × α8)) (f : α1 → α2 → α3 → α4 → α5 → α6 → α7 → α8 → Option β) : Option β := m.bind fun p => f p.1 p.2.1 p.2.2.1 p.2.2.2.1 p.2.2.2.2.1 p.2.2.2.2.2.1 p.2.2.2.2.2.2.1 p.2.2.2.2.2.2.2
theorem x_bd8 {α1 α2 α3 α4 α5 α6 α7 α8 β : Type} {m : Option (α1 × α2 × α3 × α4 × α5 × α6 × α7 × α8)} {f : α1 → α2 → α3 → α4 → α5 → α6 → α7 → α8 → Option β} {r : β} (h : x_b8 m f = some r) : ∃ a1 a2 a3 a4 a5 a6 a7 a8, m = some (a1, a2, a3, a4, a5, a6, a7, a8) ∧ f a1 a2 a3 a4 a5 a6 a7 a8 = some r := by
  obtain ⟨p, h1, h2⟩ := Option.bind_eq_some_iff.mp h
  exact ⟨p.1, p.2.1, p.2.2.1, p.2.2.2.1, p.2.2.2.2.1, p.2.2.2.2.2.1, p.2.2.2.2.2.2.1, p.2.2.2.2.2.2.2, h1, h2⟩
theorem x_bs8 {α1 α2 α3 α4 α5 α6 α7 α8 β : Type} {m : Option (α1 × α2 × α3 × α4 × α5 × α6 × α7 × α8)} {f : α1 → α2 → α3 → α4 → α5 → α6 → α7 → α8 → Option β} {a1 : α1} {a2 : α2} {a3 : α3} {a4 : α4} {a5 : α5} {a6 : α6} {a7 : α7} {a8 : α8} (h : m = some (a1, a2, a3, a4, a5, a6, a7, a8)) : x_b8 m f = f a1 a2 a3 a4 a5 a6 a7 a8 := by
  rw [h]; rfl
def x_e8 {α1 α2 α3 α4 α5 α6 α7 α8 β : Type} (p : α1 × α2 × α3 × α4 × α5 × α6 × α7 × α8) (f : α1 → α2 → α3 → α4 → α5 → α6 → α7 → α8 → β) : β := f p.1 p.2.1 p.2.2.1 p.2.2.2.1 p.2.2.2.2.1 p.2.2.2.2.2.1 p.2.2.2.2.2.2.1 p.2.2.2.2.2.2.2
theorem x_ed8 {α1 α2 α3 α4 α5 α6 α7 α8 β : Type} {f : α1 → α2 → α3 → α4 → α5 → α6 → α7 → α8 → Option β} {a1 : α1} {a2 : α2} {a3 : α3} {a4 : α4} {a5 : α5} {a6 : α6} {a7 : α7} {a8 : α8} {r : β} (h : x_e8 (a1, a2, a3, a4, a5, a6, a7, a8) f = some r) : f a1 a2 a3 a4 a5 a6 a7 a8 = some r := h
def x_b9 {α1 α2 α3 α4 α5 α6 α7 α8 α9 β : Type} (m : Option (α1 × α2 × α3 × α4 × α5 × α6 × α7 × α8 × α9)) (f : α1 → α2 → α3 → α4 → α5 → α6 → α7 → α8 → α9 → Option β) : Option β := m.bind fun p => f p.1 p.2.1 p.2.2.1 p.2.2.2.1 p.2.2.2.2.1 p.2.2.2.2.2.1 p.2.2.2.2.2.2.1 p.2.2.2.2.2.2.2.1 p.2.2.2.2.2.2.2.2
theorem x_bd9 {α1 α2 α3 α4 α5 α6 α7 α8 α9 β : Type} {m : Option (α1 × α2 × α3 × α4 × α5 × α6 × α7 × α8 × α9)} {f : α1 → α2 → α3 → α4 → α5 → α6 → α7 → α8 → α9 → Option β} {r : β} (h : x_b9 m f = some r) : ∃ a1 a2 a3 a4 a5 a6 a7 a8 a9, m = some (a1, a2, a3, a4, a5, a6, a7, a8, a9) ∧ f a1 a2 a3 a4 a5 a6 a7 a8 a9 = some r := by
  obtain ⟨p, h1, h2⟩ := Option.bind_eq_some_iff.mp h
  exact ⟨p.1, p.2.1, p.2.2.1, p.2.2.2.1, p.2.2.2.2.1, p.2.2.2.2.2.1, p.2.2.2.2.2.2.1, p.2.2.2.2.2.2.2.1, p.2.2.2.2.2.2.2.2, h1, h2⟩
theorem x_bs9 {α1 α2 α3 α4 α5 α6 α7 α8 α9 β : Type} {m : Option (α1 × α2 × α3 × α4 × α5 × α6 × α7 × α8 × α9)} {f : α1 → α2 → α3 → α4 → α5 → α6 → α7 → α8 → α9 → Option β} {a1 : α1} {a2 : α2} {a3 : α3} {a4 : α4} {a5 : α5} {a6 : α6} {a7 : α7} {a8 : α8} {a9 : α9} (h : m = some (a1, a2, a3, a4, a5, a6, a7, a8, a9)) : x_b9 m f = f a1 a2 a3 a4 a5 a6 a7 a8 a9 := by
  rw [h]; rfl
def x_e9 {α1 α2 α3 α4 α5 α6 α7 α8 α9 β : Type} (p : α1 × α2 × α3 × α4 × α5 × α6 × α7 × α8 × α9) (f : α1 → α2 → α3 → α4 → α5 → α6 → α7 → α8 → α9 → β) : β := f p.1 p.2.1 p.2.2.1 p.2.2.2.1 p.2.2.2.2.1 p.2.2.2.2.2.1 p.2.2.2.2.2.2.1 p.2.2.2.2.2.2.2.1 p.2.2.2.2.2.2.2.2
theorem x_ed9 {α1 α2 α3 α4 α5 α6 α7 α8 α9 β : Type} {f : α1 → α2 → α3 → α4 → α5 → α6 → α7 → α8 → α9 → Option β} {a1 : α1} {a2 : α2} {a3 : α3} {a4 : α4} {a5 : α5} {a6 : α6} {a7 : α7} {a8 : α8} {a9 : α9} {r : β} (h : x_e9 (a1, a2, a3, a4, a5, a6, a7, a8, a9) f = some r) : f a1 a2 a3 a4 a5 a6 a7 a8 a9 = some r := h
def x_b10 {α1 α2 α3 α4 α5 α6 α7 α8 α9 α10 β : Type} (m : Option (α1 × α2 × α3 × α4 × α5 × α6 × α7 × α8 × α9 × α10)) (f : α1 → α2 → α3 → α4 → α5 → α6 → α7 → α8 → α9 → α10 → Option β) : Option β := m.bind fun p => f p.1 p.2.1 p.2.2.1 p.2.2.2.1 p.2.2.2.2.1 p.2.2.2.2.2.1 p.2.2.2.2.2.2.1 p.2.2.2.2.2.2.2.1 p.2.2.2.2.2.2.2.2.1 p.2.2.2.2.2.2.2.2.2
theorem x_bd10 {α1 α2 α3 α4 α5 α6 α7 α8 α9 α10 β : Type} {m : Option (α1 × α2 × α3 × α4 × α5 × α6 × α7 × α8 × α9 × α10)} {f : α1 → α2 → α3 → α4 → α5 → α6 → α7 → α8 → α9 → α10 → Option β} {r : β} (h : x_b10 m f = some r) : ∃ a1 a2 a3 a4 a5 a6 a7 a8 a9 a10, m = some (a1, a2, a3, a4, a5, a6, a7, a8, a9, a10) ∧ f a1 a2 a3 a4 a5 a6 a7 a8 a9 a10 = some r := by
  obtain ⟨p, h1, h2⟩ := Option.bind_eq_some_iff.mp h
  exact ⟨p.1, p.2.1, p.2.2.1, p.2.2.2.1, p.2.2.2.2.1, p.2.2.2.2.2.1, p.2.2.2.2.2.2.1, p.2.2.2.2.2.2.2.1, p.2.2.2.2.2.2.2.2.1, p.2.2.2.2.2.2.2.2.2, h1, h2⟩
theorem x_bs10 {α1 α2 α3 α4 α5 α6 α7 α8 α9 α10 β : Type} {m : Option (α1 × α2 × α3 × α4 × α5 × α6 × α7 × α8 × α9 × α10)} {f : α1 → α2 → α3 → α4 → α5 → α6 → α7 → α8 → α9 → α10 → Option β} {a1 : α1} {a2 : α2} {a3 : α3} {a4 : α4} {a5 : α5} {a6 : α6} {a7 : α7} {a8 : α8} {a9 : α9} {a10 : α10} (h : m = some (a1, a2, a3, a4, a5, a6, a7, a8, a9, a10)) : x_b10 m f = f a1 a2 a3 a4 a5 a6 a7 a8 a9 a10 := by
  rw [h]; rfl
def x_e10 {α1 α2 α3 α4 α5 α6 α7 α8 α9 α10 β : Type} (p : α1 × α2 × α3 × α4 × α5 × α6 × α7 × α8 × α9 × α10) (f : α1 → α2 → α3 → α4 → α5 → α6 → α7 → α8 → α9 → α10 → β) : β := f p.1 p.2.1 p.2.2.1 p.2.2.2.1 p.2.2.2.2.1 p.2.2.2.2.2.1 p.2.2.2.2.2.2.1 p.2.2.2.2.2.2.2.1 p.2.2.2.2.2.2.2.2.1 p.2.2.2.2.2.2.2.2.2
theorem x_ed10 {α1 α2 α3 α4 α5 α6 α7 α8 α9 α10 β : Type} {f : α1 → α2 → α3 → α4 → α5 → α6 → α7 → α8 → α9 → α10 → Option β} {a1 : α1} {a2 : α2} {a3 : α3} {a4 : α4} {a5 : α5} {a6 : α6} {a7 : α7} {a8 : α8} {a9 : α9} {a10 : α10} {r : β} (h : x_e10 (a1, a2, a3, a4, a5, a6, a7, a8, a9, a10) f = some r) : f a1 a2 a3 a4 a5 a6 a7 a8 a9 a10 = some r := h
/-! operations in range -/
theorem x_add_of {a b : Int} (h : R32 (a + b)) : x_add a b = a + b := by
  rw [x_add, ← Int32.ofInt_add, x_to32 h]
theorem x_sub_of {a b : Int} (h : R32 (a - b)) : x_sub a b = a - b := by
  rw [x_sub, ← Int32.ofInt_sub, x_to32 h]
theorem x_mul_of {a b : Int} (h : R32 (a * b)) : x_mul a b = a * b := by
  rw [x_mul, ← Int32.ofInt_mul, x_to32 h]
theorem x_neg_of {a : Int} (h : R32 (-a)) : x_neg a = -a := by
  rw [x_neg, ← Int32.ofInt_neg, x_to32 h]
theorem x_div_of {a b : Int} (ha : R32 a) (hb : R32 b) (h : R32 (a.tdiv b)) : x_div a b = a.tdiv b := by
  rw [x_div, Int32.toInt_div, x_to32 ha, x_to32 hb]
  exact Int.bmod_eq_of_le (by have := h.1; omega) (by have := h.2; omega)
theorem x_rem_of {a b : Int} (ha : R32 a) (hb : R32 b) (h : R32 (a.tdiv b)) (h2 : R32 (a.tmod b)) : x_rem a b = a.tmod b := by
  have e1 : Int32.ofInt a / Int32.ofInt b = Int32.ofInt (a.tdiv b) := by
    rw [← x_of32 (Int32.ofInt a / Int32.ofInt b)]
    exact congrArg Int32.ofInt (x_div_of ha hb h)
  rw [x_rem, e1, ← Int32.ofInt_mul, ← Int32.ofInt_sub]
  have e2 : a - a.tdiv b * b = a.tmod b := by
    have := Int.tmod_add_mul_tdiv a b
    rw [Int.mul_comm] at this
    omega
  rw [e2, x_to32 h2]
theorem x_R32b {a b : Int} (ha : R32 a) (h0 : 0 < b) : R32 (a.tdiv b) ∧ R32 (a.tmod b) := by
  have h1 : (a.tdiv b).natAbs ≤ a.natAbs := by rw [Int.natAbs_tdiv]; exact Nat.div_le_self _ _
  have h2 : (a.tmod b).natAbs ≤ a.natAbs := by rw [Int.natAbs_tmod]; exact Nat.mod_le _ _
  obtain ⟨p, q⟩ := ha
  have h3 : a = -2147483648 → 0 ≤ a.tdiv b ∨ a.tdiv b < 0 := fun _ => by omega
  constructor
  · constructor
    · omega
    · by_cases hz : 0 ≤ a
      · omega
      · have : a.tdiv b ≤ 0 := by
          have := Int.neg_tdiv (a := -a) (b := b)
          rw [Int.neg_neg] at this
          rw [this]
          have := Int.tdiv_nonneg (show 0 ≤ -a by omega) (show 0 ≤ b by omega)
          omega
        omega
  · constructor
    · omega
    · by_cases hz : 0 ≤ a
      · omega
      · have : a.tmod b ≤ 0 := by
          have := Int.neg_tmod (a := -a) (b := b)
          rw [Int.neg_neg] at this
          rw [this]
          have := Int.tmod_nonneg b (show 0 ≤ -a by omega)
          omega
        omega
/-- remainder of what isn't below 0 -/
theorem x_rem_pos {a b : Int} (ha : R32 a) (hb : R32 b) (h0 : 0 < b) (h : 0 ≤ a) : x_rem a b = a % b := by
  rw [x_rem_of ha hb (x_R32b ha h0).1 (x_R32b ha h0).2, Int.tmod_eq_emod_of_nonneg h]
theorem x_div_pos {a b : Int} (ha : R32 a) (hb : R32 b) (h0 : 0 < b) (h : 0 ≤ a) : x_div a b = a / b := by
  rw [x_div_of ha hb (x_R32b ha h0).1, Int.tdiv_eq_ediv_of_nonneg h]
/-- remainder by a number above 0, never below 0 -/
def x_mod (a b : Int) : Int := a % b
def G9_min_7cf53 (a : Int) (b : Int) : Option Int :=
  (x_b1 (if b < a then (some b) else (some a)) fun (v1 : Int) => (some v1))
def G9_max_7cf53 (a : Int) (b : Int) : Option Int :=
  (x_b1 (if a < b then (some b) else (some a)) fun (v1 : Int) => (some v1))
def G6_bitCount_0f7a4 (a : Int) : Option Int :=
  (some (x_and (x_add (x_add (x_and (x_add (x_add (x_and (x_sub a (x_and (x_ush a 1) 1431655765)) 858993459) (x_and (x_ush (x_sub a (x_and (x_ush a 1) 1431655765)) 2) 858993459)) (x_ush (x_add (x_and (x_sub a (x_and (x_ush a 1) 1431655765)) 858993459) (x_and (x_ush (x_sub a (x_and (x_ush a 1) 1431655765)) 2) 858993459)) 4)) 252645135) (x_ush (x_and (x_add (x_add (x_and (x_sub a (x_and (x_ush a 1) 1431655765)) 858993459) (x_and (x_ush (x_sub a (x_and (x_ush a 1) 1431655765)) 2) 858993459)) (x_ush (x_add (x_and (x_sub a (x_and (x_ush a 1) 1431655765)) 858993459) (x_and (x_ush (x_sub a (x_and (x_ush a 1) 1431655765)) 2) 858993459)) 4)) 252645135) 8)) (x_ush (x_add (x_and (x_add (x_add (x_and (x_sub a (x_and (x_ush a 1) 1431655765)) 858993459) (x_and (x_ush (x_sub a (x_and (x_ush a 1) 1431655765)) 2) 858993459)) (x_ush (x_add (x_and (x_sub a (x_and (x_ush a 1) 1431655765)) 858993459) (x_and (x_ush (x_sub a (x_and (x_ush a 1) 1431655765)) 2) 858993459)) 4)) 252645135) (x_ush (x_and (x_add (x_add (x_and (x_sub a (x_and (x_ush a 1) 1431655765)) 858993459) (x_and (x_ush (x_sub a (x_and (x_ush a 1) 1431655765)) 2) 858993459)) (x_ush (x_add (x_and (x_sub a (x_and (x_ush a 1) 1431655765)) 858993459) (x_and (x_ush (x_sub a (x_and (x_ush a 1) 1431655765)) 2) 858993459)) 4)) 252645135) 8)) 16)) 63))
/-- how many bits, as the library counts them -/
def x_bc (a : Int) : Int := (G6_bitCount_0f7a4 a).getD 0
