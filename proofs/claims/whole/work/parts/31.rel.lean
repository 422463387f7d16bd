/-! The class's cloister and the reference's row. -/
/-- all of a cloister: slices of the class against the row of the reference -/
def LogR (C : xU) (m : Nat → Int) : Prop := C 3 1 = m 10 ∧ ∃ n : Nat, n < 60 ∧ C 3 2 = (n : Int) ∧ ∀ g : Nat, (g : Int) < m 10 → C 4 ((n + 59 - g) % 60) = 8192 * m (72 + 5 * g) + 256 * m (73 + 5 * g) + 128 * m (74 + 5 * g) + 16 * m (75 + 5 * g) + m (76 + 5 * g)
def CR (C : xU) (m : Nat → Int) : Prop :=
  (C 0 3 = m 3 ∧ C 0 4 = m 0 ∧ C 0 5 = m 4 ∧ C 0 6 = m 5 ∧ C 0 7 = m 6 ∧ C 0 8 = m 7 ∧ C 0 9 = m 8 ∧ C 0 10 = m 9 ∧ C 0 11 = m 11) ∧
  (∀ w : Nat, w < 4 → C 2 w = m (12 + w)) ∧ (∀ p k : Nat, (p : Int) < m 3 → k < 8 → C 1 (7 * k + p) = m (16 + 8 * p + k)) ∧
  (∀ p k : Nat, p < 7 → m 3 ≤ (p : Int) → 4 ≤ k → k < 8 → C 1 (7 * k + p) = 0) ∧ LogR C m
/-- numbers of a row are in their ranges -/
def Mk (m : Nat → Int) (p : Nat) : Prop :=
  (0 ≤ m (16 + 8 * p) ∧ m (16 + 8 * p) < 16) ∧ (0 ≤ m (17 + 8 * p) ∧ m (17 + 8 * p) ≤ 8) ∧ (0 ≤ m (18 + 8 * p) ∧ m (18 + 8 * p) < 12) ∧ (0 ≤ m (19 + 8 * p) ∧ m (19 + 8 * p) < 4096) ∧
  (0 ≤ m (20 + 8 * p) ∧ m (20 + 8 * p) ≤ 20) ∧ (0 ≤ m (21 + 8 * p) ∧ m (21 + 8 * p) ≤ 999) ∧ (0 ≤ m (22 + 8 * p) ∧ m (22 + 8 * p) ≤ 99) ∧ (0 ≤ m (23 + 8 * p) ∧ m (23 + 8 * p) ≤ 999)
def Lg (m : Nat → Int) (g : Nat) : Prop :=
  (0 ≤ m (72 + 5 * g) ∧ m (72 + 5 * g) ≤ 9999) ∧ (0 ≤ m (73 + 5 * g) ∧ m (73 + 5 * g) < 24) ∧ (0 ≤ m (74 + 5 * g) ∧ m (74 + 5 * g) < 2) ∧ (0 ≤ m (75 + 5 * g) ∧ m (75 + 5 * g) < 7) ∧ (0 ≤ m (76 + 5 * g) ∧ m (76 + 5 * g) < 16)
def Iv (m : Nat → Int) : Prop :=
  ((0 ≤ m 3 ∧ m 3 ≤ 7) ∧ (0 ≤ m 0 ∧ m 0 ≤ 12) ∧ (0 ≤ m 4 ∧ m 4 < 24) ∧ (0 ≤ m 5 ∧ m 5 ≤ 9999) ∧ (0 ≤ m 6 ∧ m 6 < 16) ∧ (0 ≤ m 7 ∧ m 7 < 5) ∧ (0 ≤ m 8 ∧ m 8 ≤ 100) ∧ (0 ≤ m 9 ∧ m 9 ≤ 20) ∧ R32 (m 11) ∧ (0 ≤ m 10 ∧ m 10 ≤ 60)) ∧
  (∀ w : Nat, w < 4 → 0 ≤ m (12 + w) ∧ m (12 + w) ≤ 999) ∧ (∀ p : Nat, (p : Int) < m 3 → Mk m p) ∧ (∀ g : Nat, (g : Int) < m 10 → Lg m g) ∧
  (∀ p q : Nat, (p : Int) < m 3 → (q : Int) < m 3 → m (18 + 8 * p) = m (18 + 8 * q) → p = q)
theorem Iv.many {m : Nat → Int} (h : Iv m) : 0 ≤ m 3 ∧ m 3 ≤ 7 := h.1.1
theorem Iv.mk {m : Nat → Int} (h : Iv m) {p : Nat} (hp : (p : Int) < m 3) : Mk m p := h.2.2.1 p hp
theorem Iv.st {m : Nat → Int} (h : Iv m) {w : Nat} (hw : w < 4) : 0 ≤ m (12 + w) ∧ m (12 + w) ≤ 999 := h.2.1 w hw
/-- how many monks, as a count -/
theorem Iv.nn {m : Nat → Int} (h : Iv m) : ∃ n : Nat, n ≤ 7 ∧ m 3 = (n : Int) := by
  obtain ⟨n, hn⟩ := Int.eq_ofNat_of_zero_le h.many.1
  exact ⟨n, by have := h.many.2; omega, hn⟩
/-- what the reference keeps is the same -/
def Ks (S S' : xU) : Prop := S' 1 = S 1 ∧ S' 2 = S 2 ∧ S' 4 = S 4 ∧ S' 5 = S 5 ∧ S' 0 3 = S 0 3 ∧ S' 0 6 = S 0 6 ∧ S' 0 8 = S 0 8 ∧ S' 0 12 = S 0 12
theorem Ks.rf {S : xU} : Ks S S := ⟨rfl, rfl, rfl, rfl, rfl, rfl, rfl, rfl⟩
theorem Ks.tr {S S' S2 : xU} (h : Ks S S') (k : Ks S' S2) : Ks S S2 := by
  obtain ⟨a1, a2, a3, a4, a5, a6, a7, a8⟩ := h
  obtain ⟨b1, b2, b3, b4, b5, b6, b7, b8⟩ := k
  exact ⟨b1.trans a1, b2.trans a2, b3.trans a3, b4.trans a4, b5.trans a5, b6.trans a6, b7.trans a7, b8.trans a8⟩
theorem up_o {S : xU} {o i o' : Nat} {v : Int} (h : o' ≠ o) : x_up S o i v o' = S o' := by
  funext j
  unfold x_up
  rw [if_neg (fun q => h q.1)]
theorem up_i {S : xU} {o i j : Nat} {v : Int} (h : j ≠ i) : x_up S o i v o j = S o j := by
  unfold x_up
  rw [if_neg (fun q => h q.2)]
theorem up_s {S : xU} {o i : Nat} {v : Int} : x_up S o i v o i = v := by
  unfold x_up
  rw [if_pos ⟨rfl, rfl⟩]
theorem Ks.th {S : xU} {v : Int} : Ks S (x_up S 0 0 v) := ⟨up_o (by decide), up_o (by decide), up_o (by decide), up_o (by decide), up_i (by decide), up_i (by decide), up_i (by decide), up_i (by decide)⟩
/-- scratch rows -/
theorem Ks.sc {S : xU} {o i : Nat} {v : Int} (h : o = 3 ∨ 6 ≤ o) : Ks S (x_up S o i v) := ⟨up_o (by omega), up_o (by omega), up_o (by omega), up_o (by omega), congrFun (up_o (by omega)) _, congrFun (up_o (by omega)) _, congrFun (up_o (by omega)) _, congrFun (up_o (by omega)) _⟩
/-- how an answer of the class and one of the reference agree; cd: the number of what is thrown -/
def Ag (cd : Nat → Int) (o : Int ⊕ Nat) (b : Int) (S' : xU) : Prop := match o with
  | .inl v => S' 0 0 = 0 ∧ b = v
  | .inr E => S' 0 0 = cd E
/-- numbers that come about -/
theorem n_ix {k p : Nat} (hk : k < 8) (hp : p < 7) : x_add (x_mul (k : Int) 7) (p : Int) = ((7 * k + p : Nat) : Int) := by
  rw [x_mul_of ⟨by omega, by omega⟩, x_add_of ⟨by omega, by omega⟩]; omega
theorem n_iy {k p : Nat} (hk : k < 8) (hp : p < 8) : x_add (x_add 16 (x_mul 8 (p : Int))) (k : Int) = ((16 + 8 * p + k : Nat) : Int) := by
  rw [x_mul_of ⟨by omega, by omega⟩, x_add_of (a := 16) ⟨by omega, by omega⟩, x_add_of ⟨by omega, by omega⟩]; omega
theorem g1_of {C : xU} {k p : Nat} (hk : k < 8) (hp : p < 7) : G1_of (k : Int) (p : Int) C = some (C 1 (7 * k + p)) := by
  rw [G1_of, n_ix hk hp, if_neg (by omega), if_neg (by omega), x_gd_t ⟨by omega, by omega⟩]
  rfl
theorem g1_put {C : xU} {k p : Nat} {v : Int} (hk : k < 8) (hp : p < 7) : G1_put (k : Int) (p : Int) v C = some (x_up C 1 (7 * k + p) v) := by
  rw [G1_put, n_ix hk hp, if_neg (by omega), if_neg (by omega), x_gd_t ⟨by omega, by omega⟩]
  rfl
theorem g12_of {S : xU} {k p : Nat} (hk : k < 8) (hp : p < 8) : G12_of (p : Int) (k : Int) S = some (S 1 (16 + 8 * p + k)) := by
  rw [G12_of, n_iy hk hp, x_gd_t ⟨by omega, by omega⟩]
  rfl
theorem g12_lays {S : xU} {k p : Nat} {v : Int} (hk : k < 8) (hp : p < 8) : G12_lays (p : Int) (k : Int) v S = some (x_up S 1 (16 + 8 * p + k) v) := by
  rw [G12_lays, n_iy hk hp, x_gd_t ⟨by omega, by omega⟩]
  rfl
theorem g1_of0 {C : xU} {m : Nat → Int} {p : Nat} (h : CR C m) (hi : Iv m) (hp : (p : Int) < m 3) : G1_of 0 (p : Int) C = some (m (16 + 8 * p)) := by
  have h7 := hi.many
  have e := g1_of (C := C) (k := 0) (p := p) (by decide) (by omega)
  rw [h.2.2.1 p 0 hp (by decide), show 16 + 8 * p + 0 = 16 + 8 * p by omega] at e
  exact e
theorem g12_of0 {S : xU} {p : Nat} (hp : p < 8) : G12_of (p : Int) 0 S = some (S 1 (16 + 8 * p)) := by
  have e := g12_of (S := S) (k := 0) (p := p) (by decide) hp
  rw [show 16 + 8 * p + 0 = 16 + 8 * p by omega] at e
  exact e
theorem g1_of1 {C : xU} {m : Nat → Int} {p : Nat} (h : CR C m) (hi : Iv m) (hp : (p : Int) < m 3) : G1_of 1 (p : Int) C = some (m (17 + 8 * p)) := by
  have h7 := hi.many
  have e := g1_of (C := C) (k := 1) (p := p) (by decide) (by omega)
  rw [h.2.2.1 p 1 hp (by decide), show 16 + 8 * p + 1 = 17 + 8 * p by omega] at e
  exact e
theorem g12_of1 {S : xU} {p : Nat} (hp : p < 8) : G12_of (p : Int) 1 S = some (S 1 (17 + 8 * p)) := by
  have e := g12_of (S := S) (k := 1) (p := p) (by decide) hp
  rw [show 16 + 8 * p + 1 = 17 + 8 * p by omega] at e
  exact e
theorem g1_of2 {C : xU} {m : Nat → Int} {p : Nat} (h : CR C m) (hi : Iv m) (hp : (p : Int) < m 3) : G1_of 2 (p : Int) C = some (m (18 + 8 * p)) := by
  have h7 := hi.many
  have e := g1_of (C := C) (k := 2) (p := p) (by decide) (by omega)
  rw [h.2.2.1 p 2 hp (by decide), show 16 + 8 * p + 2 = 18 + 8 * p by omega] at e
  exact e
theorem g12_of2 {S : xU} {p : Nat} (hp : p < 8) : G12_of (p : Int) 2 S = some (S 1 (18 + 8 * p)) := by
  have e := g12_of (S := S) (k := 2) (p := p) (by decide) hp
  rw [show 16 + 8 * p + 2 = 18 + 8 * p by omega] at e
  exact e
theorem g1_of3 {C : xU} {m : Nat → Int} {p : Nat} (h : CR C m) (hi : Iv m) (hp : (p : Int) < m 3) : G1_of 3 (p : Int) C = some (m (19 + 8 * p)) := by
  have h7 := hi.many
  have e := g1_of (C := C) (k := 3) (p := p) (by decide) (by omega)
  rw [h.2.2.1 p 3 hp (by decide), show 16 + 8 * p + 3 = 19 + 8 * p by omega] at e
  exact e
theorem g12_of3 {S : xU} {p : Nat} (hp : p < 8) : G12_of (p : Int) 3 S = some (S 1 (19 + 8 * p)) := by
  have e := g12_of (S := S) (k := 3) (p := p) (by decide) hp
  rw [show 16 + 8 * p + 3 = 19 + 8 * p by omega] at e
  exact e
theorem g1_of4 {C : xU} {m : Nat → Int} {p : Nat} (h : CR C m) (hi : Iv m) (hp : (p : Int) < m 3) : G1_of 4 (p : Int) C = some (m (20 + 8 * p)) := by
  have h7 := hi.many
  have e := g1_of (C := C) (k := 4) (p := p) (by decide) (by omega)
  rw [h.2.2.1 p 4 hp (by decide), show 16 + 8 * p + 4 = 20 + 8 * p by omega] at e
  exact e
theorem g12_of4 {S : xU} {p : Nat} (hp : p < 8) : G12_of (p : Int) 4 S = some (S 1 (20 + 8 * p)) := by
  have e := g12_of (S := S) (k := 4) (p := p) (by decide) hp
  rw [show 16 + 8 * p + 4 = 20 + 8 * p by omega] at e
  exact e
theorem g1_of5 {C : xU} {m : Nat → Int} {p : Nat} (h : CR C m) (hi : Iv m) (hp : (p : Int) < m 3) : G1_of 5 (p : Int) C = some (m (21 + 8 * p)) := by
  have h7 := hi.many
  have e := g1_of (C := C) (k := 5) (p := p) (by decide) (by omega)
  rw [h.2.2.1 p 5 hp (by decide), show 16 + 8 * p + 5 = 21 + 8 * p by omega] at e
  exact e
theorem g12_of5 {S : xU} {p : Nat} (hp : p < 8) : G12_of (p : Int) 5 S = some (S 1 (21 + 8 * p)) := by
  have e := g12_of (S := S) (k := 5) (p := p) (by decide) hp
  rw [show 16 + 8 * p + 5 = 21 + 8 * p by omega] at e
  exact e
theorem g1_of6 {C : xU} {m : Nat → Int} {p : Nat} (h : CR C m) (hi : Iv m) (hp : (p : Int) < m 3) : G1_of 6 (p : Int) C = some (m (22 + 8 * p)) := by
  have h7 := hi.many
  have e := g1_of (C := C) (k := 6) (p := p) (by decide) (by omega)
  rw [h.2.2.1 p 6 hp (by decide), show 16 + 8 * p + 6 = 22 + 8 * p by omega] at e
  exact e
theorem g12_of6 {S : xU} {p : Nat} (hp : p < 8) : G12_of (p : Int) 6 S = some (S 1 (22 + 8 * p)) := by
  have e := g12_of (S := S) (k := 6) (p := p) (by decide) hp
  rw [show 16 + 8 * p + 6 = 22 + 8 * p by omega] at e
  exact e
theorem g1_of7 {C : xU} {m : Nat → Int} {p : Nat} (h : CR C m) (hi : Iv m) (hp : (p : Int) < m 3) : G1_of 7 (p : Int) C = some (m (23 + 8 * p)) := by
  have h7 := hi.many
  have e := g1_of (C := C) (k := 7) (p := p) (by decide) (by omega)
  rw [h.2.2.1 p 7 hp (by decide), show 16 + 8 * p + 7 = 23 + 8 * p by omega] at e
  exact e
theorem g12_of7 {S : xU} {p : Nat} (hp : p < 8) : G12_of (p : Int) 7 S = some (S 1 (23 + 8 * p)) := by
  have e := g12_of (S := S) (k := 7) (p := p) (by decide) hp
  rw [show 16 + 8 * p + 7 = 23 + 8 * p by omega] at e
  exact e
theorem g12_isIn {a b c : Int} : G12_isIn a b c = some (if b ≤ a ∧ a ≤ c then 1 else 0) := by
  rw [G12_isIn]
  by_cases h1 : a < b
  · rw [if_pos h1, if_neg (show ¬ (b ≤ a ∧ a ≤ c) by omega)]; rfl
  · rw [if_neg h1]
    by_cases h2 : c < a
    · rw [if_pos h2, if_neg (show ¬ (b ≤ a ∧ a ≤ c) by omega)]; rfl
    · rw [if_neg h2, if_pos (show b ≤ a ∧ a ≤ c by omega)]; rfl
theorem g12_isMonk {a : Int} {S : xU} (h : 0 ≤ S 1 3 ∧ S 1 3 ≤ 7) : G12_isMonk a S = some (if 0 ≤ a ∧ a < S 1 3 then 1 else 0) := by
  rw [G12_isMonk, g12_isIn, x_sub_of ⟨by omega, by omega⟩]
  by_cases h1 : 0 ≤ a ∧ a < S 1 3
  · rw [if_pos h1, if_pos (show 0 ≤ a ∧ a ≤ S 1 3 - 1 by omega)]; rfl
  · rw [if_neg h1, if_neg (show ¬ (0 ≤ a ∧ a ≤ S 1 3 - 1) by omega)]; rfl
theorem g12_isFlag {a : Int} : G12_isFlag a = some (if 0 ≤ a ∧ a ≤ 15 then 1 else 0) := by
  rw [G12_isFlag, g12_isIn]
  by_cases h1 : 0 ≤ a ∧ a ≤ 15
  · rw [if_pos h1]; rfl
  · rw [if_neg h1]; rfl
theorem g12_isWalk {a : Int} : G12_isWalk a = some (if 0 ≤ a ∧ a ≤ 3 then 1 else 0) := by
  rw [G12_isWalk, g12_isIn]
  by_cases h1 : 0 ≤ a ∧ a ≤ 3
  · rw [if_pos h1]; rfl
  · rw [if_neg h1]; rfl
theorem g11_needMonk {a : Int} {N : xU} {m : Nat → Int} (h : CR N m) : G11_needMonk a N = some (if 0 ≤ a ∧ a < m 3 then none else some 1) := by
  rw [G11_needMonk, h.1.1]
  by_cases h1 : a < 0
  · rw [if_pos h1, if_neg (show ¬ (0 ≤ a ∧ a < m 3) by omega)]
  · rw [if_neg h1]
    by_cases h2 : a < m 3
    · rw [if_pos h2, if_pos (show 0 ≤ a ∧ a < m 3 by omega)]
    · rw [if_neg h2, if_neg (show ¬ (0 ≤ a ∧ a < m 3) by omega)]
theorem g11_needFlag {a : Int} : G11_needFlag a = some (if 0 ≤ a ∧ a ≤ 15 then none else some 1) := by
  rw [G11_needFlag]
  by_cases h1 : a < 0
  · rw [if_pos h1, if_neg (show ¬ (0 ≤ a ∧ a ≤ 15) by omega)]
  · rw [if_neg h1]
    by_cases h2 : a < 16
    · rw [if_pos h2, if_pos (show 0 ≤ a ∧ a ≤ 15 by omega)]
    · rw [if_neg h2, if_neg (show ¬ (0 ≤ a ∧ a ≤ 15) by omega)]
theorem g11_needWalk {a : Int} : G11_needWalk a = some (if 0 ≤ a ∧ a ≤ 3 then none else some 1) := by
  rw [G11_needWalk]
  by_cases h1 : a < 0
  · rw [if_pos h1, if_neg (show ¬ (0 ≤ a ∧ a ≤ 3) by omega)]
  · rw [if_neg h1]
    by_cases h2 : a < 4
    · rw [if_pos h2, if_pos (show 0 ≤ a ∧ a ≤ 3 by omega)]
    · rw [if_neg h2, if_neg (show ¬ (0 ≤ a ∧ a ≤ 3) by omega)]
theorem g11_needWithin {a b : Int} : G11_needWithin a b = some (if 0 ≤ a ∧ a ≤ b then none else some 0) := by
  rw [G11_needWithin]
  by_cases h1 : a < 0
  · rw [if_pos h1, if_neg (show ¬ (0 ≤ a ∧ a ≤ b) by omega)]
  · rw [if_neg h1]
    by_cases h2 : a ≤ b
    · rw [if_pos h2, if_pos (show 0 ≤ a ∧ a ≤ b by omega)]
    · rw [if_neg h2, if_neg (show ¬ (0 ≤ a ∧ a ≤ b) by omega)]
theorem g1_storeOf {C : xU} {m : Nat → Int} {w : Nat} (h : CR C m) (hw : w < 4) : G1_storeOf (w : Int) C = some (m (12 + w)) := by
  rw [G1_storeOf, if_neg (by omega), if_neg (by omega), x_gd_t ⟨by omega, by omega⟩]
  show some (C 2 w) = _
  rw [h.2.1 w hw]
theorem g1_seasonOf {C : xU} {m : Nat → Int} {f : Nat} (h : CR C m) (hi : Iv m) (hf : f < 16) : G1_seasonOf (f : Int) C = some (if m 7 = 4 then (f : Int) / 4 else m 7) := by
  rw [G1_seasonOf, h.1.2.2.2.2.2.1, x_div_pos ⟨by omega, by omega⟩ ⟨by decide, by decide⟩ (by decide) (by omega)]
  by_cases q : m 7 = 4
  · simp only [if_pos q]; rfl
  · simp only [if_neg q]; rfl
theorem g12_seasonOf {S : xU} {f : Nat} (hi : Iv (S 1)) (hf : f < 16) : G12_seasonOf (f : Int) S = some (if S 1 7 = 4 then (f : Int) / 4 else S 1 7) := by
  have h7 := hi.1.2.2.2.2.2.1
  rw [G12_seasonOf, x_div_pos ⟨by omega, by omega⟩ ⟨by decide, by decide⟩ (by decide) (by omega)]
  by_cases q : S 1 7 = 4
  · rw [if_pos (show 4 ≤ S 1 7 by omega), if_pos q]; rfl
  · rw [if_neg (show ¬ 4 ≤ S 1 7 by omega), if_neg q]; rfl
theorem g1_isLost {C : xU} {m : Nat → Int} {p : Nat} (h : CR C m) (hi : Iv m) (hp : (p : Int) < m 3) : G1_isLost (p : Int) C = some (if 0 < m (20 + 8 * p) then 1 else 0) := by
  rw [G1_isLost, g1_of4 h hi hp]
  by_cases q : 0 < m (20 + 8 * p)
  · rw [if_pos q, x_b1, Option.bind_some, if_neg (by omega)]; rfl
  · rw [if_neg q, x_b1, Option.bind_some, if_pos (by omega)]; rfl
theorem g12_isLost {S : xU} {p : Nat} (hp : p < 8) : G12_isLost (p : Int) S = some (if 0 < S 1 (20 + 8 * p) then 1 else 0) := by
  rw [G12_isLost, g12_of4 hp]
  by_cases q : 0 < S 1 (20 + 8 * p)
  · rw [if_pos q, x_b1, Option.bind_some, if_neg (by omega)]; rfl
  · rw [if_neg q, x_b1, Option.bind_some, if_pos (by omega)]; rfl
/-- a set told by a question -/
def bs (q : Nat → Bool) (n : Nat) : Nat := fo (fun p s => if q p then s ||| 2 ^ p else s) 0 n
theorem bs_lt (q : Nat → Bool) (n : Nat) : bs q n < 2 ^ n := by
  induction n with
  | zero => show 0 < 1; omega
  | succ n ih =>
    show (if q n then bs q n ||| 2 ^ n else bs q n) < 2 ^ (n + 1)
    have h2 : (2 : Nat) ^ n < 2 ^ (n + 1) := Nat.pow_lt_pow_right (by decide) (by omega)
    by_cases h : q n = true
    · rw [if_pos h]; exact Nat.or_lt_two_pow (by omega) h2
    · rw [if_neg h]; omega
theorem bs_bit (q : Nat → Bool) (n i : Nat) : (bs q n).testBit i = (decide (i < n) && q i) := by
  induction n with
  | zero => simp [bs, fo]
  | succ n ih =>
    show (if q n then bs q n ||| 2 ^ n else bs q n).testBit i = _
    by_cases e : n = i
    · subst e
      by_cases h : q n = true
      · rw [if_pos h, Nat.testBit_or, Nat.testBit_two_pow_self]; simp [h]
      · rw [if_neg h, ih]; simp at h; simp [h]
    · have e2 : decide (i < n + 1) = decide (i < n) := by
        apply decide_eq_decide.mpr; omega
      rw [e2, ← ih]
      by_cases h : q n = true
      · rw [if_pos h, Nat.testBit_or, Nat.testBit_two_pow]; simp [e]
      · rw [if_neg h]
theorem bs_congr {q q' : Nat → Bool} {n : Nat} (h : ∀ i, i < n → q i = q' i) : bs q n = bs q' n := by
  apply Nat.eq_of_testBit_eq
  intro i
  rw [bs_bit, bs_bit]
  by_cases hi : i < n
  · rw [h i hi]
  · simp [hi]
theorem w_bs {f : Int × Int → Option ((Int × Int) ⊕ Int)} (q : Nat → Bool) {n : Nat} (hn : n ≤ 30) (hs : ∀ j s : Nat, j < n → s < 2 ^ j → f ((s : Int), (j : Int)) = some (.inl ((((if q j then s ||| 2 ^ j else s) : Nat) : Int), ((j + 1 : Nat) : Int)))) (he : ∀ s : Nat, f ((s : Int), (n : Int)) = some (.inr (s : Int))) : whl xFU f (0, 0) = some ((bs q n : Nat) : Int) := by
  refine w_fo (em := fun j s => (((s : Nat) : Int), (j : Int))) (out := fun s => ((s : Nat) : Int)) (g := fun p s => if q p then s ||| 2 ^ p else s) (a := 0) n (by unfold xFU; omega) (fun j s => s < 2 ^ j) (by decide) ?_ hs (fun x _ => he x)
  intro j x hj hx
  have h2 : (2 : Nat) ^ j < 2 ^ (j + 1) := Nat.pow_lt_pow_right (by decide) (by omega)
  by_cases h : q j = true
  · simp only [if_pos h]; exact Nat.or_lt_two_pow (by omega) h2
  · simp only [if_neg h]; omega
theorem p31 {j : Nat} (h : j ≤ 30) : 2 ^ j < 2147483648 := Nat.lt_of_le_of_lt (Nat.pow_le_pow_right (by decide) h) (by decide)
/-- a turn of a set's loop, as the class does it, and as the reference does it -/
theorem n_bsC {s j : Nat} {c : Bool} (hj : j < 30) (hs : s < 2 ^ j) : (if (if c then (1 : Int) else 0) = 0 then some (s : Int) else some (x_or (s : Int) (x_shl 1 (j : Int)))) = some (((if c then s ||| 2 ^ j else s : Nat)) : Int) := by
  have := p31 (show j ≤ 30 by omega)
  cases c
  · rfl
  · show some (x_or (s : Int) (x_shl 1 (j : Int))) = some (((s ||| 2 ^ j : Nat)) : Int)
    rw [n_set (by omega) (by omega)]
theorem n_bsR {s j : Nat} {c : Bool} (hj : j < 30) (hs : s < 2 ^ j) : x_or (s : Int) (if c then x_shl 1 (j : Int) else 0) = (((if c then s ||| 2 ^ j else s : Nat)) : Int) := by
  have := p31 (show j ≤ 30 by omega)
  cases c
  · exact n_or0 (by omega)
  · exact n_set (by omega) (by omega)
