/-! Tokens: the class reads one ahead, the reference reads where it is. -/
/-- how many in a row are of a kind -/
def rc (bt : Nat → Int) (k : Int) : Nat → Nat → Nat
  | 0, _ => 0
  | d + 1, q => if kd (bt q) = k then rc bt k d (q + 1) + 1 else 0
theorem rc_spec {bt : Nat → Int} {k : Int} : ∀ d q, (∀ j, j < rc bt k d q → kd (bt (q + j)) = k) ∧ rc bt k d q ≤ d ∧ (rc bt k d q < d → kd (bt (q + rc bt k d q)) ≠ k) := by
  intro d
  induction d with
  | zero => intro q; exact ⟨fun j hj => absurd hj (by show ¬ j < 0; omega), Nat.le_refl _, fun h => absurd h (by show ¬ 0 < 0; omega)⟩
  | succ d ih =>
    intro q
    obtain ⟨h1, h2, h3⟩ := ih (q + 1)
    by_cases z : kd (bt q) = k
    · have e : rc bt k (d + 1) q = rc bt k d (q + 1) + 1 := if_pos z
      rw [e]
      refine ⟨fun j hj => ?_, by omega, fun h => ?_⟩
      · cases j with
        | zero => exact z
        | succ j => have := h1 j (by omega); rw [show q + (j + 1) = q + 1 + j by omega]; exact this
      · have := h3 (by omega); rw [show q + (rc bt k d (q + 1) + 1) = q + 1 + rc bt k d (q + 1) by omega]; exact this
    · have e : rc bt k (d + 1) q = 0 := if_neg z
      rw [e]
      exact ⟨fun j hj => absurd hj (by omega), by omega, fun _ => z⟩
theorem kd_bd {v : Int} : 1 ≤ kd v ∧ kd v ≤ 4 := by
  unfold kd
  by_cases h1 : 97 ≤ v ∧ v ≤ 122
  · rw [if_pos h1]; decide
  · rw [if_neg h1]
    by_cases h2 : 48 ≤ v ∧ v ≤ 57
    · rw [if_pos h2]; decide
    · rw [if_neg h2]
      by_cases h3 : v = 32
      · rw [if_pos h3]; decide
      · rw [if_neg h3]; decide
theorem kd_2 {v : Int} : kd v = 2 ↔ 97 ≤ v ∧ v ≤ 122 := by
  unfold kd
  by_cases h1 : 97 ≤ v ∧ v ≤ 122
  · rw [if_pos h1]; simp [h1]
  · rw [if_neg h1]
    by_cases h2 : 48 ≤ v ∧ v ≤ 57
    · rw [if_pos h2]; simp [h1]
    · rw [if_neg h2]
      by_cases h3 : v = 32
      · rw [if_pos h3]; simp [h1]
      · rw [if_neg h3]; simp [h1]
theorem kd_3 {v : Int} : kd v = 3 ↔ 48 ≤ v ∧ v ≤ 57 := by
  unfold kd
  by_cases h1 : 97 ≤ v ∧ v ≤ 122
  · rw [if_pos h1]; constructor <;> intro h <;> omega
  · rw [if_neg h1]
    by_cases h2 : 48 ≤ v ∧ v ≤ 57
    · rw [if_pos h2]; simp [h2]
    · rw [if_neg h2]
      by_cases h3 : v = 32
      · rw [if_pos h3]; simp [h2]
      · rw [if_neg h3]; simp [h2]
theorem kd_1 {v : Int} : kd v = 1 ↔ v = 32 := by
  unfold kd
  by_cases h1 : 97 ≤ v ∧ v ≤ 122
  · rw [if_pos h1]; constructor <;> intro h <;> omega
  · rw [if_neg h1]
    by_cases h2 : 48 ≤ v ∧ v ≤ 57
    · rw [if_pos h2]; constructor <;> intro h <;> omega
    · rw [if_neg h2]
      by_cases h3 : v = 32
      · rw [if_pos h3]; simp [h3]
      · rw [if_neg h3]; simp [h3]
section TOK
variable (n : Nat) (bt : Nat → Int)
/-- where the next token begins, its kind, its end, its sign -/
def sk (q : Nat) : Nat := q + rc bt 1 (n - q) q
def kA (q : Nat) : Int := if q < n then kd (bt q) else 0
def en (q : Nat) : Nat := if q < n then (if kd (bt q) = 4 then q + 1 else q + rc bt (kd (bt q)) (n - q) q) else q
def sg (q : Nat) : Int := if q < n ∧ kd (bt q) = 4 then bt q else -1
/-- the bytes of the class -/
def TB (T : xU) : Prop := T 0 2 = (n : Int) ∧ ∀ i, i < n → T 1 i = bt i ∧ T 2 i = kd (bt i)
/-- the class has read a token ahead -/
def TK (T : xU) (q : Nat) (f : Int) : Prop := TB n bt T ∧ q ≤ n ∧ T 0 3 = (q : Int) ∧ T 0 4 = (en n bt q : Int) ∧ T 0 5 = kA n bt q ∧ T 0 6 = sg n bt q ∧ T 0 7 = f ∧ kA n bt q ≠ 1
end TOK
section TOK2
variable {n : Nat} {bt : Nat → Int} {T S : xU} {q : Nat} {f : Int}
theorem sk_le (h : q ≤ n) : sk n bt q ≤ n := by have := (rc_spec (bt := bt) (k := 1) (n - q) q).2.1; unfold sk; omega
theorem sk_ge : q ≤ sk n bt q := by unfold sk; omega
theorem sk_kA (h : q ≤ n) : kA n bt (sk n bt q) ≠ 1 := by
  obtain ⟨h1, h2, h3⟩ := rc_spec (bt := bt) (k := 1) (n - q) q
  unfold kA
  by_cases z : sk n bt q < n
  · rw [if_pos z]
    unfold sk at z ⊢
    exact h3 (by omega)
  · rw [if_neg z]; decide
theorem en_le (h : q ≤ n) : en n bt q ≤ n := by
  unfold en
  by_cases z : q < n
  · rw [if_pos z]
    by_cases z2 : kd (bt q) = 4
    · rw [if_pos z2]; omega
    · rw [if_neg z2]; have := (rc_spec (bt := bt) (k := kd (bt q)) (n - q) q).2.1; omega
  · rw [if_neg z]; exact h
theorem en_ge : q ≤ en n bt q := by
  unfold en
  by_cases z : q < n
  · rw [if_pos z]
    by_cases z2 : kd (bt q) = 4
    · rw [if_pos z2]; omega
    · rw [if_neg z2]; omega
  · rw [if_neg z]; exact Nat.le_refl _
theorem sk_id (h : kA n bt q ≠ 1) : sk n bt q = q := by
  unfold sk
  by_cases z : q < n
  · obtain ⟨d, hd⟩ : ∃ d, n - q = d + 1 := ⟨n - q - 1, by omega⟩
    rw [hd]
    have : rc bt 1 (d + 1) q = 0 := if_neg (by unfold kA at h; rw [if_pos z] at h; exact h)
    rw [this]; rfl
  · rw [show n - q = 0 by omega]; rfl
/-- the token is not empty -/
theorem en_gt (h : q < n) : q < en n bt q := by
  unfold en
  rw [if_pos h]
  by_cases z2 : kd (bt q) = 4
  · rw [if_pos z2]; omega
  · rw [if_neg z2]
    obtain ⟨d, hd⟩ : ∃ d, n - q = d + 1 := ⟨n - q - 1, by omega⟩
    rw [hd]
    have : rc bt (kd (bt q)) (d + 1) q = rc bt (kd (bt q)) d (q + 1) + 1 := if_pos rfl
    rw [this]; omega
theorem TB.up {i : Nat} {v : Int} (h : TB n bt T) (hi : i ≠ 2) : TB n bt (x_up T 0 i v) := by
  refine ⟨?_, fun j hj => ?_⟩
  · rw [up_i (fun z => hi z.symm)]; exact h.1
  · rw [up_o (by decide), up_o (by decide)]; exact h.2 j hj
theorem up_up {S : xU} {o i : Nat} {v w : Int} : x_up (x_up S o i v) o i w = x_up S o i w := by
  funext a b
  unfold x_up
  by_cases z : a = o ∧ b = i
  · rw [if_pos z, if_pos z]
  · rw [if_neg z, if_neg z, if_neg z]
/-- the class reads the next token -/
theorem c_next {e : Nat} (hn : n ≤ 400) (hB : TB n bt T) (h4 : T 0 4 = (e : Int)) (h7 : T 0 7 = f) (he : e ≤ n) : ∃ T', G10_readNext T = some T' ∧ TK n bt T' (sk n bt e) f := by
  obtain ⟨r1, r2, r3⟩ := rc_spec (bt := bt) (k := 1) (n - e) e
  have hle := sk_le (bt := bt) he
  have w1 : whl xFU G10_readNext_L8 (x_up T 0 3 (T 0 4)) = some (x_up T 0 3 (sk n bt e : Int)) := by
    rw [h4]
    refine w_run (fun j => x_up T 0 3 ((e + j : Nat) : Int)) (rc bt 1 (n - e) e) (by unfold xFU; omega) (fun j hj => ?_) ?_
    · have hb := hB.2 (e + j) (by omega)
      rw [G10_readNext_L8, up_s, if_neg (by omega), up_i (by decide), hB.1, if_neg (by omega), if_neg (by omega), x_gd_t ⟨by omega, by omega⟩, Int.toNat_natCast, up_o (by decide), hb.2, r1 j hj, if_pos rfl, n_inc (by omega), up_up]
      rfl
    · rw [G10_readNext_L8, up_s, if_neg (by omega), up_i (by decide), hB.1]
      by_cases z : rc bt 1 (n - e) e < n - e
      · have hb := hB.2 (e + rc bt 1 (n - e) e) (by omega)
        rw [if_neg (by omega), if_neg (by omega), x_gd_t ⟨by omega, by omega⟩, Int.toNat_natCast, up_o (by decide), hb.2, if_neg (r3 z)]
        rfl
      · rw [if_pos (by omega)]
        rfl
  have hk1 := sk_kA (n := n) (bt := bt) he
  generalize hq : sk n bt e = q at *
  have B3 : TB n bt (x_up (x_up (x_up (x_up T 0 3 (q : Int)) 0 4 (q : Int)) 0 5 0) 0 6 (-1)) := (((hB.up (by decide)).up (by decide)).up (by decide)).up (by decide)
  have e23 : x_up T 0 3 (q : Int) 0 3 = (q : Int) := up_s
  have c3 : x_up (x_up (x_up (x_up T 0 3 (q : Int)) 0 4 (q : Int)) 0 5 0) 0 6 (-1) 0 3 = (q : Int) := by rw [up_i (by decide), up_i (by decide), up_i (by decide), up_s]
  have c7 : x_up (x_up (x_up (x_up T 0 3 (q : Int)) 0 4 (q : Int)) 0 5 0) 0 6 (-1) 0 7 = f := by rw [up_i (by decide), up_i (by decide), up_i (by decide), up_i (by decide), h7]
  have c4 : x_up (x_up (x_up (x_up T 0 3 (q : Int)) 0 4 (q : Int)) 0 5 0) 0 6 (-1) 0 4 = (q : Int) := by rw [up_i (by decide), up_i (by decide), up_s]
  have c5 : x_up (x_up (x_up (x_up T 0 3 (q : Int)) 0 4 (q : Int)) 0 5 0) 0 6 (-1) 0 5 = 0 := by rw [up_i (by decide), up_s]
  have c6 : x_up (x_up (x_up (x_up T 0 3 (q : Int)) 0 4 (q : Int)) 0 5 0) 0 6 (-1) 0 6 = -1 := up_s
  rw [G10_readNext, w1, x_b1s, e23]
  generalize x_up (x_up (x_up (x_up T 0 3 (q : Int)) 0 4 (q : Int)) 0 5 0) 0 6 (-1) = T3 at *
  rw [c3, B3.1, if_neg (by omega)]
  by_cases z : q < n
  · have hb := B3.2 q z
    rw [if_neg (by omega), if_neg (by omega), x_gd_t ⟨by omega, by omega⟩, Int.toNat_natCast, hb.2, up_s]
    have kq := kd_bd (v := bt q)
    have g5 : ∀ v w : Int, x_up (x_up T3 0 5 v) 0 6 w 0 5 = v := fun v w => by rw [up_i (by decide), up_s]
    have g4 : ∀ v w : Int, x_up (x_up T3 0 5 v) 0 6 w 0 4 = (q : Int) := fun v w => by rw [up_i (by decide), up_i (by decide), c4]
    have ekA : kA n bt q = kd (bt q) := by unfold kA; rw [if_pos z]
    by_cases z4 : kd (bt q) = 4
    · have b3 : x_up T3 0 5 (kd (bt q)) 0 3 = (q : Int) := (up_i (by decide)).trans c3
      have b1 : x_up T3 0 5 (kd (bt q)) 1 q = bt q := by rw [up_o (by decide)]; exact hb.1
      rw [if_pos z4, b3, x_gd_t ⟨by omega, by omega⟩, Int.toNat_natCast, b1, x_b1s, x_b1s, g5, if_pos z4, g4, x_b1s, n_inc (by omega)]
      refine ⟨_, rfl, ((B3.up (by decide)).up (by decide)).up (by decide), hle, ?_, ?_, ?_, ?_, ?_, hk1⟩
      · rw [up_i (by decide), up_i (by decide), up_i (by decide), c3]
      · rw [up_s]; unfold en; rw [if_pos z, if_pos z4]
      · rw [up_i (by decide), g5, ekA]
      · rw [up_i (by decide), up_s]; unfold sg; rw [if_pos ⟨z, z4⟩]
      · rw [up_i (by decide), up_i (by decide), up_i (by decide), c7]
    · rw [if_neg z4, x_b1s, x_b1s, g5, if_neg z4, if_neg (by omega)]
      obtain ⟨p1, p2, p3⟩ := rc_spec (bt := bt) (k := kd (bt q)) (n - q) q
      have B5 : TB n bt (x_up (x_up T3 0 5 (kd (bt q))) 0 6 (-1)) := (B3.up (by decide)).up (by decide)
      have w2 : whl xFU G10_readNext_L174 (x_up (x_up T3 0 5 (kd (bt q))) 0 6 (-1)) = some (x_up (x_up (x_up T3 0 5 (kd (bt q))) 0 6 (-1)) 0 4 (en n bt q : Int)) := by
        have e0 : x_up (x_up T3 0 5 (kd (bt q))) 0 6 (-1) = x_up (x_up (x_up T3 0 5 (kd (bt q))) 0 6 (-1)) 0 4 ((q + 0 : Nat) : Int) := (up_id (g4 _ _)).symm
        have ee : en n bt q = q + rc bt (kd (bt q)) (n - q) q := by unfold en; rw [if_pos z, if_neg z4]
        rw [ee]
        conv => lhs; rw [e0]
        refine w_run (fun j => x_up (x_up (x_up T3 0 5 (kd (bt q))) 0 6 (-1)) 0 4 ((q + j : Nat) : Int)) (rc bt (kd (bt q)) (n - q) q) (by unfold xFU; omega) (fun j hj => ?_) ?_
        · have hb2 := B5.2 (q + j) (by omega)
          rw [G10_readNext_L174, up_s, up_i (by decide), B5.1, if_neg (by omega), if_neg (by omega), x_gd_t ⟨by omega, by omega⟩, Int.toNat_natCast, up_o (o' := 2) (by decide), hb2.2, up_i (j := 5) (by decide), g5, p1 j hj, if_pos rfl, n_inc (by omega), up_up]
          rfl
        · rw [G10_readNext_L174, up_s, up_i (by decide), B5.1]
          by_cases z5 : rc bt (kd (bt q)) (n - q) q < n - q
          · have hb2 := B5.2 (q + rc bt (kd (bt q)) (n - q) q) (by omega)
            rw [if_neg (by omega), if_neg (by omega), x_gd_t ⟨by omega, by omega⟩, Int.toNat_natCast, up_o (o' := 2) (by decide), hb2.2, up_i (j := 5) (by decide), g5, if_neg (p3 z5)]
          · rw [if_pos (by omega)]
      rw [w2, x_b1s, x_b1s]
      refine ⟨_, rfl, B5.up (by decide), hle, ?_, up_s, ?_, ?_, ?_, hk1⟩
      · rw [up_i (by decide), up_i (by decide), up_i (by decide), c3]
      · rw [up_i (by decide), g5, ekA]
      · rw [up_i (by decide), up_s]; unfold sg; rw [if_neg (fun y => z4 y.2)]
      · rw [up_i (by decide), up_i (by decide), up_i (by decide), c7]
  · have hqn : q = n := by omega
    rw [if_pos (by omega), x_b1s, c5, if_neg (by decide), if_pos rfl, x_b1s]
    refine ⟨_, rfl, B3, hle, c3, ?_, ?_, ?_, c7, hk1⟩
    · rw [c4]; unfold en; rw [if_neg z]
    · rw [c5]; unfold kA; rw [if_neg z]
    · rw [c6]; unfold sg; rw [if_neg (fun y => z y.1)]
theorem c_refuse (h : TK n bt T q f) : ∃ T', G10_refuse T = some T' ∧ TK n bt T' q (if f = -1 then (q : Int) else f) := by
  obtain ⟨a1, a2, a3, a4, a5, a6, a7, a8⟩ := h
  rw [G10_refuse, a7]
  by_cases z : f = -1
  · rw [if_pos z, if_pos z, a3]
    exact ⟨_, rfl, a1.up (by decide), a2, (up_i (by decide)).trans a3, (up_i (by decide)).trans a4, (up_i (by decide)).trans a5, (up_i (by decide)).trans a6, up_s, a8⟩
  · rw [if_neg z, if_neg z]
    exact ⟨_, rfl, a1, a2, a3, a4, a5, a6, a7, a8⟩
/-- the reference's letters -/
def LT (n : Nat) (bt : Nat → Int) (S : xU) : Prop := S 0 10 = (n : Int) ∧ (S 0 9 = -1 ∧ (∀ i, i < n → S 5 i = bt i) ∨ S 0 9 = 372 ∧ ∀ i, i < n → S 1 (372 + i) = bt i)
theorem g12_letter {i : Nat} (hn : n ≤ 400) (h : LT n bt S) (hi : i < n) : G12_letter (i : Int) S = some (bt i) := by
  rw [G12_letter]
  rcases h.2 with ⟨h1, h2⟩ | ⟨h1, h2⟩
  · rw [if_pos h1, x_gd_t ⟨by omega, by omega⟩, Int.toNat_natCast, h2 i hi, x_b1s]
  · rw [if_neg (by omega), h1, show x_add 372 (i : Int) = ((372 + i : Nat) : Int) from n_add (a := 372) (by omega), x_gd_t ⟨by omega, by omega⟩, Int.toNat_natCast, h2 i hi, x_b1s]
theorem LT.up {i : Nat} {v : Int} (h : LT n bt S) (h9 : i ≠ 9) (h10 : i ≠ 10) : LT n bt (x_up S 0 i v) := by
  refine ⟨(up_i (fun z => h10 z.symm)).trans h.1, ?_⟩
  rw [up_i (fun z => h9 z.symm), up_o (by decide), up_o (by decide)]
  exact h.2
theorem r_skip {p : Nat} (hn : n ≤ 400) (hL : LT n bt S) (hp : S 0 11 = (p : Int)) (hpn : p ≤ n) : G12_skip S = some (x_up S 0 11 (sk n bt p : Int)) := by
  obtain ⟨r1, r2, r3⟩ := rc_spec (bt := bt) (k := 1) (n - p) p
  have e0 : S = x_up S 0 11 ((p + 0 : Nat) : Int) := (up_id hp).symm
  have w : whl xFU G12_skip_L0 S = some (x_up S 0 11 (sk n bt p : Int)) := by
    conv => lhs; rw [e0]
    refine w_run (fun j => x_up S 0 11 ((p + j : Nat) : Int)) (rc bt 1 (n - p) p) (by unfold xFU; omega) (fun j hj => ?_) ?_
    · have hl := g12_letter (S := x_up S 0 11 ((p + j : Nat) : Int)) (i := p + j) hn (hL.up (by decide) (by decide)) (by omega)
      rw [G12_skip_L0, up_s, up_i (by decide), hL.1, if_neg (by omega), hl, x_b1s, kd_1.mp (r1 j hj), if_pos rfl, n_inc (by omega), up_up]
      rfl
    · rw [G12_skip_L0, up_s, up_i (by decide), hL.1]
      by_cases z : rc bt 1 (n - p) p < n - p
      · have hl := g12_letter (S := x_up S 0 11 ((p + rc bt 1 (n - p) p : Nat) : Int)) (i := p + rc bt 1 (n - p) p) hn (hL.up (by decide) (by decide)) (by omega)
        rw [if_neg (by omega), hl, x_b1s, if_neg (fun y => r3 z (kd_1.mpr y))]
        rfl
      · rw [if_pos (by omega)]
        rfl
  rw [G12_skip, w, x_b1s]
end TOK2
