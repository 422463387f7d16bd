/-! Words, signs and numbers of both. -/
section WRD
variable {n : Nat} {bt : Nat → Int} {T S : xU} {q p : Nat} {f : Int}
/-- whether a token is a word -/
def wm (n : Nat) (bt : Nat → Int) (k q : Nat) : Bool := decide (kA n bt q = 2 ∧ en n bt q = q + x_sl.getD k 0 ∧ ∀ i, i < x_sl.getD k 0 → bt (q + i) = x_ch k (i : Int))
theorem kA_lt (h : kA n bt q ≠ 0) : q < n := by
  unfold kA at h
  by_cases z : q < n
  · exact z
  · rw [if_neg z] at h; exact absurd rfl h
theorem c_isWord {k : Nat} (hn : n ≤ 400) (h : TK n bt T q f) : G10_isWord k T = some (if wm n bt k q then 1 else 0) := by
  obtain ⟨a1, a2, a3, a4, a5, a6, a7, a8⟩ := h
  have hen := en_le (n := n) (bt := bt) a2
  have heg := en_ge (n := n) (bt := bt) (q := q)
  rw [G10_isWord, a5]
  by_cases z : kA n bt q = 2
  · rw [if_pos z, a4, a3, x_sub_of ⟨by omega, by omega⟩]
    have hqn := kA_lt (n := n) (bt := bt) (q := q) (by omega)
    by_cases z2 : en n bt q = q + x_sl.getD k 0
    · rw [if_pos (by omega)]
      have key : ∀ d i fuel, i + d = x_sl.getD k 0 → d < fuel → (∀ j, j < i → bt (q + j) = x_ch k (j : Int)) → x_lr (whl fuel (G10_isWord_L28 k T) (i : Int)) (fun (z : Unit) => x_e1 z fun (_q : Unit) => (some (1 : Int))) (fun (z : Int) => some z) = some (if wm n bt k q then 1 else 0) := by
        intro d
        induction d with
        | zero =>
          intro i fuel hi hf hj
          cases fuel with
          | zero => omega
          | succ fuel =>
            have e1 : G10_isWord_L28 k T (i : Int) = some (.inr (.inl ())) := by rw [G10_isWord_L28, if_pos (by omega)]
            have e2 : wm n bt k q = true := decide_eq_true ⟨z, z2, fun j h1 => hj j (by omega)⟩
            rw [whl, e1, e2, if_pos rfl]
            rfl
        | succ d ih =>
          intro i fuel hi hf hj
          cases fuel with
          | zero => omega
          | succ fuel =>
            have hb := a1.2 (q + i) (by omega)
            have e1 : G10_isWord_L28 k T (i : Int) = if x_ch k (i : Int) = bt (q + i) then some (.inl ((i + 1 : Nat) : Int)) else some (.inr (.inr 0)) := by
              rw [G10_isWord_L28, if_neg (by omega), a3, n_add (by omega), if_neg (by omega), if_neg (by omega), x_gd_t ⟨by omega, by omega⟩, x_gd_t ⟨by omega, by omega⟩, Int.toNat_natCast, hb.1, n_inc (by omega)]
            by_cases z3 : x_ch k (i : Int) = bt (q + i)
            · rw [if_pos z3] at e1
              rw [whl, e1]
              exact ih (i + 1) fuel (by omega) (by omega) (fun j h1 => by
                by_cases e : j = i
                · subst e; exact z3.symm
                · exact hj j (by omega))
            · rw [if_neg z3] at e1
              have e2 : wm n bt k q = false := decide_eq_false (fun y => z3 (y.2.2 i (by omega)).symm)
              rw [whl, e1, e2, if_neg (by decide)]
              rfl
      exact key (x_sl.getD k 0) 0 xFU (by omega) (by unfold xFU; omega) (fun j h1 => absurd h1 (by omega))
    · rw [if_neg (by omega), if_neg (by
        have : wm n bt k q = false := decide_eq_false (fun y => z2 y.2.1)
        rw [this]; decide)]
  · rw [if_neg z, if_neg (by
      have : wm n bt k q = false := decide_eq_false (fun y => z y.1)
      rw [this]; decide)]
theorem c_takeWord {k : Nat} (hn : n ≤ 400) (h : TK n bt T q f) : ∃ T', G10_takeWord k T = some ((if wm n bt k q then 1 else 0), T') ∧ TK n bt T' (if wm n bt k q then sk n bt (en n bt q) else q) f := by
  rw [G10_takeWord, c_isWord hn h, x_b1s]
  by_cases z : wm n bt k q = true
  · rw [if_pos z, if_pos z, if_neg (by decide)]
    obtain ⟨T', e1, e2⟩ := c_next hn h.1 h.2.2.2.1 h.2.2.2.2.2.2.1 (en_le h.2.1)
    exact ⟨T', by rw [e1, x_b1s, x_b1s, x_gd_t (by decide)], e2⟩
  · rw [if_neg z, if_neg z, if_pos rfl]
    exact ⟨T, by rw [x_b1s, x_gd_t (by decide)], h⟩
theorem c_expectWord {k : Nat} (hn : n ≤ 400) (h : TK n bt T q f) : ∃ T', G10_expectWord k T = some T' ∧ TK n bt T' (if wm n bt k q then sk n bt (en n bt q) else q) (if wm n bt k q then f else if f = -1 then (q : Int) else f) := by
  obtain ⟨T1, e1, e2⟩ := c_takeWord (k := k) hn h
  rw [G10_expectWord, e1, x_b2s]
  by_cases z : wm n bt k q = true
  · rw [if_pos z] at e2
    rw [if_pos z, if_pos z, if_pos z, if_neg (by decide), x_b1s]
    exact ⟨T1, rfl, e2⟩
  · rw [if_neg z] at e2
    rw [if_neg z, if_neg z, if_neg z, if_pos rfl]
    obtain ⟨T2, e3, e4⟩ := c_refuse e2
    exact ⟨T2, by rw [e3, x_b1s, x_b1s], e4⟩
/-- the reference asks for a word -/
theorem r_has {k : Nat} (hn : n ≤ 400) (hL : LT n bt S) (hp : S 0 11 = (p : Int)) (hpn : p ≤ n) (hk : 0 < x_sl.getD k 0) : G12_has k S = some (if wm n bt k (sk n bt p) then (1, x_up S 0 11 (en n bt (sk n bt p) : Int)) else (0, x_up S 0 11 (sk n bt p : Int))) := by
  rw [G12_has, r_skip hn hL hp hpn, x_b1s, up_s]
  have hqn := sk_le (bt := bt) hpn
  have hk1 := sk_kA (n := n) (bt := bt) hpn
  generalize sk n bt p = q at *
  have hL1 : LT n bt (x_up S 0 11 (q : Int)) := hL.up (by decide) (by decide)
  obtain ⟨r1, r2, r3⟩ := rc_spec (bt := bt) (k := 2) (n - q) q
  have w1 : whl xFU (G12_has_L9 (x_up S 0 11 (q : Int))) (q : Int) = some ((q + rc bt 2 (n - q) q : Nat) : Int) := by
    have e0 : (q : Int) = ((q + 0 : Nat) : Int) := rfl
    conv => lhs; rw [e0]
    refine w_run (fun j => ((q + j : Nat) : Int)) (rc bt 2 (n - q) q) (by unfold xFU; omega) (fun j hj => ?_) ?_
    · have hl := g12_letter (i := q + j) hn hL1 (by omega)
      have h97 := kd_2.mp (r1 j hj)
      rw [Nat.add_zero, G12_has_L9, hL1.1, if_neg (by omega), hl, x_b1s, g12_isIn, if_pos h97, x_b1s, if_neg (by decide), n_inc (by omega)]
      rfl
    · rw [Nat.add_zero, G12_has_L9, hL1.1]
      by_cases z : rc bt 2 (n - q) q < n - q
      · have hl := g12_letter (i := q + rc bt 2 (n - q) q) hn hL1 (by omega)
        rw [if_neg (by omega), hl, x_b1s, g12_isIn, if_neg (fun y => r3 z (kd_2.mpr y)), x_b1s, if_pos rfl]
      · rw [if_pos (by omega)]
  rw [w1, x_b1s, x_sub_of ⟨by omega, by omega⟩]
  have hen : kA n bt q = 2 → en n bt q = q + rc bt 2 (n - q) q := fun z => by
    have hq := kA_lt (n := n) (bt := bt) (q := q) (by omega)
    unfold kA at z
    rw [if_pos hq] at z
    unfold en
    rw [if_pos hq, z, if_neg (by decide)]
  have hno : kA n bt q ≠ 2 → rc bt 2 (n - q) q = 0 := fun z => by
    by_cases hq : q < n
    · unfold kA at z
      rw [if_pos hq] at z
      obtain ⟨d, hd⟩ : ∃ d, n - q = d + 1 := ⟨n - q - 1, by omega⟩
      rw [hd]
      exact if_neg z
    · rw [show n - q = 0 by omega]; rfl
  by_cases z : kA n bt q = 2
  · have he := hen z
    by_cases z2 : en n bt q = q + x_sl.getD k 0
    · rw [if_pos (by omega)]
      have key : ∀ d i fuel, i + d = x_sl.getD k 0 → d < fuel → (∀ j, j < i → bt (q + j) = x_ch k (j : Int)) → x_lr (whl fuel (G12_has_L55 k (x_up S 0 11 (q : Int))) (i : Int)) (fun (y : Unit) => x_e1 y fun (_q : Unit) => (some ((1 : Int), x_up (x_up S 0 11 (q : Int)) 0 11 ((q + rc bt 2 (n - q) q : Nat) : Int)))) (fun (y : Int × xU) => some y) = some (if wm n bt k q then (1, x_up S 0 11 (en n bt q : Int)) else (0, x_up S 0 11 (q : Int))) := by
        intro d
        induction d with
        | zero =>
          intro i fuel hi hf hj
          cases fuel with
          | zero => omega
          | succ fuel =>
            have e1 : G12_has_L55 k (x_up S 0 11 (q : Int)) (i : Int) = some (.inr (.inl ())) := by rw [G12_has_L55, if_pos (by omega)]
            have e2 : wm n bt k q = true := decide_eq_true ⟨z, z2, fun j h1 => hj j (by omega)⟩
            rw [whl, e1, e2, if_pos rfl, he]
            show some ((1 : Int), x_up (x_up S 0 11 (q : Int)) 0 11 ((q + rc bt 2 (n - q) q : Nat) : Int)) = _
            rw [up_up]
        | succ d ih =>
          intro i fuel hi hf hj
          cases fuel with
          | zero => omega
          | succ fuel =>
            have hl := g12_letter (i := q + i) hn hL1 (by omega)
            have e1 : G12_has_L55 k (x_up S 0 11 (q : Int)) (i : Int) = if bt (q + i) = x_ch k (i : Int) then some (.inl ((i + 1 : Nat) : Int)) else some (.inr (.inr (0, x_up S 0 11 (q : Int)))) := by
              rw [G12_has_L55, if_neg (by omega), up_s, n_add (by omega), hl, x_b1s, x_gd_t ⟨by omega, by omega⟩, n_inc (by omega)]
            by_cases z3 : bt (q + i) = x_ch k (i : Int)
            · rw [if_pos z3] at e1
              rw [whl, e1]
              exact ih (i + 1) fuel (by omega) (by omega) (fun j h1 => by
                by_cases e : j = i
                · subst e; exact z3
                · exact hj j (by omega))
            · rw [if_neg z3] at e1
              have e2 : wm n bt k q = false := decide_eq_false (fun y => z3 (y.2.2 i (by omega)))
              rw [whl, e1, e2, if_neg (by decide)]
              rfl
      exact key (x_sl.getD k 0) 0 xFU (by omega) (by unfold xFU; omega) (fun j h1 => absurd h1 (by omega))
    · have : wm n bt k q = false := decide_eq_false (fun y => z2 y.2.1)
      rw [if_neg (by omega), this, if_neg (by decide)]
  · have : wm n bt k q = false := decide_eq_false (fun y => z y.1)
    have h0 := hno z
    rw [if_neg (by omega), this, if_neg (by decide)]
/-- signs -/
theorem c_isSign {a : Int} (h4 : kd a = 4) (ha : a ≠ -1) (h : TK n bt T q f) : G10_isSign a T = some (if decide (q < n ∧ bt q = a) then 1 else 0) := by
  have e : (T 0 6 = a) ↔ (q < n ∧ bt q = a) := by
    rw [h.2.2.2.2.2.1]
    unfold sg
    constructor
    · intro z
      by_cases y : q < n ∧ kd (bt q) = 4
      · rw [if_pos y] at z; exact ⟨y.1, z⟩
      · rw [if_neg y] at z; exact absurd z.symm ha
    · intro z
      rw [if_pos ⟨z.1, by rw [z.2]; exact h4⟩]
      exact z.2
  rw [G10_isSign]
  by_cases z : q < n ∧ bt q = a
  · rw [if_pos (e.mpr z), if_pos (decide_eq_true z), x_b1s, x_gd_t (by decide)]
  · rw [if_neg (fun y => z (e.mp y)), if_neg (by simpa using z), x_b1s, x_gd_t (by decide)]
theorem r_isSign {a : Int} (hn : n ≤ 400) (hL : LT n bt S) (hp : S 0 11 = (p : Int)) (hpn : p ≤ n) : G12_isSign a S = some ((if decide (sk n bt p < n ∧ bt (sk n bt p) = a) then 1 else 0), x_up S 0 11 (sk n bt p : Int)) := by
  rw [G12_isSign, r_skip hn hL hp hpn, x_b1s, up_s, up_i (by decide), hL.1]
  have hqn := sk_le (bt := bt) hpn
  generalize sk n bt p = q at *
  by_cases z : q < n
  · have hl := g12_letter (S := x_up S 0 11 (q : Int)) (i := q) hn (hL.up (by decide) (by decide)) z
    rw [if_neg (by omega), hl, x_b1s]
    by_cases z2 : bt q = a
    · rw [if_pos z2, x_b1s, x_gd_t (by decide), if_pos (decide_eq_true ⟨z, z2⟩)]
    · rw [if_neg z2, x_b1s, x_gd_t (by decide), if_neg (by simp [z2])]
  · rw [if_pos (by omega), x_b1s, x_gd_t (by decide), if_neg (by simp [z])]
theorem c_takeSign {a : Int} (h4 : kd a = 4) (ha : a ≠ -1) (hn : n ≤ 400) (h : TK n bt T q f) : ∃ T', G10_takeSign a T = some ((if decide (q < n ∧ bt q = a) then 1 else 0), T') ∧ TK n bt T' (if decide (q < n ∧ bt q = a) then sk n bt (q + 1) else q) f := by
  rw [G10_takeSign, c_isSign h4 ha h, x_b1s]
  by_cases z : decide (q < n ∧ bt q = a) = true
  · have y := of_decide_eq_true z
    rw [if_pos z, if_pos z, if_neg (by decide)]
    obtain ⟨T', e1, e2⟩ := c_next hn h.1 h.2.2.2.1 h.2.2.2.2.2.2.1 (en_le h.2.1)
    have ee : en n bt q = q + 1 := by unfold en; rw [if_pos y.1, y.2, if_pos h4]
    rw [ee] at e2
    exact ⟨T', by rw [e1, x_b1s, x_b1s, x_gd_t (by decide)], e2⟩
  · rw [if_neg z, if_neg z, if_pos rfl]
    exact ⟨T, by rw [x_b1s, x_gd_t (by decide)], h⟩
theorem c_expectSign {a : Int} (h4 : kd a = 4) (ha : a ≠ -1) (hn : n ≤ 400) (h : TK n bt T q f) : ∃ T', G10_expectSign a T = some T' ∧ TK n bt T' (if decide (q < n ∧ bt q = a) then sk n bt (q + 1) else q) (if decide (q < n ∧ bt q = a) then f else if f = -1 then (q : Int) else f) := by
  obtain ⟨T1, e1, e2⟩ := c_takeSign h4 ha hn h
  rw [G10_expectSign, e1, x_b2s]
  by_cases z : decide (q < n ∧ bt q = a) = true
  · rw [if_pos z] at e2
    rw [if_pos z, if_pos z, if_pos z, if_neg (by decide), x_b1s]
    exact ⟨T1, rfl, e2⟩
  · rw [if_neg z] at e2
    rw [if_neg z, if_neg z, if_neg z, if_pos rfl]
    obtain ⟨T2, e3, e4⟩ := c_refuse e2
    exact ⟨T2, by rw [e3, x_b1s, x_b1s], e4⟩
/-- numbers -/
def nv (bt : Nat → Int) (q : Nat) : Nat → Int
  | 0 => 0
  | j + 1 => 10 * nv bt q j + bt (q + j) - 48
theorem nv_bd {j : Nat} (h : ∀ i, i < j → kd (bt (q + i)) = 3) (hj : j ≤ 4) : 0 ≤ nv bt q j ∧ nv bt q j ≤ 9999 ∧ (j ≤ 3 → nv bt q j ≤ 999) := by
  have hd : ∀ i, i < j → 48 ≤ bt (q + i) ∧ bt (q + i) ≤ 57 := fun i hi => kd_3.mp (h i hi)
  have b0 : nv bt q 0 = 0 := rfl
  have s0 : nv bt q 1 = 10 * nv bt q 0 + bt (q + 0) - 48 := rfl
  have s1 : nv bt q 2 = 10 * nv bt q 1 + bt (q + 1) - 48 := rfl
  have s2 : nv bt q 3 = 10 * nv bt q 2 + bt (q + 2) - 48 := rfl
  have s3 : nv bt q 4 = 10 * nv bt q 3 + bt (q + 3) - 48 := rfl
  rcases (show j = 0 ∨ j = 1 ∨ j = 2 ∨ j = 3 ∨ j = 4 by omega) with rfl | rfl | rfl | rfl | rfl
  · omega
  · have := hd 0 (by omega); omega
  · have := hd 0 (by omega); have := hd 1 (by omega); omega
  · have := hd 0 (by omega); have := hd 1 (by omega); have := hd 2 (by omega); omega
  · have := hd 0 (by omega); have := hd 1 (by omega); have := hd 2 (by omega); have := hd 3 (by omega); omega
def num (n : Nat) (bt : Nat → Int) (q : Nat) : Int := if kA n bt q = 3 ∧ en n bt q ≤ q + 3 then nv bt q (en n bt q - q) else -1
theorem en_3 (z : kA n bt q = 3) : en n bt q = q + rc bt 3 (n - q) q ∧ q < n := by
  have hq := kA_lt (n := n) (bt := bt) (q := q) (by omega)
  unfold kA at z
  rw [if_pos hq] at z
  unfold en
  rw [if_pos hq, z, if_neg (by decide)]
  exact ⟨rfl, hq⟩
theorem num_bd (h : num n bt q ≠ -1) : 0 ≤ num n bt q ∧ num n bt q ≤ 999 ∧ kA n bt q = 3 ∧ en n bt q ≤ q + 3 := by
  unfold num at h ⊢
  by_cases z : kA n bt q = 3 ∧ en n bt q ≤ q + 3
  · rw [if_pos z]
    obtain ⟨e1, e2⟩ := en_3 z.1
    have r := rc_spec (bt := bt) (k := 3) (n - q) q
    have := nv_bd (bt := bt) (q := q) (j := en n bt q - q) (fun i hi => r.1 i (by omega)) (by omega)
    exact ⟨this.1, this.2.2 (by omega), z.1, z.2⟩
  · rw [if_neg z] at h; exact absurd rfl h
theorem c_number (hn : n ≤ 400) (h : TK n bt T q f) : G10_numberHere T = some (num n bt q) := by
  obtain ⟨a1, a2, a3, a4, a5, a6, a7, a8⟩ := h
  have hen := en_le (n := n) (bt := bt) a2
  have heg := en_ge (n := n) (bt := bt) (q := q)
  rw [G10_numberHere, a5, num]
  by_cases z : kA n bt q = 3
  · obtain ⟨e1, e2⟩ := en_3 z
    have r := rc_spec (bt := bt) (k := 3) (n - q) q
    rw [if_pos z, a4, a3, x_sub_of ⟨by omega, by omega⟩]
    by_cases z2 : en n bt q ≤ q + 3
    · rw [if_pos (by omega), if_pos ⟨z, z2⟩]
      have w : whl xFU (G10_numberHere_L30 T) (0, (q : Int)) = some (nv bt q (en n bt q - q)) := by
        have e0 : ((0 : Int), (q : Int)) = (nv bt q 0, ((q + 0 : Nat) : Int)) := rfl
        rw [e0]
        refine w_run (fun j => (nv bt q j, ((q + j : Nat) : Int))) (en n bt q - q) (by unfold xFU; omega) (fun j hj => ?_) ?_
        · have hb := a1.2 (q + j) (by omega)
          have bd := nv_bd (bt := bt) (q := q) (j := j) (fun i hi => r.1 i (by omega)) (by omega)
          have hd := kd_3.mp (r.1 j (by omega))
          rw [G10_numberHere_L30, if_neg (by omega), a4, if_neg (by omega), if_neg (by omega), x_gd_t ⟨by omega, by omega⟩, Int.toNat_natCast, hb.1, n_inc (by omega), x_mul_of ⟨by omega, by omega⟩, x_add_of ⟨by omega, by omega⟩, x_sub_of ⟨by omega, by omega⟩]
          rfl
        · rw [G10_numberHere_L30, if_neg (by omega), a4, if_pos (by omega)]
      rw [w, x_b1s]
    · rw [if_neg (by omega), if_neg (fun y => z2 y.2)]
  · rw [if_neg z, if_neg (fun y => z y.1)]
theorem c_takeNumber {a : Int} (hn : n ≤ 400) (h : TK n bt T q f) : ∃ T', G10_takeNumber a T = some ((if num n bt q ≠ -1 ∧ num n bt q ≤ a then num n bt q else -1), T') ∧ TK n bt T' (if num n bt q ≠ -1 ∧ num n bt q ≤ a then sk n bt (en n bt q) else q) (if num n bt q ≠ -1 ∧ num n bt q ≤ a then f else if f = -1 then (q : Int) else f) := by
  rw [G10_takeNumber, c_number hn h, x_b1s]
  by_cases z : num n bt q = -1
  · rw [if_pos z, if_neg (fun y => y.1 z), if_neg (fun y => y.1 z), if_neg (fun y => y.1 z)]
    obtain ⟨T2, e3, e4⟩ := c_refuse h
    exact ⟨T2, by rw [e3, x_b1s], e4⟩
  · rw [if_neg z]
    by_cases z2 : num n bt q ≤ a
    · rw [if_pos z2, if_pos ⟨z, z2⟩, if_pos ⟨z, z2⟩, if_pos ⟨z, z2⟩]
      obtain ⟨T', e1, e2⟩ := c_next hn h.1 h.2.2.2.1 h.2.2.2.2.2.2.1 (en_le h.2.1)
      exact ⟨T', by rw [e1, x_b1s], e2⟩
    · rw [if_neg z2, if_neg (fun y => z2 y.2), if_neg (fun y => z2 y.2), if_neg (fun y => z2 y.2)]
      obtain ⟨T2, e3, e4⟩ := c_refuse h
      exact ⟨T2, by rw [e3, x_b1s], e4⟩
/-- the reference reads a number -/
theorem r_figures {b : Int} (hn : n ≤ 400) (hL : LT n bt S) (hp : S 0 11 = (p : Int)) (hpn : p ≤ n) (hf : S 0 12 = -1) :
    (num n bt (sk n bt p) ≠ -1 ∧ num n bt (sk n bt p) ≤ b → G12_figures 0 b S = some (num n bt (sk n bt p), x_up S 0 11 (en n bt (sk n bt p) : Int))) ∧
    (¬ (num n bt (sk n bt p) ≠ -1 ∧ num n bt (sk n bt p) ≤ b) → ∃ (v : Int) (r : Nat), r ≤ n ∧ G12_figures 0 b S = some (v, x_up (x_up S 0 11 (r : Int)) 0 12 (sk n bt p : Int))) := by
  rw [G12_figures, if_pos hf, G12_here, r_skip hn hL hp hpn, x_b1s, up_s, x_b2s]
  have hqn := sk_le (bt := bt) hpn
  generalize sk n bt p = q at *
  obtain ⟨r1, r2, r3⟩ := rc_spec (bt := bt) (k := 3) (n - q) q
  have w : whl xFU (G12_figures_L18 (q : Int)) (0, x_up S 0 11 (q : Int)) = some (nv bt q (min (rc bt 3 (n - q) q) 4), x_up S 0 11 ((q + min (rc bt 3 (n - q) q) 4 : Nat) : Int)) := by
    have e0 : ((0 : Int), x_up S 0 11 (q : Int)) = (nv bt q 0, x_up S 0 11 ((q + 0 : Nat) : Int)) := rfl
    rw [e0]
    refine w_run (fun j => (nv bt q j, x_up S 0 11 ((q + j : Nat) : Int))) (min (rc bt 3 (n - q) q) 4) (by unfold xFU; omega) (fun j hj => ?_) ?_
    · have hl := g12_letter (S := x_up S 0 11 ((q + j : Nat) : Int)) (i := q + j) hn (hL.up (by decide) (by decide)) (by omega)
      have hd := kd_3.mp (r1 j (by omega))
      have bd := nv_bd (bt := bt) (q := q) (j := j) (fun i hi => r1 i (by omega)) (by omega)
      rw [G12_figures_L18, up_s, up_i (by decide), hL.1, if_neg (by omega), hl, x_b1s, g12_isIn, if_pos hd, x_b1s, if_neg (by decide), x_sub_of ⟨by omega, by omega⟩, if_neg (by omega), x_b1s, n_inc (by omega), x_mul_of ⟨by omega, by omega⟩, x_add_of ⟨by omega, by omega⟩, x_sub_of ⟨by omega, by omega⟩, up_up]
      rfl
    · rw [G12_figures_L18, up_s, up_i (by decide), hL.1]
      by_cases z : q + min (rc bt 3 (n - q) q) 4 < n
      · have hl := g12_letter (S := x_up S 0 11 ((q + min (rc bt 3 (n - q) q) 4 : Nat) : Int)) (i := q + min (rc bt 3 (n - q) q) 4) hn (hL.up (by decide) (by decide)) z
        rw [if_neg (by omega), hl, x_b1s, g12_isIn]
        by_cases z2 : 48 ≤ bt (q + min (rc bt 3 (n - q) q) 4) ∧ bt (q + min (rc bt 3 (n - q) q) 4) ≤ 57
        · rw [if_pos z2, x_b1s, if_neg (by decide), x_sub_of ⟨by omega, by omega⟩, if_pos (by
            by_cases z3 : rc bt 3 (n - q) q < 4
            · rw [show min (rc bt 3 (n - q) q) 4 = rc bt 3 (n - q) q by omega] at z2 z
              exact absurd (kd_3.mpr z2) (r3 (by omega))
            · omega)]
        · rw [if_neg z2, x_b1s, if_pos rfl]
      · rw [if_pos (by omega)]
  rw [w, x_b2s, up_s]
  have hw : ∀ (R : Nat), G12_wrong (q : Int) (x_up S 0 11 (R : Int)) = some (x_up (x_up S 0 11 (R : Int)) 0 12 (q : Int)) := fun R => by
    rw [G12_wrong, up_i (by decide), hf, if_pos rfl, x_b1s]
  have bd := nv_bd (bt := bt) (q := q) (j := min (rc bt 3 (n - q) q) 4) (fun i hi => r1 i (by omega)) (by omega)
  rw [x_sub_of ⟨by omega, by omega⟩, hw]
  by_cases zk : kA n bt q = 3
  · obtain ⟨e1, e2⟩ := en_3 zk
    have hgt := en_gt (n := n) (bt := bt) e2
    rw [if_neg (by omega)]
    by_cases z4 : en n bt q ≤ q + 3
    · have em : min (rc bt 3 (n - q) q) 4 = en n bt q - q := by omega
      have en' : num n bt q = nv bt q (en n bt q - q) := by unfold num; rw [if_pos ⟨zk, z4⟩]
      rw [em] at bd ⊢
      rw [if_neg (by omega), ← en', if_neg (by omega)]
      rw [← en'] at bd
      constructor
      · rintro ⟨h1, h2⟩
        rw [if_pos h2, x_b1s, show q + (en n bt q - q) = en n bt q by omega]
      · intro h1
        rw [if_neg (fun y => h1 ⟨by omega, y⟩), x_b1s]
        exact ⟨_, _, by have := en_le (n := n) (bt := bt) hqn; omega, rfl⟩
    · have en' : num n bt q = -1 := by unfold num; rw [if_neg (fun y => z4 y.2)]
      rw [en', if_pos (by omega), x_b1s]
      exact ⟨fun y => absurd rfl y.1, fun _ => ⟨_, _, by omega, rfl⟩⟩
  · have h0 : rc bt 3 (n - q) q = 0 := by
      by_cases hq : q < n
      · unfold kA at zk
        rw [if_pos hq] at zk
        obtain ⟨d, hd⟩ : ∃ d, n - q = d + 1 := ⟨n - q - 1, by omega⟩
        rw [hd]
        exact if_neg zk
      · rw [show n - q = 0 by omega]; rfl
    have en' : num n bt q = -1 := by unfold num; rw [if_neg (fun y => zk y.1)]
    rw [en', h0, if_pos (by omega), x_b1s]
    exact ⟨fun y => absurd rfl y.1, fun _ => ⟨_, _, by omega, rfl⟩⟩
end WRD
