/-! Roads by told flags: the tables, and the road. -/
section RDT
variable {N S Ro T : xU} {m : Nat → Int} {n : Nat} {fl : Nat → Nat}
/-- the candidates from x over a set, by a table -/
def cnd (m : Nat → Int) (fl : Nat → Nat) (t : Nat → Nat → Int) (x : Int) (s k : Nat) : Int := fr m x (fl k : Int) + t (dif s (2 ^ k)) k
theorem c_wayBy {t : Nat → Nat → Int} {x : Int} {s k : Nat} (h : CR N m) (hi : Iv m) (hn : n ≤ 7) (hx : 0 ≤ x ∧ x < 16) (hfl : ∀ i, i < n → fl i < 16) (hs : s < 128) (hk : k < n) (h1 : Ro 1 k = (fl k : Int)) (h2 : Ro 2 (7 * dif s (2 ^ k) + k) = t (dif s (2 ^ k)) k) (hb : 0 ≤ t (dif s (2 ^ k)) k ∧ t (dif s (2 ^ k)) k ≤ 100000) :
    G8_wayBy x (k : Int) (s : Int) N Ro = some (cnd m fl t x s k) := by
  have hd : dif s (2 ^ k) < 2 ^ 7 := dif_lt hs
  have hf := hfl k hk
  have hfr := fr_bd hi (f := x) (g := (fl k : Int))
  have ei : x_add (x_mul ((dif s (2 ^ k) : Nat) : Int) 7) (k : Int) = ((7 * dif s (2 ^ k) + k : Nat) : Int) := by
    rw [x_mul_of ⟨by omega, by omega⟩, x_add_of ⟨by omega, by omega⟩]; omega
  rw [G8_wayBy, if_neg (by omega), if_neg (by omega), n_clr (by omega) (by omega), ei, if_neg (by omega), if_pos (by omega), x_gd_t ⟨by omega, by omega⟩, Int.toNat_natCast, h1, g1_farOf h hi hx ⟨by omega, by omega⟩, x_b1s, x_gd_t ⟨by omega, by omega⟩, Int.toNat_natCast, h2, x_add_of ⟨by omega, by omega⟩]
  rfl
theorem c_leastFrom {t : Nat → Nat → Int} {x : Int} {s : Nat} (h : CR N m) (hi : Iv m) (hn : n ≤ 7) (hx : 0 ≤ x ∧ x < 16) (hfl : ∀ i, i < n → fl i < 16) (hs : s < 2 ^ n) (h0 : Ro 0 2 = (n : Int)) (h1 : ∀ k, k < n → Ro 1 k = (fl k : Int)) (h2 : ∀ k, k < n → s.testBit k = true → Ro 2 (7 * dif s (2 ^ k) + k) = t (dif s (2 ^ k)) k ∧ 0 ≤ t (dif s (2 ^ k)) k ∧ t (dif s (2 ^ k)) k ≤ 100000) :
    G8_leastFrom x (s : Int) N Ro = some (lfw (cnd m fl t x s) s (if s = 0 then 0 else 1000000) n) := by
  have p7 : 2 ^ n ≤ 2 ^ 7 := Nat.pow_le_pow_right (by decide) hn
  have e0 : (if (s : Int) = 0 then (some (0 : Int)) else (some 1000000)) = some (if s = 0 then 0 else 1000000) := by
    by_cases z : s = 0
    · rw [if_pos (by omega), if_pos z]
    · rw [if_neg (by omega), if_neg z]
  have w : whl xFU (G8_leastFrom_L15 x (s : Int) N Ro) ((if s = 0 then 0 else 1000000), 0) = some (lfw (cnd m fl t x s) s (if s = 0 then 0 else 1000000) n) := by
    refine w_run (fun k => (lfw (cnd m fl t x s) s (if s = 0 then 0 else 1000000) k, (k : Int))) n (by unfold xFU; omega) (fun k hk => ?_) (by rw [G8_leastFrom_L15, h0, if_pos (Int.le_refl _)])
    rw [G8_leastFrom_L15, h0, if_neg (by omega), g11_hold (R32n (by omega)) (by omega), x_b1s, ib_nat, n_inc (by omega), lfw_s]
    cases hb : s.testBit k with
    | false => rw [if_neg Bool.false_ne_true, if_pos rfl, x_b1s, if_neg Bool.false_ne_true]
    | true =>
      have q := h2 k hk hb
      rw [if_pos rfl, if_neg (by decide), c_wayBy (t := t) h hi hn hx hfl (by omega) hk (h1 k hk) q.1 q.2, x_b1s, x_b1s, if_pos rfl]
  rw [G8_leastFrom, e0, x_b1s, w, x_b1s]
theorem r_from {t : Nat → Nat → Int} {s j : Nat} {B : Int} (hi : Iv (S 1)) (hn : n ≤ 7) (hfl : ∀ i, i < n → fl i < 16) (hs : s < 2 ^ n) (hj : j < n) (h5 : ∀ k, k < n → S 5 k = (fl k : Int)) (h2 : ∀ k, k < n → s.testBit k = true → S 10 (8 * (2 ^ n - 1 - dif s (2 ^ k)) + k) = t (dif s (2 ^ k)) k ∧ 0 ≤ t (dif s (2 ^ k)) k ∧ t (dif s (2 ^ k)) k ≤ 100000) :
    whl xFU (G12_roadsOf_L38 (n : Int) ((2 ^ n - 1 - s : Nat) : Int) (j : Int) S) (B, 0) = some (lfw (cnd (S 1) fl t (fl j : Int) s) s B n) := by
  have p7 : 2 ^ n ≤ 2 ^ 7 := Nat.pow_le_pow_right (by decide) hn
  refine w_run (fun k => (lfw (cnd (S 1) fl t (fl j : Int) s) s B k, (k : Int))) n (by unfold xFU; omega) (fun k hk => ?_) (by rw [G12_roadsOf_L38, if_pos (Int.le_refl _)])
  rw [G12_roadsOf_L38, if_neg (by omega), g12_isOf (R32n (by omega)) (by omega), x_b1s, ib_nat, cpl_bit hs, decide_eq_true hk, Bool.true_and, n_inc (by omega), lfw_s]
  cases hb : s.testBit k with
  | false => rw [Bool.not_false, if_pos rfl, if_neg (by decide), x_b1s, if_neg Bool.false_ne_true]
  | true =>
    have q := h2 k hk hb
    have hfr := fr_bd hi (f := (fl j : Int)) (g := (fl k : Int))
    have f1 := hfl j hj
    have f2 := hfl k hk
    have ei : x_add (x_mul 8 (x_or ((2 ^ n - 1 - s : Nat) : Int) (x_shl 1 (k : Int)))) (k : Int) = ((8 * (2 ^ n - 1 - dif s (2 ^ k)) + k : Nat) : Int) := by
      rw [n_set (by omega) (by omega), cpl_or hs hk hb, x_mul_of ⟨by omega, by omega⟩, x_add_of ⟨by omega, by omega⟩]; omega
    rw [Bool.not_true, if_neg Bool.false_ne_true, if_pos rfl, x_gd_t ⟨by omega, by omega⟩, x_gd_t ⟨by omega, by omega⟩, Int.toNat_natCast, Int.toNat_natCast, h5 j hj, h5 k hk, g12_farOf hi ⟨by omega, by omega⟩ ⟨by omega, by omega⟩, x_b1s, ei, x_gd_t ⟨by omega, by omega⟩, Int.toNat_natCast, q.1, x_add_of ⟨by omega, by omega⟩, g12_lesser, x_b1s, x_b1s, if_pos rfl]
    rfl
/-- both fill their tables alike -/
theorem s_roads (h : CR N (S 1)) (hi : Iv (S 1)) (hn : n ≤ 7) (hfl : ∀ i, i < n → fl i < 16) (h0 : Ro 0 2 = (n : Int)) (h1 : ∀ k, k < n → Ro 1 k = (fl k : Int)) (h5 : ∀ k, k < n → S 5 k = (fl k : Int)) :
    ∃ Ro' S', whl xFU (G8_leastWay_L12 N Ro) (0, Ro) = some Ro' ∧ G12_roadsOf (n : Int) S = some S' ∧ (∀ o, o ≠ 2 → Ro' o = Ro o) ∧ (∀ o, o ≠ 10 → S' o = S o) ∧ ∀ s i, s < 2 ^ n → i < n → Ro' 2 (7 * s + i) = S' 10 (8 * (2 ^ n - 1 - s) + i) ∧ 0 ≤ Ro' 2 (7 * s + i) ∧ Ro' 2 (7 * s + i) ≤ 16 * (s : Int) := by
  have p2 := Nat.two_pow_pos n
  have p7 : 2 ^ n ≤ 2 ^ 7 := Nat.pow_le_pow_right (by decide) hn
  have ef : x_sub (x_shl 1 (n : Int)) 1 = ((2 ^ n - 1 : Nat) : Int) := by
    rw [n_shl1 n (by omega), x_sub_of ⟨by omega, by omega⟩]; omega
  have W : ∃ r1 r2, whl xFU (G8_leastWay_L12 N Ro) (0, Ro) = some r1 ∧ whl xFU (G12_roadsOf_L6 (n : Int)) (((2 ^ n - 1 : Nat) : Int), S) = some r2 ∧ ((∀ o, o ≠ 2 → r1 o = Ro o) ∧ (∀ o, o ≠ 10 → r2 o = S o) ∧ ∀ s i, s < 2 ^ n → i < n → r1 2 (7 * s + i) = r2 10 (8 * (2 ^ n - 1 - s) + i) ∧ 0 ≤ r1 2 (7 * s + i) ∧ r1 2 (7 * s + i) ≤ 16 * (s : Int)) := by
    refine w_simk (fun j s1 s2 => ∃ (B Z : xU), s1 = ((j : Int), B) ∧ s2 = (((2 ^ n - 1 : Nat) : Int) - (j : Int), Z) ∧ (∀ o, o ≠ 2 → B o = Ro o) ∧ (∀ o, o ≠ 10 → Z o = S o) ∧ ∀ s i, s < j → i < n → B 2 (7 * s + i) = Z 10 (8 * (2 ^ n - 1 - s) + i) ∧ 0 ≤ B 2 (7 * s + i) ∧ B 2 (7 * s + i) ≤ 16 * (s : Int)) (fun (r1 r2 : xU) => (∀ o, o ≠ 2 → r1 o = Ro o) ∧ (∀ o, o ≠ 10 → r2 o = S o) ∧ ∀ s i, s < 2 ^ n → i < n → r1 2 (7 * s + i) = r2 10 (8 * (2 ^ n - 1 - s) + i) ∧ 0 ≤ r1 2 (7 * s + i) ∧ r1 2 (7 * s + i) ≤ 16 * (s : Int)) (2 ^ n) ?_ ?_ (2 ^ n) 0 _ _ xFU xFU (by omega) (by unfold xFU; omega) (by unfold xFU; omega) ⟨Ro, S, rfl, by rw [show ((0 : Nat) : Int) = 0 from rfl, Int.sub_zero], fun _ _ => rfl, fun _ _ => rfl, fun s i hs => absurd hs (by omega)⟩
    · rintro v s1 s2 hv ⟨B, Z, rfl, rfl, hB, hZ, hT⟩
      let t : Nat → Nat → Int := fun s k => B 2 (7 * s + k)
      have below : ∀ k, k < n → v.testBit k = true → dif v (2 ^ k) < v := fun k hk hb => dif_lt' v (by omega) k (by omega) hb
      have iZ : Iv (Z 1) := by rw [hZ 1 (by decide)]; exact hi
      -- a row of the set, entries
      let e : Nat → Int := fun i => lfw (cnd (S 1) fl t (fl i : Int) v) v (if v = 0 then 0 else 1000000) n
      have hcn : ∀ i k, k < n → v.testBit k = true → 0 ≤ cnd (S 1) fl t (fl i : Int) v k ∧ cnd (S 1) fl t (fl i : Int) v k ≤ 16 * (v : Int) := by
        intro i k hk hb
        have hd := below k hk hb
        have := hT (dif v (2 ^ k)) k hd hk
        have hfr := fr_bd hi (f := (fl i : Int)) (g := (fl k : Int))
        show 0 ≤ fr (S 1) (fl i : Int) (fl k : Int) + B 2 (7 * dif v (2 ^ k) + k) ∧ fr (S 1) (fl i : Int) (fl k : Int) + B 2 (7 * dif v (2 ^ k) + k) ≤ _
        omega
      have he : ∀ i, 0 ≤ e i ∧ e i ≤ 16 * (v : Int) := by
        intro i
        have hb := lfw_bd (c := cnd (S 1) fl t (fl i : Int) v) (s := v) (n := n) (B := if v = 0 then 0 else 1000000) (U := 16 * (v : Int)) (by by_cases z : v = 0; rw [if_pos z]; exact Int.le_refl _; rw [if_neg z]; decide) (hcn i) n (Nat.le_refl _)
        refine ⟨hb.1, ?_⟩
        by_cases z : v = 0
        · have := hb.2.1
          rw [if_pos z] at this
          show lfw _ _ _ _ ≤ _
          omega
        · obtain ⟨lo, q1, q2, q3⟩ := low_ex hv z
          exact hb.2.2 ⟨lo, q1, q2⟩
      have idx : ∀ i, i < n → x_add (x_mul (v : Int) 7) (i : Int) = ((7 * v + i : Nat) : Int) := fun i hi2 => by
        rw [x_mul_of ⟨by omega, by omega⟩, x_add_of ⟨by omega, by omega⟩]; omega
      have w29 : whl xFU (G8_leastWay_L29 N (v : Int)) (0, B) = some (fun o q => if o = 2 ∧ 7 * v ≤ q ∧ q < 7 * v + n then e (q - 7 * v) else B o q) := by
        have e0 : ((0 : Int), B) = (((0 : Nat) : Int), (fun o q => if o = 2 ∧ 7 * v ≤ q ∧ q < 7 * v + 0 then e (q - 7 * v) else B o q : xU)) := by
          congr 1
          funext o q
          rw [if_neg (by omega)]
        rw [e0]
        refine w_run (fun i => ((i : Int), (fun o q => if o = 2 ∧ 7 * v ≤ q ∧ q < 7 * v + i then e (q - 7 * v) else B o q : xU))) n (by unfold xFU; omega) (fun i hi2 => ?_) (by
          rw [G8_leastWay_L29, if_neg (show ¬ (0 = 2 ∧ 7 * v ≤ 2 ∧ 2 < 7 * v + n) by omega), hB 0 (by decide), h0, if_pos (Int.le_refl _)])
        generalize hY : (fun o q => if o = 2 ∧ 7 * v ≤ q ∧ q < 7 * v + i then e (q - 7 * v) else B o q : xU) = Y
        have Yo : ∀ o, o ≠ 2 → Y o = Ro o := fun o ho => by
          rw [← hY]
          funext q
          show (if o = 2 ∧ _ then _ else B o q) = _
          rw [if_neg (fun w => ho w.1), hB o ho]
        have Y2 : ∀ q, q < 7 * v → Y 2 q = B 2 q := fun q hq => by
          rw [← hY]
          show (if 2 = 2 ∧ 7 * v ≤ q ∧ q < 7 * v + i then _ else B 2 q) = _
          rw [if_neg (by omega)]
        have cl : G8_leastFrom (fl i : Int) (v : Int) N Y = some (e i) :=
          c_leastFrom (t := t) h hi hn ⟨by omega, by have := hfl i hi2; omega⟩ hfl hv (by rw [Yo 0 (by decide)]; exact h0) (fun k hk => by rw [Yo 1 (by decide)]; exact h1 k hk) (fun k hk hb => by
            have hd := below k hk hb
            have := hT (dif v (2 ^ k)) k hd hk
            exact ⟨Y2 _ (by omega), this.2.1, by show B 2 (7 * dif v (2 ^ k) + k) ≤ _; omega⟩)
        rw [G8_leastWay_L29, Yo 0 (by decide), h0, if_neg (by omega), if_neg (by omega), x_gd_t ⟨by omega, by omega⟩, Int.toNat_natCast, Yo 1 (by decide), h1 i hi2, cl, x_b1s, idx i hi2, x_gd_t ⟨by omega, by omega⟩, Int.toNat_natCast, n_inc (by omega)]
        congr 3
        funext o q
        rw [← hY]
        show (if o = 2 ∧ q = 7 * v + i then e i else (if o = 2 ∧ 7 * v ≤ q ∧ q < 7 * v + i then e (q - 7 * v) else B o q)) = (if o = 2 ∧ 7 * v ≤ q ∧ q < 7 * v + (i + 1) then e (q - 7 * v) else B o q)
        by_cases z1 : o = 2 ∧ q = 7 * v + i
        · rw [if_pos z1, if_pos ⟨z1.1, by omega, by omega⟩, z1.2, show 7 * v + i - 7 * v = i by omega]
        · rw [if_neg z1]
          by_cases z2 : o = 2 ∧ 7 * v ≤ q ∧ q < 7 * v + i
          · rw [if_pos z2, if_pos ⟨z2.1, z2.2.1, by omega⟩]
          · rw [if_neg z2, if_neg (by omega)]
      have idr : ∀ i, i < n → x_add (x_mul 8 ((2 ^ n - 1 - v : Nat) : Int)) (i : Int) = ((8 * (2 ^ n - 1 - v) + i : Nat) : Int) := fun i hi2 => by
        rw [x_mul_of ⟨by omega, by omega⟩, x_add_of ⟨by omega, by omega⟩]; omega
      have w12 : whl xFU (G12_roadsOf_L12 (n : Int) ((2 ^ n - 1 - v : Nat) : Int)) (0, Z) = some (fun o q => if o = 10 ∧ 8 * (2 ^ n - 1 - v) ≤ q ∧ q < 8 * (2 ^ n - 1 - v) + n then e (q - 8 * (2 ^ n - 1 - v)) else Z o q) := by
        have e0 : ((0 : Int), Z) = (((0 : Nat) : Int), (fun o q => if o = 10 ∧ 8 * (2 ^ n - 1 - v) ≤ q ∧ q < 8 * (2 ^ n - 1 - v) + 0 then e (q - 8 * (2 ^ n - 1 - v)) else Z o q : xU)) := by
          congr 1
          funext o q
          rw [if_neg (by omega)]
        rw [e0]
        refine w_run (fun i => ((i : Int), (fun o q => if o = 10 ∧ 8 * (2 ^ n - 1 - v) ≤ q ∧ q < 8 * (2 ^ n - 1 - v) + i then e (q - 8 * (2 ^ n - 1 - v)) else Z o q : xU))) n (by unfold xFU; omega) (fun i hi2 => ?_) (by rw [G12_roadsOf_L12, if_pos (Int.le_refl _)])
        generalize hY : (fun o q => if o = 10 ∧ 8 * (2 ^ n - 1 - v) ≤ q ∧ q < 8 * (2 ^ n - 1 - v) + i then e (q - 8 * (2 ^ n - 1 - v)) else Z o q : xU) = Y
        have Yo : ∀ o, o ≠ 10 → Y o = S o := fun o ho => by
          rw [← hY]
          funext q
          show (if o = 10 ∧ _ then _ else Z o q) = _
          rw [if_neg (fun w => ho w.1), hZ o ho]
        have Y10 : ∀ q, 8 * (2 ^ n - 1 - v) + n ≤ q → Y 10 q = Z 10 q := fun q hq => by
          rw [← hY]
          show (if 10 = 10 ∧ 8 * (2 ^ n - 1 - v) ≤ q ∧ q < 8 * (2 ^ n - 1 - v) + i then _ else Z 10 q) = _
          rw [if_neg (by omega)]
        have e11 : (if ((2 ^ n - 1 - v : Nat) : Int) = x_sub (x_shl 1 (n : Int)) 1 then (some (0 : Int)) else (some 2000000000)) = some (if v = 0 then 0 else 2000000000) := by
          rw [ef]
          by_cases z : v = 0
          · rw [if_pos (by omega), if_pos z]
          · rw [if_neg (by omega), if_neg z]
        have rl : whl xFU (G12_roadsOf_L38 (n : Int) ((2 ^ n - 1 - v : Nat) : Int) (i : Int) Y) ((if v = 0 then 0 else 2000000000), 0) = some (e i) := by
          have := r_from (S := Y) (t := t) (B := if v = 0 then 0 else 2000000000) (fl := fl) (by rw [Yo 1 (by decide)]; exact hi) hn hfl hv hi2 (fun k hk => by rw [Yo 5 (by decide)]; exact h5 k hk) (fun k hk hb => by
            have hd := below k hk hb
            have := hT (dif v (2 ^ k)) k hd hk
            refine ⟨?_, this.2.1, by show B 2 (7 * dif v (2 ^ k) + k) ≤ _; omega⟩
            rw [Y10 _ (by omega)]
            exact this.1.symm)
          rw [this, Yo 1 (by decide)]
          show some (lfw (cnd (S 1) fl t (fl i : Int) v) v (if v = 0 then 0 else 2000000000) n) = some (lfw (cnd (S 1) fl t (fl i : Int) v) v (if v = 0 then 0 else 1000000) n)
          congr 1
          by_cases z : v = 0
          · rw [if_pos z, if_pos z]
          · rw [if_neg z, if_neg z]
            rcases lfw_eq (c := cnd (S 1) fl t (fl i : Int) v) (s := v) (n := n) (B1 := 2000000000) (B2 := 1000000) (fun k hk hb => by have := hcn i k hk hb; omega) n (Nat.le_refl _) with ⟨q1, _, _⟩ | q
            · obtain ⟨lo, l1, l2, l3⟩ := low_ex hv z
              rw [q1 lo l1] at l2; cases l2
            · exact q
        rw [G12_roadsOf_L12, if_neg (by omega), e11, x_b1s, rl, x_b1s, idr i hi2, x_gd_t ⟨by omega, by omega⟩, Int.toNat_natCast, n_inc (by omega)]
        congr 3
        funext o q
        rw [← hY]
        show (if o = 10 ∧ q = 8 * (2 ^ n - 1 - v) + i then e i else (if o = 10 ∧ 8 * (2 ^ n - 1 - v) ≤ q ∧ q < 8 * (2 ^ n - 1 - v) + i then e (q - 8 * (2 ^ n - 1 - v)) else Z o q)) = (if o = 10 ∧ 8 * (2 ^ n - 1 - v) ≤ q ∧ q < 8 * (2 ^ n - 1 - v) + (i + 1) then e (q - 8 * (2 ^ n - 1 - v)) else Z o q)
        by_cases z1 : o = 10 ∧ q = 8 * (2 ^ n - 1 - v) + i
        · rw [if_pos z1, if_pos ⟨z1.1, by omega, by omega⟩, z1.2, show 8 * (2 ^ n - 1 - v) + i - 8 * (2 ^ n - 1 - v) = i by omega]
        · rw [if_neg z1]
          by_cases z2 : o = 10 ∧ 8 * (2 ^ n - 1 - v) ≤ q ∧ q < 8 * (2 ^ n - 1 - v) + i
          · rw [if_pos z2, if_pos ⟨z2.1, z2.2.1, by omega⟩]
          · rw [if_neg z2, if_neg (by omega)]
      have c1 : G8_leastWay_L12 N Ro ((v : Int), B) = some (.inl (((v + 1 : Nat) : Int), (fun o q => if o = 2 ∧ 7 * v ≤ q ∧ q < 7 * v + n then e (q - 7 * v) else B o q))) := by
        rw [G8_leastWay_L12, h0, ef, if_neg (by omega), if_neg (by omega), w29, x_b1s, n_inc (by omega)]
      have c2 : G12_roadsOf_L6 (n : Int) (((2 ^ n - 1 : Nat) : Int) - (v : Int), Z) = some (.inl (((2 ^ n - 1 : Nat) : Int) - ((v + 1 : Nat) : Int), (fun o q => if o = 10 ∧ 8 * (2 ^ n - 1 - v) ≤ q ∧ q < 8 * (2 ^ n - 1 - v) + n then e (q - 8 * (2 ^ n - 1 - v)) else Z o q))) := by
        rw [show ((2 ^ n - 1 : Nat) : Int) - (v : Int) = ((2 ^ n - 1 - v : Nat) : Int) by omega, G12_roadsOf_L6, if_neg (by omega), w12, x_b1s, x_add_of ⟨by omega, by omega⟩]
        congr 3
        omega
      refine ⟨_, _, c1, c2, _, _, rfl, rfl, fun o ho => ?_, fun o ho => ?_, fun s i hs hi2 => ?_⟩
      · funext q
        show (if o = 2 ∧ _ then _ else B o q) = _
        rw [if_neg (fun w => ho w.1), hB o ho]
      · funext q
        show (if o = 10 ∧ _ then _ else Z o q) = _
        rw [if_neg (fun w => ho w.1), hZ o ho]
      · show (if 2 = 2 ∧ 7 * v ≤ 7 * s + i ∧ 7 * s + i < 7 * v + n then e (7 * s + i - 7 * v) else B 2 (7 * s + i)) = (if 10 = 10 ∧ 8 * (2 ^ n - 1 - v) ≤ 8 * (2 ^ n - 1 - s) + i ∧ 8 * (2 ^ n - 1 - s) + i < 8 * (2 ^ n - 1 - v) + n then e (8 * (2 ^ n - 1 - s) + i - 8 * (2 ^ n - 1 - v)) else Z 10 (8 * (2 ^ n - 1 - s) + i)) ∧ 0 ≤ (if 2 = 2 ∧ 7 * v ≤ 7 * s + i ∧ 7 * s + i < 7 * v + n then e (7 * s + i - 7 * v) else B 2 (7 * s + i)) ∧ (if 2 = 2 ∧ 7 * v ≤ 7 * s + i ∧ 7 * s + i < 7 * v + n then e (7 * s + i - 7 * v) else B 2 (7 * s + i)) ≤ 16 * (s : Int)
        by_cases z : s = v
        · subst z
          rw [if_pos ⟨rfl, by omega, by omega⟩, if_pos ⟨rfl, by omega, by omega⟩, show 7 * s + i - 7 * s = i by omega, show 8 * (2 ^ n - 1 - s) + i - 8 * (2 ^ n - 1 - s) = i by omega]
          exact ⟨rfl, he i⟩
        · rw [if_neg (by omega), if_neg (by omega)]
          exact hT s i (by omega) hi2
    · rintro s1 s2 ⟨B, Z, rfl, rfl, hB, hZ, hT⟩
      refine ⟨B, Z, ?_, ?_, hB, hZ, hT⟩
      · rw [G8_leastWay_L12, h0, ef, if_pos (by omega)]
      · rw [G12_roadsOf_L6, if_pos (by omega)]
  obtain ⟨r1, r2, e1, e2, q1, q2, q3⟩ := W
  refine ⟨r1, r2, e1, ?_, q1, q2, q3⟩
  rw [G12_roadsOf, ef, e2, x_b1s]
end RDT
