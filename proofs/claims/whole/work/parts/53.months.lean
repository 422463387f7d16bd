/-! A cloister's text: stalls, months, a monk more. -/
section MNK
variable {n : Nat} {bt : Nat → Int} {T S C : xU} {q p : Nat} {f : Int} {m : Nat → Int}
theorem g1_of2C {i : Nat} (hi : i < 7) : G1_of 2 (i : Int) C = some (C 1 (14 + i)) := g1_of (k := 2) (by decide) hi
/-- whether a stall is taken -/
def hsB (m : Nat → Int) (a : Int) (n : Nat) : Bool := decide (∃ p, p < n ∧ m (18 + 8 * p) = a)
theorem hsB_s {a : Int} {k : Nat} : hsB m a (k + 1) = (hsB m a k || decide (m (18 + 8 * k) = a)) := by
  by_cases h : m (18 + 8 * k) = a
  · have e1 : hsB m a (k + 1) = true := decide_eq_true ⟨k, by omega, h⟩
    rw [e1]; simp [h]
  · by_cases h2 : ∃ p, p < k ∧ m (18 + 8 * p) = a
    · obtain ⟨p, h3, h4⟩ := h2
      have e1 : hsB m a (k + 1) = true := decide_eq_true ⟨p, by omega, h4⟩
      have e2 : hsB m a k = true := decide_eq_true ⟨p, h3, h4⟩
      rw [e1, e2]; rfl
    · have e1 : hsB m a (k + 1) = false := decide_eq_false (fun ⟨p, h3, h4⟩ => by
        by_cases e : p = k
        · subst e; exact h h4
        · exact h2 ⟨p, by omega, h4⟩)
      have e2 : hsB m a k = false := decide_eq_false h2
      rw [e1, e2]; simp [h]
theorem c_hasStall {a : Int} {k : Nat} (h : CR C m) (hi : Iv m) (e : m 3 = (k : Int)) : G1_hasStall a C = some (if hsB m a k then 1 else 0) := by
  have h7 := hi.many
  have key : ∀ d i fuel, i + d = k → d < fuel → hsB m a i = false → x_lr (whl fuel (G1_hasStall_L2 a C) (i : Int)) (fun (z : Unit) => x_e1 z fun (_q : Unit) => (some (0 : Int))) (fun (z : Int) => some z) = some (if hsB m a k then 1 else 0) := by
    intro d
    induction d with
    | zero =>
      intro i fuel hik hf hh
      cases fuel with
      | zero => omega
      | succ fuel =>
        have e1 : G1_hasStall_L2 a C (i : Int) = some (.inr (.inl ())) := by rw [G1_hasStall_L2, h.1.1, if_pos (by omega)]
        have : i = k := by omega
        subst this
        rw [whl, e1, hh]
        rfl
    | succ d ih =>
      intro i fuel hik hf hh
      cases fuel with
      | zero => omega
      | succ fuel =>
        have e1 : G1_hasStall_L2 a C (i : Int) = if m (18 + 8 * i) = a then some (.inr (.inr 1)) else some (.inl ((i + 1 : Nat) : Int)) := by
          rw [G1_hasStall_L2, h.1.1, if_neg (by omega), g1_of2 h hi (by omega), x_b1s, n_inc (by omega)]
        by_cases z : m (18 + 8 * i) = a
        · have e2 : hsB m a k = true := decide_eq_true ⟨i, by omega, z⟩
          rw [if_pos z] at e1
          rw [whl, e1, e2]
          rfl
        · rw [if_neg z] at e1
          rw [whl, e1]
          exact ih (i + 1) fuel (by omega) (by omega) (by rw [hsB_s, hh]; simp [z])
  rw [G1_hasStall]
  exact key k 0 xFU (by omega) (by unfold xFU; omega) (decide_eq_false (fun ⟨p, h3, _⟩ => absurd h3 (by omega)))
theorem r_isStall {a : Int} {k : Nat} (hi : Iv (S 1)) (e : S 1 3 = (k : Int)) : G12_isStall a S = some (if hsB (S 1) a k then 1 else 0) := by
  have h7 := hi.many
  have w : whl xFU (G12_isStall_L4 a S) (0, 0) = some (if hsB (S 1) a k then 1 else 0) := by
    have e0 : ((0 : Int), (0 : Int)) = ((if hsB (S 1) a 0 then (1 : Int) else 0), ((0 : Nat) : Int)) := by
      have : hsB (S 1) a 0 = false := decide_eq_false (fun ⟨p, h3, _⟩ => absurd h3 (by omega))
      rw [this]; rfl
    rw [e0]
    refine w_run (fun j => ((if hsB (S 1) a j then (1 : Int) else 0), (j : Int))) k (by unfold xFU; omega) (fun j hj => ?_) ?_
    · rw [G12_isStall_L4, if_neg (by omega), n_inc (by omega), hsB_s]
      by_cases z : hsB (S 1) a j = true
      · rw [if_pos z, if_neg (by decide), x_b1s, z]; rfl
      · have z' : hsB (S 1) a j = false := by simpa using z
        rw [if_neg z, if_pos rfl, g12_of2 (by omega), x_b1s, z']
        by_cases z2 : S 1 (18 + 8 * j) = a
        · rw [if_pos z2, x_b1s]; simp [z2]
        · rw [if_neg z2, x_b1s]; simp [z2]
    · rw [G12_isStall_L4, if_pos (by omega)]
  rw [G12_isStall, w, x_b1s]
  by_cases z : hsB (S 1) a k = true
  · rw [if_pos z, x_gd_t (by decide)]
  · rw [if_neg z, x_gd_t (by decide)]
/-- months told by letters: the set, and whether they are all right -/
def ms (bt : Nat → Int) (q : Nat) : Nat → Nat × Bool
  | 0 => (0, true)
  | j + 1 => (if bt (q + j) - 97 < 12 then (ms bt q j).1 ||| 2 ^ (bt (q + j) - 97).toNat else (ms bt q j).1, (ms bt q j).2 && decide (bt (q + j) - 97 < 12) && !((ms bt q j).1.testBit (bt (q + j) - 97).toNat))
theorem ms_lt : ∀ j, (ms bt q j).1 < 2 ^ 12 := by
  intro j
  induction j with
  | zero => show 0 < 2 ^ 12; decide
  | succ j ih =>
    show (if bt (q + j) - 97 < 12 then (ms bt q j).1 ||| 2 ^ (bt (q + j) - 97).toNat else (ms bt q j).1) < 2 ^ 12
    by_cases z : bt (q + j) - 97 < 12
    · rw [if_pos z]; exact Nat.or_lt_two_pow ih (Nat.pow_lt_pow_right (by decide) (by omega))
    · rw [if_neg z]; exact ih
theorem ms_mono {i : Nat} : ∀ j, (ms bt q i).2 = false → (ms bt q (i + j)).2 = false := by
  intro j h
  induction j with
  | zero => exact h
  | succ j ih =>
    show ((ms bt q (i + j)).2 && _ && _) = false
    rw [ih]; rfl
/-- the months of a token: none if it isn't right -/
def mon (n : Nat) (bt : Nat → Int) (q : Nat) : Bool := decide (kA n bt q = 2) && (ms bt q (en n bt q - q)).2
theorem en_2 (z : kA n bt q = 2) : en n bt q = q + rc bt 2 (n - q) q ∧ q < n := by
  have hq := kA_lt (n := n) (bt := bt) (q := q) (by omega)
  unfold kA at z
  rw [if_pos hq] at z
  unfold en
  rw [if_pos hq, z, if_neg (by decide)]
  exact ⟨rfl, hq⟩
theorem ms_pos : ∀ j, 0 < j → (ms bt q j).2 = true → (ms bt q j).1 ≠ 0 := by
  intro j hj h
  cases j with
  | zero => omega
  | succ j =>
    have h' : ((ms bt q j).2 && decide (bt (q + j) - 97 < 12) && !((ms bt q j).1.testBit (bt (q + j) - 97).toNat)) = true := h
    have z : bt (q + j) - 97 < 12 := by
      simp only [Bool.and_eq_true, decide_eq_true_eq] at h'
      exact h'.1.2
    show (if bt (q + j) - 97 < 12 then (ms bt q j).1 ||| 2 ^ (bt (q + j) - 97).toNat else (ms bt q j).1) ≠ 0
    rw [if_pos z]
    intro e
    have := congrArg (fun x => Nat.testBit x (bt (q + j) - 97).toNat) e
    simp [Nat.testBit_or, Nat.testBit_two_pow_self] at this
theorem r_months (hn : n ≤ 400) (hL : LT n bt S) (hp : S 0 11 = (p : Int)) (hpn : p ≤ n) (hf : S 0 12 = -1) :
    (mon n bt (sk n bt p) = true → G12_months S = some (((ms bt (sk n bt p) (en n bt (sk n bt p) - sk n bt p)).1 : Int), x_up S 0 11 (en n bt (sk n bt p) : Int))) ∧
    (mon n bt (sk n bt p) = false → ∃ (v : Int) (r : Nat), r ≤ n ∧ G12_months S = some (v, x_up (x_up S 0 11 (r : Int)) 0 12 (sk n bt p : Int))) := by
  rw [G12_months, if_pos hf, G12_here, r_skip hn hL hp hpn, x_b1s, up_s, x_b2s]
  have hqn := sk_le (bt := bt) hpn
  generalize sk n bt p = q at *
  obtain ⟨r1, r2, r3⟩ := rc_spec (bt := bt) (k := 2) (n - q) q
  have hL1 : LT n bt (x_up S 0 11 (q : Int)) := hL.up (by decide) (by decide)
  have w : whl xFU (G12_months_L22 (x_up S 0 11 (q : Int))) (0, 1, (q : Int)) = some ((((ms bt q (rc bt 2 (n - q) q)).1 : Nat) : Int), (if (ms bt q (rc bt 2 (n - q) q)).2 then (1 : Int) else 0), ((q + rc bt 2 (n - q) q : Nat) : Int)) := by
    have e0 : ((0 : Int), (1 : Int), (q : Int)) = ((((ms bt q 0).1 : Nat) : Int), (if (ms bt q 0).2 then (1 : Int) else 0), ((q + 0 : Nat) : Int)) := rfl
    conv => lhs; rw [e0]
    refine w_run (fun j => ((((ms bt q j).1 : Nat) : Int), (if (ms bt q j).2 then (1 : Int) else 0), ((q + j : Nat) : Int))) (rc bt 2 (n - q) q) (by unfold xFU; omega) (fun j hj => ?_) ?_
    · have hl := g12_letter (i := q + j) hn hL1 (by omega)
      have hd := kd_2.mp (r1 j hj)
      have hm := ms_lt (bt := bt) (q := q) j
      rw [Nat.add_zero, G12_months_L22, hL1.1, if_neg (by omega), hl, x_b1s, g12_isIn, if_pos hd, x_b1s, if_neg (by decide), x_b1s, x_sub_of ⟨by omega, by omega⟩, n_inc (by omega)]
      have e1 : (ms bt q (j + 1)).1 = if bt (q + j) - 97 < 12 then (ms bt q j).1 ||| 2 ^ (bt (q + j) - 97).toNat else (ms bt q j).1 := rfl
      have e2 : (ms bt q (j + 1)).2 = ((ms bt q j).2 && decide (bt (q + j) - 97 < 12) && !((ms bt q j).1.testBit (bt (q + j) - 97).toNat)) := rfl
      rw [e1, e2]
      obtain ⟨t, ht⟩ := Int.eq_ofNat_of_zero_le (show 0 ≤ bt (q + j) - 97 by omega)
      rw [ht]
      by_cases z : t < 12
      · rw [if_neg (show ¬ (12 : Int) ≤ (t : Int) by omega), if_neg (show ¬ (12 : Int) ≤ (t : Int) by omega), if_pos (show (t : Int) < 12 by omega), g12_isOf (R32n (by omega)) (by omega), ib_nat, x_b1s]
        show (x_b1 (if (if (ms bt q j).2 = true then (1 : Int) else 0) = 0 then some (0 : Int) else (if (if (ms bt q j).1.testBit t = true then (1 : Int) else 0) = 0 then some 1 else some 0)) fun v18 => some (Sum.inl (x_or (((ms bt q j).1 : Nat) : Int) (x_shl 1 (t : Int)), v18, ((q + j + 1 : Nat) : Int))) : Option ((Int × Int × Int) ⊕ (Int × Int × Int))) = _
        rw [n_set (by omega) (by omega)]
        have e3 : (x_b1 (if (if (ms bt q j).2 = true then (1 : Int) else 0) = 0 then some (0 : Int) else (if (if (ms bt q j).1.testBit t = true then (1 : Int) else 0) = 0 then some 1 else some 0)) fun v18 => some (Sum.inl ((((ms bt q j).1 ||| 2 ^ t : Nat) : Int), v18, ((q + j + 1 : Nat) : Int))) : Option ((Int × Int × Int) ⊕ (Int × Int × Int))) = some (Sum.inl ((((ms bt q j).1 ||| 2 ^ t : Nat) : Int), (if ((ms bt q j).2 && decide ((t : Int) < 12) && !((ms bt q j).1.testBit ((t : Int)).toNat)) = true then (1 : Int) else 0), ((q + j + 1 : Nat) : Int))) := by
          have hz : decide ((t : Int) < 12) = true := by simp; omega
          rw [Int.toNat_natCast, hz]
          cases (ms bt q j).2 <;> cases (ms bt q j).1.testBit t <;> rfl
        exact e3
      · have hz : decide ((t : Int) < 12) = false := by simp; omega
        rw [if_pos (show (12 : Int) ≤ (t : Int) by omega), if_pos (show (12 : Int) ≤ (t : Int) by omega), if_neg (show ¬ (t : Int) < 12 by omega), hz]
        rw [Bool.and_false, Bool.false_and, if_neg (show ¬ (false = true) by decide)]
        have hor := n_or0 (s := (ms bt q j).1) (by omega)
        by_cases z2 : (if (ms bt q j).2 = true then (1 : Int) else 0) = 0
        · rw [if_pos z2, x_b1s, x_b1s, hor]; rfl
        · rw [if_neg z2, x_b1s, x_b1s, hor]; rfl
    · rw [G12_months_L22, hL1.1]
      by_cases z : rc bt 2 (n - q) q < n - q
      · have hl := g12_letter (i := q + rc bt 2 (n - q) q) hn hL1 (by omega)
        rw [if_neg (by omega), hl, x_b1s, g12_isIn, if_neg (fun y => r3 z (kd_2.mpr y)), x_b1s, if_pos rfl]
      · rw [if_pos (by omega)]
  rw [w, x_b3s]
  have hw : G12_wrong (q : Int) (x_up S 0 11 (q : Int)) = some (x_up (x_up S 0 11 (q : Int)) 0 12 (q : Int)) := by
    rw [G12_wrong, up_i (by decide), hf, if_pos rfl, x_b1s]
  rw [hw]
  by_cases zk : kA n bt q = 2
  · obtain ⟨e1, e2⟩ := en_2 zk
    have hgt := en_gt (n := n) (bt := bt) e2
    have er : en n bt q - q = rc bt 2 (n - q) q := by omega
    rw [er]
    constructor
    · intro h
      have hok : (ms bt q (rc bt 2 (n - q) q)).2 = true := by
        unfold mon at h; rw [er] at h; simp only [Bool.and_eq_true] at h; exact h.2
      have h0 := ms_pos (bt := bt) (q := q) (rc bt 2 (n - q) q) (by omega) hok
      rw [if_neg (by rw [hok]; decide), if_neg (by omega), up_up, x_b1s, e1]
    · intro h
      have hok : (ms bt q (rc bt 2 (n - q) q)).2 = false := by
        unfold mon at h; rw [er, zk] at h; simpa using h
      rw [if_pos (by rw [hok]; rfl), x_b1s, x_b1s]
      exact ⟨_, q, hqn, rfl⟩
  · have h0 : rc bt 2 (n - q) q = 0 := by
      by_cases hq : q < n
      · unfold kA at zk
        rw [if_pos hq] at zk
        obtain ⟨d, hd⟩ : ∃ d, n - q = d + 1 := ⟨n - q - 1, by omega⟩
        rw [hd]
        exact if_neg zk
      · rw [show n - q = 0 by omega]; rfl
    have hmon : mon n bt q = false := by unfold mon; simp [zk]
    rw [hmon, h0]
    refine ⟨fun y => (by cases y), fun _ => ?_⟩
    have e0 : ms bt q 0 = (0, true) := rfl
    rw [e0]
    exact ⟨_, q, hqn, rfl⟩
theorem c_byteAt {i : Nat} (hn : n ≤ 400) (h : TB n bt T) (hi : i < n) : G10_byteAt (i : Int) T = some (bt i) := by
  rw [G10_byteAt, if_neg (by omega), h.1, if_neg (by omega), if_neg (by omega), x_gd_t ⟨by omega, by omega⟩, Int.toNat_natCast, (h.2 i hi).1, x_b1s]
theorem c_months (hn : n ≤ 400) (hby : ∀ i, i < n → 0 ≤ bt i ∧ bt i ≤ 255) (h : TK n bt T q f) : ∃ (v : Int) (T' : xU) (q' : Nat) (f' : Int), G10_takeMonths T = some (v, T') ∧ TK n bt T' q' f' ∧ (f ≠ -1 → f' = f) ∧ (f = -1 → mon n bt q = true → v = ((ms bt q (en n bt q - q)).1 : Int) ∧ q' = sk n bt (en n bt q) ∧ f' = -1) ∧ (f = -1 → mon n bt q = false → f' = (q : Int)) := by
  have hen := en_le (n := n) (bt := bt) h.2.1
  have heg := en_ge (n := n) (bt := bt) (q := q)
  -- the token it goes on with
  obtain ⟨T1, f1, t1, t2, t3, t4⟩ : ∃ T1 f1, (if (T 0 5) = 2 then (some T) else (x_b1 (G10_refuse T) fun (T3 : xU) => (some T3))) = some T1 ∧ TK n bt T1 q f1 ∧ (f ≠ -1 → f1 = f) ∧ (f = -1 → f1 = if kA n bt q = 2 then -1 else (q : Int)) := by
    rw [h.2.2.2.2.1]
    by_cases z : kA n bt q = 2
    · rw [if_pos z]; exact ⟨T, f, rfl, h, fun _ => rfl, fun y => by rw [if_pos z]; exact y⟩
    · rw [if_neg z]
      obtain ⟨T2, e3, e4⟩ := c_refuse h
      exact ⟨T2, _, by rw [e3, x_b1s], e4, fun y => if_neg y, fun y => by rw [if_pos y, if_neg z]⟩
  have key : ∀ d i fuel, i + d = en n bt q - q → d < fuel → (ms bt q i).2 = true → (∀ j, j < i → 97 ≤ bt (q + j)) → ∃ (v : Int) (T' : xU) (q' : Nat) (f' : Int), x_lr (whl fuel (G10_takeMonths_L19 T1) (((ms bt q i).1 : Nat), ((q + i : Nat) : Int))) (fun (q : Int) => x_e1 q fun (v7 : Int) => (x_b1 (G10_readNext T1) fun (T20 : xU) => (some (v7, T20)))) (fun (q : (Int × xU)) => some q) = some (v, T') ∧ TK n bt T' q' f' ∧ (f1 ≠ -1 → f' = f1) ∧
      (f1 = -1 → (∀ j, j < en n bt q - q → 97 ≤ bt (q + j)) → ((ms bt q (en n bt q - q)).2 = true → v = ((ms bt q (en n bt q - q)).1 : Int) ∧ q' = sk n bt (en n bt q) ∧ f' = -1) ∧ ((ms bt q (en n bt q - q)).2 = false → f' = (q : Int))) := by
    intro d
    induction d with
    | zero =>
      intro i fuel hi hf hok hge
      cases fuel with
      | zero => omega
      | succ fuel =>
        have e1 : G10_takeMonths_L19 T1 (((ms bt q i).1 : Nat), ((q + i : Nat) : Int)) = some (.inr (.inl ((ms bt q i).1 : Int))) := by rw [G10_takeMonths_L19, t2.2.2.2.1, if_pos (by omega)]
        have ei : i = en n bt q - q := by omega
        obtain ⟨T', k1, k2⟩ := c_next hn t2.1 t2.2.2.2.1 t2.2.2.2.2.2.2.1 hen
        refine ⟨((ms bt q i).1 : Int), T', _, f1, ?_, k2, fun _ => rfl, fun y _ => ⟨fun _ => ⟨by rw [ei], rfl, y⟩, fun w => ?_⟩⟩
        · rw [whl, e1]
          show x_b1 (G10_readNext T1) _ = _
          rw [k1, x_b1s]
        · rw [← ei, hok] at w; cases w
    | succ d ih =>
      intro i fuel hi hf hok hge
      cases fuel with
      | zero => omega
      | succ fuel =>
        have hb := c_byteAt (i := q + i) hn t2.1 (by omega)
        have hbd := (t2.1.2 (q + i) (by omega))
        obtain ⟨T2, r1, r2⟩ := c_refuse t2
        have hm := ms_lt (bt := bt) (q := q) i
        have es2 : (ms bt q (i + 1)).2 = ((ms bt q i).2 && decide (bt (q + i) - 97 < 12) && !((ms bt q i).1.testBit (bt (q + i) - 97).toNat)) := rfl
        have es1 : (ms bt q (i + 1)).1 = if bt (q + i) - 97 < 12 then (ms bt q i).1 ||| 2 ^ (bt (q + i) - 97).toNat else (ms bt q i).1 := rfl
        have bad : (f1 = -1 → (∀ j, j < en n bt q - q → 97 ≤ bt (q + j)) → (ms bt q (i + 1)).2 = false) → whl (fuel + 1) (G10_takeMonths_L19 T1) (((ms bt q i).1 : Nat), ((q + i : Nat) : Int)) = some (.inr (0, T2)) → ∃ (v : Int) (T' : xU) (q' : Nat) (f' : Int), x_lr (whl (fuel + 1) (G10_takeMonths_L19 T1) (((ms bt q i).1 : Nat), ((q + i : Nat) : Int))) (fun (q : Int) => x_e1 q fun (v7 : Int) => (x_b1 (G10_readNext T1) fun (T20 : xU) => (some (v7, T20)))) (fun (q : (Int × xU)) => some q) = some (v, T') ∧ TK n bt T' q' f' ∧ (f1 ≠ -1 → f' = f1) ∧
            (f1 = -1 → (∀ j, j < en n bt q - q → 97 ≤ bt (q + j)) → ((ms bt q (en n bt q - q)).2 = true → v = ((ms bt q (en n bt q - q)).1 : Int) ∧ q' = sk n bt (en n bt q) ∧ f' = -1) ∧ ((ms bt q (en n bt q - q)).2 = false → f' = (q : Int))) := by
          intro hbad hr
          refine ⟨0, T2, q, _, by rw [hr]; rfl, r2, fun y => if_neg y, fun y hall => ⟨fun w => ?_, fun _ => if_pos y⟩⟩
          have := ms_mono (bt := bt) (q := q) (i := i + 1) (en n bt q - q - (i + 1)) (hbad y hall)
          rw [show i + 1 + (en n bt q - q - (i + 1)) = en n bt q - q by omega, w] at this
          cases this
        by_cases hR : R32 (bt (q + i) - 97)
        · have es : x_sub (bt (q + i)) 97 = bt (q + i) - 97 := x_sub_of hR
          by_cases z0 : bt (q + i) - 97 < 0
          · refine bad (fun y hall => absurd (hall i (by omega)) (by omega)) ?_
            rw [whl, G10_takeMonths_L19, t2.2.2.2.1, if_neg (by omega), hb, x_b1s, es, if_pos z0, r1, x_b1s]
          · by_cases z12 : 12 ≤ bt (q + i) - 97
            · refine bad (fun _ _ => by rw [es2]; simp; omega) ?_
              rw [whl, G10_takeMonths_L19, t2.2.2.2.1, if_neg (by omega), hb, x_b1s, es, if_neg z0, if_pos z12, r1, x_b1s]
            · obtain ⟨t, ht⟩ := Int.eq_ofNat_of_zero_le (show 0 ≤ bt (q + i) - 97 by omega)
              by_cases zb : (ms bt q i).1.testBit t = true
              · refine bad (fun _ _ => by rw [es2, ht, Int.toNat_natCast, zb]; simp) ?_
                rw [whl, G10_takeMonths_L19, t2.2.2.2.1, if_neg (by omega), hb, x_b1s, es, if_neg z0, if_neg z12, ht, g11_hold (R32n (by omega)) (by omega), ib_nat, x_b1s, if_pos zb, if_neg (by decide), r1, x_b1s]
              · have zb' : (ms bt q i).1.testBit t = false := by simpa using zb
                have e1 : G10_takeMonths_L19 T1 (((ms bt q i).1 : Nat), ((q + i : Nat) : Int)) = some (.inl (((ms bt q (i + 1)).1 : Nat), ((q + (i + 1) : Nat) : Int))) := by
                  rw [G10_takeMonths_L19, t2.2.2.2.1, if_neg (by omega), hb, x_b1s, es, if_neg z0, if_neg z12, ht, g11_hold (R32n (by omega)) (by omega), ib_nat, x_b1s, if_neg zb, if_pos rfl, n_set (by omega) (by omega), n_inc (by omega), es1, ht, if_pos (by omega), Int.toNat_natCast]
                  rfl
                rw [whl, e1]
                refine ih (i + 1) fuel (by omega) (by omega) ?_ (fun j hj => ?_)
                · rw [es2, hok, ht, Int.toNat_natCast, zb']
                  simp; omega
                · by_cases e : j = i
                  · subst e; omega
                  · exact hge j (by omega)
        · exact absurd (⟨by have := hby (q + i) (by omega); omega, by have := hby (q + i) (by omega); omega⟩ : R32 (bt (q + i) - 97)) hR
  rw [G10_takeMonths, t1, x_b1s, t2.2.2.1]
  obtain ⟨v, T', q', f', k1, k2, k3, k4⟩ := key (en n bt q - q) 0 xFU (by omega) (by unfold xFU; omega) rfl (fun j hj => absurd hj (by omega))
  refine ⟨v, T', q', f', k1, k2, fun y => (k3 (by rw [t3 y]; exact y)).trans (t3 y), fun y hm => ?_, fun y hm => ?_⟩
  · have zk : kA n bt q = 2 := by unfold mon at hm; simp only [Bool.and_eq_true, decide_eq_true_eq] at hm; exact hm.1
    have hok : (ms bt q (en n bt q - q)).2 = true := by unfold mon at hm; simp only [Bool.and_eq_true] at hm; exact hm.2
    have hf1 : f1 = -1 := by rw [t4 y, if_pos zk]
    obtain ⟨e1, e2⟩ := en_2 zk
    have rs := rc_spec (bt := bt) (k := 2) (n - q) q
    exact (k4 hf1 (fun j hj => (kd_2.mp (rs.1 j (by omega))).1)).1 hok
  · by_cases zk : kA n bt q = 2
    · have hok : (ms bt q (en n bt q - q)).2 = false := by unfold mon at hm; rw [zk] at hm; simpa using hm
      have hf1 : f1 = -1 := by rw [t4 y, if_pos zk]
      obtain ⟨e1, e2⟩ := en_2 zk
      have rs := rc_spec (bt := bt) (k := 2) (n - q) q
      exact (k4 hf1 (fun j hj => (kd_2.mp (rs.1 j (by omega))).1)).2 hok
    · have hf1 : f1 = (q : Int) := by rw [t4 y, if_neg zk]
      rw [k3 (by rw [hf1]; omega), hf1]
end MNK
