/-! Stalls put to monks. -/
theorem pc_12 (x : Nat) : pc x ≤ 12 := by
  have : ∀ n, sN (fun i => (x.testBit i).toNat) n ≤ n := by
    intro n
    induction n with
    | zero => exact Nat.le_refl _
    | succ n ih =>
      rw [sN_s]
      cases x.testBit n
      · simp; omega
      · simp; omega
  exact this 12
theorem sv_pc {l : Nat → Nat} {n M B : Nat} : sv l n M B ≤ pc M := by
  have := sv_le (l := l) (n := n) (B := B) (sub_0 (M := M))
  rw [fh_0] at this
  exact this
theorem sv_12 {l : Nat → Nat} {n M B : Nat} : sv l n M B ≤ 12 := Nat.le_trans sv_pc (pc_12 M)
/-- the monks from i on -/
def Ms (n i : Nat) : Nat := dif (2 ^ n - 1) (2 ^ i - 1)
theorem Ms_bit {n i k : Nat} : (Ms n i).testBit k = (decide (k < n) && !decide (k < i)) := by
  rw [Ms, dif_bit, Nat.testBit_two_pow_sub_one, Nat.testBit_two_pow_sub_one]
theorem Ms_0 {n : Nat} : Ms n 0 = 2 ^ n - 1 := dif_0
theorem Ms_s {n i : Nat} : dif (Ms n i) (2 ^ i) = Ms n (i + 1) := by
  apply Nat.eq_of_testBit_eq
  intro k
  rw [dif_p, Ms_bit, Ms_bit]
  by_cases h1 : k < i
  · rw [decide_eq_true h1, decide_eq_true (show k < i + 1 by omega)]; simp
  · by_cases h2 : i = k
    · rw [decide_eq_true h2, decide_eq_true (show k < i + 1 by omega)]; simp
    · rw [decide_eq_false h1, decide_eq_false h2, decide_eq_false (show ¬ k < i + 1 by omega)]; simp
theorem Ms_n {n : Nat} : Ms n n = 0 := by
  apply Nat.eq_of_testBit_eq
  intro k
  rw [Ms_bit, Nat.zero_testBit]
  cases decide (k < n) <;> rfl
theorem Ms_lt {n i : Nat} (h : n ≤ 7) : Ms n i < 128 := by
  have p2 := Nat.two_pow_pos n
  have p7 : 2 ^ n ≤ 2 ^ 7 := Nat.pow_le_pow_right (by decide) h
  exact dif_lt (n := 7) (by omega)
/-- a row filled from a place on -/
def flo (S : xU) (r b : Nat) (f : Nat → Int) (j : Nat) : xU := fun o i => if o = r ∧ b ≤ i ∧ i < b + j then f (i - b) else S o i
section FLO
variable {S : xU} {r b j : Nat} {f : Nat → Int}
theorem flo_0 : flo S r b f 0 = S := by
  funext o i
  exact if_neg (fun h => absurd h.2 (by omega))
theorem flo_o {o : Nat} (h : o ≠ r) : flo S r b f j o = S o := by
  funext i
  exact if_neg (fun w => h w.1)
theorem flo_i {i : Nat} (h : i < j) : flo S r b f j r (b + i) = f i := by
  show (if r = r ∧ b ≤ b + i ∧ b + i < b + j then f (b + i - b) else _) = _
  rw [if_pos ⟨rfl, by omega, by omega⟩, Nat.add_sub_cancel_left]
theorem flo_h {i : Nat} (h : i < b ∨ b + j ≤ i) : flo S r b f j r i = S r i := if_neg (fun w => absurd w.2 (by omega))
theorem flo_s : x_up (flo S r b f j) r (b + j) (f j) = flo S r b f (j + 1) := by
  funext o i
  by_cases ho : o = r
  · subst ho
    by_cases hi : i = b + j
    · subst hi; rw [up_s, flo_i (by omega)]
    · rw [up_i hi]
      by_cases h : b ≤ i ∧ i < b + j
      · obtain ⟨t, rfl⟩ : ∃ t, i = b + t := ⟨i - b, by omega⟩
        rw [flo_i (by omega), flo_i (by omega)]
      · rw [flo_h (by omega), flo_h (by omega)]
  · rw [up_o ho, flo_o ho, flo_o ho]
end FLO
/-- the most of some -/
def mx (c : Nat → Bool) (f : Nat → Nat) (a k : Nat) : Nat := fo (fun s x => if c s then max x (f s) else x) a k
section MX
variable {c : Nat → Bool} {f : Nat → Nat} {a : Nat}
theorem mx_s {k : Nat} : mx c f a (k + 1) = if c k then max (mx c f a k) (f k) else mx c f a k := rfl
theorem mx_ge : ∀ k, a ≤ mx c f a k := by
  intro k
  induction k with
  | zero => exact Nat.le_refl _
  | succ k ih =>
    rw [mx_s]
    by_cases z : c k = true
    · rw [if_pos z]; omega
    · rw [if_neg z]; exact ih
theorem mx_of {s : Nat} (h : c s = true) : ∀ k, s < k → f s ≤ mx c f a k := by
  intro k
  induction k with
  | zero => intro h; omega
  | succ k ih =>
    intro hk
    rw [mx_s]
    by_cases e : s = k
    · subst e; rw [if_pos h]; exact Nat.le_max_right _ _
    · have := ih (by omega)
      by_cases z : c k = true
      · rw [if_pos z]; omega
      · rw [if_neg z]; exact this
theorem mx_le {U : Nat} (h0 : a ≤ U) : ∀ k, (∀ s, s < k → c s = true → f s ≤ U) → mx c f a k ≤ U := by
  intro k
  induction k with
  | zero => intro _; exact h0
  | succ k ih =>
    intro h
    have := ih (fun s hs => h s (by omega))
    rw [mx_s]
    by_cases z : c k = true
    · have := h k (by omega) z
      rw [if_pos z]; omega
    · rw [if_neg z]; exact this
end MX
/-- the recurrence -/
theorem sv_rec {l : Nat → Nat} {n i B : Nat} (hn : n ≤ 7) (hin : i < n) (hlt : l i < 4096) : mx (fun s => (l i).testBit s && B.testBit s) (fun s => 1 + sv l n (Ms n (i + 1)) (dif B (2 ^ s))) (sv l n (Ms n (i + 1)) B) 12 = sv l n (Ms n i) B := by
  have hM : (Ms n i).testBit i = true := by rw [Ms_bit, decide_eq_true hin, decide_eq_false (Nat.lt_irrefl _)]; rfl
  apply Nat.le_antisymm
  · refine mx_le ?_ 12 fun s hs hc => ?_
    · rw [← Ms_s]; exact hall_a
    · rw [Bool.and_eq_true] at hc
      rw [← Ms_s]
      exact hall_b hin (by omega) hs hM hc.1 hc.2
  · by_cases z : sv l n (Ms n i) B ≤ sv l n (Ms n (i + 1)) B
    · exact Nat.le_trans z (mx_ge 12)
    · obtain ⟨s, hs, h1, h2, h3⟩ := hall_c (l := l) (n := n) (M := Ms n i) (B := B) (i := i) (by omega) hlt hM (by rw [Ms_s]; omega)
      rw [Ms_s] at h3
      exact Nat.le_trans h3 (mx_of (f := fun s => 1 + sv l n (Ms n (i + 1)) (dif B (2 ^ s))) (c := fun s => (l i).testBit s && B.testBit s) (s := s) (by show ((l i).testBit s && B.testBit s) = true; rw [h1, h2]; rfl) 12 hs)
/-- what a seat leaves -/
theorem sv_seat {l : Nat → Nat} {n i B : Nat} (hn : n ≤ 7) (hin : i < n) (hlt : l i < 4096) (h : ∀ s, s < 12 → ((l i).testBit s && B.testBit s && decide (1 + sv l n (Ms n (i + 1)) (dif B (2 ^ s)) = sv l n (Ms n i) B)) = false) : sv l n (Ms n (i + 1)) B = sv l n (Ms n i) B := by
  have hM : (Ms n i).testBit i = true := by rw [Ms_bit, decide_eq_true hin, decide_eq_false (Nat.lt_irrefl _)]; rfl
  have ha := hall_a (l := l) (n := n) (M := Ms n i) (B := B) (i := i)
  rw [Ms_s] at ha
  by_cases z : sv l n (Ms n i) B ≤ sv l n (Ms n (i + 1)) B
  · omega
  · exfalso
    obtain ⟨s, hs, h1, h2, h3⟩ := hall_c (l := l) (n := n) (M := Ms n i) (B := B) (i := i) (by omega) hlt hM (by rw [Ms_s]; omega)
    have h4 := hall_b (l := l) (n := n) (M := Ms n i) (B := B) (i := i) hin (by omega) hs hM h1 h2
    rw [Ms_s] at h3 h4
    have := h s hs
    rw [h1, h2, decide_eq_true (by omega)] at this
    cases this
/-- the least of some, or none -/
def dn (q : Nat → Bool) : Nat → Nat → Int
  | _, 0 => -1
  | lo, k + 1 => if q lo then (lo : Int) else dn q (lo + 1) k
theorem dn_in {q : Nat → Bool} : ∀ k lo, (dn q lo k = -1 ∧ ∀ s, s < lo + k → lo ≤ s → q s = false) ∨ ∃ s, lo ≤ s ∧ s < lo + k ∧ q s = true ∧ dn q lo k = (s : Int) := by
  intro k
  induction k with
  | zero => intro lo; exact .inl ⟨rfl, fun s h1 h2 => absurd h1 (by omega)⟩
  | succ k ih =>
    intro lo
    by_cases z : q lo = true
    · exact .inr ⟨lo, Nat.le_refl _, by omega, z, if_pos z⟩
    · have e : dn q lo (k + 1) = dn q (lo + 1) k := if_neg z
      rw [e]
      rcases ih (lo + 1) with ⟨h1, h2⟩ | ⟨s, h1, h2, h3, h4⟩
      · refine .inl ⟨h1, fun s hs1 hs2 => ?_⟩
        by_cases e2 : s = lo
        · subst e2; cases hq : q s with
          | false => rfl
          | true => exact absurd hq z
        · exact h2 s (by omega) (by omega)
      · exact .inr ⟨s, by omega, by omega, h3, h4⟩
theorem n_ix8 {i u : Nat} (hi : i ≤ 8) (hu : u < 4096) : x_add (x_mul 4096 (i : Int)) (u : Int) = ((4096 * i + u : Nat) : Int) := by
  rw [x_mul_of ⟨by omega, by omega⟩, x_add_of ⟨by omega, by omega⟩]; omega
theorem b_no {u s : Nat} (hs : s < 12) (h : (4095 - u).testBit s = true) (hu : u < 4096) : u ||| 2 ^ s < 4096 ∧ 4095 - (u ||| 2 ^ s) = dif (4095 - u) (2 ^ s) := by
  have e := cpl_or (n := 12) (s := 4095 - u) (k := s) (by omega) hs h
  have d : dif (4095 - u) (2 ^ s) < 2 ^ 12 := dif_lt (by omega)
  rw [show 2 ^ 12 - 1 - (4095 - u) = u by omega] at e
  rw [e]
  omega
theorem b_bit {u s x : Nat} (hu : u < 4096) (hs : s < 12) : (dif x u).testBit s = (x.testBit s && (4095 - u).testBit s) := by
  have := cpl_bit (n := 12) (s := u) (k := s) (by omega)
  rw [show 2 ^ 12 - 1 - u = 4095 - u by omega, decide_eq_true hs, Bool.true_and] at this
  rw [dif_bit, this]
section STS
variable {N S St : xU} {m : Nat → Int} {n : Nat} {l : Nat → Nat}
theorem c_seatable {M B : Nat} (hM : M < 128) (hB : B < 4096) (hlt : ∀ p, p < n → l p < 4096) (hS : ∀ v, v < 128 → St 1 v = (lkn l n v : Int)) : G9_seatable (M : Int) (B : Int) St = some ((sv l n M B : Nat) : Int) := by
  have w : whl xFU (G9_seatable_L8 (M : Int) (B : Int) St) (x_bc (M : Int), 0) = some ((sv l n M B : Nat) : Int) := by
    rw [bc_pc (by omega)]
    refine w_run (fun v => (((fo (fun v a => if dif v M = 0 then min a (fh l n M B v) else a) (pc M) v : Nat) : Int), (v : Int))) (M + 1) (by unfold xFU; omega) (fun v hv => ?_) (by rw [G9_seatable_L8, if_pos (by omega)]; rfl)
    have h1 : dif M v < 2 ^ 7 := dif_lt (n := 7) hM
    have h2 := lkn_lt (l := l) (n := n) (v := v) hlt
    have h3 : lkn l n v &&& B < 4096 := Nat.lt_of_le_of_lt Nat.and_le_left h2
    have q1 := pc_12 (dif M v)
    have q2 := pc_12 (lkn l n v &&& B)
    rw [G9_seatable_L8, if_neg (by omega), if_neg (by omega), n_dif (by omega), n_dif (by omega), n_inc (by omega), x_gd_t ⟨by omega, by omega⟩, Int.toNat_natCast, hS v (by omega), n_and (by omega), bc_pc (by omega), bc_pc h3, n_add (by omega)]
    show _ = some (Sum.inl (((if dif v M = 0 then min (fo (fun v a => if dif v M = 0 then min a (fh l n M B v) else a) (pc M) v) (fh l n M B v) else (fo (fun v a => if dif v M = 0 then min a (fh l n M B v) else a) (pc M) v) : Nat) : Int), ((v + 1 : Nat) : Int)))
    by_cases z : dif v M = 0
    · rw [if_pos (show ((dif v M : Nat) : Int) = 0 by omega), if_pos z, x_b1s]
      congr 3
      unfold fh
      omega
    · rw [if_neg (show ¬ ((dif v M : Nat) : Int) = 0 by omega), if_neg z, x_b1s]
  rw [G9_seatable, w, x_b1s]
theorem c_most (h : CR N m) (hi : Iv m) (e : m 3 = (n : Int)) (hl : ∀ p, p < n → m (19 + 8 * p) = (l p : Int)) : ∃ St', G9_mostSeated N St = some (((sv l n (Ms n 0) 4095 : Nat) : Int), St') ∧ ∀ v, v < 128 → St' 1 v = (lkn l n v : Int) := by
  have h7 := hi.many
  have hlt : ∀ p, p < n → l p < 4096 := fun p hp => by have := (hi.mk (p := p) (by omega)).2.2.2.1; rw [hl p hp] at this; omega
  have p2 := Nat.two_pow_pos n
  have p7 : 2 ^ n ≤ 2 ^ 7 := Nat.pow_le_pow_right (by decide) (by omega)
  obtain ⟨St', k1, k2, _⟩ := c_gather (St := St) h hi e hl
  refine ⟨St', ?_, k2⟩
  rw [G9_mostSeated, k1, x_b1s, h.1.1, e, n_shl1 n (by omega), x_sub_of ⟨by omega, by omega⟩, show ((2 ^ n : Nat) : Int) - 1 = ((2 ^ n - 1 : Nat) : Int) by omega, show (4095 : Int) = ((4095 : Nat) : Int) from rfl, c_seatable (by omega) (by decide) hlt k2, x_b1s, Ms_0]
end STS
