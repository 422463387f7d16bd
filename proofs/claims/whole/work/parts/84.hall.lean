/-! Stalls put to monks: the counting (after Hall). -/
/-- how many bits of the first twelve -/
def pc (x : Nat) : Nat := sN (fun i => (x.testBit i).toNat) 12
theorem bc_pc {b : Nat} (h : b < 4096) : x_bc (b : Int) = (pc b : Int) := by
  have key : ∀ n, cn (fun p => b.testBit p) n = ((sN (fun i => (b.testBit i).toNat) n : Nat) : Int) := by
    intro n
    induction n with
    | zero => rfl
    | succ n ih =>
      rw [cn_s, sN_s, ih]
      cases b.testBit n
      · simp
      · simp
  rw [bc12 b h]
  exact key 12
theorem sN_le2 {q1 q2 q3 q4 : Nat → Nat} : ∀ n, (∀ i, i < n → q1 i + q2 i ≤ q3 i + q4 i) → sN q1 n + sN q2 n ≤ sN q3 n + sN q4 n := by
  intro n
  induction n with
  | zero => intro _; exact Nat.le_refl _
  | succ n ih =>
    intro h
    have h1 := ih (fun i hi => h i (by omega))
    have h2 := h n (by omega)
    rw [sN_s, sN_s, sN_s, sN_s]
    omega
theorem pc_2 {x1 x2 x3 x4 : Nat} (h : ∀ i, i < 12 → (x1.testBit i).toNat + (x2.testBit i).toNat ≤ (x3.testBit i).toNat + (x4.testBit i).toNat) : pc x1 + pc x2 ≤ pc x3 + pc x4 := sN_le2 12 h
theorem pc_0 : pc 0 = 0 := by decide
theorem pc_le {x y : Nat} (h : ∀ i, i < 12 → x.testBit i = true → y.testBit i = true) : pc x ≤ pc y := by
  have := pc_2 (x1 := x) (x2 := 0) (x3 := y) (x4 := 0) (fun i hi => by
    rw [Nat.zero_testBit]
    cases hx : x.testBit i with
    | false => simp
    | true => rw [h i hi hx]; exact Nat.le_refl _)
  rw [pc_0] at this
  omega
/-- one more bit -/
theorem pc_one : ∀ s, s < 12 → pc (2 ^ s) = 1 := by decide
theorem pc_lt {x y s : Nat} (hs : s < 12) (hy : y.testBit s = true) (hx : x.testBit s = false) (h : ∀ i, i < 12 → x.testBit i = true → y.testBit i = true) : pc x + 1 ≤ pc y := by
  have := pc_2 (x1 := x) (x2 := 2 ^ s) (x3 := y) (x4 := 0) (fun i hi => by
    rw [Nat.testBit_two_pow, Nat.zero_testBit]
    by_cases e : s = i
    · subst e; rw [hx, hy, decide_eq_true rfl]; exact Nat.le_refl _
    · rw [decide_eq_false e]
      cases hxi : x.testBit i with
      | false => simp
      | true => rw [h i hi hxi]; exact Nat.le_refl _)
  rw [pc_one s hs, pc_0] at this
  omega
theorem pc_up {x y s : Nat} (hs : s < 12) (h : ∀ i, i < 12 → i ≠ s → x.testBit i = true → y.testBit i = true) : pc x ≤ pc y + 1 := by
  have := pc_2 (x1 := x) (x2 := 0) (x3 := y) (x4 := 2 ^ s) (fun i hi => by
    rw [Nat.testBit_two_pow, Nat.zero_testBit]
    by_cases e : s = i
    · subst e; rw [decide_eq_true rfl]; cases x.testBit s <;> cases y.testBit s <;> decide
    · rw [decide_eq_false e]
      cases hxi : x.testBit i with
      | false => simp
      | true => rw [h i hi (fun w => e w.symm) hxi]; exact Nat.le_refl _)
  rw [pc_one s hs, pc_0] at this
  omega
/-- one set within another -/
def sub (v M : Nat) : Prop := ∀ i, v.testBit i = true → M.testBit i = true
theorem sub_dif {v M : Nat} : dif v M = 0 ↔ sub v M := by
  constructor
  · intro h i hi
    have : (dif v M).testBit i = false := by rw [h, Nat.zero_testBit]
    rw [dif_bit, hi] at this
    cases hm : M.testBit i with
    | true => rfl
    | false => rw [hm] at this; cases this
  · intro h
    apply Nat.eq_of_testBit_eq
    intro i
    rw [dif_bit, Nat.zero_testBit]
    cases hv : v.testBit i with
    | false => rfl
    | true => rw [h i hv]; rfl
theorem sub_le {v M : Nat} (h : sub v M) : v ≤ M := by
  have : v &&& M = v := by
    apply Nat.eq_of_testBit_eq
    intro i
    rw [Nat.testBit_and]
    cases hv : v.testBit i with
    | false => rfl
    | true => rw [h i hv]; rfl
  rw [← this]
  exact Nat.and_le_right
theorem sub_0 {M : Nat} : sub 0 M := fun i h => by rw [Nat.zero_testBit] at h; cases h
theorem lkn_bit {l : Nat → Nat} {v s : Nat} : ∀ n, (lkn l n v).testBit s = true ↔ ∃ p, p < n ∧ v.testBit p = true ∧ (l p).testBit s = true := by
  intro n
  induction n with
  | zero =>
    constructor
    · intro h
      rw [show lkn l 0 v = 0 from rfl, Nat.zero_testBit] at h
      cases h
    · rintro ⟨p, hp, _⟩; omega
  | succ n ih =>
    rw [lkn_s]
    cases hv : v.testBit n with
    | false =>
      rw [if_neg Bool.false_ne_true, ih]
      constructor
      · rintro ⟨p, h1, h2⟩; exact ⟨p, by omega, h2⟩
      · rintro ⟨p, h1, h2, h3⟩
        refine ⟨p, ?_, h2, h3⟩
        by_cases e : p = n
        · subst e; rw [hv] at h2; cases h2
        · omega
    | true =>
      rw [if_pos rfl, Nat.testBit_or, Bool.or_eq_true, ih]
      constructor
      · rintro (⟨p, h1, h2⟩ | h)
        · exact ⟨p, by omega, h2⟩
        · exact ⟨n, by omega, hv, h⟩
      · rintro ⟨p, h1, h2, h3⟩
        by_cases e : p = n
        · subst e; exact .inr h3
        · exact .inl ⟨p, by omega, h2, h3⟩
/-- what a set lets be seated, at most -/
def fh (l : Nat → Nat) (n M B v : Nat) : Nat := pc (dif M v) + pc (lkn l n v &&& B)
def sv (l : Nat → Nat) (n M B : Nat) : Nat := fo (fun v a => if dif v M = 0 then min a (fh l n M B v) else a) (pc M) (M + 1)
section HLL
variable {l : Nat → Nat} {n M B i : Nat}
theorem lkn_0 : lkn l n 0 = 0 := by
  apply Nat.eq_of_testBit_eq
  intro s
  rw [Nat.zero_testBit]
  cases h : (lkn l n 0).testBit s with
  | false => rfl
  | true =>
    obtain ⟨p, _, h2, _⟩ := (lkn_bit n).mp h
    rw [Nat.zero_testBit] at h2; cases h2
theorem dif_0 {x : Nat} : dif x 0 = x := by
  apply Nat.eq_of_testBit_eq
  intro i
  rw [dif_bit, Nat.zero_testBit]; simp
theorem fh_0 : fh l n M B 0 = pc M := by
  unfold fh
  rw [lkn_0, Nat.zero_and, pc_0, dif_0]; rfl
theorem sv_le {v : Nat} (h : sub v M) : sv l n M B ≤ fh l n M B v := by
  have key : ∀ k, v < k → fo (fun v a => if dif v M = 0 then min a (fh l n M B v) else a) (pc M) k ≤ fh l n M B v := by
    intro k
    induction k with
    | zero => intro hk; omega
    | succ k ih =>
      intro hk
      show (if dif k M = 0 then min _ (fh l n M B k) else _) ≤ _
      by_cases e : v = k
      · subst e; rw [if_pos (sub_dif.mpr h)]; exact Nat.min_le_right _ _
      · have := ih (by omega)
        by_cases z : dif k M = 0
        · rw [if_pos z]; exact Nat.le_trans (Nat.min_le_left _ _) this
        · rw [if_neg z]; exact this
  exact key (M + 1) (by have := sub_le h; omega)
theorem sv_eq : ∃ v, sub v M ∧ sv l n M B = fh l n M B v := by
  have key : ∀ k, ∃ v, sub v M ∧ fo (fun v a => if dif v M = 0 then min a (fh l n M B v) else a) (pc M) k = fh l n M B v := by
    intro k
    induction k with
    | zero => exact ⟨0, sub_0, fh_0.symm⟩
    | succ k ih =>
      obtain ⟨v, h1, h2⟩ := ih
      show ∃ v, sub v M ∧ (if dif k M = 0 then min (fo (fun v a => if dif v M = 0 then min a (fh l n M B v) else a) (pc M) k) (fh l n M B k) else fo (fun v a => if dif v M = 0 then min a (fh l n M B v) else a) (pc M) k) = _
      by_cases z : dif k M = 0
      · rw [if_pos z]
        by_cases y : fo (fun v a => if dif v M = 0 then min a (fh l n M B v) else a) (pc M) k ≤ fh l n M B k
        · exact ⟨v, h1, by rw [Nat.min_eq_left y]; exact h2⟩
        · exact ⟨k, sub_dif.mp z, Nat.min_eq_right (by omega)⟩
      · rw [if_neg z]; exact ⟨v, h1, h2⟩
  exact key (M + 1)
theorem lkn_mono {v w : Nat} (h : sub v w) {s : Nat} (hs : (lkn l n v).testBit s = true) : (lkn l n w).testBit s = true := by
  obtain ⟨p, h1, h2, h3⟩ := (lkn_bit n).mp hs
  exact (lkn_bit n).mpr ⟨p, h1, h p h2, h3⟩
/-- (a) one monk less is not more -/
theorem hall_a : sv l n (dif M (2 ^ i)) B ≤ sv l n M B := by
  obtain ⟨v, h1, h2⟩ := sv_eq (l := l) (n := n) (M := M) (B := B)
  rw [h2]
  have hv : sub (dif v (2 ^ i)) (dif M (2 ^ i)) := fun k hk => by
    rw [dif_p, Bool.and_eq_true] at hk ⊢
    exact ⟨h1 k hk.1, hk.2⟩
  refine Nat.le_trans (sv_le hv) (Nat.add_le_add (pc_le fun k _ hk => ?_) (pc_le fun k _ hk => ?_))
  · rw [dif_bit, dif_p, dif_p, Bool.and_eq_true, Bool.and_eq_true] at hk
    rw [dif_bit, hk.1.1]
    have := hk.2
    cases hvk : v.testBit k with
    | false => rfl
    | true => rw [hvk, hk.1.2] at this; cases this
  · rw [Nat.testBit_and, Bool.and_eq_true] at hk ⊢
    exact ⟨lkn_mono (fun j hj => by rw [dif_p, Bool.and_eq_true] at hj; exact hj.1) hk.1, hk.2⟩
/-- (b) he and a stall that he likes -/
theorem hall_b {s : Nat} (hin : i < n) (hi12 : i < 12) (hs : s < 12) (hM : M.testBit i = true) (hl : (l i).testBit s = true) (hB : B.testBit s = true) : 1 + sv l n (dif M (2 ^ i)) (dif B (2 ^ s)) ≤ sv l n M B := by
  obtain ⟨v, h1, h2⟩ := sv_eq (l := l) (n := n) (M := M) (B := B)
  rw [h2]
  have hv : sub (dif v (2 ^ i)) (dif M (2 ^ i)) := fun k hk => by
    rw [dif_p, Bool.and_eq_true] at hk ⊢
    exact ⟨h1 k hk.1, hk.2⟩
  have e := sv_le (l := l) (n := n) (B := dif B (2 ^ s)) hv
  have mm : ∀ k, (dif (dif M (2 ^ i)) (dif v (2 ^ i))).testBit k = true → (dif M v).testBit k = true ∧ k ≠ i := by
    intro k hk
    rw [dif_bit, dif_p, dif_p, Bool.and_eq_true, Bool.and_eq_true] at hk
    have hki : k ≠ i := fun w => by
      subst w
      have := hk.1.2
      rw [decide_eq_true rfl] at this; cases this
    refine ⟨?_, hki⟩
    rw [dif_bit, hk.1.1]
    have := hk.2
    cases hvk : v.testBit k with
    | false => rfl
    | true => rw [hvk, hk.1.2] at this; cases this
  have ll : ∀ k, (lkn l n (dif v (2 ^ i)) &&& dif B (2 ^ s)).testBit k = true → (lkn l n v &&& B).testBit k = true ∧ k ≠ s := by
    intro k hk
    rw [Nat.testBit_and, dif_p, Bool.and_eq_true, Bool.and_eq_true] at hk
    refine ⟨?_, fun w => ?_⟩
    · rw [Nat.testBit_and, Bool.and_eq_true]
      exact ⟨lkn_mono (fun j hj => by rw [dif_p, Bool.and_eq_true] at hj; exact hj.1) hk.1, hk.2.1⟩
    · subst w
      have := hk.2.2
      rw [decide_eq_true rfl] at this; cases this
  unfold fh at e ⊢
  cases hvi : v.testBit i with
  | true =>
    have a1 : pc (dif (dif M (2 ^ i)) (dif v (2 ^ i))) ≤ pc (dif M v) := pc_le fun k _ hk => (mm k hk).1
    have a2 : pc (lkn l n (dif v (2 ^ i)) &&& dif B (2 ^ s)) + 1 ≤ pc (lkn l n v &&& B) := by
      refine pc_lt hs ?_ ?_ fun k _ hk => (ll k hk).1
      · rw [Nat.testBit_and, hB, (lkn_bit n).mpr ⟨i, hin, hvi, hl⟩]; rfl
      · cases hx : (lkn l n (dif v (2 ^ i)) &&& dif B (2 ^ s)).testBit s with
        | false => rfl
        | true => exact absurd rfl (ll s hx).2
    omega
  | false =>
    have a1 : pc (dif (dif M (2 ^ i)) (dif v (2 ^ i))) + 1 ≤ pc (dif M v) := by
      refine pc_lt hi12 ?_ ?_ fun k _ hk => (mm k hk).1
      · rw [dif_bit, hM, hvi]; rfl
      · cases hx : (dif (dif M (2 ^ i)) (dif v (2 ^ i))).testBit i with
        | false => rfl
        | true => exact absurd rfl (mm i hx).2
    have a2 : pc (lkn l n (dif v (2 ^ i)) &&& dif B (2 ^ s)) ≤ pc (lkn l n v &&& B) := pc_le fun k _ hk => (ll k hk).1
    omega
/-- tight sets join -/
theorem fh_sub {v w : Nat} : fh l n M B (v ||| w) + fh l n M B (v &&& w) ≤ fh l n M B v + fh l n M B w := by
  have a1 : pc (dif M (v ||| w)) + pc (dif M (v &&& w)) ≤ pc (dif M v) + pc (dif M w) := pc_2 fun k _ => by
    rw [dif_bit, dif_bit, dif_bit, dif_bit, Nat.testBit_or, Nat.testBit_and]
    cases M.testBit k <;> cases v.testBit k <;> cases w.testBit k <;> decide
  have a2 : pc (lkn l n (v ||| w) &&& B) + pc (lkn l n (v &&& w) &&& B) ≤ pc (lkn l n v &&& B) + pc (lkn l n w &&& B) := pc_2 fun k _ => by
    rw [Nat.testBit_and, Nat.testBit_and, Nat.testBit_and, Nat.testBit_and]
    have o : (lkn l n (v ||| w)).testBit k = true → (lkn l n v).testBit k = true ∨ (lkn l n w).testBit k = true := by
      intro h
      obtain ⟨p, h1, h2, h3⟩ := (lkn_bit n).mp h
      rw [Nat.testBit_or, Bool.or_eq_true] at h2
      rcases h2 with h2 | h2
      · exact .inl ((lkn_bit n).mpr ⟨p, h1, h2, h3⟩)
      · exact .inr ((lkn_bit n).mpr ⟨p, h1, h2, h3⟩)
    have a : (lkn l n (v &&& w)).testBit k = true → (lkn l n v).testBit k = true ∧ (lkn l n w).testBit k = true := fun h =>
      ⟨lkn_mono (fun j hj => by rw [Nat.testBit_and, Bool.and_eq_true] at hj; exact hj.1) h, lkn_mono (fun j hj => by rw [Nat.testBit_and, Bool.and_eq_true] at hj; exact hj.2) h⟩
    cases B.testBit k with
    | false => simp
    | true =>
      rw [Bool.and_true, Bool.and_true, Bool.and_true, Bool.and_true]
      cases h1 : (lkn l n v).testBit k <;> cases h2 : (lkn l n w).testBit k <;> cases h3 : (lkn l n (v ||| w)).testBit k <;> cases h4 : (lkn l n (v &&& w)).testBit k
      all_goals first
        | decide
        | exact absurd (o h3) (by rw [h1, h2]; decide)
        | exact absurd (a h4).1 (by rw [h1]; decide)
        | exact absurd (a h4).2 (by rw [h2]; decide)
  unfold fh
  omega
/-- (c) it is no more than that -/
theorem hall_c (hi12 : i < 12) (hlt : l i < 4096) (hM : M.testBit i = true) (h0 : sv l n (dif M (2 ^ i)) B < sv l n M B) : ∃ s, s < 12 ∧ (l i).testBit s = true ∧ B.testBit s = true ∧ sv l n M B ≤ 1 + sv l n (dif M (2 ^ i)) (dif B (2 ^ s)) := by
  generalize hM' : dif M (2 ^ i) = M' at *
  have mb : ∀ k, M'.testBit k = (M.testBit k && !decide (i = k)) := fun k => by rw [← hM', dif_p]
  have ni : ∀ v, sub v M' → v.testBit i = false := fun v hv => by
    cases h : v.testBit i with
    | false => rfl
    | true =>
      have := hv i h
      rw [mb, decide_eq_true rfl] at this
      simp at this
  obtain ⟨v0, v01, v02⟩ := sv_eq (l := l) (n := n) (M := M') (B := B)
  -- at most one more
  have up : sv l n M B ≤ sv l n M' B + 1 := by
    have hs : sub v0 M := fun k hk => by have := v01 k hk; rw [mb, Bool.and_eq_true] at this; exact this.1
    have e := sv_le (l := l) (n := n) (B := B) hs
    rw [v02]
    unfold fh at e ⊢
    have : pc (dif M v0) ≤ pc (dif M' v0) + 1 := pc_up hi12 fun k _ hk hb => by
      rw [dif_bit, Bool.and_eq_true] at hb ⊢
      exact ⟨by rw [mb, hb.1, decide_eq_false (fun w => hk w.symm)]; rfl, hb.2⟩
    omega
  by_cases yes : ∃ s, s < 12 ∧ (l i).testBit s = true ∧ B.testBit s = true ∧ sv l n M B ≤ 1 + sv l n M' (dif B (2 ^ s))
  · exact yes
  exfalso
  have tight : ∀ s, s < 12 → (l i).testBit s = true → B.testBit s = true → ∃ v, sub v M' ∧ fh l n M' B v = sv l n M' B ∧ (lkn l n v).testBit s = true := by
    intro s hs hl hB
    have h1 : ¬ sv l n M B ≤ 1 + sv l n M' (dif B (2 ^ s)) := fun w => yes ⟨s, hs, hl, hB, w⟩
    obtain ⟨v, v1, v2⟩ := sv_eq (l := l) (n := n) (M := M') (B := dif B (2 ^ s))
    have h3 := sv_le (l := l) (n := n) (B := B) v1
    have h4 : fh l n M' B v ≤ fh l n M' (dif B (2 ^ s)) v + 1 := by
      unfold fh
      have : pc (lkn l n v &&& B) ≤ pc (lkn l n v &&& dif B (2 ^ s)) + 1 := pc_up hs fun k _ hk hb => by
        rw [Nat.testBit_and, Bool.and_eq_true] at hb ⊢
        exact ⟨hb.1, by rw [dif_p, hb.2, decide_eq_false (fun w => hk w.symm)]; rfl⟩
      omega
    refine ⟨v, v1, by omega, ?_⟩
    cases hb : (lkn l n v).testBit s with
    | true => rfl
    | false =>
      exfalso
      have h5 : fh l n M' B v ≤ fh l n M' (dif B (2 ^ s)) v := by
        unfold fh
        have : pc (lkn l n v &&& B) ≤ pc (lkn l n v &&& dif B (2 ^ s)) := pc_le fun k _ hk => by
          rw [Nat.testBit_and, Bool.and_eq_true] at hk ⊢
          refine ⟨hk.1, ?_⟩
          rw [dif_p, hk.2, decide_eq_false (fun w => by subst w; rw [hb] at hk; cases hk.1)]; rfl
        omega
      omega
  have join : ∀ k, k ≤ 12 → ∃ v, sub v M' ∧ fh l n M' B v = sv l n M' B ∧ ∀ s, s < k → (l i).testBit s = true → B.testBit s = true → (lkn l n v).testBit s = true := by
    intro k
    induction k with
    | zero => intro _; exact ⟨v0, v01, v02.symm, fun s hs => absurd hs (by omega)⟩
    | succ k ih =>
      intro hk
      obtain ⟨v, a1, a2, a3⟩ := ih (by omega)
      by_cases z : (l i).testBit k = true ∧ B.testBit k = true
      · obtain ⟨w, b1, b2, b3⟩ := tight k (by omega) z.1 z.2
        have s1 : sub (v ||| w) M' := fun j hj => by
          rw [Nat.testBit_or, Bool.or_eq_true] at hj
          rcases hj with hj | hj
          · exact a1 j hj
          · exact b1 j hj
        have s2 : sub (v &&& w) M' := fun j hj => by
          rw [Nat.testBit_and, Bool.and_eq_true] at hj
          exact a1 j hj.1
        have e1 := sv_le (l := l) (n := n) (B := B) s1
        have e2 := sv_le (l := l) (n := n) (B := B) s2
        have e3 := fh_sub (l := l) (n := n) (M := M') (B := B) (v := v) (w := w)
        refine ⟨v ||| w, s1, by omega, fun s hs hl hB => ?_⟩
        by_cases e : s = k
        · subst e; exact lkn_mono (fun j hj => by rw [Nat.testBit_or, hj, Bool.or_true]) b3
        · exact lkn_mono (fun j hj => by rw [Nat.testBit_or, hj, Bool.true_or]) (a3 s (by omega) hl hB)
      · exact ⟨v, a1, a2, fun s hs hl hB => by
          by_cases e : s = k
          · subst e; exact absurd ⟨hl, hB⟩ z
          · exact a3 s (by omega) hl hB⟩
  obtain ⟨v, a1, a2, a3⟩ := join 12 (Nat.le_refl _)
  have hs : sub (v ||| 2 ^ i) M := fun k hk => by
    rw [Nat.testBit_or, Nat.testBit_two_pow, Bool.or_eq_true] at hk
    rcases hk with hk | hk
    · have := a1 k hk; rw [mb, Bool.and_eq_true] at this; exact this.1
    · have := of_decide_eq_true hk; subst this; exact hM
  have e := sv_le (l := l) (n := n) (B := B) hs
  have e2 : fh l n M B (v ||| 2 ^ i) ≤ fh l n M' B v := by
    refine Nat.add_le_add (pc_le fun k _ hk => ?_) (pc_le fun k hk12 hk => ?_)
    · rw [dif_bit, Nat.testBit_or, Nat.testBit_two_pow, Bool.and_eq_true] at hk
      rw [dif_bit, mb, hk.1]
      have := hk.2
      cases hvk : v.testBit k with
      | true => rw [hvk] at this; simp at this
      | false =>
        rw [hvk] at this
        by_cases z : i = k
        · rw [decide_eq_true z] at this; simp at this
        · rw [decide_eq_false z]; rfl
    · rw [Nat.testBit_and, Bool.and_eq_true] at hk ⊢
      refine ⟨?_, hk.2⟩
      obtain ⟨p, p1, p2, p3⟩ := (lkn_bit n).mp hk.1
      rw [Nat.testBit_or, Nat.testBit_two_pow, Bool.or_eq_true] at p2
      rcases p2 with p2 | p2
      · exact (lkn_bit n).mpr ⟨p, p1, p2, p3⟩
      · have := of_decide_eq_true p2
        subst this
        exact a3 k hk12 p3 hk.2
  omega
end HLL
