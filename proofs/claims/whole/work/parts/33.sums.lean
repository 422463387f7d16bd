/-! Sums and counts over monks. -/
theorem x_add0 {a : Int} (h : R32 a) : x_add a 0 = a := by
  rw [x_add_of (by rw [Int.add_zero]; exact h), Int.add_zero]
def sm (q : Nat → Int) (n : Nat) : Int := fo (fun p s => s + q p) 0 n
theorem sm_s {q : Nat → Int} {n : Nat} : sm q (n + 1) = sm q n + q n := rfl
theorem sm_congr {q q' : Nat → Int} {n : Nat} (h : ∀ p, p < n → q p = q' p) : sm q n = sm q' n := by
  induction n with
  | zero => rfl
  | succ n ih => rw [sm_s, sm_s, ih (fun p hp => h p (by omega)), h n (by omega)]
theorem sm_bd {q : Nat → Int} {n : Nat} {B : Int} (h : ∀ p, p < n → 0 ≤ q p ∧ q p ≤ B) : 0 ≤ sm q n ∧ sm q n ≤ n * B := by
  induction n with
  | zero => exact ⟨Int.le_refl _, by simp [sm, fo]⟩
  | succ n ih =>
    have h1 := ih (fun p hp => h p (by omega))
    have h2 := h n (by omega)
    rw [sm_s, show ((n + 1 : Nat) : Int) * B = n * B + B by rw [Int.natCast_succ, Int.add_mul, Int.one_mul]]
    omega
theorem sm_le {q : Nat → Int} {n : Nat} {B : Int} (hn : n ≤ 128) (hB0 : 0 ≤ B) (hB : B ≤ 1000000) (h : ∀ p, p < n → 0 ≤ q p ∧ q p ≤ B) : 0 ≤ sm q n ∧ sm q n ≤ 128000000 := by
  have h1 := sm_bd h
  have h2 : (n : Int) * B ≤ 128 * 1000000 := Int.mul_le_mul (by omega) hB hB0 (by omega)
  omega
theorem w_sm {f : Int × Int → Option ((Int × Int) ⊕ Int)} (q : Nat → Int) {n : Nat} (B : Int) (hn : n ≤ 128) (hB0 : 0 ≤ B) (hB : B ≤ 1000000) (hq : ∀ p, p < n → 0 ≤ q p ∧ q p ≤ B)
    (hs : ∀ (j : Nat) (s : Int), j < n → 0 ≤ s → s ≤ 128000000 → f (s, (j : Int)) = some (.inl (s + q j, ((j + 1 : Nat) : Int)))) (he : ∀ s, f (s, (n : Int)) = some (.inr s)) : whl xFU f (0, 0) = some (sm q n) := by
  refine w_fo (em := fun j s => (s, (j : Int))) (out := fun s => s) (g := fun p s => s + q p) (a := 0) n (by unfold xFU; omega) (fun j s => s = sm q j) rfl ?_ ?_ (fun x _ => he x)
  · intro j x hj hx
    subst hx
    rfl
  · intro j x hj hx
    subst hx
    have h2 := sm_le (n := j) (by omega) hB0 hB (fun p hp => hq p (by omega))
    exact hs j _ hj h2.1 h2.2
/-- a count's turn -/
theorem n_cnt {s : Int} {c : Bool} (h0 : 0 ≤ s) (h1 : s ≤ 128000000) : (if c then x_add s 1 else s) = s + (if c then 1 else 0) := by
  cases c
  · exact (Int.add_zero s).symm
  · exact x_add_of ⟨by omega, by omega⟩
theorem n_cnt2 {s : Int} {c : Bool} (h0 : 0 ≤ s) (h1 : s ≤ 128000000) : x_add s (if c then 1 else 0) = s + (if c then 1 else 0) := by
  cases c
  · exact x_add_of ⟨by simp; omega, by simp; omega⟩
  · exact x_add_of ⟨by simp; omega, by simp; omega⟩
theorem c01 {c : Bool} : 0 ≤ (if c then (1 : Int) else 0) ∧ (if c then (1 : Int) else 0) ≤ 1 := by cases c <;> decide
section Q2
variable {N S : xU} {m : Nat → Int} {n : Nat}
theorem mk_5 (hi : Iv m) {p : Nat} (hp : (p : Int) < m 3) : 0 ≤ m (21 + 8 * p) ∧ m (21 + 8 * p) ≤ 999 := (hi.mk hp).2.2.2.2.2.1
theorem g1_sumOf5 (h : CR N m) (hi : Iv m) (e : m 3 = (n : Int)) : G1_sumOf 5 N = some (sm (fun p => m (21 + 8 * p)) n) := by
  have h7 := hi.many
  rw [G1_sumOf, w_sm (f := G1_sumOf_L4 5 N) (n := n) (fun p => m (21 + 8 * p)) 999 (by omega) (by decide) (by decide) (fun p hp => mk_5 hi (by omega)) (fun j s hj h0 h1 => by
    have hb := mk_5 hi (p := j) (by omega)
    show (if N 0 3 ≤ (j : Int) then _ else _) = _
    rw [h.1.1, if_neg (by omega), g1_of5 h hi (by omega)]
    show some (Sum.inl (x_add s (m (21 + 8 * j)), x_add (j : Int) 1)) = _
    rw [x_add_of ⟨by omega, by omega⟩, n_inc (by omega)]) (fun s => by
    show (if N 0 3 ≤ (n : Int) then _ else _) = _
    rw [h.1.1, if_pos (by omega)])]
  rfl
theorem mk_6 (hi : Iv m) {p : Nat} (hp : (p : Int) < m 3) : 0 ≤ m (22 + 8 * p) ∧ m (22 + 8 * p) ≤ 99 := (hi.mk hp).2.2.2.2.2.2.1
theorem g1_sumOf6 (h : CR N m) (hi : Iv m) (e : m 3 = (n : Int)) : G1_sumOf 6 N = some (sm (fun p => m (22 + 8 * p)) n) := by
  have h7 := hi.many
  rw [G1_sumOf, w_sm (f := G1_sumOf_L4 6 N) (n := n) (fun p => m (22 + 8 * p)) 99 (by omega) (by decide) (by decide) (fun p hp => mk_6 hi (by omega)) (fun j s hj h0 h1 => by
    have hb := mk_6 hi (p := j) (by omega)
    show (if N 0 3 ≤ (j : Int) then _ else _) = _
    rw [h.1.1, if_neg (by omega), g1_of6 h hi (by omega)]
    show some (Sum.inl (x_add s (m (22 + 8 * j)), x_add (j : Int) 1)) = _
    rw [x_add_of ⟨by omega, by omega⟩, n_inc (by omega)]) (fun s => by
    show (if N 0 3 ≤ (n : Int) then _ else _) = _
    rw [h.1.1, if_pos (by omega)])]
  rfl
theorem mk_7 (hi : Iv m) {p : Nat} (hp : (p : Int) < m 3) : 0 ≤ m (23 + 8 * p) ∧ m (23 + 8 * p) ≤ 999 := (hi.mk hp).2.2.2.2.2.2.2
theorem g1_sumOf7 (h : CR N m) (hi : Iv m) (e : m 3 = (n : Int)) : G1_sumOf 7 N = some (sm (fun p => m (23 + 8 * p)) n) := by
  have h7 := hi.many
  rw [G1_sumOf, w_sm (f := G1_sumOf_L4 7 N) (n := n) (fun p => m (23 + 8 * p)) 999 (by omega) (by decide) (by decide) (fun p hp => mk_7 hi (by omega)) (fun j s hj h0 h1 => by
    have hb := mk_7 hi (p := j) (by omega)
    show (if N 0 3 ≤ (j : Int) then _ else _) = _
    rw [h.1.1, if_neg (by omega), g1_of7 h hi (by omega)]
    show some (Sum.inl (x_add s (m (23 + 8 * j)), x_add (j : Int) 1)) = _
    rw [x_add_of ⟨by omega, by omega⟩, n_inc (by omega)]) (fun s => by
    show (if N 0 3 ≤ (n : Int) then _ else _) = _
    rw [h.1.1, if_pos (by omega)])]
  rfl
theorem g12_lateOfAll (hi : Iv (S 1)) (e : S 1 3 = (n : Int)) : G12_lateOfAll S = some (sm (fun p => S 1 (21 + 8 * p)) n) := by
  have h7 := hi.many
  rw [G12_lateOfAll, w_sm (f := G12_lateOfAll_L4 S) (n := n) (fun p => S 1 (21 + 8 * p)) 999 (by omega) (by decide) (by decide) (fun p hp => mk_5 hi (by omega)) (fun j s hj h0 h1 => by
    have hb := mk_5 hi (p := j) (by omega)
    show (if S 1 3 ≤ (j : Int) then _ else _) = _
    rw [if_neg (by omega), g12_of5 (by omega)]
    show some (Sum.inl (x_add s (S 1 (21 + 8 * j)), x_add (j : Int) 1)) = _
    rw [x_add_of ⟨by omega, by omega⟩, n_inc (by omega)]) (fun s => by
    show (if S 1 3 ≤ (n : Int) then _ else _) = _
    rw [if_pos (by omega)])]
  rfl
theorem late_bd (hi : Iv m) (e : m 3 = (n : Int)) : 0 ≤ sm (fun p => m (21 + 8 * p)) n ∧ sm (fun p => m (21 + 8 * p)) n ≤ 6993 := by
  have h7 := hi.many
  have h1 := sm_bd (q := fun p => m (21 + 8 * p)) (n := n) (B := 999) (fun p hp => mk_5 hi (by omega))
  have h2 : (n : Int) * 999 ≤ 7 * 999 := by omega
  omega
/-- the place of a flag's walk -/
theorem fl4 {x : Int} (h : 0 ≤ x ∧ x < 16) : x_div x 4 = x / 4 := x_div_pos ⟨by omega, by omega⟩ ⟨by decide, by decide⟩ (by decide) h.1
theorem mk_0 (hi : Iv m) {p : Nat} (hp : (p : Int) < m 3) : 0 ≤ m (16 + 8 * p) ∧ m (16 + 8 * p) < 16 := (hi.mk hp).1
theorem mk_4 (hi : Iv m) {p : Nat} (hp : (p : Int) < m 3) : 0 ≤ m (20 + 8 * p) ∧ m (20 + 8 * p) ≤ 20 := (hi.mk hp).2.2.2.2.1
theorem g1_walkOf (h : CR N m) (hi : Iv m) {p : Nat} (hp : (p : Int) < m 3) : G1_walkOf (p : Int) N = some (m (16 + 8 * p) / 4) := by
  rw [G1_walkOf, g1_of0 h hi hp]
  show some (x_div (m (16 + 8 * p)) 4) = _
  rw [fl4 (mk_0 hi hp)]
/-- how many monks are in a walk -/
def inW (m : Nat → Int) (w : Int) (n : Nat) : Int := sm (fun p => if decide (m (16 + 8 * p) / 4 = w) then 1 else 0) n
def inL (m : Nat → Int) (w : Int) (n : Nat) : Int := sm (fun p => if decide (m (16 + 8 * p) / 4 = w ∧ m (20 + 8 * p) ≤ 0) then 1 else 0) n
theorem inW_bd (hn : n ≤ 7) {w : Int} : 0 ≤ inW m w n ∧ inW m w n ≤ 7 := by
  have := sm_bd (q := fun p => if decide (m (16 + 8 * p) / 4 = w) then 1 else 0) (n := n) (B := 1) (fun p _ => c01)
  unfold inW
  omega
theorem inL_bd (hn : n ≤ 7) {w : Int} : 0 ≤ inL m w n ∧ inL m w n ≤ 7 := by
  have := sm_bd (q := fun p => if decide (m (16 + 8 * p) / 4 = w ∧ m (20 + 8 * p) ≤ 0) then 1 else 0) (n := n) (B := 1) (fun p _ => c01)
  unfold inL
  omega
theorem g1_monksIn (h : CR N m) (hi : Iv m) (e : m 3 = (n : Int)) {w : Int} : G1_monksIn w N = some (inW m w n) := by
  have h7 := hi.many
  rw [G1_monksIn, w_sm (f := G1_monksIn_L4 w N) (n := n) (fun p => if decide (m (16 + 8 * p) / 4 = w) then 1 else 0) 1 (by omega) (by decide) (by decide) (fun p _ => c01) (fun j s hj h0 h1 => by
    show (if N 0 3 ≤ (j : Int) then _ else _) = _
    rw [h.1.1, if_neg (by omega), g1_walkOf h hi (by omega), ← n_cnt (c := decide (m (16 + 8 * j) / 4 = w)) h0 h1, ← n_inc (by omega)]
    show x_b1 (if m (16 + 8 * j) / 4 = w then some (x_add s 1) else some s) _ = _
    by_cases q : m (16 + 8 * j) / 4 = w
    · rw [if_pos q, if_pos (decide_eq_true q)]; rfl
    · rw [if_neg q, if_neg (by simp [q])]; rfl) (fun s => by
    show (if N 0 3 ≤ (n : Int) then _ else _) = _
    rw [h.1.1, if_pos (by omega)])]
  rfl
theorem g12_inWalk1 (hi : Iv (S 1)) (e : S 1 3 = (n : Int)) {w : Int} : G12_inWalk w 1 S = some (inW (S 1) w n) := by
  have h7 := hi.many
  rw [G12_inWalk, w_sm (f := G12_inWalk_L5 w 1 S) (n := n) (fun p => if decide (S 1 (16 + 8 * p) / 4 = w) then 1 else 0) 1 (by omega) (by decide) (by decide) (fun p _ => c01) (fun j s hj h0 h1 => by
    show (if S 1 3 ≤ (j : Int) then _ else _) = _
    rw [if_neg (by omega), g12_of0 (by omega), ← n_cnt2 (c := decide (S 1 (16 + 8 * j) / 4 = w)) h0 h1, ← n_inc (by omega)]
    show x_b1 (if x_div (S 1 (16 + 8 * j)) 4 = w then some 1 else some 0) _ = _
    rw [fl4 (mk_0 hi (by omega))]
    by_cases q : S 1 (16 + 8 * j) / 4 = w
    · rw [if_pos q, if_pos (decide_eq_true q)]; rfl
    · rw [if_neg q, if_neg (by simp [q])]; rfl) (fun s => by
    show (if S 1 3 ≤ (n : Int) then _ else _) = _
    rw [if_pos (by omega)])]
  rfl
theorem g12_inWalk0 (hi : Iv (S 1)) (e : S 1 3 = (n : Int)) {w : Int} : G12_inWalk w 0 S = some (inL (S 1) w n) := by
  have h7 := hi.many
  rw [G12_inWalk, w_sm (f := G12_inWalk_L5 w 0 S) (n := n) (fun p => if decide (S 1 (16 + 8 * p) / 4 = w ∧ S 1 (20 + 8 * p) ≤ 0) then 1 else 0) 1 (by omega) (by decide) (by decide) (fun p _ => c01) (fun j s hj h0 h1 => by
    show (if S 1 3 ≤ (j : Int) then _ else _) = _
    rw [if_neg (by omega), g12_of0 (by omega), ← n_cnt2 (c := decide (S 1 (16 + 8 * j) / 4 = w ∧ S 1 (20 + 8 * j) ≤ 0)) h0 h1, ← n_inc (by omega)]
    show x_b1 (if x_div (S 1 (16 + 8 * j)) 4 = w then x_b1 (G12_isLost (j : Int) S) (fun v10 => if v10 = 0 then some 1 else some 0) else some 0) _ = _
    rw [fl4 (mk_0 hi (by omega)), g12_isLost (by omega)]
    by_cases q : S 1 (16 + 8 * j) / 4 = w
    · by_cases q2 : S 1 (20 + 8 * j) ≤ 0
      · rw [if_pos q, if_neg (show ¬ 0 < S 1 (20 + 8 * j) by omega), if_pos (decide_eq_true ⟨q, q2⟩)]; rfl
      · rw [if_pos q, if_pos (show 0 < S 1 (20 + 8 * j) by omega), if_neg (by simp [q2])]; rfl
    · rw [if_neg q, if_neg (by simp [q])]; rfl) (fun s => by
    show (if S 1 3 ≤ (n : Int) then _ else _) = _
    rw [if_pos (by omega)])]
  rfl
theorem L_feeds {a : Int} (h : CR N (S 1)) (hi : Iv (S 1)) : ∃ o b v, G11_feeds a N = some o ∧ G12_feeds a S = some (b, x_up S 0 0 v) ∧ Ag (fun _ => 1) o b (x_up S 0 0 v) := by
  obtain ⟨n, hn, e⟩ := hi.nn
  rw [G11_feeds, G12_feeds, g11_needWalk, g12_isWalk]
  by_cases h0 : 0 ≤ a ∧ a ≤ 3
  · obtain ⟨w, rfl⟩ := Int.eq_ofNat_of_zero_le h0.1
    have hL : whl xFU (G11_feeds_L8 (w : Int) N) (0, 0) = some (inL (S 1) w n) := w_sm (fun p => if decide (S 1 (16 + 8 * p) / 4 = (w : Int) ∧ S 1 (20 + 8 * p) ≤ 0) then 1 else 0) 1 (by omega) (by decide) (by decide) (fun p _ => c01) (fun j s hj h0 h1 => by
      show (if N 0 3 ≤ (j : Int) then _ else _) = _
      rw [h.1.1, if_neg (by omega), g1_isLost h hi (by omega), g1_walkOf h hi (by omega), ← n_cnt (c := decide (S 1 (16 + 8 * j) / 4 = (w : Int) ∧ S 1 (20 + 8 * j) ≤ 0)) h0 h1, ← n_inc (by omega)]
      by_cases q2 : S 1 (20 + 8 * j) ≤ 0
      · rw [if_neg (show ¬ 0 < S 1 (20 + 8 * j) by omega)]
        show x_b1 (if S 1 (16 + 8 * j) / 4 = (w : Int) then some (x_add s 1) else some s) _ = _
        by_cases q : S 1 (16 + 8 * j) / 4 = (w : Int)
        · rw [if_pos q, if_pos (decide_eq_true ⟨q, q2⟩)]; rfl
        · rw [if_neg q, if_neg (by simp [q])]; rfl
      · rw [if_pos (show 0 < S 1 (20 + 8 * j) by omega), if_neg (by simp [q2])]; rfl) (fun s => by
      show (if N 0 3 ≤ (n : Int) then _ else _) = _
      rw [h.1.1, if_pos (by omega)])
    have hR : G12_inWalk (w : Int) 0 (x_up S 0 0 0) = some (inL (S 1) w n) := by
      have := g12_inWalk0 (S := x_up S 0 0 0) (w := (w : Int)) (n := n) (by rw [x_up1]; exact hi) (by rw [x_up1]; exact e)
      rw [x_up1] at this
      exact this
    have hb := inL_bd (m := S 1) (w := (w : Int)) hn
    have hst := hi.st (w := w) (by omega)
    have ho : ∃ r, (if inL (S 1) w n = 0 then some (-1) else some (x_div (S 1 (12 + w)) (inL (S 1) w n))) = some r := by
      by_cases q : inL (S 1) w n = 0
      · exact ⟨_, if_pos q⟩
      · exact ⟨_, if_neg q⟩
    obtain ⟨r, hr⟩ := ho
    refine ⟨.inl r, r, 0, ?_, ?_, rfl, rfl⟩
    · rw [if_pos h0]
      show x_b1 (whl xFU (G11_feeds_L8 (w : Int) N) (0, 0)) _ = _
      rw [hL, g1_storeOf h (by omega)]
      show x_b1 (if inL (S 1) w n = 0 then some (-1) else x_gd (inL (S 1) w n ≠ 0) (some (x_div (S 1 (12 + w)) (inL (S 1) w n)))) _ = _
      by_cases q : inL (S 1) w n = 0
      · rw [if_pos q] at hr ⊢
        cases hr; rfl
      · rw [if_neg q] at hr ⊢
        rw [x_gd_t q]
        cases hr; rfl
    · rw [if_pos h0]
      show x_b1 (G12_inWalk (w : Int) 0 (x_up S 0 0 0)) _ = _
      rw [hR]
      show x_b1 (if inL (S 1) w n = 0 then some (-1) else x_gd ((0 : Int) ≤ x_add 12 (w : Int) ∧ x_add 12 (w : Int) < 772) (x_gd (inL (S 1) w n ≠ 0) (some (x_div ((x_up S 0 0 0) 1 (x_add 12 (w : Int)).toNat) (inL (S 1) w n))))) _ = _
      rw [x_up1, show x_add 12 (w : Int) = ((12 + w : Nat) : Int) from n_add (a := 12) (by omega)]
      by_cases q : inL (S 1) w n = 0
      · rw [if_pos q] at hr ⊢
        cases hr; rfl
      · rw [if_neg q] at hr ⊢
        rw [x_gd_t ⟨by omega, by omega⟩, x_gd_t q, show (((12 + w : Nat) : Int)).toNat = 12 + w from rfl]
        cases hr; rfl
  · refine ⟨.inr 1, 0, 1, ?_, ?_, rfl⟩
    · rw [if_neg h0]; rfl
    · rw [if_neg h0]; rfl
theorem L_store {a : Int} (h : CR N (S 1)) (hi : Iv (S 1)) : ∃ o b v, G11_store a N = some o ∧ G12_store a S = some (b, x_up S 0 0 v) ∧ Ag (fun _ => 1) o b (x_up S 0 0 v) := by
  rw [G11_store, G12_store, g11_needWalk, g12_isWalk]
  by_cases h0 : 0 ≤ a ∧ a ≤ 3
  · obtain ⟨w, rfl⟩ := Int.eq_ofNat_of_zero_le h0.1
    refine ⟨.inl (S 1 (12 + w)), S 1 (12 + w), 0, ?_, ?_, rfl, rfl⟩
    · rw [if_pos h0, g1_storeOf h (by omega)]; rfl
    · rw [if_pos h0]
      show x_b1 (x_gd ((0 : Int) ≤ x_add 12 (w : Int) ∧ x_add 12 (w : Int) < 772) (some ((x_up S 0 0 0) 1 (x_add 12 (w : Int)).toNat))) _ = _
      rw [x_up1, show x_add 12 (w : Int) = ((12 + w : Nat) : Int) from n_add (a := 12) (by omega), x_gd_t ⟨by omega, by omega⟩]
      rfl
  · refine ⟨.inr 1, 0, 1, ?_, ?_, rfl⟩
    · rw [if_neg h0]; rfl
    · rw [if_neg h0]; rfl
theorem L_season {a : Int} (h : CR N (S 1)) (hi : Iv (S 1)) : ∃ o b v, G11_season a N = some o ∧ G12_season a S = some (b, x_up S 0 0 v) ∧ Ag (fun _ => 1) o b (x_up S 0 0 v) := by
  rw [G11_season, G12_season, g11_needFlag, g12_isFlag]
  by_cases h0 : 0 ≤ a ∧ a ≤ 15
  · obtain ⟨w, rfl⟩ := Int.eq_ofNat_of_zero_le h0.1
    refine ⟨.inl (if S 1 7 = 4 then (w : Int) / 4 else S 1 7), (if S 1 7 = 4 then (w : Int) / 4 else S 1 7), 0, ?_, ?_, rfl, rfl⟩
    · rw [if_pos h0, g1_seasonOf h hi (by omega)]; rfl
    · rw [if_pos h0]
      show x_b1 (x_b1 (G12_seasonOf (w : Int) (x_up S 0 0 0)) _) _ = _
      rw [g12_seasonOf (by rw [x_up1]; exact hi) (by omega), x_up1]
      rfl
  · refine ⟨.inr 1, 0, 1, ?_, ?_, rfl⟩
    · rw [if_neg h0]; rfl
    · rw [if_neg h0]; rfl
/-- the walk of the most monks -/
def mxW (m : Nat → Int) (n : Nat) : Nat := fo (fun j (b : Nat) => if inW m (j + 1 : Nat) n ≤ inW m (b : Nat) n then b else j + 1) 0 3
theorem L_throng (h : CR N (S 1)) (hi : Iv (S 1)) : ∃ b, G11_throng N = some b ∧ G12_throng S = some (b, x_up S 0 0 0) := by
  obtain ⟨n, hn, e⟩ := hi.nn
  have hP : ∀ j (x : Nat), j < 3 → x < 4 → (if inW (S 1) (j + 1 : Nat) n ≤ inW (S 1) (x : Nat) n then x else j + 1) < 4 := by
    intro j x hj hx
    by_cases q : inW (S 1) (j + 1 : Nat) n ≤ inW (S 1) (x : Nat) n
    · rw [if_pos q]; exact hx
    · rw [if_neg q]; omega
  refine ⟨((mxW (S 1) n : Nat) : Int), ?_, ?_⟩
  · rw [G11_throng, show whl xFU (G11_throng_L4 N) (0, 1) = some ((mxW (S 1) n : Nat) : Int) from w_fo (em := fun j (b : Nat) => (((b : Nat) : Int), ((j + 1 : Nat) : Int))) (out := fun b => ((b : Nat) : Int)) 3 (by decide) (fun _ x => x < 4) (by decide) hP (fun j x hj hx => by
      show (if (4 : Int) ≤ ((j + 1 : Nat) : Int) then _ else _) = _
      rw [if_neg (by omega), g1_monksIn h hi e, g1_monksIn h hi e, n_inc (by omega)]
      show x_b1 (if inW (S 1) ((j + 1 : Nat) : Int) n ≤ inW (S 1) (x : Int) n then some (x : Int) else some ((j + 1 : Nat) : Int)) _ = _
      by_cases q : inW (S 1) (j + 1 : Nat) n ≤ inW (S 1) (x : Nat) n
      · rw [if_pos q, if_pos q]; rfl
      · rw [if_neg q, if_neg q]; rfl) (fun x _ => rfl)]
    rfl
  · have hR : ∀ w : Int, G12_inWalk w 1 (x_up S 0 0 0) = some (inW (S 1) w n) := by
      intro w
      have := g12_inWalk1 (S := x_up S 0 0 0) (w := w) (n := n) (by rw [x_up1]; exact hi) (by rw [x_up1]; exact e)
      rw [x_up1] at this
      exact this
    rw [G12_throng, show whl xFU (G12_throng_L9 S) (0, 1) = some ((mxW (S 1) n : Nat) : Int) from w_fo (em := fun j (b : Nat) => (((b : Nat) : Int), ((j + 1 : Nat) : Int))) (out := fun b => ((b : Nat) : Int)) 3 (by decide) (fun _ x => x < 4) (by decide) hP (fun j x hj hx => by
      show (if (4 : Int) ≤ ((j + 1 : Nat) : Int) then _ else _) = _
      rw [if_neg (by omega), hR, hR, n_inc (by omega)]
      show x_b1 (if inW (S 1) ((j + 1 : Nat) : Int) n ≤ inW (S 1) (x : Int) n then some (x : Int) else some ((j + 1 : Nat) : Int)) _ = _
      by_cases q : inW (S 1) (j + 1 : Nat) n ≤ inW (S 1) (x : Nat) n
      · rw [if_pos q, if_pos q]; rfl
      · rw [if_neg q, if_neg q]; rfl) (fun x _ => rfl)]
    rfl
/-- who has the most of something, the first of these -/
def mxg (q : Nat → Int) (j : Nat) (x : Int × Int) : Int × Int := if q j ≤ x.2 then x else ((j : Int), q j)
def mxP (q : Nat → Int) (n : Nat) : Int × Int := fo (mxg q) (-1, 0) n
theorem L_hungriest (h : CR N (S 1)) (hi : Iv (S 1)) : ∃ b, G11_hungriest N = some b ∧ G12_hungriest S = some (b, x_up S 0 0 0) := by
  obtain ⟨n, hn, e⟩ := hi.nn
  refine ⟨(mxP (fun p => S 1 (22 + 8 * p)) n).1, ?_, ?_⟩
  · rw [G11_hungriest, show whl xFU (G11_hungriest_L6 N) (-1, 0, 0) = some (mxP (fun p => S 1 (22 + 8 * p)) n).1 from w_fo (f := G11_hungriest_L6 N) (g := mxg (fun p => S 1 (22 + 8 * p))) (a := (-1, 0)) (em := fun j (x : Int × Int) => (x.1, x.2, (j : Int))) (out := fun x => x.1) n (by unfold xFU; omega) (fun _ _ => True) trivial (fun _ _ _ _ => trivial) (fun j x hj hx => by
      show (if N 0 3 ≤ (j : Int) then _ else _) = _
      rw [h.1.1, if_neg (by omega), g1_of6 h hi (by omega), n_inc (by omega)]
      rw [x_b1, Option.bind_some]
      show x_b2 (if S 1 (22 + 8 * j) ≤ x.2 then some (x.1, x.2) else x_b1 (some (S 1 (22 + 8 * j))) fun v12 => some ((j : Int), v12)) _ = _
      by_cases q : S 1 (22 + 8 * j) ≤ x.2
      · rw [if_pos q, mxg, if_pos q]; rfl
      · rw [if_neg q, mxg, if_neg q]; rfl) (fun x _ => by
      show (if N 0 3 ≤ (n : Int) then _ else _) = _
      rw [h.1.1, if_pos (by omega)])]
    rfl
  · rw [G12_hungriest, show whl xFU (G12_hungriest_L9 S) (-1, 0) = some (mxP (fun p => S 1 (22 + 8 * p)) n).1 from w_fo (f := G12_hungriest_L9 S) (g := mxg (fun p => S 1 (22 + 8 * p))) (a := (-1, 0)) (em := fun j (x : Int × Int) => (x.1, (j : Int))) (out := fun x => x.1) n (by unfold xFU; omega) (fun j x => (x.1 = -1 ∧ x.2 = 0) ∨ ∃ p : Nat, p < j ∧ x.1 = (p : Int) ∧ x.2 = S 1 (22 + 8 * p)) (Or.inl ⟨rfl, rfl⟩) (fun j x hj hx => by
      by_cases q : S 1 (22 + 8 * j) ≤ x.2
      · rw [mxg, if_pos q]
        rcases hx with hx | ⟨p, p1, p2, p3⟩
        · exact Or.inl hx
        · exact Or.inr ⟨p, by omega, p2, p3⟩
      · rw [mxg, if_neg q]
        exact Or.inr ⟨j, by omega, rfl, rfl⟩) (fun j x hj hx => by
      have hw : (if x.1 = (-1) then (some 0) else (x_b1 (G12_of x.1 6 (x_up S 0 0 0)) fun (v10 : Int) => (some v10))) = some x.2 := by
        rcases hx with hx | ⟨p, p1, p2, p3⟩
        · rw [if_pos hx.1, hx.2]
        · rw [if_neg (by omega), p2, g12_of6 (by omega), x_up1, p3]; rfl
      show (if (x_up S 0 0 0) 1 3 ≤ (j : Int) then _ else _) = _
      rw [x_up1, if_neg (by omega), g12_of6 (by omega), n_inc (by omega), x_up1]
      show x_b1 (if x.1 = (-1) then (some 0) else (x_b1 (G12_of x.1 6 (x_up S 0 0 0)) fun (v10 : Int) => (some v10))) _ = _
      rw [hw]
      show x_b1 (if S 1 (22 + 8 * j) ≤ x.2 then some x.1 else some (j : Int)) _ = _
      by_cases q : S 1 (22 + 8 * j) ≤ x.2
      · rw [if_pos q, mxg, if_pos q]; rfl
      · rw [if_neg q, mxg, if_neg q]; rfl) (fun x _ => by
      show (if (x_up S 0 0 0) 1 3 ≤ (n : Int) then _ else _) = _
      rw [x_up1, if_pos (by omega)])]
    rfl
theorem L_fault {X : xU} (h : X 0 16 = S 0 12) : ∃ b, G11_fault X = some b ∧ G12_fault S = some (b, x_up S 0 0 0) := ⟨S 0 12, by rw [G11_fault, h], rfl⟩
end Q2
