/-! Ways, counts, chapters. -/
/-- how many steps apart two flags are -/
def stp (f g : Int) : Int := min ((f - g) % 16) (16 - (f - g) % 16)
theorem stp_comm {f g : Int} (hf : 0 ≤ f ∧ f < 16) (hg : 0 ≤ g ∧ g < 16) : stp f g = stp g f := by unfold stp; omega
theorem stp_bd {f g : Int} : 0 ≤ stp f g ∧ stp f g ≤ 8 := by unfold stp; omega
theorem g11_steps {f g : Int} (hf : 0 ≤ f ∧ f < 16) (hg : 0 ≤ g ∧ g < 16) : G11_stepsApart f g = some (stp f g) := by
  rw [G11_stepsApart, x_sub_of ⟨by omega, by omega⟩, x_mod, x_sub_of ⟨by omega, by omega⟩, stp]
  congr 1
  omega
theorem g12_lesser {a b : Int} : G12_lesser a b = some (min a b) := by
  rw [G12_lesser]
  by_cases h : b ≤ a
  · rw [if_pos h, Int.min_eq_right h]; rfl
  · rw [if_neg h, Int.min_eq_left (by omega)]; rfl
theorem g12_greater {a b : Int} : G12_greater a b = some (max a b) := by
  rw [G12_greater]
  by_cases h : a ≤ b
  · rw [if_pos h, Int.max_eq_right h]; rfl
  · rw [if_neg h, Int.max_eq_left (by omega)]; rfl
theorem g12_steps {f g : Int} (hf : 0 ≤ f ∧ f < 16) (hg : 0 ≤ g ∧ g < 16) : G12_steps f g = some (stp f g) := by
  rw [G12_steps, x_sub_of (a := f) ⟨by omega, by omega⟩, x_add_of ⟨by omega, by omega⟩, x_rem_pos ⟨by omega, by omega⟩ ⟨by decide, by decide⟩ (by decide) (by omega), x_sub_of ⟨by omega, by omega⟩, g12_lesser]
  show some (min ((f - g + 16) % 16) (16 - (f - g + 16) % 16)) = _
  unfold stp
  congr 1
  omega
/-- how far two flags are -/
def fr (m : Nat → Int) (f g : Int) : Int := min (stp f g) (max 1 (m 9) + 8 - stp f g)
section Q3
variable {N S : xU} {m : Nat → Int} {n : Nat}
theorem fr_bd (hi : Iv m) {f g : Int} : 0 ≤ fr m f g ∧ fr m f g ≤ 8 := by
  have h9 := hi.1.2.2.2.2.2.2.2.1
  have := stp_bd (f := f) (g := g)
  unfold fr
  omega
theorem g1_farOf (h : CR N m) (hi : Iv m) {f g : Int} (hf : 0 ≤ f ∧ f < 16) (hg : 0 ≤ g ∧ g < 16) : G1_farOf f g N = some (fr m f g) := by
  have h9 := hi.1.2.2.2.2.2.2.2.1
  have hb := stp_bd (f := f) (g := g)
  rw [G1_farOf, g11_steps hf hg, h.1.2.2.2.2.2.2.2.1]
  show some (min (stp f g) (x_sub (x_add (max 1 (m 9)) 8) (stp f g))) = _
  rw [x_add_of ⟨by omega, by omega⟩, x_sub_of ⟨by omega, by omega⟩]
  rfl
theorem g12_farOf (hi : Iv (S 1)) {f g : Int} (hf : 0 ≤ f ∧ f < 16) (hg : 0 ≤ g ∧ g < 16) : G12_farOf f g S = some (fr (S 1) f g) := by
  have h9 := hi.1.2.2.2.2.2.2.2.1
  have hb := stp_bd (f := f) (g := g)
  rw [G12_farOf, g12_steps hf hg, g12_greater, x_add_of ⟨by omega, by omega⟩, x_rem_pos ⟨by omega, by omega⟩ ⟨by decide, by decide⟩ (by decide) (by omega), g12_steps (by omega) hg]
  show x_b1 (G12_lesser (stp f g) (x_add (max 1 (S 1 9)) (stp ((f + 8) % 16) g))) _ = _
  have hb2 := stp_bd (f := (f + 8) % 16) (g := g)
  rw [x_add_of ⟨by omega, by omega⟩, g12_lesser]
  show some (min (stp f g) (max 1 (S 1 9) + stp ((f + 8) % 16) g)) = some (fr (S 1) f g)
  have e : stp ((f + 8) % 16) g = 8 - stp f g := by unfold stp; omega
  rw [e, fr]
  congr 1
  omega
theorem L_far {a b : Int} (h : CR N (S 1)) (hi : Iv (S 1)) : ∃ o r v, G11_far a b N = some o ∧ G12_far a b S = some (r, x_up S 0 0 v) ∧ Ag (fun _ => 1) o r (x_up S 0 0 v) := by
  rw [G11_far, G12_far, g11_needFlag, g12_isFlag]
  by_cases h0 : 0 ≤ a ∧ a ≤ 15
  · rw [if_pos h0, if_pos h0]
    show ∃ o r v, x_b1 (G11_needFlag b) _ = some o ∧ x_b1 (x_b1 (G12_isFlag b) _) _ = some (r, x_up S 0 0 v) ∧ _
    rw [g11_needFlag, g12_isFlag]
    by_cases h1 : 0 ≤ b ∧ b ≤ 15
    · rw [if_pos h1, if_pos h1]
      refine ⟨.inl (fr (S 1) a b), fr (S 1) a b, 0, ?_, ?_, rfl, rfl⟩
      · rw [x_b1, Option.bind_some]
        show x_b1 (G1_farOf a b N) _ = _
        rw [g1_farOf h hi (by omega) (by omega)]; rfl
      · show x_b1 (x_b1 (G12_farOf a b (x_up S 0 0 0)) _) _ = _
        rw [g12_farOf (by rw [x_up1]; exact hi) (by omega) (by omega), x_up1]; rfl
    · rw [if_neg h1, if_neg h1]
      exact ⟨.inr 1, 0, 1, rfl, rfl, rfl⟩
  · rw [if_neg h0, if_neg h0]
    exact ⟨.inr 1, 0, 1, rfl, rfl, rfl⟩
theorem g1_storeOfAll (h : CR N m) (hi : Iv m) : G1_storeOfAll N = some (sm (fun w => m (12 + w)) 4) := by
  rw [G1_storeOfAll, w_sm (f := G1_storeOfAll_L13 N) (fun w => m (12 + w)) 999 (n := 4) (by decide) (by decide) (by decide) (fun w hw => hi.st hw) (fun j s hj h0 h1 => by
    have hb := hi.st hj
    show (if (4 : Int) ≤ (j : Int) then _ else _) = _
    rw [if_neg (by omega), x_gd_t ⟨by omega, by omega⟩, show ((j : Int)).toNat = j from rfl, h.2.1 j hj, x_add_of ⟨by omega, by omega⟩, n_inc (by omega)]) (fun s => rfl)]
  rfl
theorem g1_lagOf (h : CR N m) (hi : Iv m) (e : m 3 = (n : Int)) {p : Nat} (hp : (p : Int) < m 3) : G1_lagOf (p : Int) N = some (if sm (fun p => m (21 + 8 * p)) n = 0 then 0 else x_div (x_mul 100 (m (21 + 8 * p))) (sm (fun p => m (21 + 8 * p)) n)) := by
  rw [G1_lagOf, g1_sumOf5 h hi e]
  show x_b1 (if sm (fun p => m (21 + 8 * p)) n = 0 then some 0 else x_b1 (G1_of 5 (p : Int) N) fun v5 => x_gd (sm (fun p => m (21 + 8 * p)) n ≠ 0) (some (x_div (x_mul 100 v5) (sm (fun p => m (21 + 8 * p)) n)))) _ = _
  by_cases q : sm (fun p => m (21 + 8 * p)) n = 0
  · rw [if_pos q, if_pos q]; rfl
  · rw [if_neg q, if_neg q, g1_of5 h hi hp]
    show x_b1 (x_gd _ _) _ = _
    rw [x_gd_t q]; rfl
theorem L_count {X La : xU} {a : Int} (h : CR N (S 1)) (hi : Iv (S 1)) (hL : La 0 6 = S 1 1) (hX : X 0 15 = S 0 6) : ∃ b, G11_count a X N La = some b ∧ G12_count a S = some (b, x_up S 0 0 0) := by
  obtain ⟨n, hn, e⟩ := hi.nn
  by_cases h0 : 0 ≤ a ∧ a ≤ 12
  · rcases (show a = 0 ∨ a = 1 ∨ a = 2 ∨ a = 3 ∨ a = 4 ∨ a = 5 ∨ a = 6 ∨ a = 7 ∨ a = 8 ∨ a = 9 ∨ a = 10 ∨ a = 11 ∨ a = 12 by omega) with rfl | rfl | rfl | rfl | rfl | rfl | rfl | rfl | rfl | rfl | rfl | rfl | rfl
    · exact ⟨S 1 3, by rw [← h.1.1]; rfl, rfl⟩
    · exact ⟨S 1 0, by rw [← h.1.2.1]; rfl, rfl⟩
    · exact ⟨S 1 1, by rw [← hL]; rfl, rfl⟩
    · exact ⟨S 1 4, by rw [← h.1.2.2.1]; rfl, rfl⟩
    · exact ⟨S 1 5, by rw [← h.1.2.2.2.1]; rfl, rfl⟩
    · exact ⟨S 1 6, by rw [← h.1.2.2.2.2.1]; rfl, rfl⟩
    · exact ⟨S 1 7, by rw [← h.1.2.2.2.2.2.1]; rfl, rfl⟩
    · exact ⟨S 1 8, by rw [← h.1.2.2.2.2.2.2.1]; rfl, rfl⟩
    · exact ⟨S 1 9, by rw [← h.1.2.2.2.2.2.2.2.1]; rfl, rfl⟩
    · refine ⟨sm (fun w => S 1 (12 + w)) 4, ?_, ?_⟩
      · show x_b1 (G1_storeOfAll N) _ = _
        rw [g1_storeOfAll h hi]; rfl
      · rw [G12_count, if_neg (by decide), if_neg (by decide), if_neg (by decide), g12_isIn, if_neg (by decide), x_b1, Option.bind_some, if_pos rfl, if_neg (by decide), if_neg (by decide), if_neg (by decide), w_sm (f := G12_count_L101 S) (fun w => S 1 (12 + w)) 999 (n := 4) (by decide) (by decide) (by decide) (fun w hw => hi.st hw) (fun j s hj h0 h1 => by
          have hb := hi.st hj
          show (if (4 : Int) ≤ (j : Int) then _ else _) = _
          rw [if_neg (by omega), show x_add 12 (j : Int) = ((12 + j : Nat) : Int) from n_add (a := 12) (by omega), x_gd_t ⟨by omega, by omega⟩, show (((12 + j : Nat) : Int)).toNat = 12 + j from rfl, x_up1, x_add_of ⟨by omega, by omega⟩, n_inc (by omega)]) (fun s => rfl)]
        rw [x_b1, Option.bind_some, if_pos rfl]
        rfl
    · refine ⟨sm (fun p => S 1 (21 + 8 * p)) n, ?_, ?_⟩
      · show x_b1 (G1_sumOf 5 N) _ = _
        rw [g1_sumOf5 h hi e]; rfl
      · show x_b1 (G12_lateOfAll (x_up S 0 0 0)) _ = _
        rw [g12_lateOfAll (n := n) (by rw [x_up1]; exact hi) (by rw [x_up1]; exact e), x_up1]; rfl
    · exact ⟨S 1 10, by rw [← h.2.2.2.2.1]; rfl, rfl⟩
    · exact ⟨S 0 6, by rw [← hX]; rfl, rfl⟩
  · refine ⟨-1, ?_, ?_⟩
    · rw [G11_count, if_neg (by omega), if_neg (by omega), if_neg (by omega), if_neg (by omega), if_neg (by omega), if_neg (by omega), if_neg (by omega), if_neg (by omega), if_neg (by omega), if_neg (by omega), if_neg (by omega), if_neg (by omega), if_neg (by omega)]
    · rw [G12_count, if_neg (by omega), if_neg (by omega), if_neg (by omega), g12_isIn, if_neg (by omega)]
      show (if a = 10 then _ else _) = _
      rw [if_neg (by omega), if_neg (by omega), if_neg (by omega), w_sm (f := G12_count_L101 S) (fun w => S 1 (12 + w)) 999 (n := 4) (by decide) (by decide) (by decide) (fun w hw => hi.st hw) (fun j s hj h0 h1 => by
          have hb := hi.st hj
          show (if (4 : Int) ≤ (j : Int) then _ else _) = _
          rw [if_neg (by omega), show x_add 12 (j : Int) = ((12 + j : Nat) : Int) from n_add (a := 12) (by omega), x_gd_t ⟨by omega, by omega⟩, show (((12 + j : Nat) : Int)).toNat = 12 + j from rfl, x_up1, x_add_of ⟨by omega, by omega⟩, n_inc (by omega)]) (fun s => rfl)]
      show x_b1 (if a = 9 then _ else _) _ = _
      rw [if_neg (by omega)]
      rfl
/-- the voices of a set of monks -/
def vo (m : Nat → Int) (a : Int) (n : Nat) : Int := sm (fun p => if ib a p then m (23 + 8 * p) else 0) n
def rd (m : Nat → Int) (n : Nat) : Int := sm (fun p => m (23 + 8 * p)) n
theorem vo_q (hi : Iv m) {a : Int} {p : Nat} (hp : (p : Int) < m 3) : 0 ≤ (if ib a p then m (23 + 8 * p) else 0) ∧ (if ib a p then m (23 + 8 * p) else 0) ≤ 999 := by
  have := mk_7 hi hp
  cases ib a p
  · show 0 ≤ (0 : Int) ∧ (0 : Int) ≤ 999; decide
  · exact this
theorem vo_bd (hi : Iv m) (e : m 3 = (n : Int)) {a : Int} : 0 ≤ vo m a n ∧ vo m a n ≤ 6993 := by
  have h7 := hi.many
  have h1 := sm_bd (q := fun p => if ib a p then m (23 + 8 * p) else 0) (n := n) (B := 999) (fun p hp => vo_q hi (by omega))
  unfold vo
  omega
theorem rd_bd (hi : Iv m) (e : m 3 = (n : Int)) : 0 ≤ rd m n ∧ rd m n ≤ 6993 := by
  have h7 := hi.many
  have h1 := sm_bd (q := fun p => m (23 + 8 * p)) (n := n) (B := 999) (fun p hp => mk_7 hi (by omega))
  unfold rd
  omega
/-- whether a set carries the chapter -/
def cr (m : Nat → Int) (a : Int) (n : Nat) : Bool := decide (rd m n < 2 * vo m a n)
theorem g0_carries {a : Int} (ha : R32 a) (h : CR N m) (hi : Iv m) (e : m 3 = (n : Int)) : G0_carries a N = some (if cr m a n then 1 else 0) := by
  have h7 := hi.many
  have hv := vo_bd hi e (a := a)
  have hr := rd_bd hi e
  have hw : whl xFU (G0_carries_L5 a N) (0, 0) = some (vo m a n) := w_sm (fun p => if ib a p then m (23 + 8 * p) else 0) 999 (by omega) (by decide) (by decide) (fun p hp => vo_q hi (by omega)) (fun j s hj h0 h1 => by
    have hb := mk_7 hi (p := j) (by omega)
    show (if N 0 3 ≤ (j : Int) then _ else _) = _
    rw [h.1.1, if_neg (by omega), g11_hold ha (by omega), n_inc (by omega), g1_of7 h hi (by omega)]
    cases ib a j
    · show some (Sum.inl (s, _)) = some (Sum.inl (s + 0, _))
      rw [Int.add_zero]
    · show some (Sum.inl (x_add s (m (23 + 8 * j)), _)) = _
      rw [x_add_of ⟨by omega, by omega⟩]
      rfl) (fun s => by
    show (if N 0 3 ≤ (n : Int) then _ else _) = _
    rw [h.1.1, if_pos (by omega)])
  rw [G0_carries, hw, g1_sumOf7 h hi e]
  show x_b1 (if vo m a n ≤ x_sub (rd m n) (vo m a n) then some 0 else some 1) _ = _
  rw [x_sub_of ⟨by omega, by omega⟩]
  unfold cr
  by_cases q : rd m n < 2 * vo m a n
  · rw [if_neg (by omega), if_pos (decide_eq_true q)]; rfl
  · rw [if_pos (by omega), if_neg (by simp [q])]; rfl
theorem g12_roundsOf {a : Int} (ha : R32 a) (hi : Iv (S 1)) (e : S 1 3 = (n : Int)) : G12_roundsOf a S = some (vo (S 1) a n) := by
  have h7 := hi.many
  have hw : whl xFU (G12_roundsOf_L4 a S) (0, 0) = some (vo (S 1) a n) := w_sm (fun p => if ib a p then S 1 (23 + 8 * p) else 0) 999 (by omega) (by decide) (by decide) (fun p hp => vo_q hi (by omega)) (fun j s hj h0 h1 => by
    have hb := mk_7 hi (p := j) (by omega)
    show (if S 1 3 ≤ (j : Int) then _ else _) = _
    rw [if_neg (by omega), g12_isOf ha (by omega), n_inc (by omega), g12_of7 (by omega)]
    cases ib a j
    · show some (Sum.inl (x_add s 0, _)) = some (Sum.inl (s + 0, _))
      rw [x_add0 ⟨by omega, by omega⟩, Int.add_zero]
    · show some (Sum.inl (x_add s (S 1 (23 + 8 * j)), _)) = _
      rw [x_add_of ⟨by omega, by omega⟩]
      rfl) (fun s => by
    show (if S 1 3 ≤ (n : Int) then _ else _) = _
    rw [if_pos (by omega)])
  rw [G12_roundsOf, hw]; rfl
theorem g12_all (hn : n ≤ 7) (e : S 1 3 = (n : Int)) : G12_all S = some ((2 ^ n - 1 : Nat) : Int) := by
  have h1 : 2 ^ n ≤ 2 ^ 7 := Nat.pow_le_pow_right (by decide) hn
  have h2 : 0 < 2 ^ n := Nat.two_pow_pos n
  rw [G12_all, e, n_shl1 n (by omega), x_sub_of ⟨by omega, by omega⟩]
  congr 1
  omega
theorem vo_all (hn : n ≤ 7) : vo m ((2 ^ n - 1 : Nat) : Int) n = rd m n := by
  refine sm_congr (fun p hp => ?_)
  rw [ib_nat, Nat.testBit_two_pow_sub_one]
  simp [hp]
theorem g12_carries {a : Int} (ha : R32 a) (hi : Iv (S 1)) (e : S 1 3 = (n : Int)) : G12_carries a S = some (if cr (S 1) a n then 1 else 0) := by
  have h7 := hi.many
  have hv := vo_bd hi e (a := a)
  have hr := rd_bd hi e
  have h1 : 2 ^ n ≤ 2 ^ 7 := Nat.pow_le_pow_right (by decide) (by omega)
  rw [G12_carries, g12_roundsOf ha hi e, g12_all (by omega) e]
  show x_b1 (G12_roundsOf ((2 ^ n - 1 : Nat) : Int) S) _ = _
  rw [g12_roundsOf (R32n (by omega)) hi e, vo_all (by omega)]
  show x_b1 (if x_mul 2 (vo (S 1) a n) ≤ rd (S 1) n then some 0 else some 1) _ = _
  rw [x_mul_of ⟨by omega, by omega⟩]
  unfold cr
  by_cases q : rd (S 1) n < 2 * vo (S 1) a n
  · rw [if_neg (by omega), if_pos (decide_eq_true q)]; rfl
  · rw [if_pos (by omega), if_neg (by simp [q])]; rfl
theorem L_chapter {a : Int} (ha : R32 a) (h : CR N (S 1)) (hi : Iv (S 1)) : ∃ b, G11_chapter a N = some b ∧ G12_chapter a S = some (b, x_up S 0 0 0) := by
  obtain ⟨n, hn, e⟩ := hi.nn
  refine ⟨if cr (S 1) a n then 1 else 0, ?_, ?_⟩
  · rw [G11_chapter, g0_carries ha h hi e]
    cases cr (S 1) a n <;> rfl
  · rw [G12_chapter, g12_carries ha (by rw [x_up1]; exact hi) (by rw [x_up1]; exact e), x_up1]
    cases cr (S 1) a n <;> rfl
/-- whether one is needed in a set -/
def nd (m : Nat → Int) (p n s : Nat) : Bool := s.testBit p && (cr m (s : Int) n && !cr m ((dif s (2 ^ p) : Nat) : Int) n)
def swg (m : Nat → Int) (p n : Nat) : Int := sm (fun s => if nd m p n s then 1 else 0) (2 ^ n)
theorem pw7 (hn : n ≤ 7) : 2 ^ n ≤ 128 := Nat.pow_le_pow_right (n := 2) (by decide) hn
theorem swg_bd (hn : n ≤ 7) {p : Nat} : 0 ≤ swg m p n ∧ swg m p n ≤ 128 := by
  have h1 := sm_bd (q := fun s => if nd m p n s then 1 else 0) (n := 2 ^ n) (B := 1) (fun s _ => c01)
  have h2 := pw7 hn
  unfold swg
  omega
theorem g0_swingsOf (h : CR N m) (hi : Iv m) (e : m 3 = (n : Int)) {p : Nat} (hp : p < n) : G0_swingsOf (p : Int) N = some (swg m p n) := by
  have h7 := hi.many
  have h2 := pw7 (n := n) (by omega)
  have hw : whl xFU (G0_swingsOf_L5 (p : Int) N) (0, 0) = some (swg m p n) := w_sm (fun s => if nd m p n s then 1 else 0) 1 (by omega) (by decide) (by decide) (fun p _ => c01) (fun j s hj h0 h1 => by
    show (if x_shl 1 (N 0 3) ≤ (j : Int) then _ else _) = _
    have hd : dif j (2 ^ p) < 2 ^ 7 := dif_lt (n := 7) (by omega)
    rw [h.1.1, e, n_shl1 n (by omega), if_neg (by omega), g11_hold (R32n (by omega)) (by omega), ib_nat, g0_carries (R32n (by omega)) h hi e, n_clr (by omega) (by omega), g0_carries (R32n (by omega)) h hi e, n_inc (by omega), ← n_cnt (c := nd m p n j) h0 h1, nd]
    cases j.testBit p
    · rfl
    · cases cr m (j : Int) n
      · rfl
      · cases cr m ((dif j (2 ^ p) : Nat) : Int) n <;> rfl) (fun s => by
    show (if x_shl 1 (N 0 3) ≤ ((2 ^ n : Nat) : Int) then _ else _) = _
    rw [h.1.1, e, n_shl1 n (by omega), if_pos (Int.le_refl _)])
  rw [G0_swingsOf, hw]; rfl
theorem g12_swingsOf (hi : Iv (S 1)) (e : S 1 3 = (n : Int)) {p : Nat} (hp : p < n) : G12_swingsOf (p : Int) S = some (swg (S 1) p n) := by
  have h7 := hi.many
  have h2 := pw7 (n := n) (by omega)
  have hw : whl xFU (G12_swingsOf_L4 (p : Int) S) (0, 0) = some (swg (S 1) p n) := w_sm (fun s => if nd (S 1) p n s then 1 else 0) 1 (by omega) (by decide) (by decide) (fun p _ => c01) (fun j s hj h0 h1 => by
    have hd : dif j (2 ^ p) < 2 ^ 7 := dif_lt (n := 7) (by omega)
    show x_b1 (G12_all S) _ = _
    rw [g12_all (by omega) e]
    show (if ((2 ^ n - 1 : Nat) : Int) < (j : Int) then _ else _) = _
    rw [if_neg (by omega), g12_isOf (R32n (by omega)) (by omega), ib_nat, g12_carries (R32n (by omega)) hi e, n_clr (by omega) (by omega), g12_carries (R32n (by omega)) hi e, n_inc (by omega), ← n_cnt2 (c := nd (S 1) p n j) h0 h1, nd]
    cases j.testBit p
    · rfl
    · cases cr (S 1) (j : Int) n
      · rfl
      · cases cr (S 1) ((dif j (2 ^ p) : Nat) : Int) n <;> rfl) (fun s => by
    have h3 := Nat.two_pow_pos n
    show x_b1 (G12_all S) _ = _
    rw [g12_all (by omega) e]
    show (if ((2 ^ n - 1 : Nat) : Int) < ((2 ^ n : Nat) : Int) then _ else _) = _
    rw [if_pos (by omega)])
  rw [G12_swingsOf, hw]; rfl
theorem L_swings {a : Int} (h : CR N (S 1)) (hi : Iv (S 1)) : ∃ o b v, G11_swings a N = some o ∧ G12_swings a S = some (b, x_up S 0 0 v) ∧ Ag (fun _ => 1) o b (x_up S 0 0 v) := by
  obtain ⟨n, hn, e⟩ := hi.nn
  rw [G11_swings, G12_swings, g11_needMonk h, g12_isMonk hi.many]
  by_cases h0 : 0 ≤ a ∧ a < S 1 3
  · obtain ⟨p, rfl⟩ := Int.eq_ofNat_of_zero_le h0.1
    rw [if_pos h0, if_pos h0]
    refine ⟨.inl (swg (S 1) p n), swg (S 1) p n, 0, ?_, ?_, rfl, rfl⟩
    · show x_b1 (G0_swingsOf (p : Int) N) _ = _
      rw [g0_swingsOf h hi e (by omega)]; rfl
    · show x_b1 (x_b1 (G12_swingsOf (p : Int) (x_up S 0 0 0)) _) _ = _
      rw [g12_swingsOf (n := n) (by rw [x_up1]; exact hi) (by rw [x_up1]; exact e) (by omega), x_up1]; rfl
  · rw [if_neg h0, if_neg h0]
    exact ⟨.inr 1, 0, 1, rfl, rfl, rfl⟩
theorem L_elder (h : CR N (S 1)) (hi : Iv (S 1)) : ∃ b, G11_elder N = some b ∧ G12_elder S = some (b, x_up S 0 0 0) := by
  obtain ⟨n, hn, e⟩ := hi.nn
  refine ⟨(mxP (fun p => swg (S 1) p n) n).1, ?_, ?_⟩
  · rw [G11_elder, G0_mostSwinging, show whl xFU (G0_mostSwinging_L7 N) (-1, 0, 0) = some (mxP (fun p => swg (S 1) p n) n).1 from w_fo (f := G0_mostSwinging_L7 N) (g := mxg (fun p => swg (S 1) p n)) (a := (-1, 0)) (em := fun j (x : Int × Int) => (x.1, x.2, (j : Int))) (out := fun x => x.1) n (by unfold xFU; omega) (fun _ _ => True) trivial (fun _ _ _ _ => trivial) (fun j x hj hx => by
      show (if N 0 3 ≤ (j : Int) then _ else _) = _
      rw [h.1.1, if_neg (by omega), g0_swingsOf h hi e hj, n_inc (by omega)]
      rw [x_b1, Option.bind_some]
      show x_b2 (if swg (S 1) j n ≤ x.2 then some (x.1, x.2) else some ((j : Int), swg (S 1) j n)) _ = _
      by_cases q : swg (S 1) j n ≤ x.2
      · rw [if_pos q, mxg, if_pos q]; rfl
      · rw [if_neg q, mxg, if_neg q]; rfl) (fun x _ => by
      show (if N 0 3 ≤ (n : Int) then _ else _) = _
      rw [h.1.1, if_pos (by omega)])]
    rfl
  · have hR : ∀ p, p < n → G12_swingsOf (p : Int) (x_up S 0 0 0) = some (swg (S 1) p n) := by
      intro p hp
      have := g12_swingsOf (S := x_up S 0 0 0) (n := n) (p := p) (by rw [x_up1]; exact hi) (by rw [x_up1]; exact e) hp
      rw [x_up1] at this
      exact this
    rw [G12_elder, show whl xFU (G12_elder_L11 S) (-1, 0, 0) = some (mxP (fun p => swg (S 1) p n) n).1 from w_fo (f := G12_elder_L11 S) (g := mxg (fun p => swg (S 1) p n)) (a := (-1, 0)) (em := fun j (x : Int × Int) => (x.1, x.2, (j : Int))) (out := fun x => x.1) n (by unfold xFU; omega) (fun _ _ => True) trivial (fun _ _ _ _ => trivial) (fun j x hj hx => by
      show (if (x_up S 0 0 0) 1 3 ≤ (j : Int) then _ else _) = _
      rw [x_up1, if_neg (by omega), hR j hj, n_inc (by omega)]
      rw [x_b1, Option.bind_some]
      show x_b2 (if x.2 < swg (S 1) j n then some ((j : Int), swg (S 1) j n) else some (x.1, x.2)) _ = _
      by_cases q : swg (S 1) j n ≤ x.2
      · rw [if_neg (by omega), mxg, if_pos q]; rfl
      · rw [if_pos (by omega), mxg, if_neg q]; rfl) (fun x _ => by
      show (if (x_up S 0 0 0) 1 3 ≤ (n : Int) then _ else _) = _
      rw [x_up1, if_pos (by omega)])]
    rfl
end Q3
