/-! Sets of monks: likes gathered, who has too few; the watch. -/
theorem bc12a : ∀ a : Nat, a < 32 → ∀ b : Nat, b < 128 → x_bc ((128 * a + b : Nat) : Int) = cn (fun p => (128 * a + b).testBit p) 12 := by decide +kernel
theorem bc12 (b : Nat) (h : b < 4096) : x_bc (b : Int) = cn (fun p => b.testBit p) 12 := by
  have := bc12a (b / 128) (by omega) (b % 128) (by omega)
  rw [show 128 * (b / 128) + b % 128 = b by omega] at this
  exact this
theorem cn_bj (q : Nat → Bool) (j : Nat) : 0 ≤ cn q j ∧ cn q j ≤ (j : Int) := by
  have := sm_bd (q := fun p => if q p then (1 : Int) else 0) (n := j) (B := 1) (fun p _ => by cases q p <;> decide)
  have e : cn q j = sm (fun p => if q p then (1 : Int) else 0) j := rfl
  rw [e]; omega
theorem cn_s {q : Nat → Bool} {j : Nat} : cn q (j + 1) = cn q j + (if q j then 1 else 0) := rfl
theorem tb_hi {b i k : Nat} (h : b < 2 ^ k) (hi : k ≤ i) : b.testBit i = false := Nat.testBit_lt_two_pow (Nat.lt_of_lt_of_le h (Nat.pow_le_pow_right (by decide) hi))
theorem g12_bits {b : Nat} (hb : b < 4096) : G12_bits (b : Int) = some (x_bc (b : Int)) := by
  have w : whl xFU (G12_bits_L4 (b : Int)) (0, 0) = some (cn (fun p => b.testBit p) 31) := by
    refine w_run (fun j => (cn (fun p => b.testBit p) j, (j : Int))) 31 (by unfold xFU; omega) (fun j hj => ?_) (by rw [G12_bits_L4, if_pos (by decide)])
    have h1 := cn_bj (fun p => b.testBit p) j
    rw [G12_bits_L4, if_neg (by omega), z_bit (R32n (by omega)) (by omega), ib_nat, n_inc (by omega), cn_s]
    have hc : (if b.testBit j = true then (1 : Int) else 0) = 0 ∨ (if b.testBit j = true then (1 : Int) else 0) = 1 := by cases b.testBit j <;> simp
    rw [x_add_of ⟨by omega, by omega⟩]
  rw [G12_bits, w, x_b1s, bc12 b hb]
  congr 1
  exact cn_more (q := fun p => b.testBit p) (n := 12) 19 (fun i hi => tb_hi (k := 12) hb hi)
/-- a row filled -/
def fll (S : xU) (r : Nat) (f : Nat → Int) (j : Nat) : xU := fun o i => if o = r ∧ i < j then f i else S o i
section FLL
variable {S : xU} {r j : Nat} {f : Nat → Int}
theorem fll_0 : fll S r f 0 = S := by
  funext o i
  exact if_neg (fun h => absurd h.2 (by omega))
theorem fll_o {o : Nat} (h : o ≠ r) : fll S r f j o = S o := by
  funext i
  exact if_neg (fun w => h w.1)
theorem fll_i {i : Nat} (h : i < j) : fll S r f j r i = f i := if_pos ⟨rfl, h⟩
theorem fll_h {i : Nat} (h : j ≤ i) : fll S r f j r i = S r i := if_neg (fun w => absurd w.2 (by omega))
theorem fll_s : x_up (fll S r f j) r j (f j) = fll S r f (j + 1) := by
  funext o i
  by_cases ho : o = r
  · subst ho
    by_cases hi : i = j
    · subst hi; rw [up_s, fll_i (by omega)]
    · rw [up_i hi]
      by_cases h : i < j
      · rw [fll_i h, fll_i (by omega)]
      · rw [fll_h (by omega), fll_h (by omega)]
  · rw [up_o ho, fll_o ho, fll_o ho]
end FLL
/-- what a set of monks likes -/
def lkn (l : Nat → Nat) (n v : Nat) : Nat := fo (fun p s => if v.testBit p then s ||| l p else s) 0 n
theorem lkn_lt {l : Nat → Nat} {n v : Nat} (h : ∀ p, p < n → l p < 4096) : lkn l n v < 4096 :=
  fo_ind (g := fun p s => if v.testBit p then s ||| l p else s) (fun _ s => s < 4096) (n := n) (by decide) (fun p s hp hs => by
    by_cases z : v.testBit p = true
    · simp only [if_pos z]; exact Nat.or_lt_two_pow (n := 12) hs (h p hp)
    · simp only [if_neg z]; exact hs) n (Nat.le_refl _)
theorem lkn_s {l : Nat → Nat} {n v : Nat} : lkn l (n + 1) v = if v.testBit n then lkn l n v ||| l n else lkn l n v := rfl
section SHW
variable {N S St : xU} {m : Nat → Int} {n : Nat} {l : Nat → Nat}
theorem c_gather (h : CR N m) (hi : Iv m) (e : m 3 = (n : Int)) (hl : ∀ p, p < n → m (19 + 8 * p) = (l p : Int)) : ∃ St', G9_gatherLikes N St = some St' ∧ (∀ v, v < 128 → St' 1 v = (lkn l n v : Int)) ∧ ∀ o, o ≠ 1 → St' o = St o := by
  have h7 := hi.many
  have hlt : ∀ p, p < n → l p < 4096 := fun p hp => by have := (hi.mk (p := p) (by omega)).2.2.2.1; rw [hl p hp] at this; omega
  have inn : ∀ (v : Nat) (Z : xU), v < 128 → whl xFU (G9_gatherLikes_L18 N (v : Int)) (0, x_up Z 1 v 0) = some (x_up Z 1 v (lkn l n v : Int)) := by
    intro v Z hv
    refine w_run (fun p => ((p : Int), x_up Z 1 v (lkn l p v : Int))) n (by unfold xFU; omega) (fun p hp => ?_) (by rw [G9_gatherLikes_L18, h.1.1, if_pos (by omega)])
    have hl1 := lkn_lt (l := l) (n := p) (v := v) (fun p' hp' => hlt p' (by omega))
    have hl2 := hlt p hp
    rw [G9_gatherLikes_L18, h.1.1, if_neg (by omega), g11_hold (R32n (by omega)) (by omega), x_b1s, ib_nat, n_inc (by omega), lkn_s]
    cases hb : v.testBit p with
    | false => rw [if_neg Bool.false_ne_true, if_pos rfl, x_b1s, if_neg Bool.false_ne_true]
    | true =>
      rw [if_pos rfl, if_neg (by decide), x_gd_t ⟨by omega, by omega⟩, g1_of3 h hi (by omega), x_b1s, x_gd_t ⟨by omega, by omega⟩, Int.toNat_natCast, up_s, hl p hp, n_or (by omega) (by omega), up_up, x_b1s, if_pos rfl]
  have w : whl xFU (G9_gatherLikes_L2 N) (0, St) = some (fll St 1 (fun v => (lkn l n v : Int)) 128) := by
    have e0 : ((0 : Int), St) = (((0 : Nat) : Int), fll St 1 (fun v => (lkn l n v : Int)) 0) := by rw [fll_0]; rfl
    rw [e0]
    refine w_run (fun v => ((v : Int), fll St 1 (fun v => (lkn l n v : Int)) v)) 128 (by unfold xFU; omega) (fun v hv => ?_) (by rw [G9_gatherLikes_L2, if_pos (by decide)])
    rw [G9_gatherLikes_L2, if_neg (by omega), x_gd_t ⟨by omega, by omega⟩, Int.toNat_natCast, inn v _ hv, x_b1s, n_inc (by omega), fll_s (f := fun v => (lkn l n v : Int))]
  rw [G9_gatherLikes, w, x_b1s]
  exact ⟨_, rfl, fun v hv => fll_i hv, fun o ho => fll_o ho⟩
theorem r_likesOf {v : Nat} (hv : v < 128) (hi : Iv (S 1)) (e : S 1 3 = (n : Int)) (hl : ∀ p, p < n → S 1 (19 + 8 * p) = (l p : Int)) : G12_likesOf (v : Int) S = some (lkn l n v : Int) := by
  have h7 := hi.many
  have hlt : ∀ p, p < n → l p < 4096 := fun p hp => by have := (hi.mk (p := p) (by omega)).2.2.2.1; rw [hl p hp] at this; omega
  have w : whl xFU (G12_likesOf_L4 (v : Int) S) (0, 0) = some (lkn l n v : Int) := by
    refine w_run (fun p => ((lkn l p v : Int), (p : Int))) n (by unfold xFU; omega) (fun p hp => ?_) (by rw [G12_likesOf_L4, e, if_pos (by omega)])
    have hl1 := lkn_lt (l := l) (n := p) (v := v) (fun p' hp' => hlt p' (by omega))
    have hl2 := hlt p hp
    rw [G12_likesOf_L4, e, if_neg (by omega), g12_isOf (R32n (by omega)) (by omega), x_b1s, ib_nat, n_inc (by omega), lkn_s]
    cases hb : v.testBit p with
    | false => rw [if_neg Bool.false_ne_true, if_pos rfl, x_b1s, n_or0 (by omega), if_neg Bool.false_ne_true]
    | true => rw [if_pos rfl, if_neg (by decide), g12_of3 (by omega), x_b1s, x_b1s, hl p hp, n_or (by omega) (by omega), if_pos rfl]
  rw [G12_likesOf, w, x_b1s]
theorem L_shown (h : CR N (S 1)) (hi : Iv (S 1)) : ∃ b St', G11_shown N St = some (b, St') ∧ G12_shown S = some (b, x_up S 0 0 0) := by
  obtain ⟨n, hn, e⟩ := hi.nn
  let l : Nat → Nat := fun p => (S 1 (19 + 8 * p)).toNat
  have hl : ∀ p, p < n → S 1 (19 + 8 * p) = (l p : Int) := fun p hp => by
    have := (hi.mk (p := p) (by omega)).2.2.2.1
    show S 1 (19 + 8 * p) = ((S 1 (19 + 8 * p)).toNat : Int)
    omega
  have hlt : ∀ p, p < n → l p < 4096 := fun p hp => by have := (hi.mk (p := p) (by omega)).2.2.2.1; rw [hl p hp] at this; omega
  obtain ⟨St', k1, k2, k3⟩ := c_gather (St := St) h hi e hl
  have p2 := Nat.two_pow_pos n
  have p7 : 2 ^ n ≤ 2 ^ 7 := Nat.pow_le_pow_right (by decide) hn
  have W : ∃ r1 r2, whl xFU (G9_fewestWithTooFew_L13 N St') (0, 8, 1) = some r1 ∧ whl xFU (G12_shown_L9 S) (0, 1) = some r2 ∧ r1 = r2 := by
    refine w_sim (fun j s1 s2 => ∃ v : Nat, v < 128 ∧ s1 = ((v : Int), if v = 0 then 8 else x_bc (v : Int), ((j + 1 : Nat) : Int)) ∧ s2 = ((v : Int), ((j + 1 : Nat) : Int))) (fun r1 r2 => r1 = r2) (2 ^ n - 1) (by unfold xFU; omega) ?_ ?_ ⟨0, by decide, rfl, rfl⟩
    · rintro j s1 s2 hj ⟨v, hv, rfl, rfl⟩
      have hj1 : j + 1 < 2 ^ n := by omega
      have hlk := lkn_lt (l := l) (n := n) (v := j + 1) hlt
      have hb := bc_bd (b := j + 1) (by omega)
      have ec : G9_fewestWithTooFew_L13 N St' ((v : Int), if v = 0 then 8 else x_bc (v : Int), ((j + 1 : Nat) : Int)) = x_b2 (if (if v = 0 then 8 else x_bc (v : Int)) ≤ x_bc ((j + 1 : Nat) : Int) then (some ((v : Int), if v = 0 then 8 else x_bc (v : Int))) else (if x_bc ((j + 1 : Nat) : Int) ≤ x_bc (lkn l n (j + 1) : Int) then (some ((v : Int), if v = 0 then 8 else x_bc (v : Int))) else (some (((j + 1 : Nat) : Int), x_bc ((j + 1 : Nat) : Int))))) fun (v9 : Int) (v10 : Int) => (some (.inl (v9, v10, ((j + 1 + 1 : Nat) : Int)))) := by
        rw [G9_fewestWithTooFew_L13, h.1.1, e, n_shl1 n (by omega), if_neg (by omega), if_neg (by omega), x_gd_t ⟨by omega, by omega⟩, Int.toNat_natCast, k2 _ (by omega), n_inc (show j + 1 < 2147483647 by omega)]
      have er : G12_shown_L9 S ((v : Int), ((j + 1 : Nat) : Int)) = x_b1 (if x_bc ((j + 1 : Nat) : Int) ≤ x_bc (lkn l n (j + 1) : Int) then (some (v : Int)) else (if (v : Int) = 0 then (some ((j + 1 : Nat) : Int)) else (if x_bc (v : Int) ≤ x_bc ((j + 1 : Nat) : Int) then (some (v : Int)) else (some ((j + 1 : Nat) : Int))))) fun (v14 : Int) => (some (.inl (v14, ((j + 1 + 1 : Nat) : Int)))) := by
        rw [G12_shown_L9, g12_all hn (by rw [x_up1]; exact e), x_b1s, if_neg (by omega), r_likesOf (by omega) (by rw [x_up1]; exact hi) (by rw [x_up1]; exact e) (fun p hp => by rw [x_up1]; exact hl p hp), x_b1s, g12_bits hlk, x_b1s, g12_bits (by omega), x_b1s, n_inc (show j + 1 < 2147483647 by omega), g12_bits (show v < 4096 by omega)]
        rfl
      rw [ec, er]
      by_cases y : x_bc ((j + 1 : Nat) : Int) ≤ x_bc (lkn l n (j + 1) : Int)
      · rw [if_pos y, if_pos y, x_b1s, ite_self, x_b2s]
        exact ⟨_, _, rfl, rfl, v, hv, rfl, rfl⟩
      · rw [if_neg y, if_neg y]
        by_cases z : v = 0
        · subst z
          rw [if_pos rfl, if_neg (by omega), x_b2s, if_pos (show ((0 : Nat) : Int) = 0 from rfl), x_b1s]
          exact ⟨_, _, rfl, rfl, j + 1, by omega, by rw [if_neg (by omega)], rfl⟩
        · rw [if_neg z, if_neg (show ¬ (v : Int) = 0 by omega)]
          by_cases y2 : x_bc (v : Int) ≤ x_bc ((j + 1 : Nat) : Int)
          · rw [if_pos y2, if_pos y2, x_b1s, x_b2s]
            exact ⟨_, _, rfl, rfl, v, hv, by rw [if_neg z], rfl⟩
          · rw [if_neg y2, if_neg y2, x_b1s, x_b2s]
            exact ⟨_, _, rfl, rfl, j + 1, by omega, by rw [if_neg (show ¬ j + 1 = 0 by omega)], rfl⟩
    · rintro s1 s2 ⟨v, hv, rfl, rfl⟩
      refine ⟨(v : Int), (v : Int), ?_, ?_, rfl⟩
      · rw [G9_fewestWithTooFew_L13, h.1.1, e, n_shl1 n (by omega), if_pos (by omega)]
      · rw [G12_shown_L9, g12_all hn (by rw [x_up1]; exact e), x_b1s, if_pos (by omega)]
  obtain ⟨r1, r2, e1, e2, rfl⟩ := W
  refine ⟨r1, St', ?_, ?_⟩
  · rw [G11_shown, G9_fewestWithTooFew, k1, x_b1s, e1, x_b1s, x_b2s]
  · rw [G12_shown, e2, x_b1s]
/-- a loop that asks each of n, with an end at the first no (class) -/
theorem w_allC {f : Int → Option (Int ⊕ (Unit ⊕ Int))} {q : Nat → Bool} {u : Int} (hn : n ≤ 7) (hs : ∀ j, j < n → f (j : Int) = if q j = true then some (.inl ((j + 1 : Nat) : Int)) else some (.inr (.inr u))) (he : f (n : Int) = some (.inr (.inl ()))) :
    whl xFU f 0 = some (if ∀ j, j < n → q j = true then .inl () else .inr u) := by
  have key : ∀ d j k, j + d = n → d < k → whl k f (j : Int) = some (if ∀ i, i < n → j ≤ i → q i = true then .inl () else .inr u) := by
    intro d
    induction d with
    | zero =>
      intro j k hj hk
      obtain ⟨k, rfl⟩ : ∃ k', k = k' + 1 := ⟨k - 1, by omega⟩
      have : j = n := by omega
      subst this
      rw [whl_r he, if_pos (fun i h1 h2 => absurd h1 (by omega))]
    | succ d ih =>
      intro j k hj hk
      obtain ⟨k, rfl⟩ : ∃ k', k = k' + 1 := ⟨k - 1, by omega⟩
      have st := hs j (by omega)
      by_cases z : q j = true
      · rw [if_pos z] at st
        rw [whl_l st, ih (j + 1) k (by omega) (by omega)]
        congr 1
        by_cases y : ∀ i, i < n → j ≤ i → q i = true
        · rw [if_pos y, if_pos (fun i h1 h2 => y i h1 (by omega))]
        · rw [if_neg y, if_neg (fun h => y (fun i h1 h2 => by
            by_cases e : i = j
            · subst e; exact z
            · exact h i h1 (by omega)))]
      · rw [if_neg z] at st
        rw [whl_r st, if_neg (fun h => z (h j (by omega) (Nat.le_refl _)))]
  rw [show whl xFU f 0 = _ from key n 0 xFU (by omega) (by unfold xFU; omega)]
  congr 1
  by_cases y : ∀ j, j < n → q j = true
  · rw [if_pos y, if_pos (fun i h1 _ => y i h1)]
  · rw [if_neg y, if_neg (fun h => y (fun i h1 => h i h1 (by omega)))]
/-- and as the reference asks: for one, for all -/
theorem w_anyR {f : Int × Int → Option ((Int × Int) ⊕ Int)} {q : Nat → Bool} (hn : n ≤ 7) (hs : ∀ (b : Bool) (j : Nat), j < n → f (bI b, (j : Int)) = some (.inl (bI (b || q j), ((j + 1 : Nat) : Int)))) (he : ∀ b : Bool, f (bI b, (n : Int)) = some (.inr (bI b))) :
    whl xFU f (0, 0) = some (bI (decide (∃ j, j < n ∧ q j = true))) := by
  have w : whl xFU f (0, 0) = some (bI (fo (fun j b => b || q j) false n)) :=
    w_run (fun j => (bI (fo (fun j b => b || q j) false j), (j : Int))) n (by unfold xFU; omega) (fun j hj => hs _ j hj) (he _)
  rw [w]
  congr 2
  have : ∀ k, k ≤ n → (fo (fun j b => b || q j) false k = true ↔ ∃ j, j < k ∧ q j = true) := by
    intro k hk
    induction k with
    | zero => exact ⟨fun h => (nomatch h), fun ⟨j, h, _⟩ => absurd h (by omega)⟩
    | succ k ih =>
      show ((fo (fun j b => b || q j) false k || q k) = true ↔ _)
      rw [Bool.or_eq_true, ih (by omega)]
      constructor
      · rintro (⟨j, h1, h2⟩ | h)
        · exact ⟨j, by omega, h2⟩
        · exact ⟨k, by omega, h⟩
      · rintro ⟨j, h1, h2⟩
        by_cases e : j = k
        · subst e; exact .inr h2
        · exact .inl ⟨j, by omega, h2⟩
  have t := this n (Nat.le_refl _)
  cases hq : fo (fun j b => b || q j) false n with
  | true => exact (decide_eq_true (t.mp hq)).symm
  | false => exact (decide_eq_false (fun w => by rw [t.mpr w] at hq; cases hq)).symm
end SHW
