/-! The watch. -/
section WTC
variable {N S : xU} {m : Nat → Int} {n : Nat}
theorem w_allR {f : Int × Int → Option ((Int × Int) ⊕ Int)} {q : Nat → Bool} (hn : n ≤ 7) (hs : ∀ j, j < n → f (1, (j : Int)) = some (.inl (bI (q j), ((j + 1 : Nat) : Int)))) (h0 : ∀ j : Nat, f (0, (j : Int)) = some (.inr 0)) (he : f (1, (n : Int)) = some (.inr 1)) :
    whl xFU f (1, 0) = some (bI (decide (∀ j, j < n → q j = true))) := by
  have key : ∀ d j k, j + d = n → d + 1 < k → whl k f (1, (j : Int)) = some (bI (decide (∀ i, i < n → j ≤ i → q i = true))) := by
    intro d
    induction d with
    | zero =>
      intro j k hj hk
      obtain ⟨k, rfl⟩ : ∃ k', k = k' + 1 := ⟨k - 1, by omega⟩
      have : j = n := by omega
      subst this
      rw [whl_r he, decide_eq_true (fun i h1 h2 => absurd h1 (by omega))]
      rfl
    | succ d ih =>
      intro j k hj hk
      obtain ⟨k, rfl⟩ : ∃ k', k = k' + 1 + 1 := ⟨k - 2, by omega⟩
      have st := hs j (by omega)
      rw [whl_l st]
      cases z : q j with
      | true =>
        rw [show bI true = 1 from rfl, ih (j + 1) (k + 1) (by omega) (by omega)]
        congr 2
        apply decide_eq_decide.mpr
        constructor
        · intro h i h1 h2
          by_cases e : i = j
          · subst e; exact z
          · exact h i h1 (by omega)
        · intro h i h1 h2; exact h i h1 (by omega)
      | false =>
        rw [show bI false = 0 from rfl, whl_r (h0 (j + 1)), decide_eq_false (fun h => by have := h j (by omega) (Nat.le_refl _); rw [z] at this; cases this)]
        rfl
  rw [show whl xFU f (1, 0) = _ from key n 0 xFU (by omega) (by unfold xFU; omega)]
  congr 2
  apply decide_eq_decide.mpr
  constructor
  · intro h i h1; exact h i h1 (by omega)
  · intro h i h1 _; exact h i h1
/-- whether one of a set is near -/
def nr (m : Nat → Int) (n v p : Nat) : Bool := decide (∃ r, r < n ∧ (v.testBit r && decide (stp (m (16 + 8 * r)) (m (16 + 8 * p)) ≤ 2)) = true)
/-- whether a set watches all -/
def wch (m : Nat → Int) (n v : Nat) : Bool := decide (∀ j, j < n → (!(v.testBit j && decide (0 < m (20 + 8 * j))) && nr m n v j) = true)
theorem c_isWatched {v p : Nat} (h : CR N m) (hi : Iv m) (e : m 3 = (n : Int)) (hn : n ≤ 7) (hv : v < 128) (hp : p < n) : G0_isWatched (m (16 + 8 * p)) (v : Int) N = some (bI (nr m n v p)) := by
  have fp := (hi.mk (p := p) (by omega)).1
  have w := w_allC (f := G0_isWatched_L3 (m (16 + 8 * p)) (v : Int) N) (q := fun r => !(v.testBit r && decide (stp (m (16 + 8 * r)) (m (16 + 8 * p)) ≤ 2))) (u := 1) hn (fun j hj => by
    have fj := (hi.mk (p := j) (by omega)).1
    rw [G0_isWatched_L3, h.1.1, e, if_neg (by omega), g11_hold (R32n (by omega)) (by omega), x_b1s, ib_nat, n_inc (by omega)]
    cases hb : v.testBit j with
    | false => rw [if_neg Bool.false_ne_true, if_pos rfl]; rfl
    | true =>
      rw [if_pos rfl, if_neg (by decide), g1_of0 h hi (by omega), x_b1s, g11_steps fj fp, x_b1s]
      by_cases z : 2 < stp (m (16 + 8 * j)) (m (16 + 8 * p))
      · rw [if_pos z, decide_eq_false (by omega)]; rfl
      · rw [if_neg z, decide_eq_true (by omega)]; rfl) (by rw [G0_isWatched_L3, h.1.1, e, if_pos (by omega)])
  rw [G0_isWatched, w]
  unfold nr
  by_cases y : ∃ r, r < n ∧ (v.testBit r && decide (stp (m (16 + 8 * r)) (m (16 + 8 * p)) ≤ 2)) = true
  · rw [decide_eq_true y, if_neg (fun hh => by
      obtain ⟨r, h1, h2⟩ := y
      have := hh r h1
      rw [h2] at this
      cases this)]
    rfl
  · rw [decide_eq_false y, if_pos (fun r hr => by
      cases hq : (v.testBit r && decide (stp (m (16 + 8 * r)) (m (16 + 8 * p)) ≤ 2)) with
      | true => exact absurd ⟨r, hr, hq⟩ y
      | false => rfl)]
    rfl
theorem c_watchesAll {v : Nat} (h : CR N m) (hi : Iv m) (e : m 3 = (n : Int)) (hn : n ≤ 7) (hv : v < 128) : G0_watchesAll (v : Int) N = some (bI (wch m n v)) := by
  have w := w_allC (f := G0_watchesAll_L2 (v : Int) N) (q := fun j => !(v.testBit j && decide (0 < m (20 + 8 * j))) && nr m n v j) (u := 0) hn (fun j hj => by
    rw [G0_watchesAll_L2, h.1.1, e, if_neg (by omega), g11_hold (R32n (by omega)) (by omega), x_b1s, ib_nat, n_inc (by omega), g1_of0 h hi (by omega), x_b1s, c_isWatched h hi e hn hv hj, x_b1s, g1_isLost h hi (by omega), x_b1s]
    have ew : (if bI (nr m n v j) = 0 then (some (.inr (.inr 0))) else (some (.inl ((j + 1 : Nat) : Int))) : Option (Int ⊕ (Unit ⊕ Int))) = if nr m n v j = true then some (.inl ((j + 1 : Nat) : Int)) else some (.inr (.inr 0)) := by
      cases nr m n v j <;> rfl
    cases hb : v.testBit j with
    | false =>
      rw [if_neg Bool.false_ne_true, if_pos rfl, ew]
      rfl
    | true =>
      rw [if_pos rfl, if_neg (show ¬ (1 : Int) = 0 by decide), ew]
      by_cases z : 0 < m (20 + 8 * j)
      · rw [if_pos z, if_neg (show ¬ (1 : Int) = 0 by decide), decide_eq_true z]
        rfl
      · rw [if_neg z, if_pos rfl, decide_eq_false z]
        rfl) (by rw [G0_watchesAll_L2, h.1.1, e, if_pos (by omega)])
  rw [G0_watchesAll, w]
  unfold wch
  by_cases y : ∀ j, j < n → (!(v.testBit j && decide (0 < m (20 + 8 * j))) && nr m n v j) = true
  · rw [if_pos y, decide_eq_true y]; rfl
  · rw [if_neg y, decide_eq_false y]; rfl
theorem r_watches {v : Nat} (hi : Iv (S 1)) (e : S 1 3 = (n : Int)) (hn : n ≤ 7) (hv : v < 128) (hg : ∀ j, j < n → v.testBit j = true → ¬ 0 < S 1 (20 + 8 * j)) : G12_watches (v : Int) S = some (bI (wch (S 1) n v)) := by
  have inn : ∀ p, p < n → whl xFU (G12_watches_L24 (v : Int) S (p : Int)) (0, 0) = some (bI (nr (S 1) n v p)) := by
    intro p hp
    have fp := (hi.mk (p := p) (by omega)).1
    have w := w_anyR (f := G12_watches_L24 (v : Int) S (p : Int)) (q := fun r => v.testBit r && decide (stp (S 1 (16 + 8 * r)) (S 1 (16 + 8 * p)) ≤ 2)) hn (fun b j hj => by
      have fj := (hi.mk (p := j) (by omega)).1
      rw [G12_watches_L24, e, if_neg (by omega), n_inc (by omega)]
      cases b with
      | true => rw [if_neg (show ¬ bI true = 0 by decide), x_b1s]; rfl
      | false =>
        rw [if_pos (show bI false = 0 from rfl), g12_isOf (R32n (by omega)) (by omega), x_b1s, ib_nat]
        cases hb : v.testBit j with
        | false => rw [if_neg Bool.false_ne_true, if_pos rfl, x_b1s]; rfl
        | true =>
          rw [if_pos rfl, if_neg (by decide), g12_isLost (by omega), if_neg (hg j hj hb), x_b1s, if_pos rfl, g12_of0 (by omega), x_b1s, g12_of0 (by omega), x_b1s, g12_steps fp fj, x_b1s, stp_comm fp fj]
          by_cases z : 2 < stp (S 1 (16 + 8 * j)) (S 1 (16 + 8 * p))
          · rw [if_pos z, x_b1s, decide_eq_false (by omega)]; rfl
          · rw [if_neg z, x_b1s, decide_eq_true (by omega)]; rfl) (fun b => by rw [G12_watches_L24, e, if_pos (by omega)])
    rw [w]
    rfl
  have w := w_allR (f := G12_watches_L4 (v : Int) S) (q := fun j => !(v.testBit j && decide (0 < S 1 (20 + 8 * j))) && nr (S 1) n v j) hn (fun j hj => by
    rw [G12_watches_L4, e, if_neg (by omega), if_neg (by decide), inn j hj, x_b1s, n_inc (by omega)]
    have : (v.testBit j && decide (0 < S 1 (20 + 8 * j))) = false := by
      cases hb : v.testBit j with
      | false => rfl
      | true => rw [decide_eq_false (hg j hj hb)]; rfl
    rw [this]
    rfl) (fun j => by
    rw [G12_watches_L4]
    by_cases z : S 1 3 ≤ (j : Int)
    · rw [if_pos z]
    · rw [if_neg z, if_pos rfl]) (by rw [G12_watches_L4, e, if_pos (by omega)])
  rw [G12_watches, w, x_b1s]
  exact x_gd_t (bI_01 _)
theorem L_watch (h : CR N (S 1)) (hi : Iv (S 1)) : ∃ b, G11_watch N = some b ∧ G12_watch S = some (b, x_up S 0 0 0) := by
  obtain ⟨n, hn, e⟩ := hi.nn
  have p2 := Nat.two_pow_pos n
  have p7 : 2 ^ n ≤ 2 ^ 7 := Nat.pow_le_pow_right (by decide) hn
  have hg : G12_goneOnes (x_up S 0 0 0) = some ((bs (fun j => decide (0 < S 1 (20 + 8 * j))) n : Nat) : Int) := by
    rw [G12_goneOnes, w_bsR (f := G12_goneOnes_L4 (x_up S 0 0 0)) (mm := S 1 3) (fun j => G12_isLost j (x_up S 0 0 0)) (fun j => decide (0 < S 1 (20 + 8 * j))) e hn (fun s j => by rw [G12_goneOnes_L4, x_up1]) (fun j hj => by
      rw [g12_isLost (by omega), x_up1]
      by_cases z : 0 < S 1 (20 + 8 * j)
      · rw [if_pos z, decide_eq_true z]; rfl
      · rw [if_neg z, decide_eq_false z]; rfl), x_b1s]
  have hbl := bs_lt (fun j => decide (0 < S 1 (20 + 8 * j))) n
  have W : ∃ r1 r2, whl xFU (G0_fewestWatching_L8 N) (-1, 8, 0) = some r1 ∧ whl xFU (G12_watch_L14 S ((bs (fun j => decide (0 < S 1 (20 + 8 * j))) n : Nat) : Int)) (-1, 0) = some r2 ∧ r1 = r2 := by
    refine w_sim (fun j s1 s2 => ∃ w : Int, (w = -1 ∨ ∃ v : Nat, v < 128 ∧ w = (v : Int)) ∧ s1 = (w, if w = -1 then 8 else x_bc w, (j : Int)) ∧ s2 = (w, (j : Int))) (fun r1 r2 => r1 = r2) (2 ^ n) (by unfold xFU; omega) ?_ ?_ ⟨-1, .inl rfl, rfl, rfl⟩
    · rintro j s1 s2 hj ⟨w, hw, rfl, rfl⟩
      have hb := bc_bd (b := j) (by omega)
      have ec : G0_fewestWatching_L8 N (w, if w = -1 then 8 else x_bc w, (j : Int)) = x_b2 (if (if w = -1 then 8 else x_bc w) ≤ x_bc (j : Int) then (some (w, if w = -1 then 8 else x_bc w)) else (if bI (wch (S 1) n j) = 0 then (some (w, if w = -1 then 8 else x_bc w)) else (some ((j : Int), x_bc (j : Int))))) fun (v7 : Int) (v8 : Int) => (some (.inl (v7, v8, ((j + 1 : Nat) : Int)))) := by
        rw [G0_fewestWatching_L8, h.1.1, e, n_shl1 n (by omega), if_neg (by omega), if_neg (by omega), c_watchesAll h hi e hn (by omega), x_b1s, n_inc (by omega)]
      have er : G12_watch_L14 S ((bs (fun j => decide (0 < S 1 (20 + 8 * j))) n : Nat) : Int) (w, (j : Int)) = x_b1 (if (((j &&& bs (fun j => decide (0 < S 1 (20 + 8 * j))) n) : Nat) : Int) = 0 then (if w = (-1) then (x_b1 (G12_watches (j : Int) (x_up S 0 0 0)) fun (v12 : Int) => (if v12 = 0 then (some w) else (some (j : Int)))) else (x_b1 (some (x_bc (j : Int))) fun (v14 : Int) => (x_b1 (G12_bits w) fun (v16 : Int) => (if v16 ≤ v14 then (some w) else (x_b1 (G12_watches (j : Int) (x_up S 0 0 0)) fun (v18 : Int) => (if v18 = 0 then (some w) else (some (j : Int)))))))) else (some w)) fun (v10 : Int) => (some (.inl (v10, ((j + 1 : Nat) : Int)))) := by
        rw [G12_watch_L14, g12_all hn (by rw [x_up1]; exact e), x_b1s, if_neg (by omega), n_and (by omega), g12_bits (show j < 4096 by omega), n_inc (by omega)]
      rw [ec, er]
      by_cases z : (((j &&& bs (fun j => decide (0 < S 1 (20 + 8 * j))) n) : Nat) : Int) = 0
      · have hno : ∀ p, p < n → j.testBit p = true → ¬ 0 < S 1 (20 + 8 * p) := by
          intro p hp hb1 hl
          have t : (j &&& bs (fun j => decide (0 < S 1 (20 + 8 * j))) n).testBit p = false := by
            rw [show (j &&& bs (fun j => decide (0 < S 1 (20 + 8 * j))) n) = 0 by omega, Nat.zero_testBit]
          rw [Nat.testBit_and, bs_bit, hb1, decide_eq_true hp, decide_eq_true hl] at t
          cases t
        have hw' := r_watches (S := x_up S 0 0 0) (v := j) (by rw [x_up1]; exact hi) (by rw [x_up1]; exact e) hn (by omega) (by rw [x_up1]; exact hno)
        rw [x_up1] at hw'
        rw [if_pos z, hw', x_b1s, x_b1s]
        by_cases w1 : w = -1
        · rw [if_pos w1, if_pos w1, if_neg (by omega)]
          cases hq : wch (S 1) n j with
          | false =>
            rw [if_pos (show bI false = 0 from rfl), if_pos (show bI false = 0 from rfl), x_b2s, x_b1s]
            exact ⟨_, _, rfl, rfl, w, hw, by rw [if_pos w1], rfl⟩
          | true =>
            rw [if_neg (show ¬ bI true = 0 by decide), if_neg (show ¬ bI true = 0 by decide), x_b2s, x_b1s]
            exact ⟨_, _, rfl, rfl, (j : Int), .inr ⟨j, by omega, rfl⟩, by rw [if_neg (by omega)], rfl⟩
        · obtain ⟨v, hv, rfl⟩ := hw.resolve_left w1
          rw [if_neg w1, if_neg w1, g12_bits (by omega), x_b1s]
          by_cases y : x_bc (v : Int) ≤ x_bc (j : Int)
          · rw [if_pos y, if_pos y, x_b2s, x_b1s]
            exact ⟨_, _, rfl, rfl, (v : Int), .inr ⟨v, hv, rfl⟩, by rw [if_neg w1], rfl⟩
          · rw [if_neg y, if_neg y]
            cases hq : wch (S 1) n j with
            | false =>
              rw [if_pos (show bI false = 0 from rfl), if_pos (show bI false = 0 from rfl), x_b2s, x_b1s]
              exact ⟨_, _, rfl, rfl, (v : Int), .inr ⟨v, hv, rfl⟩, by rw [if_neg w1], rfl⟩
            | true =>
              rw [if_neg (show ¬ bI true = 0 by decide), if_neg (show ¬ bI true = 0 by decide), x_b2s, x_b1s]
              exact ⟨_, _, rfl, rfl, (j : Int), .inr ⟨j, by omega, rfl⟩, by rw [if_neg (by omega)], rfl⟩
      · have hq : wch (S 1) n j = false := by
          refine decide_eq_false (fun hh => z ?_)
          have : (j &&& bs (fun j => decide (0 < S 1 (20 + 8 * j))) n) = 0 := by
            apply Nat.eq_of_testBit_eq
            intro i
            rw [Nat.testBit_and, bs_bit, Nat.zero_testBit]
            by_cases hi2 : i < n
            · have := hh i hi2
              cases hb1 : j.testBit i with
              | false => rfl
              | true =>
                rw [hb1] at this
                cases hl : decide (0 < S 1 (20 + 8 * i)) with
                | false => rw [Bool.and_false]; rfl
                | true => rw [hl] at this; exact absurd this Bool.false_ne_true
            · rw [decide_eq_false hi2, Bool.false_and, Bool.and_false]
          rw [this]; rfl
        rw [if_neg z, x_b1s, hq, if_pos (show bI false = 0 from rfl), ite_self, x_b2s]
        exact ⟨_, _, rfl, rfl, w, hw, rfl, rfl⟩
    · rintro s1 s2 ⟨w, hw, rfl, rfl⟩
      refine ⟨w, w, ?_, ?_, rfl⟩
      · rw [G0_fewestWatching_L8, h.1.1, e, n_shl1 n (by omega), if_pos (Int.le_refl _)]
      · rw [G12_watch_L14, g12_all hn (by rw [x_up1]; exact e), x_b1s, if_pos (by omega)]
  obtain ⟨r1, r2, e1, e2, rfl⟩ := W
  refine ⟨r1, ?_, ?_⟩
  · rw [G11_watch, G0_fewestWatching, e1, x_b1s, x_b1s]
  · rw [G12_watch, hg, x_b1s, e2, x_b1s]
end WTC
