/-! Brothers put two by two: the table. -/
theorem w_simk {σ1 ρ1 σ2 ρ2 : Type} {f1 : σ1 → Option (σ1 ⊕ ρ1)} {f2 : σ2 → Option (σ2 ⊕ ρ2)} (R : Nat → σ1 → σ2 → Prop) (Q : ρ1 → ρ2 → Prop) (n : Nat)
    (hs : ∀ j s1 s2, j < n → R j s1 s2 → ∃ t1 t2, f1 s1 = some (.inl t1) ∧ f2 s2 = some (.inl t2) ∧ R (j + 1) t1 t2) (he : ∀ s1 s2, R n s1 s2 → ∃ r1 r2, f1 s1 = some (.inr r1) ∧ f2 s2 = some (.inr r2) ∧ Q r1 r2) :
    ∀ d j s1 s2 k1 k2, j + d = n → d < k1 → d < k2 → R j s1 s2 → ∃ r1 r2, whl k1 f1 s1 = some r1 ∧ whl k2 f2 s2 = some r2 ∧ Q r1 r2 := by
  intro d
  induction d with
  | zero =>
    intro j s1 s2 k1 k2 hj h1 h2 hr
    obtain ⟨k1, rfl⟩ : ∃ k', k1 = k' + 1 := ⟨k1 - 1, by omega⟩
    obtain ⟨k2, rfl⟩ : ∃ k', k2 = k' + 1 := ⟨k2 - 1, by omega⟩
    have : j = n := by omega
    subst this
    obtain ⟨r1, r2, e1, e2, q⟩ := he s1 s2 hr
    exact ⟨r1, r2, whl_r e1, whl_r e2, q⟩
  | succ d ih =>
    intro j s1 s2 k1 k2 hj h1 h2 hr
    obtain ⟨k1, rfl⟩ : ∃ k', k1 = k' + 1 := ⟨k1 - 1, by omega⟩
    obtain ⟨k2, rfl⟩ : ∃ k', k2 = k' + 1 := ⟨k2 - 1, by omega⟩
    obtain ⟨t1, t2, e1, e2, q⟩ := hs j s1 s2 (by omega) hr
    obtain ⟨r1, r2, g1, g2, gq⟩ := ih (j + 1) t1 t2 k1 k2 (by omega) (by omega) (by omega) q
    exact ⟨r1, r2, by rw [whl_l e1]; exact g1, by rw [whl_l e2]; exact g2, gq⟩
theorem dif_lt' : ∀ s : Nat, s < 128 → ∀ p : Nat, p < 7 → s.testBit p = true → dif s (2 ^ p) < s := by decide +kernel
theorem dif_p {s p i : Nat} : (dif s (2 ^ p)).testBit i = (s.testBit i && !decide (p = i)) := by
  rw [dif_bit, Nat.testBit_two_pow]
/-- the least of a set -/
theorem low_ex {v n : Nat} (hv : v < 2 ^ n) (h0 : v ≠ 0) : ∃ i, i < n ∧ v.testBit i = true ∧ ∀ j, j < i → v.testBit j = false := by
  have key : ∀ m, (∀ j, j < m → v.testBit j = false) ∨ ∃ i, i < m ∧ v.testBit i = true ∧ ∀ j, j < i → v.testBit j = false := by
    intro m
    induction m with
    | zero => exact .inl (fun j hj => absurd hj (by omega))
    | succ m ih =>
      rcases ih with h | ⟨i, h1, h2, h3⟩
      · cases hb : v.testBit m with
        | true => exact .inr ⟨m, by omega, hb, h⟩
        | false => exact .inl (fun j hj => by
            by_cases e : j = m
            · subst e; exact hb
            · exact h j (by omega))
      · exact .inr ⟨i, by omega, h2, h3⟩
  rcases key n with h | h
  · exfalso
    apply h0
    apply Nat.eq_of_testBit_eq
    intro i
    rw [Nat.zero_testBit]
    by_cases hi : i < n
    · exact h i hi
    · exact tb_hi hv (by omega)
  · exact h
/-- how many months two have -/
def shd (l : Nat → Nat) (p q : Nat) : Int := x_bc (((l p &&& l q : Nat)) : Int)
theorem shd_bd {l : Nat → Nat} {p q : Nat} (h : l p < 4096) : 0 ≤ shd l p q ∧ shd l p q ≤ 12 := by
  have h1 : l p &&& l q < 4096 := Nat.lt_of_le_of_lt Nat.and_le_left h
  have := cn_bj (fun i => (l p &&& l q).testBit i) 12
  unfold shd
  rw [bc12 _ h1]
  exact this
/-- the best for a set, k tried -/
def bst (l : Nat → Nat) (t : Nat → Int) (v lo : Nat) (k : Nat) : Int := fo (fun i a => if v.testBit (lo + 1 + i) then max a (shd l lo (lo + 1 + i) + t (dif (dif v (2 ^ lo)) (2 ^ (lo + 1 + i)))) else a) (t (dif v (2 ^ lo))) k
theorem bst_s {l : Nat → Nat} {t : Nat → Int} {v lo k : Nat} : bst l t v lo (k + 1) = if v.testBit (lo + 1 + k) then max (bst l t v lo k) (shd l lo (lo + 1 + k) + t (dif (dif v (2 ^ lo)) (2 ^ (lo + 1 + k)))) else bst l t v lo k := rfl
section PRS
variable {N S Br : xU} {m : Nat → Int} {n : Nat} {l : Nat → Nat} {t : Nat → Int}
/-- the table, and its bounds -/
def Tb (t : Nat → Int) (V : Nat) : Prop := t 0 = 0 ∧ ∀ s, s < V → 0 ≤ t s ∧ t s ≤ 12 * (s : Int)
theorem c_sharedOf {s : Nat} (hs : s < 128) (h0 : t 0 = 0) (h : Br 1 s = t s) : G0_sharedOf (s : Int) Br = some (t s) := by
  rw [G0_sharedOf]
  by_cases z : s = 0
  · subst z; rw [if_pos (by decide), x_b1s, h0]
  · rw [if_neg (by omega), if_neg (by omega), x_gd_t ⟨by omega, by omega⟩, Int.toNat_natCast, h, x_b1s]
theorem c_with {v lo k : Nat} (h : CR N m) (hi : Iv m) (e : m 3 = (n : Int)) (hn : n ≤ 7) (hl : ∀ p, p < n → m (19 + 8 * p) = (l p : Int)) (hlt : ∀ p, p < n → l p < 4096) (hv : v < 128) (hlo : lo < n) (hk : k < n) (h0 : t 0 = 0) (ht : Br 1 (dif (dif v (2 ^ lo)) (2 ^ k)) = t (dif (dif v (2 ^ lo)) (2 ^ k))) (hb : 0 ≤ t (dif (dif v (2 ^ lo)) (2 ^ k)) ∧ t (dif (dif v (2 ^ lo)) (2 ^ k)) ≤ 100000) :
    G0_sharedWith (v : Int) (lo : Int) (k : Int) N Br = some (shd l lo k + t (dif (dif v (2 ^ lo)) (2 ^ k))) := by
  have h1 : dif v (2 ^ lo) < 2 ^ 7 := dif_lt hv
  have h2 : dif (dif v (2 ^ lo)) (2 ^ k) < 2 ^ 7 := dif_lt h1
  have hs := shd_bd (q := k) (hlt lo hlo)
  rw [G0_sharedWith, g1_of3 h hi (by omega), x_b1s, g1_of3 h hi (by omega), x_b1s, n_clr (by omega) (by omega), n_clr (by omega) (by omega), c_sharedOf (by omega) h0 ht, x_b1s, hl lo hlo, hl k hk, n_and (by have := hlt lo hlo; omega)]
  show some (x_add (shd l lo k) _) = _
  rw [x_add_of ⟨by omega, by omega⟩]
theorem r_both {lo k : Nat} (hi : Iv (S 1)) (e : S 1 3 = (n : Int)) (hn : n ≤ 7) (hl : ∀ p, p < n → S 1 (19 + 8 * p) = (l p : Int)) (hlt : ∀ p, p < n → l p < 4096) (hlo : lo < n) (hk : k < n) : G12_both (lo : Int) (k : Int) S = some (shd l lo k) := by
  have h1 : l lo &&& l k < 4096 := Nat.lt_of_le_of_lt Nat.and_le_left (hlt lo hlo)
  rw [G12_both, g12_of3 (by omega), x_b1s, g12_of3 (by omega), x_b1s, hl lo hlo, hl k hk, n_and (by have := hlt lo hlo; omega), g12_bits h1, x_b1s]
  rfl
theorem r_lowest {v i : Nat} (hv : v < 128) (hi7 : i < 7) (h1 : v.testBit i = true) (h2 : ∀ j, j < i → v.testBit j = false) : G12_lowest (v : Int) = some (i : Int) := by
  have w : whl xFU (G12_lowest_L2 (v : Int)) 0 = some (i : Int) :=
    w_run (fun j => (j : Int)) i (by unfold xFU; omega) (fun j hj => by
      rw [G12_lowest_L2, g12_isOf (R32n (by omega)) (by omega), x_b1s, ib_nat, h2 j hj, if_neg Bool.false_ne_true, if_pos rfl, n_inc (by omega)]) (by
      rw [G12_lowest_L2, g12_isOf (R32n (by omega)) (by omega), x_b1s, ib_nat, h1, if_pos rfl, if_neg (by decide)])
  rw [G12_lowest, w, x_b1s]
theorem c_first {v i : Nat} (h3 : N 0 3 = (n : Int)) (hn : n ≤ 7) (hv : v < 128) (hin : i < n) (h1 : v.testBit i = true) (h2 : ∀ j, j < i → v.testBit j = false) : whl xFU (G0_mostShared_L26 N (v : Int)) 0 = some (i : Int) :=
  w_run (fun j => (j : Int)) i (by unfold xFU; omega) (fun j hj => by
    rw [G0_mostShared_L26, h3, if_neg (by omega), g11_hold (R32n (by omega)) (by omega), x_b1s, ib_nat, h2 j hj, if_neg Bool.false_ne_true, if_pos rfl, n_inc (by omega)]) (by
    rw [G0_mostShared_L26, h3, if_neg (by omega), g11_hold (R32n (by omega)) (by omega), x_b1s, ib_nat, h1, if_pos rfl, if_neg (by decide)])
theorem bst_bd {v lo : Nat} (hT : Tb t v) (hn : n ≤ 7) (hv : v < 2 ^ n) (hlo : lo < n) (h1 : v.testBit lo = true) (hlt : ∀ p, p < n → l p < 4096) : ∀ k, lo + 1 + k ≤ n → 0 ≤ bst l t v lo k ∧ bst l t v lo k ≤ 12 * (v : Int) := by
  have p7 : 2 ^ n ≤ 2 ^ 7 := Nat.pow_le_pow_right (by decide) hn
  have hd := dif_lt' v (by omega) lo (by omega) h1
  intro k
  induction k with
  | zero =>
    intro _
    have := hT.2 (dif v (2 ^ lo)) hd
    show 0 ≤ t (dif v (2 ^ lo)) ∧ t (dif v (2 ^ lo)) ≤ _
    omega
  | succ k ih =>
    intro hk
    have i1 := ih (by omega)
    rw [bst_s]
    by_cases z : v.testBit (lo + 1 + k) = true
    · have hb : (dif v (2 ^ lo)).testBit (lo + 1 + k) = true := by rw [dif_p, z, decide_eq_false (by omega)]; rfl
      have hd2 := dif_lt' (dif v (2 ^ lo)) (by omega) (lo + 1 + k) (by omega) hb
      have h2 := hT.2 (dif (dif v (2 ^ lo)) (2 ^ (lo + 1 + k))) (by omega)
      have hs := shd_bd (q := lo + 1 + k) (hlt lo hlo)
      rw [if_pos z]
      omega
    · rw [if_neg z]; exact i1
/-- both fill their tables alike -/
theorem s_table (h : CR N (S 1)) (hi : Iv (S 1)) (e : S 1 3 = (n : Int)) (hn : n ≤ 7) (hl : ∀ p, p < n → S 1 (19 + 8 * p) = (l p : Int)) (hlt : ∀ p, p < n → l p < 4096) :
    ∃ Br' S', whl xFU (G0_mostShared_L11 N) (0, Br) = some Br' ∧ G12_allBest S = some S' ∧ (∀ o, o ≠ 9 → S' o = S o) ∧ (∀ s, s < 2 ^ n → Br' 1 s = S' 9 s) ∧ Tb (S' 9) (2 ^ n) := by
  have p2 := Nat.two_pow_pos n
  have p7 : 2 ^ n ≤ 2 ^ 7 := Nat.pow_le_pow_right (by decide) hn
  have h3 : N 0 3 = (n : Int) := h.1.1.trans e
  -- the empty set, class
  have st0 : G0_mostShared_L11 N (0, Br) = some (.inl (((1 : Nat) : Int), x_up Br 1 0 0)) := by
    have w26 : whl xFU (G0_mostShared_L26 N 0) 0 = some (n : Int) :=
      w_run (fun j => (j : Int)) n (by unfold xFU; omega) (fun j hj => by
        rw [G0_mostShared_L26, h3, if_neg (by omega), show (0 : Int) = ((0 : Nat) : Int) from rfl, g11_hold (R32n (by decide)) (by omega), x_b1s, ib_nat, Nat.zero_testBit, if_neg Bool.false_ne_true]
        show (if ((0 : Nat) : Int) = 0 then _ else _) = _
        rw [if_pos (show ((0 : Nat) : Int) = 0 from rfl), n_inc (by omega)]) (by rw [G0_mostShared_L26, h3, if_pos (Int.le_refl _)])
    have d0 : x_and 0 (x_xor (x_shl 1 (n : Int)) (-1)) = 0 := by
      have := n_clr (s := 0) (p := n) (by decide) (by omega)
      rw [show ((0 : Nat) : Int) = 0 from rfl] at this
      rw [this, dif, Nat.zero_and]; rfl
    rw [G0_mostShared_L11, h3, n_shl1 n (by omega), x_sub_of ⟨by omega, by omega⟩, if_neg (by omega), if_neg (by decide), w26, x_b1s, d0, G0_sharedOf, if_pos (Int.le_refl _), x_b1s, x_b1s, n_inc (by omega), show xFU = (xFU - 1) + 1 from rfl, whl_r (r := 0) (by rw [G0_mostShared_L70, h3, if_pos (by omega)]), x_b1s, x_gd_t ⟨by decide, by decide⟩]
    rfl
  have W : ∃ r1 r2, whl (xFU - 1) (G0_mostShared_L11 N) (((1 : Nat) : Int), x_up Br 1 0 0) = some r1 ∧ whl xFU G12_allBest_L9 (((1 : Nat) : Int), x_up S 9 0 0) = some r2 ∧ ((∀ o, o ≠ 9 → r2 o = S o) ∧ (∀ s, s < 2 ^ n → r1 1 s = r2 9 s) ∧ Tb (r2 9) (2 ^ n)) := by
    refine w_simk (fun j s1 s2 => ∃ (B Z : xU), s1 = (((j + 1 : Nat) : Int), B) ∧ s2 = (((j + 1 : Nat) : Int), Z) ∧ (∀ o, o ≠ 9 → Z o = S o) ∧ (∀ s, s < j + 1 → B 1 s = Z 9 s) ∧ Tb (Z 9) (j + 1)) (fun (r1 r2 : xU) => (∀ o, o ≠ 9 → r2 o = S o) ∧ (∀ s, s < 2 ^ n → r1 1 s = r2 9 s) ∧ Tb (r2 9) (2 ^ n)) (2 ^ n - 1) ?_ ?_ (2 ^ n - 1) 0 _ _ (xFU - 1) xFU (by omega) (by unfold xFU; omega) (by unfold xFU; omega) ⟨x_up Br 1 0 0, x_up S 9 0 0, rfl, rfl, fun o ho => up_o ho, ?_, up_s, ?_⟩
    · rintro j s1 s2 hj ⟨B, Z, rfl, rfl, hZ, hB, hT⟩
      have hv : j + 1 < 2 ^ n := by omega
      obtain ⟨lo, hlo, b1, b2⟩ := low_ex hv (by omega)
      generalize hvv : j + 1 = v at *
      have hd := dif_lt' v (by omega) lo (by omega) b1
      have hc := n_clr (s := v) (p := lo) (by omega) (by omega)
      have ht0 := hT.1
      have iZ : Iv (Z 1) := by rw [hZ 1 (by decide)]; exact hi
      have eZ : Z 1 3 = (n : Int) := by rw [hZ 1 (by decide)]; exact e
      -- below a candidate
      have cand : ∀ k, lo < k → k < n → v.testBit k = true → dif (dif v (2 ^ lo)) (2 ^ k) < v ∧ 0 ≤ Z 9 (dif (dif v (2 ^ lo)) (2 ^ k)) ∧ Z 9 (dif (dif v (2 ^ lo)) (2 ^ k)) ≤ 12 * (v : Int) := by
        intro k hk hkn hb
        have hb2 : (dif v (2 ^ lo)).testBit k = true := by rw [dif_p, hb, decide_eq_false (by omega)]; rfl
        have hd2 := dif_lt' (dif v (2 ^ lo)) (by omega) k (by omega) hb2
        have := hT.2 (dif (dif v (2 ^ lo)) (2 ^ k)) (by omega)
        exact ⟨by omega, this.1, by omega⟩
      have w70 : whl xFU (G0_mostShared_L70 N (v : Int) B (lo : Int)) (Z 9 (dif v (2 ^ lo)), x_add (lo : Int) 1) = some (bst l (Z 9) v lo (n - (lo + 1))) := by
        rw [n_inc (by omega)]
        refine w_run (fun i => (bst l (Z 9) v lo i, ((lo + 1 + i : Nat) : Int))) (n - (lo + 1)) (by unfold xFU; omega) (fun i hi2 => ?_) (by rw [G0_mostShared_L70, h3, if_pos (by omega)])
        rw [G0_mostShared_L70, h3, if_neg (by omega), g11_hold (R32n (by omega)) (by omega), x_b1s, ib_nat, n_inc (by omega), bst_s]
        cases hb : v.testBit (lo + 1 + i) with
        | false => rw [if_neg Bool.false_ne_true, if_pos rfl, x_b1s, if_neg Bool.false_ne_true]; rfl
        | true =>
          have hcd := cand (lo + 1 + i) (by omega) (by omega) hb
          rw [if_pos rfl, if_neg (by decide), c_with (t := Z 9) h hi e hn hl hlt (by omega) hlo (by omega) ht0 (hB _ hcd.1) ⟨hcd.2.1, by omega⟩, x_b1s, x_b1s, if_pos rfl]
          rfl
      have c1 : G0_mostShared_L11 N ((v : Int), B) = some (.inl (((v + 1 : Nat) : Int), x_up B 1 v (bst l (Z 9) v lo (n - (lo + 1))))) := by
        rw [G0_mostShared_L11, h3, n_shl1 n (by omega), x_sub_of ⟨by omega, by omega⟩, if_neg (by omega), if_neg (by omega), c_first h3 hn (by omega) hlo b1 b2, x_b1s, hc, c_sharedOf (t := Z 9) (by omega) ht0 (hB _ hd), x_b1s, w70, x_b1s, x_gd_t ⟨by omega, by omega⟩, Int.toNat_natCast, n_inc (by omega)]
      have w47 : whl xFU (G12_allBest_L47 (v : Int) (lo : Int)) (x_add (lo : Int) 1, x_up Z 9 v (Z 9 (dif v (2 ^ lo)))) = some (x_up Z 9 v (bst l (Z 9) v lo (n - (lo + 1)))) := by
        rw [n_inc (by omega)]
        refine w_run (fun i => (((lo + 1 + i : Nat) : Int), x_up Z 9 v (bst l (Z 9) v lo i))) (n - (lo + 1)) (by unfold xFU; omega) (fun i hi2 => ?_) (by rw [G12_allBest_L47, up_o (by decide), eZ, if_pos (by omega)])
        have hbit : (dif v (2 ^ lo)).testBit (lo + 1 + i) = v.testBit (lo + 1 + i) := by
          rw [dif_p, decide_eq_false (show ¬ lo = lo + 1 + i by omega)]
          cases v.testBit (lo + 1 + i) <;> rfl
        have hbd := bst_bd (l := l) hT hn hv hlo b1 hlt i (by omega)
        rw [G12_allBest_L47, up_o (by decide), eZ, if_neg (by omega), hc, g12_isOf (R32n (by omega)) (by omega), x_b1s, ib_nat, hbit, n_inc (by omega), bst_s]
        cases hb : v.testBit (lo + 1 + i) with
        | false => rw [if_neg Bool.false_ne_true, if_pos rfl, x_b1s, if_neg Bool.false_ne_true]; rfl
        | true =>
          have hcd := cand (lo + 1 + i) (by omega) (by omega) hb
          have hs := shd_bd (q := lo + 1 + i) (hlt lo hlo)
          rw [if_pos rfl, if_neg (by decide), x_gd_t ⟨by omega, by omega⟩, r_both (n := n) (l := l) (by rw [up_o (by decide)]; exact iZ) (by rw [up_o (by decide)]; exact eZ) hn (by rw [up_o (by decide), hZ 1 (by decide)]; exact hl) hlt hlo (by omega), x_b1s, n_clr (by omega) (by omega), x_gd_t ⟨by omega, by omega⟩, Int.toNat_natCast, Int.toNat_natCast, up_s, up_i (by omega), x_add_of ⟨by omega, by omega⟩, g12_greater, x_b1s, x_gd_t ⟨by omega, by omega⟩, up_up, x_b1s, if_pos rfl]
          rfl
      have c2 : G12_allBest_L9 ((v : Int), Z) = some (.inl (((v + 1 : Nat) : Int), x_up Z 9 v (bst l (Z 9) v lo (n - (lo + 1))))) := by
        rw [G12_allBest_L9, g12_all hn eZ, x_b1s, if_neg (by omega), r_lowest (by omega) (by omega) b1 b2, x_b1s, hc, x_gd_t ⟨by omega, by omega⟩, x_gd_t ⟨by omega, by omega⟩, Int.toNat_natCast, Int.toNat_natCast, w47, x_b1s, n_inc (by omega)]
      refine ⟨_, _, c1, c2, _, _, rfl, rfl, fun o ho => by rw [up_o ho]; exact hZ o ho, fun s hs => ?_, ?_, fun s hs => ?_⟩
      · by_cases z : s = v
        · subst z; rw [up_s, up_s]
        · rw [up_i z, up_i z]; exact hB s (by omega)
      · rw [up_i (by omega)]; exact ht0
      · by_cases z : s = v
        · subst z; rw [up_s]; exact bst_bd (l := l) hT hn hv hlo b1 hlt _ (by omega)
        · rw [up_i z]; exact hT.2 s (by omega)
    · rintro s1 s2 ⟨B, Z, rfl, rfl, hZ, hB, hT⟩
      refine ⟨B, Z, ?_, ?_, hZ, fun s hs => hB s (by omega), hT.1, fun s hs => hT.2 s (by omega)⟩
      · rw [G0_mostShared_L11, h3, n_shl1 n (by omega), x_sub_of ⟨by omega, by omega⟩, if_pos (by omega)]
      · rw [G12_allBest_L9, g12_all hn (by rw [hZ 1 (by decide)]; exact e), x_b1s, if_pos (by omega)]
    · intro s hs
      rw [show s = 0 by omega, up_s, up_s]
    · intro s hs
      rw [show s = 0 by omega, up_s]
      decide
  obtain ⟨r1, r2, e1, e2, q1, q2, q3⟩ := W
  refine ⟨r1, r2, ?_, ?_, q1, q2, q3⟩
  · rw [show xFU = (xFU - 1) + 1 from rfl, whl_l st0]; exact e1
  · rw [G12_allBest, show whl xFU G12_allBest_L9 (1, x_up S 9 0 0) = _ from e2, x_b1s]
end PRS
