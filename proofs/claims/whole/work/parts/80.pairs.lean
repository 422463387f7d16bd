/-! Brothers put two by two: who with whom. -/
/-- the first of d candidates from j on -/
def gg (E : Nat → Bool) : Nat → Nat → Int
  | 0, _ => -1
  | d + 1, j => if E j = true then (j : Int) else gg E d (j + 1)
theorem gg_in {E : Nat → Bool} : ∀ d j, gg E d j = -1 ∨ ∃ i : Nat, gg E d j = (i : Int) ∧ j ≤ i ∧ i < j + d ∧ E i = true := by
  intro d
  induction d with
  | zero => intro j; exact .inl rfl
  | succ d ih =>
    intro j
    show (if E j = true then (j : Int) else gg E d (j + 1)) = -1 ∨ ∃ i : Nat, (if E j = true then (j : Int) else gg E d (j + 1)) = (i : Int) ∧ _
    by_cases z : E j = true
    · rw [if_pos z]; exact .inr ⟨j, rfl, Nat.le_refl _, by omega, z⟩
    · rw [if_neg z]
      rcases ih (j + 1) with h | ⟨i, h1, h2, h3, h4⟩
      · exact .inl h
      · exact .inr ⟨i, h1, by omega, by omega, h4⟩
section PRT2
variable {N S Br : xU} {n : Nat} {l : Nat → Nat} {t : Nat → Int}
/-- whether k makes the best with lo -/
def eqp (l : Nat → Nat) (t : Nat → Int) (v lo k : Nat) : Bool := v.testBit k && decide (shd l lo k + t (dif (dif v (2 ^ lo)) (2 ^ k)) = t v)
/-- the partner of the least -/
def prt (l : Nat → Nat) (t : Nat → Int) (n v lo : Nat) : Int := if t (dif v (2 ^ lo)) = t v then -1 else gg (eqp l t v lo) (n - (lo + 1)) (lo + 1)
theorem c_partner {v lo : Nat} (h : CR N (S 1)) (hi : Iv (S 1)) (e : S 1 3 = (n : Int)) (hn : n ≤ 7) (hl : ∀ p, p < n → S 1 (19 + 8 * p) = (l p : Int)) (hlt : ∀ p, p < n → l p < 4096) (hv : v < 2 ^ n) (hlo : lo < n) (b1 : v.testBit lo = true) (hB : ∀ s, s < 2 ^ n → Br 1 s = t s) (hT : Tb t (2 ^ n)) : G0_firstPartner (v : Int) (lo : Int) N Br = some (prt l t n v lo) := by
  have p7 : 2 ^ n ≤ 2 ^ 7 := Nat.pow_le_pow_right (by decide) hn
  have h3 : N 0 3 = (n : Int) := h.1.1.trans e
  have hd := dif_lt' v (by omega) lo (by omega) b1
  have key : ∀ d j k, j + d = n → lo < j → d < k → whl k (G0_firstPartner_L26 (v : Int) (lo : Int) N Br) (j : Int) = some (if gg (eqp l t v lo) d j = -1 then .inl () else .inr (gg (eqp l t v lo) d j)) := by
    intro d
    induction d with
    | zero =>
      intro j k hj hlj hk
      obtain ⟨k, rfl⟩ : ∃ k', k = k' + 1 := ⟨k - 1, by omega⟩
      rw [whl_r (r := .inl ()) (by rw [G0_firstPartner_L26, h3, if_pos (by omega)])]
      rfl
    | succ d ih =>
      intro j k hj hlj hk
      obtain ⟨k, rfl⟩ : ∃ k', k = k' + 1 := ⟨k - 1, by omega⟩
      have st : G0_firstPartner_L26 (v : Int) (lo : Int) N Br (j : Int) = (if eqp l t v lo j = true then (some (.inr (.inr (j : Int)))) else (some (.inl ((j + 1 : Nat) : Int)))) := by
        rw [G0_firstPartner_L26, h3, if_neg (by omega), g11_hold (R32n (by omega)) (by omega), x_b1s, ib_nat, n_inc (by omega)]
        unfold eqp
        cases hb : v.testBit j with
        | false => rw [if_neg Bool.false_ne_true, if_pos rfl, Bool.false_and, if_neg Bool.false_ne_true]
        | true =>
          have hb2 : (dif v (2 ^ lo)).testBit j = true := by rw [dif_p, hb, decide_eq_false (by omega)]; rfl
          have hd2 := dif_lt' (dif v (2 ^ lo)) (by omega) j (by omega) hb2
          have hbd := hT.2 (dif (dif v (2 ^ lo)) (2 ^ j)) (by omega)
          rw [if_pos rfl, if_neg (by decide), c_with (t := t) h hi e hn hl hlt (by omega) hlo (by omega) hT.1 (hB _ (by omega)) ⟨hbd.1, by omega⟩, x_b1s, c_sharedOf (t := t) (by omega) hT.1 (hB _ hv), x_b1s, Bool.true_and]
          by_cases z : shd l lo j + t (dif (dif v (2 ^ lo)) (2 ^ j)) = t v
          · rw [if_pos z, decide_eq_true z, if_pos rfl]
          · rw [if_neg z, decide_eq_false z, if_neg Bool.false_ne_true]
      by_cases z : eqp l t v lo j = true
      · rw [if_pos z] at st
        have eg : gg (eqp l t v lo) (d + 1) j = (j : Int) := if_pos z
        rw [whl_r st, eg, if_neg (by omega)]
      · rw [if_neg z] at st
        have eg : gg (eqp l t v lo) (d + 1) j = gg (eqp l t v lo) d (j + 1) := if_neg z
        rw [whl_l st, ih (j + 1) k (by omega) (by omega) (by omega), eg]
  rw [G0_firstPartner, n_clr (by omega) (by omega), c_sharedOf (t := t) (by omega) hT.1 (hB _ (by omega)), x_b1s, c_sharedOf (t := t) (by omega) hT.1 (hB _ hv), x_b1s]
  unfold prt
  by_cases z : t (dif v (2 ^ lo)) = t v
  · rw [if_pos z, if_pos z]
  · rw [if_neg z, if_neg z, n_inc (by omega), key (n - (lo + 1)) (lo + 1) xFU (by omega) (by omega) (by unfold xFU; omega)]
    by_cases y : gg (eqp l t v lo) (n - (lo + 1)) (lo + 1) = -1
    · rw [if_pos y, y]; rfl
    · rw [if_neg y]; rfl
theorem r_partner {v lo : Nat} (hi : Iv (S 1)) (e : S 1 3 = (n : Int)) (hn : n ≤ 7) (hl : ∀ p, p < n → S 1 (19 + 8 * p) = (l p : Int)) (hlt : ∀ p, p < n → l p < 4096) (hv : v < 2 ^ n) (hlo : lo < n) (b1 : v.testBit lo = true) (hT : Tb (S 9) (2 ^ n)) : whl xFU (G12_pairs_L86 S (v : Int) (lo : Int)) (-1, x_sub (S 1 3) 1) = some (prt l (S 9) n v lo) := by
  have p7 : 2 ^ n ≤ 2 ^ 7 := Nat.pow_le_pow_right (by decide) hn
  have hd := dif_lt' v (by omega) lo (by omega) b1
  have pre : ∀ (w : Int) (j : Nat), lo < j → j < n → G12_pairs_L86 S (v : Int) (lo : Int) (w, (j : Int)) = (if S 9 (dif v (2 ^ lo)) = S 9 v then (some (.inr w)) else (some (.inl (if eqp l (S 9) v lo j = true then (j : Int) else w, (j : Int) - 1)))) := by
    intro w j hj hjn
    rw [G12_pairs_L86, if_neg (by omega), n_clr (by omega) (by omega), x_gd_t ⟨by omega, by omega⟩, x_gd_t ⟨by omega, by omega⟩, Int.toNat_natCast, Int.toNat_natCast]
    by_cases z : S 9 (dif v (2 ^ lo)) = S 9 v
    · rw [if_pos z, if_pos z]
    · have hbit : (dif v (2 ^ lo)).testBit j = v.testBit j := by
        rw [dif_p, decide_eq_false (show ¬ lo = j by omega)]
        cases v.testBit j <;> rfl
      rw [if_neg z, if_neg z, g12_isOf (R32n (by omega)) (by omega), x_b1s, ib_nat, hbit, x_add_of ⟨by omega, by omega⟩]
      unfold eqp
      cases hb : v.testBit j with
      | false => rw [if_neg Bool.false_ne_true, if_pos rfl, x_b1s, Bool.false_and, if_neg Bool.false_ne_true]; rfl
      | true =>
        have hb2 : (dif v (2 ^ lo)).testBit j = true := by rw [hbit, hb]
        have hd2 := dif_lt' (dif v (2 ^ lo)) (by omega) j (by omega) hb2
        have hbd := hT.2 (dif (dif v (2 ^ lo)) (2 ^ j)) (by omega)
        have hs := shd_bd (q := j) (hlt lo hlo)
        rw [if_pos rfl, if_neg (by decide), r_both hi e hn hl hlt hlo hjn, x_b1s, n_clr (by omega) (by omega), x_gd_t ⟨by omega, by omega⟩, x_gd_t ⟨by omega, by omega⟩, Int.toNat_natCast, x_add_of ⟨by omega, by omega⟩, Bool.true_and]
        by_cases y : shd l lo j + S 9 (dif (dif v (2 ^ lo)) (2 ^ j)) = S 9 v
        · rw [if_pos y, x_b1s, decide_eq_true y, if_pos rfl]; rfl
        · rw [if_neg y, x_b1s, decide_eq_false y, if_neg Bool.false_ne_true]; rfl
  have fin : ∀ w : Int, G12_pairs_L86 S (v : Int) (lo : Int) (w, (lo : Int)) = some (.inr w) := fun w => by rw [G12_pairs_L86, if_pos (Int.le_refl _)]
  rw [e, x_sub_of ⟨by omega, by omega⟩]
  unfold prt
  by_cases z : S 9 (dif v (2 ^ lo)) = S 9 v
  · rw [if_pos z, show xFU = (xFU - 1) + 1 from rfl]
    by_cases y : n = lo + 1
    · rw [show (n : Int) - 1 = (lo : Int) by omega, whl_r (fin _)]
    · have p := pre (-1) (n - 1) (by omega) (by omega)
      rw [if_pos z, show ((n - 1 : Nat) : Int) = (n : Int) - 1 by omega] at p
      rw [whl_r p]
  · rw [if_neg z]
    have e0 : ((-1 : Int), (n : Int) - 1) = (gg (eqp l (S 9) v lo) 0 (n - 0), (n : Int) - 1 - ((0 : Nat) : Int)) := by
      congr 1; omega
    have er : gg (eqp l (S 9) v lo) (n - (lo + 1)) (lo + 1) = gg (eqp l (S 9) v lo) (n - (lo + 1)) (n - (n - (lo + 1))) := by rw [show n - (n - (lo + 1)) = lo + 1 by omega]
    rw [e0, er]
    refine w_run (fun i => (gg (eqp l (S 9) v lo) i (n - i), (n : Int) - 1 - (i : Int))) (n - (lo + 1)) (by unfold xFU; omega) (fun i hi2 => ?_) ?_
    · have p := pre (gg (eqp l (S 9) v lo) i (n - i)) (n - 1 - i) (by omega) (by omega)
      rw [if_neg z, show ((n - 1 - i : Nat) : Int) = (n : Int) - 1 - (i : Int) by omega] at p
      rw [p]
      congr 3
      · show _ = (if eqp l (S 9) v lo (n - (i + 1)) = true then ((n - (i + 1) : Nat) : Int) else gg (eqp l (S 9) v lo) i (n - (i + 1) + 1))
        rw [show n - 1 - i = n - (i + 1) by omega, show n - (i + 1) + 1 = n - i by omega, show (n : Int) - 1 - (i : Int) = ((n - (i + 1) : Nat) : Int) by omega]
      · omega
    · rw [show (n : Int) - 1 - ((n - (lo + 1) : Nat) : Int) = (lo : Int) by omega]
      exact fin _
theorem L_pairs {a : Int} (h : CR N (S 1)) (hi : Iv (S 1)) : ∃ o B' r S', G11_pairs a N Br = some (o, B') ∧ G12_pairs a S = some (r, S') ∧ Ag (fun _ => 1) o r S' ∧ (∀ E, o = .inr E → E = 1) ∧ (∀ o, o ≠ 0 → o < 7 → S' o = S o) ∧ ∀ i, i ≠ 0 → S' 0 i = S 0 i := by
  obtain ⟨n, hn, e⟩ := hi.nn
  let l : Nat → Nat := fun p => (S 1 (19 + 8 * p)).toNat
  have hl : ∀ p, p < n → S 1 (19 + 8 * p) = (l p : Int) := fun p hp => by
    have := (hi.mk (p := p) (by omega)).2.2.2.1
    show S 1 (19 + 8 * p) = ((S 1 (19 + 8 * p)).toNat : Int)
    omega
  have hlt : ∀ p, p < n → l p < 4096 := fun p hp => by have := (hi.mk (p := p) (by omega)).2.2.2.1; rw [hl p hp] at this; omega
  have p2 := Nat.two_pow_pos n
  have p7 : 2 ^ n ≤ 2 ^ 7 := Nat.pow_le_pow_right (by decide) hn
  have h3 : N 0 3 = (n : Int) := h.1.1.trans e
  obtain ⟨Br', S', k1, k2, k3, k4, k5⟩ := s_table (S := x_up S 0 0 0) (Br := Br) (n := n) (l := l) (by rw [x_up1]; exact h) (by rw [x_up1]; exact hi) (by rw [x_up1]; exact e) hn (by rw [x_up1]; exact hl) hlt
  have s1 : S' 1 = S 1 := (k3 1 (by decide)).trans x_up1
  have s00 : S' 0 0 = 0 := by rw [k3 0 (by decide), up_s]
  have fr1 : ∀ o, o ≠ 0 → o < 7 → S' o = S o := fun o h0 h7 => by rw [k3 o (by omega), up_o h0]
  have fr2 : ∀ i, i ≠ 0 → S' 0 i = S 0 i := fun i h0 => by rw [k3 0 (by decide), up_i h0]
  have most : G0_mostShared N Br = some (S' 9 (2 ^ n - 1), Br') := by
    rw [G0_mostShared, k1, x_b1s, h3, n_shl1 n (by omega), x_sub_of ⟨by omega, by omega⟩, show ((2 ^ n : Nat) : Int) - 1 = ((2 ^ n - 1 : Nat) : Int) by omega, c_sharedOf (t := S' 9) (by omega) k5.1 (k4 _ (by omega)), x_b1s]
  rw [G11_pairs, G12_pairs]
  by_cases a1 : a = -1
  · rw [if_pos a1, if_pos a1, most, x_b2s, x_b1s, up_s, if_pos (by decide), k2, x_b1s, if_pos a1, g12_all hn (by rw [s1]; exact e), x_b1s, x_gd_t ⟨by omega, by omega⟩, Int.toNat_natCast]
    exact ⟨_, _, _, _, rfl, rfl, ⟨s00, rfl⟩, fun E h => (nomatch h), fr1, fr2⟩
  · rw [if_neg a1, if_neg a1, g11_needMonk h, g12_isMonk hi.many]
    by_cases h0 : 0 ≤ a ∧ a < S 1 3
    · rw [if_pos h0, if_pos h0]
      simp only [x_b1s, x_b2s, x_tvn, x_tvs, up_s, Int.reduceEq, Int.reduceLE, reduceIte]
      rw [k2, x_b1s, if_neg a1, g12_all hn (by rw [s1]; exact e), x_b1s, G0_partnerOf, most, x_b2s, h3, n_shl1 n (by omega), x_sub_of ⟨by omega, by omega⟩, show ((2 ^ n : Nat) : Int) - 1 = ((2 ^ n - 1 : Nat) : Int) by omega]
      have key : ∀ d i v k1 k2 : Nat, i + d = n → d < k1 → d < k2 → v < 2 ^ n → (∀ j, j < i → v.testBit j = false) →
          ∃ r1 r2, whl k1 (G0_partnerOf_L18 a N Br') ((v : Int), (i : Int)) = some r1 ∧ whl k2 (G12_pairs_L55 a S') (v : Int) = some r2 ∧ ((r1 = .inl () ∧ r2 = .inl ()) ∨ ∃ w, r1 = .inr (w, Br') ∧ r2 = .inr (w, S')) := by
        intro d
        induction d with
        | zero =>
          intro i v k1 k2 hj h1 h2 hv hlow
          obtain ⟨k1, rfl⟩ : ∃ k', k1 = k' + 1 := ⟨k1 - 1, by omega⟩
          obtain ⟨k2, rfl⟩ : ∃ k', k2 = k' + 1 := ⟨k2 - 1, by omega⟩
          have v0 : v = 0 := by
            apply Nat.eq_of_testBit_eq
            intro b
            rw [Nat.zero_testBit]
            by_cases hb : b < n
            · exact hlow b (by omega)
            · exact tb_hi hv (by omega)
          subst v0
          exact ⟨.inl (), .inl (), whl_r (by rw [G0_partnerOf_L18, h3, if_pos (by omega)]), whl_r (by rw [G12_pairs_L55, if_pos (show ((0 : Nat) : Int) = 0 from rfl)]), .inl ⟨rfl, rfl⟩⟩
        | succ d ih =>
          intro i v k1 k2 hj h1 h2 hv hlow
          obtain ⟨k1, rfl⟩ : ∃ k', k1 = k' + 1 := ⟨k1 - 1, by omega⟩
          cases hb : v.testBit i with
          | false =>
            have c1 : G0_partnerOf_L18 a N Br' ((v : Int), (i : Int)) = some (.inl ((v : Int), ((i + 1 : Nat) : Int))) := by
              rw [G0_partnerOf_L18, h3, if_neg (by omega), g11_hold (R32n (by omega)) (by omega), x_b1s, ib_nat, hb, if_neg Bool.false_ne_true, if_pos rfl, n_inc (by omega)]
            rw [whl_l c1]
            exact ih (i + 1) v k1 k2 (by omega) (by omega) (by omega) hv (fun j hj2 => by
              by_cases z : j = i
              · subst z; exact hb
              · exact hlow j (by omega))
          | true =>
            obtain ⟨k2, rfl⟩ : ∃ k', k2 = k' + 1 := ⟨k2 - 1, by omega⟩
            have v0 : v ≠ 0 := fun z => by rw [z, Nat.zero_testBit] at hb; cases hb
            have cp := c_partner (t := S' 9) (Br := Br') h hi e hn hl hlt hv (show i < n by omega) hb k4 k5
            have rp := r_partner (S := S') (n := n) (l := l) (by rw [s1]; exact hi) (by rw [s1]; exact e) hn (by rw [s1]; exact hl) hlt hv (show i < n by omega) hb k5
            generalize hw : prt l (S' 9) n v i = w at cp rp
            have c1 : G0_partnerOf_L18 a N Br' ((v : Int), (i : Int)) = (if (i : Int) = a then (some (.inr (.inr (w, Br')))) else (if w = a then (some (.inr (.inr ((i : Int), Br')))) else (x_b1 (if w = (-1) then (some ((dif v (2 ^ i) : Nat) : Int)) else (some (x_and ((dif v (2 ^ i) : Nat) : Int) (x_xor (x_shl 1 w) (-1))))) fun (v12 : Int) => (some (.inl (v12, ((i + 1 : Nat) : Int))))))) := by
              rw [G0_partnerOf_L18, h3, if_neg (by omega), g11_hold (R32n (by omega)) (by omega), x_b1s, ib_nat, hb, if_pos rfl, if_neg (by decide), cp, x_b1s, n_clr (by omega) (by omega), n_inc (by omega)]
            have c2 : G12_pairs_L55 a S' (v : Int) = (if (i : Int) = a then (some (.inr (.inr (w, S')))) else (if w = a then (some (.inr (.inr ((i : Int), S')))) else (x_b1 (if w = (-1) then (some ((dif v (2 ^ i) : Nat) : Int)) else (some (x_and ((dif v (2 ^ i) : Nat) : Int) (x_xor (x_shl 1 w) (-1))))) fun (v25 : Int) => (some (.inl v25))))) := by
              rw [G12_pairs_L55, if_neg (by omega), r_lowest (by omega) (by omega) hb hlow, x_b1s, rp, x_b1s, n_clr (by omega) (by omega)]
            by_cases z1 : (i : Int) = a
            · rw [if_pos z1] at c1 c2
              exact ⟨_, _, whl_r c1, whl_r c2, .inr ⟨_, rfl, rfl⟩⟩
            · rw [if_neg z1] at c1 c2
              by_cases z2 : w = a
              · rw [if_pos z2] at c1 c2
                exact ⟨_, _, whl_r c1, whl_r c2, .inr ⟨_, rfl, rfl⟩⟩
              · rw [if_neg z2] at c1 c2
                have hd := dif_lt' v (by omega) i (by omega) hb
                have nx : ∃ v' : Nat, (if w = (-1) then (some ((dif v (2 ^ i) : Nat) : Int)) else (some (x_and ((dif v (2 ^ i) : Nat) : Int) (x_xor (x_shl 1 w) (-1))))) = some (v' : Int) ∧ v' < 2 ^ n ∧ ∀ j, j < i + 1 → v'.testBit j = false := by
                  have lowd : ∀ j, j < i + 1 → (dif v (2 ^ i)).testBit j = false := fun j hj2 => by
                    rw [dif_p]
                    by_cases z : i = j
                    · rw [decide_eq_true z]; cases v.testBit j <;> rfl
                    · rw [hlow j (by omega)]; rfl
                  by_cases z3 : w = -1
                  · rw [if_pos z3]
                    exact ⟨_, rfl, by omega, lowd⟩
                  · rw [if_neg z3]
                    have hw2 : ∃ q : Nat, w = (q : Int) ∧ q < n := by
                      rw [← hw] at z3 ⊢
                      unfold prt at z3 ⊢
                      by_cases z4 : S' 9 (dif v (2 ^ i)) = S' 9 v
                      · rw [if_pos z4] at z3; exact absurd rfl z3
                      · rw [if_neg z4] at z3 ⊢
                        rcases gg_in (E := eqp l (S' 9) v i) (n - (i + 1)) (i + 1) with g | ⟨q, g1, g2, g3, _⟩
                        · exact absurd g z3
                        · exact ⟨q, g1, by omega⟩
                    obtain ⟨q, rfl, hq⟩ := hw2
                    rw [n_clr (by omega) (by omega)]
                    exact ⟨_, rfl, dif_lt (by omega), fun j hj2 => by rw [dif_p, lowd j hj2]; rfl⟩
                obtain ⟨v', e1, e2, e3⟩ := nx
                rw [e1, x_b1s] at c1 c2
                rw [whl_l c1, whl_l c2]
                exact ih (i + 1) v' k1 k2 (by omega) (by omega) (by omega) e2 e3
      obtain ⟨r1, r2, e1, e2, e3⟩ := key n 0 (2 ^ n - 1) xFU xFU (by omega) (by unfold xFU; omega) (by unfold xFU; omega) (by omega) (fun j hj => absurd hj (by omega))
      rw [show whl xFU (G0_partnerOf_L18 a N Br') (((2 ^ n - 1 : Nat) : Int), 0) = _ from e1, e2]
      rcases e3 with ⟨rfl, rfl⟩ | ⟨w, rfl, rfl⟩
      · exact ⟨_, _, _, _, rfl, rfl, ⟨s00, rfl⟩, fun E h => (nomatch h), fr1, fr2⟩
      · exact ⟨_, _, _, _, rfl, rfl, ⟨s00, rfl⟩, fun E h => (nomatch h), fr1, fr2⟩
    · rw [if_neg h0, if_neg h0]
      simp only [x_b1s, x_b2s, x_tvn, x_tvs, up_s, Int.reduceEq, Int.reduceLE, reduceIte]
      exact ⟨_, _, _, _, rfl, rfl, up_s, fun E h => by cases h; rfl, fun o h0 _ => up_o h0, fun i h0 => up_i h0⟩
end PRT2
