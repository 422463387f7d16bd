/-! Odds of fog, both ways. -/
section OD2
variable {N S Fo : xU} {f h a b : Nat}
def dz (Fo : xU) (f h r j : Nat) : xU := fun o i => if o = 2 ∧ i < 7 then (if 6 < i + j then (Dn f h (r + 1) i : Int) else (Dn f h r i : Int)) else Fo o i
theorem p100s {r : Nat} : 100 ^ (r + 1) = 100 ^ r * 100 := Nat.pow_succ 100 r
/-- the class tosses one more -/
theorem c_toss {r : Nat} (hf : f + h = 100) (hr : r ≤ 5) (h9 : N 0 9 = (f : Int)) : whl xFU (G3_oddsOf_L46 N) (6, fll Fo 2 (fun k => (Dn f h r k : Int)) 7) = some (fll Fo 2 (fun k => (Dn f h (r + 1) k : Int)) 7) := by
  have e0 : fll Fo 2 (fun k => (Dn f h r k : Int)) 7 = dz Fo f h r 0 := by
    funext o i
    show (if o = 2 ∧ i < 7 then _ else _) = (if o = 2 ∧ i < 7 then (if 6 < i + 0 then _ else _) else _)
    by_cases z : o = 2 ∧ i < 7
    · rw [if_pos z, if_pos z, if_neg (by omega)]
    · rw [if_neg z, if_neg z]
  have e1 : fll Fo 2 (fun k => (Dn f h (r + 1) k : Int)) 7 = dz Fo f h r 7 := by
    funext o i
    show (if o = 2 ∧ i < 7 then _ else _) = (if o = 2 ∧ i < 7 then (if 6 < i + 7 then _ else _) else _)
    by_cases z : o = 2 ∧ i < 7
    · rw [if_pos z, if_pos z, if_pos (by omega)]
    · rw [if_neg z, if_neg z]
  have hp := p100 (a := r + 1) (by omega)
  rw [p100s] at hp
  rw [e0, e1]
  refine w_run (fun j => ((6 : Int) - (j : Int), dz Fo f h r j)) 7 (by unfold xFU; omega) (fun j hj => ?_) (by rw [G3_oddsOf_L46, if_pos (by decide)])
  have ei : (6 : Int) - (j : Int) = ((6 - j : Nat) : Int) := by omega
  have c6 : dz Fo f h r j 2 (6 - j) = (Dn f h r (6 - j) : Int) := by
    show (if 2 = 2 ∧ 6 - j < 7 then (if 6 < 6 - j + j then _ else _) else _) = _
    rw [if_pos ⟨rfl, by omega⟩, if_neg (by omega)]
  have d6 := Dn_le hf (a := r) (k := 6 - j) (by omega) (by omega)
  have d5 : (if 6 - j = 0 then 0 else Dn f h r (6 - j - 1)) ≤ 100 ^ r := by
    by_cases z : 6 - j = 0
    · rw [if_pos z]; exact Nat.zero_le _
    · rw [if_neg z]; exact Dn_le hf (by omega) (by omega)
  have e18 : (if ((6 - j : Nat) : Int) ≤ 0 then (some (0 : Int)) else (x_gd ((0 : Int) ≤ (x_sub ((6 - j : Nat) : Int) 1) ∧ (x_sub ((6 - j : Nat) : Int) 1) < 7) (some (dz Fo f h r j 2 ((x_sub ((6 - j : Nat) : Int) 1)).toNat)))) = some (((if 6 - j = 0 then 0 else Dn f h r (6 - j - 1) : Nat)) : Int) := by
    by_cases z : 6 - j = 0
    · rw [if_pos (by omega), if_pos z]; rfl
    · have es : x_sub ((6 - j : Nat) : Int) 1 = ((6 - j - 1 : Nat) : Int) := by rw [x_sub_of ⟨by omega, by omega⟩]; omega
      rw [if_neg (by omega), if_neg z, es, x_gd_t ⟨by omega, by omega⟩, Int.toNat_natCast]
      show some (if 2 = 2 ∧ 6 - j - 1 < 7 then (if 6 < 6 - j - 1 + j then _ else _) else _) = _
      rw [if_pos ⟨rfl, by omega⟩, if_neg (by omega)]
  have ef : x_i2l (f : Int) = (f : Int) := x_i2l_of (R32n (by omega))
  have eh : x_i2l (x_sub 100 (f : Int)) = (h : Int) := by
    rw [x_sub_of ⟨by omega, by omega⟩, show (100 : Int) - (f : Int) = (h : Int) by omega]
    exact x_i2l_of (R32n (by omega))
  have m1 : Dn f h r (6 - j) * h ≤ 100 ^ r * 100 := Nat.mul_le_mul d6 (by omega)
  have m2 : (if 6 - j = 0 then 0 else Dn f h r (6 - j - 1)) * f ≤ 100 ^ r * 100 := Nat.mul_le_mul d5 (by omega)
  rw [ei, G3_oddsOf_L46, if_neg (by omega), e18, x_b1s, x_gd_t ⟨by omega, by omega⟩, x_gd_t ⟨by omega, by omega⟩, Int.toNat_natCast, c6, h9, ef, eh, n_lmul (by omega), n_lmul (by omega), n_ladd (by omega), x_add_of ⟨by omega, by omega⟩]
  congr 3
  · congr 1; omega
  · funext o i
    by_cases z : o = 2 ∧ i = 6 - j
    · obtain ⟨rfl, rfl⟩ := z
      rw [up_s]
      show _ = (if 2 = 2 ∧ 6 - j < 7 then (if 6 < 6 - j + (j + 1) then (Dn f h (r + 1) (6 - j) : Int) else _) else _)
      rw [if_pos (show 2 = 2 ∧ 6 - j < 7 from ⟨rfl, by omega⟩), if_pos (show 6 < 6 - j + (j + 1) by omega)]
      rfl
    · have : x_up (dz Fo f h r j) 2 (6 - j) ((Dn f h r (6 - j) * h + (if 6 - j = 0 then 0 else Dn f h r (6 - j - 1)) * f : Nat) : Int) o i = dz Fo f h r j o i := if_neg z
      rw [this]
      show (if o = 2 ∧ i < 7 then (if 6 < i + j then _ else _) else _) = (if o = 2 ∧ i < 7 then (if 6 < i + (j + 1) then _ else _) else _)
      by_cases z1 : o = 2 ∧ i < 7
      · rw [if_pos z1, if_pos z1]
        by_cases z2 : 6 < i + j
        · rw [if_pos z2, if_pos (by omega)]
        · rw [if_neg z2, if_neg (by omega)]
      · rw [if_neg z1, if_neg z1]
theorem sum_dn : ∀ b : Nat, b ≤ 6 → sN (fun i => 10000 * Dn f h a (6 - i)) (7 - b) = 10000 * Tn f h a (b : Int) := by
  intro b hb
  unfold Tn
  rcases (show b = 0 ∨ b = 1 ∨ b = 2 ∨ b = 3 ∨ b = 4 ∨ b = 5 ∨ b = 6 by omega) with rfl | rfl | rfl | rfl | rfl | rfl | rfl <;> simp [sN, fo] <;> omega
theorem L_odds {a b : Int} (hN : CR N (S 1)) (hi : Iv (S 1)) : ∃ o F' r v, G11_odds a b N Fo = some (o, F') ∧ G12_odds a b S = some (r, x_up S 0 0 v) ∧ Ag (fun _ => 1) o r (x_up S 0 0 v) ∧ ∀ E, o = .inr E → E = 0 := by
  rw [G11_odds, G12_odds, g11_needWithin, g12_isIn]
  by_cases h0 : 0 ≤ a ∧ a ≤ 6
  · rw [if_pos h0, if_pos h0]
    simp only [x_b1s, x_b2s, x_tvn, x_tvs, up_s, Int.reduceEq, Int.reduceLE, reduceIte]
    rw [g11_needWithin, g12_isIn]
    by_cases h1 : 0 ≤ b ∧ b ≤ 6
    · obtain ⟨a, rfl⟩ := Int.eq_ofNat_of_zero_le h0.1
      obtain ⟨b, rfl⟩ := Int.eq_ofNat_of_zero_le h1.1
      have h8 := hi.1.2.2.2.2.2.2.1
      obtain ⟨f, hf0⟩ := Int.eq_ofNat_of_zero_le h8.1
      obtain ⟨h, hh⟩ : ∃ h, f + h = 100 := ⟨100 - f, by omega⟩
      have h9 : N 0 9 = (f : Int) := hN.1.2.2.2.2.2.2.1.trans hf0
      have hp := p100 (a := a) (by omega)
      have hpos : 0 < 100 ^ a := Nat.pow_pos (by decide)
      have hT : Tn f h a (b : Int) ≤ 100 ^ a := by
        rw [← Tn_tot hh a (by omega) 0 (by decide)]
        exact Tn_mono (by omega)
      have w3 : whl xFU G3_oddsOf_L3 (0, Fo) = some (fll Fo 2 (fun k => (Dn f h 0 k : Int)) 7) := by
        have e0 : ((0 : Int), Fo) = (((0 : Nat) : Int), fll Fo 2 (fun k => (Dn f h 0 k : Int)) 0) := by rw [fll_0]; rfl
        rw [e0]
        refine w_run (fun k => ((k : Int), fll Fo 2 (fun k => (Dn f h 0 k : Int)) k)) 7 (by unfold xFU; omega) (fun k hk => ?_) (by rw [G3_oddsOf_L3, if_pos (by decide)])
        have e6 : (if ((k : Nat) : Int) = 0 then (some (1 : Int)) else (some 0)) = some (Dn f h 0 k : Int) := by
          show _ = some (((if k = 0 then 1 else 0 : Nat)) : Int)
          by_cases z : k = 0
          · rw [if_pos (by omega), if_pos z]; rfl
          · rw [if_neg (by omega), if_neg z]; rfl
        rw [G3_oddsOf_L3, if_neg (by omega), e6, x_b1s, x_gd_t ⟨by omega, by omega⟩, Int.toNat_natCast, n_inc (by omega), fll_s (f := fun k => (Dn f h 0 k : Int))]
      have w36 : whl xFU (G3_oddsOf_L36 (a : Int) N) (0, fll Fo 2 (fun k => (Dn f h 0 k : Int)) 7) = some (fll Fo 2 (fun k => (Dn f h a k : Int)) 7) :=
        w_run (fun r => ((r : Int), fll Fo 2 (fun k => (Dn f h r k : Int)) 7)) a (by unfold xFU; omega) (fun r hr => by
          rw [G3_oddsOf_L36, if_neg (by omega), c_toss hh (by omega) h9, x_b1s, n_inc (by omega)]) (by rw [G3_oddsOf_L36, if_pos (Int.le_refl _)])
      have hU : ∀ j, j ≤ 7 → sN (fun i => 10000 * Dn f h a (6 - i)) j ≤ 100000000000000000 := fun j hj => by
        have := sN_le (q := fun i => 10000 * Dn f h a (6 - i)) (B := 10000 * 1000000000000) j (fun i hi2 => Nat.mul_le_mul_left _ (Nat.le_trans (Dn_le hh (by omega) (by omega)) hp))
        have h2 : j * (10000 * 1000000000000) ≤ 7 * (10000 * 1000000000000) := Nat.mul_le_mul_right _ hj
        omega
      have w122 : whl xFU (G3_oddsOf_L122 (b : Int) (fll Fo 2 (fun k => (Dn f h a k : Int)) 7)) (0, 6) = some ((10000 * Tn f h a (b : Int) : Nat) : Int) := by
        rw [← sum_dn b (by omega)]
        refine w_run (fun j => (((sN (fun i => 10000 * Dn f h a (6 - i)) j : Nat) : Int), (6 : Int) - (j : Int))) (7 - b) (by unfold xFU; omega) (fun j hj => ?_) (by rw [G3_oddsOf_L122, if_pos (by omega)])
        have ei : (6 : Int) - (j : Int) = ((6 - j : Nat) : Int) := by omega
        have hd := Dn_le hh (a := a) (k := 6 - j) (by omega) (by omega)
        have h1 := hU j (by omega)
        rw [ei, G3_oddsOf_L122, if_neg (by omega), if_neg (by omega), x_gd_t ⟨by omega, by omega⟩, Int.toNat_natCast, fll_i (by omega), show x_lmul 10000 (Dn f h a (6 - j) : Int) = ((10000 * Dn f h a (6 - j) : Nat) : Int) from n_lmul (a := 10000) (by omega), n_ladd (by omega), x_add_of ⟨by omega, by omega⟩, sN_s]
        congr 3
        omega
      have w158 : whl xFU (G3_oddsOf_L158 (a : Int)) (((10000 * Tn f h a (b : Int) : Nat) : Int), 0) = some ((10000 * Tn f h a (b : Int) / 100 ^ a : Nat) : Int) := by
        have e0 : (((10000 * Tn f h a (b : Int) : Nat) : Int), (0 : Int)) = (((10000 * Tn f h a (b : Int) / 100 ^ 0 : Nat) : Int), ((0 : Nat) : Int)) := by rw [Nat.pow_zero, Nat.div_one]; rfl
        rw [e0]
        refine w_run (fun r => (((10000 * Tn f h a (b : Int) / 100 ^ r : Nat) : Int), (r : Int))) a (by unfold xFU; omega) (fun r hr => ?_) (by rw [G3_oddsOf_L158, if_pos (Int.le_refl _)])
        have hd : 10000 * Tn f h a (b : Int) / 100 ^ r ≤ 10000 * Tn f h a (b : Int) := Nat.div_le_self _ _
        rw [G3_oddsOf_L158, if_neg (by omega), show x_ldiv ((10000 * Tn f h a (b : Int) / 100 ^ r : Nat) : Int) 100 = ((10000 * Tn f h a (b : Int) / 100 ^ r / 100 : Nat) : Int) from n_ldiv (b := 100) (Nat.lt_of_le_of_lt hd (by omega)) (by omega), n_inc (by omega), Nat.div_div_eq_div_mul, ← p100s]
      have hfin : 10000 * Tn f h a (b : Int) / 100 ^ a ≤ 10000 := by
        apply Nat.div_le_of_le_mul
        rw [Nat.mul_comm (100 ^ a)]
        exact Nat.mul_le_mul_left _ hT
      have cls : G3_oddsOf (a : Int) (b : Int) N Fo = some (((10000 * Tn f h a (b : Int) / 100 ^ a : Nat) : Int), fll Fo 2 (fun k => (Dn f h a k : Int)) 7) := by
        rw [G3_oddsOf, w3, x_b1s, w36, x_b1s, w122, x_b1s, w158, x_b1s]
        generalize 10000 * Tn f h a (b : Int) / 100 ^ a = X at hfin
        rw [x_l2i_of (R32n (by omega))]
      -- the reference
      have u46 : whl xFU (G12_odds_L46 (a : Int)) (1, 0) = some ((100 ^ a : Nat) : Int) := by
        refine w_run (fun r => (((100 ^ r : Nat) : Int), (r : Int))) a (by unfold xFU; omega) (fun r hr => ?_) (by rw [G12_odds_L46, if_pos (Int.le_refl _)])
        have := p100 (a := r) (by omega)
        rw [G12_odds_L46, if_neg (by omega), show x_lmul ((100 ^ r : Nat) : Int) 100 = ((100 ^ r * 100 : Nat) : Int) from n_lmul (b := 100) (by omega), n_inc (by omega), ← p100s]
      have u96 : ∀ (v c : Nat), v < 64 → c ≤ 1 → whl xFU (G12_odds_L96 (a : Int) S 0 (v : Int)) ((c : Int), 0) = some ((c * Pn f h a v : Nat) : Int) := by
        intro v c hv hc
        rw [← Pn_c]
        refine w_run (fun r => (((fo (fun i s => s * (if v.testBit i then f else h)) c r : Nat) : Int), (r : Int))) a (by unfold xFU; omega) (fun r hr => ?_) (by rw [G12_odds_L96, if_pos (Int.le_refl _)])
        have hP := Pn_le hh (a := r) (v := v)
        have hp2 := p100 (a := r) (by omega)
        have hc2 : c * Pn f h r v ≤ 1 * 1000000000000 := Nat.mul_le_mul hc (Nat.le_trans hP hp2)
        have e28 : (if (if v.testBit r = true then (1 : Int) else 0) = 0 then (some (x_i2l (x_sub 100 ((x_up S 0 0 0) 1 8)))) else (some (x_i2l ((x_up S 0 0 0) 1 8)))) = some (((if v.testBit r then f else h : Nat)) : Int) := by
          rw [x_up1, hf0]
          cases v.testBit r
          · rw [if_neg Bool.false_ne_true, if_pos rfl, x_sub_of ⟨by omega, by omega⟩, show (100 : Int) - (f : Int) = (h : Int) by omega, x_i2l_of (R32n (by omega)), if_neg Bool.false_ne_true]
          · rw [if_pos rfl, if_neg (by decide), x_i2l_of (R32n (by omega)), if_pos rfl]
        have hb : (if v.testBit r then f else h) ≤ 100 := by
          cases v.testBit r
          · rw [if_neg Bool.false_ne_true]; omega
          · rw [if_pos rfl]; omega
        rw [G12_odds_L96, if_neg (by omega), g12_isOf (R32n (by omega)) (by omega), x_b1s, ib_nat, e28, x_b1s, n_inc (by omega), Pn_c]
        have hm : c * Pn f h r v * (if v.testBit r then f else h) ≤ 1 * 1000000000000 * 100 := Nat.mul_le_mul hc2 hb
        rw [n_lmul (by omega)]
        show _ = some (Sum.inl (((fo (fun i s => s * (if v.testBit i then f else h)) c r * (if v.testBit r then f else h) : Nat) : Int), _))
        rw [Pn_c]
      have p2 : 2 ^ a ≤ 2 ^ 6 := Nat.pow_le_pow_right (by decide) (by omega)
      have u69 : whl xFU (G12_odds_L69 (a : Int) (b : Int) S 0) (0, 0) = some ((Tn f h a (b : Int) : Nat) : Int) := by
        rw [← Sn_Tn a (by omega)]
        refine w_run (fun v => (((sN (fun v => if (b : Int) ≤ x_bc (v : Int) then Pn f h a v else 0) v : Nat) : Int), (v : Int))) (2 ^ a) (by unfold xFU; omega) (fun v hv => ?_) (by rw [G12_odds_L69, n_shl1 a (by omega), if_pos (Int.le_refl _)]; rfl)
        have hs := sN_le (q := fun v => if (b : Int) ≤ x_bc (v : Int) then Pn f h a v else 0) (B := 1000000000000) v (fun w hw => by
          by_cases z : (b : Int) ≤ x_bc (w : Int)
          · rw [if_pos z]; exact Nat.le_trans (Pn_le hh) hp
          · rw [if_neg z]; exact Nat.zero_le _)
        have hs2 : v * 1000000000000 ≤ 64 * 1000000000000 := Nat.mul_le_mul_right _ (by omega)
        have hP := Pn_le hh (a := a) (v := v)
        have e19 : (if (b : Int) ≤ x_bc (v : Int) then (some (1 : Int)) else (some 0)) = some (((if (b : Int) ≤ x_bc (v : Int) then 1 else 0 : Nat)) : Int) := by
          by_cases z : (b : Int) ≤ x_bc (v : Int)
          · rw [if_pos z, if_pos z]; rfl
          · rw [if_neg z, if_neg z]; rfl
        have ec : (if (b : Int) ≤ x_bc (v : Int) then 1 else 0) * Pn f h a v = if (b : Int) ≤ x_bc (v : Int) then Pn f h a v else 0 := by
          by_cases z : (b : Int) ≤ x_bc (v : Int)
          · rw [if_pos z, if_pos z, Nat.one_mul]
          · rw [if_neg z, if_neg z, Nat.zero_mul]
        have hq : (if (b : Int) ≤ x_bc (v : Int) then Pn f h a v else 0) ≤ 1000000000000 := by
          by_cases z : (b : Int) ≤ x_bc (v : Int)
          · rw [if_pos z]; omega
          · rw [if_neg z]; omega
        rw [G12_odds_L69, n_shl1 a (by omega), if_neg (by omega), g12_bits (by omega), x_b1s, e19, x_b1s, u96 v _ (by omega) (by
          by_cases z : (b : Int) ≤ x_bc (v : Int)
          · rw [if_pos z]; exact Nat.le_refl _
          · rw [if_neg z]; omega), x_b1s, ec, n_inc (by omega), n_ladd (by omega), sN_s]
      rw [if_pos h1, if_pos h1]
      simp only [x_b1s, x_b2s, x_tvn, x_tvs, up_s, Int.reduceEq, Int.reduceLE, reduceIte]
      rw [cls, x_b2s, u46, x_b1s, u69, x_b1s, x_gd_t (show ((100 ^ a : Nat) : Int) ≠ 0 by omega), show x_lmul 10000 ((Tn f h a (b : Int) : Nat) : Int) = ((10000 * Tn f h a (b : Int) : Nat) : Int) from n_lmul (a := 10000) (by omega), n_ldiv (by omega) (by omega)]
      generalize 10000 * Tn f h a (b : Int) / 100 ^ a = X at hfin
      rw [x_l2i_of (R32n (by omega))]
      exact ⟨_, _, _, 0, rfl, rfl, ⟨up_s, rfl⟩, fun E h => (nomatch h)⟩
    · rw [if_neg h1, if_neg h1]
      simp only [x_b1s, x_b2s, x_tvn, x_tvs, up_s, Int.reduceEq, Int.reduceLE, reduceIte]
      exact ⟨_, _, _, 1, rfl, rfl, up_s, fun E h => by cases h; rfl⟩
  · rw [if_neg h0, if_neg h0]
    simp only [x_b1s, x_b2s, x_tvn, x_tvs, up_s, Int.reduceEq, Int.reduceLE, reduceIte]
    exact ⟨_, _, _, 1, rfl, rfl, up_s, fun E h => by cases h; rfl⟩
end OD2
