/-! A monk's numbers; the log told and led; monks alike; stores shared; walks without a monk; rests. -/
section Q16
variable {X N S S7 La Th C Fo : xU} {A : xA} {m : Nat → Int}
theorem g1_ofk {p k : Nat} (h : CR N m) (hi : Iv m) (hp : (p : Int) < m 3) (hk : k < 8) : G1_of (k : Int) (p : Int) N = some (m (16 + 8 * p + k)) := by
  have h7 := hi.many
  rw [g1_of hk (by omega), h.2.2.1 p k hp hk]
theorem L_monk {a b : Int} (h : CR N (S 1)) (hi : Iv (S 1)) (hL : LR La (S 1)) : ∃ o La' r S', G11_monk a b N La = some (o, La') ∧ G12_monk a b S = some (r, S') ∧ Ag (fun E => if E = 1 then 1 else 2) o r S' ∧ Kw S S' ∧ LaEq La La' := by
  obtain ⟨n, hn, e⟩ := hi.nn
  rw [G11_monk, G12_monk, g11_needMonk h, g12_isMonk hi.many, g12_isIn]
  by_cases h0 : 0 ≤ a ∧ a < S 1 3
  · rw [if_pos h0, if_pos h0]
    obtain ⟨p, rfl⟩ := Int.eq_ofNat_of_zero_le h0.1
    by_cases h1 : 0 ≤ b ∧ b ≤ 9
    · rw [if_pos h1, if_neg (show ¬ b < 0 by omega), if_pos h1.2]
      obtain ⟨k, rfl⟩ := Int.eq_ofNat_of_zero_le h1.1
      by_cases h8 : k = 8
      · subst h8
        obtain ⟨v, La2, S2, hv0, hv1, eC, eLa, eS, e1, e7, eK⟩ := hL.2 La N (x_up S 0 0 0) p LaEq.rf (by rw [x_up1]; exact h) (by rw [x_up1]; exact hi) (by rw [x_up1]; exact Lw.rf) (by rw [x_up1]; exact h0.2)
        refine ⟨.inl v, La2, v, S2, ?_, ?_, ⟨eK.2.2.2.2.1.trans up_s, rfl⟩, Kw.th.tr ⟨fun i _ => by rw [e1], eK.1, eK.2.2.1, eK.2.2.2.1, eK.2.2.2.2.2.1, eK.2.2.2.2.2.2.1, eK.2.2.2.2.2.2.2.1, eK.2.2.2.2.2.2.2.2.1, eK.2.2.2.2.2.2.2.2.2⟩, eLa⟩
        · simp only [x_b1s, x_b2s, x_b3s, x_b4s, x_tvn, x_tvs, up_s, Int.reduceEq, Int.reduceLE, reduceIte]
          rw [if_pos (by decide), eC, x_b2s]
        · simp only [x_b1s, x_b2s, x_b3s, x_b4s, x_tvn, x_tvs, up_s, Int.reduceEq, Int.reduceLE, reduceIte]
          rw [if_pos (by decide), if_pos (by decide), eS, x_b2s]
      · by_cases h9 : k = 9
        · subst h9
          have e5 : G12_lateOfAll (x_up S 0 0 0) = some (sm (fun p => S 1 (21 + 8 * p)) n) := by
            have := g12_lateOfAll (S := x_up S 0 0 0) (n := n) (by rw [x_up1]; exact hi) (by rw [x_up1]; exact e)
            rw [x_up1] at this; exact this
          refine ⟨.inl (if sm (fun p => S 1 (21 + 8 * p)) n = 0 then 0 else x_div (x_mul 100 (S 1 (21 + 8 * p))) (sm (fun p => S 1 (21 + 8 * p)) n)), La, (if sm (fun p => S 1 (21 + 8 * p)) n = 0 then 0 else x_div (x_mul 100 (S 1 (21 + 8 * p))) (sm (fun p => S 1 (21 + 8 * p)) n)), x_up S 0 0 0, ?_, ?_, ⟨up_s, rfl⟩, Kw.th, LaEq.rf⟩
          · simp only [x_b1s, x_b2s, x_b3s, x_b4s, x_tvn, x_tvs, up_s, Int.reduceEq, Int.reduceLE, reduceIte]
            rw [if_neg (by decide), if_pos (by decide), g1_lagOf h hi e h0.2, x_b1s, x_b1s]
          · simp only [x_b1s, x_b2s, x_b3s, x_b4s, x_tvn, x_tvs, up_s, Int.reduceEq, Int.reduceLE, reduceIte]
            rw [if_pos (by decide), if_neg (by decide), e5, x_b1s]
            by_cases q : sm (fun p => S 1 (21 + 8 * p)) n = 0
            · rw [if_pos q, if_pos q, x_b1s]
            · rw [if_neg q, if_neg q, g12_of5 (by omega), x_up1, x_b1s, x_b1s, x_gd_t q, x_b1s]
        · refine ⟨.inl (S 1 (16 + 8 * p + k)), La, S 1 (16 + 8 * p + k), x_up S 0 0 0, ?_, ?_, ⟨up_s, rfl⟩, Kw.th, LaEq.rf⟩
          · simp only [x_b1s, x_b2s, x_b3s, x_b4s, x_tvn, x_tvs, up_s, Int.reduceEq, Int.reduceLE, reduceIte]
            rw [if_neg (by omega), if_neg (by omega), g1_ofk h hi h0.2 (by omega), x_b1s, x_b1s]
          · simp only [x_b1s, x_b2s, x_b3s, x_b4s, x_tvn, x_tvs, up_s, Int.reduceEq, Int.reduceLE, reduceIte]
            rw [if_neg (by omega), g12_of (by omega) (by omega), x_up1, x_b1s]
    · rw [if_neg h1]
      refine ⟨.inr 3, La, 0, x_up S 0 0 2, ?_, rfl, rfl, Kw.th, LaEq.rf⟩
      simp only [x_b1s, x_b2s, x_b3s, x_b4s, x_tvn, x_tvs, up_s, Int.reduceEq, Int.reduceLE, reduceIte]
      by_cases h2 : b < 0
      · rw [if_pos h2]
      · rw [if_neg h2, if_neg (by omega)]
  · rw [if_neg h0, if_neg h0]
    exact ⟨.inr 1, La, 0, x_up S 0 0 1, rfl, rfl, rfl, Kw.th, LaEq.rf⟩
theorem n_shr {a k : Nat} (ha : a < 2147483648) (hk : k < 32) : x_shr (a : Int) (k : Int) = ((a / 2 ^ k : Nat) : Int) := by
  rw [z_shr (R32n ha) hk, ← Nat.shiftRight_eq_div_pow]
  rfl
theorem n_lo {a k : Nat} (ha : a < 2147483648) (b : Int) (hb : b = ((2 ^ k - 1 : Nat) : Int)) : x_and (a : Int) b = ((a % 2 ^ k : Nat) : Int) := by
  rw [hb, n_and ha, Nat.and_two_pow_sub_one_eq_mod]
/-- a number of a row of the log, told -/
theorem g6_told {g k : Nat} (h : CR C m) (hi : Iv m) (hg : (g : Int) < m 10) (hk : k ≤ 4) : G6_told (g : Int) (k : Int) C = some (m (72 + 5 * g + k)) := by
  have hz := hi.1.2.2.2.2.2.2.2.2.2
  obtain ⟨_, _, _, _, e1, n, hn, e2, e3⟩ := h
  obtain ⟨b1, b2, b3, b4, b5⟩ := hi.2.2.2.1 g hg
  obtain ⟨d, hd⟩ := Int.eq_ofNat_of_zero_le b1.1
  obtain ⟨hr, hhr⟩ := Int.eq_ofNat_of_zero_le b2.1
  obtain ⟨c, hc⟩ := Int.eq_ofNat_of_zero_le b3.1
  obtain ⟨p, hp⟩ := Int.eq_ofNat_of_zero_le b4.1
  obtain ⟨f, hf⟩ := Int.eq_ofNat_of_zero_le b5.1
  have ei : x_mod (x_sub (x_sub (C 3 2) 1) (g : Int)) 60 = (((n + 59 - g) % 60 : Nat) : Int) := by
    rw [e2, x_sub_of (a := (n : Int)) ⟨by omega, by omega⟩, x_sub_of ⟨by omega, by omega⟩, x_mod]; omega
  have ew : C 4 ((n + 59 - g) % 60) = ((8192 * d + 256 * hr + 128 * c + 16 * p + f : Nat) : Int) := by
    rw [e3 g hg, hd, hhr, hc, hp, hf]; omega
  have hw : 8192 * d + 256 * hr + 128 * c + 16 * p + f < 2147483648 := by omega
  rw [G6_told, if_neg (by omega), e1, if_pos hg, ei, x_gd_t ⟨by omega, by omega⟩, Int.toNat_natCast, ew]
  rcases (show k = 0 ∨ k = 1 ∨ k = 2 ∨ k = 3 ∨ k = 4 by omega) with rfl | rfl | rfl | rfl | rfl
  · rw [if_pos (by decide), show x_shr ((8192 * d + 256 * hr + 128 * c + 16 * p + f : Nat) : Int) 13 = _ from n_shr (k := 13) hw (by decide), Nat.add_zero, hd]
    congr 2; omega
  · rw [if_neg (by decide), if_pos (by decide), show x_shr ((8192 * d + 256 * hr + 128 * c + 16 * p + f : Nat) : Int) 8 = _ from n_shr (k := 8) hw (by decide), n_lo (k := 5) (by omega) 31 (by decide), show 72 + 5 * g + 1 = 73 + 5 * g by omega, hhr]
    congr 2; omega
  · rw [if_neg (by decide), if_neg (by decide), if_pos (by decide), show x_shr ((8192 * d + 256 * hr + 128 * c + 16 * p + f : Nat) : Int) 7 = _ from n_shr (k := 7) hw (by decide), n_lo (k := 1) (by omega) 1 (by decide), show 72 + 5 * g + 2 = 74 + 5 * g by omega, hc]
    congr 2; omega
  · rw [if_neg (by decide), if_neg (by decide), if_neg (by decide), if_pos (by decide), show x_shr ((8192 * d + 256 * hr + 128 * c + 16 * p + f : Nat) : Int) 4 = _ from n_shr (k := 4) hw (by decide), n_lo (k := 3) (by omega) 7 (by decide), show 72 + 5 * g + 3 = 75 + 5 * g by omega, hp]
    congr 2; omega
  · rw [if_neg (by decide), if_neg (by decide), if_neg (by decide), if_neg (by decide), n_lo (k := 4) hw 15 (by decide), show 72 + 5 * g + 4 = 76 + 5 * g by omega, hf]
    congr 2; omega
theorem g12_logged {g k : Nat} (hg : g < 60) (hk : k ≤ 4) : G12_logged (g : Int) (k : Int) S = some (S 1 (72 + 5 * g + k)) := by
  have e : x_add (x_add 72 (x_mul 5 (g : Int))) (k : Int) = ((72 + 5 * g + k : Nat) : Int) := by
    rw [x_mul_of ⟨by omega, by omega⟩, x_add_of (a := 72) ⟨by omega, by omega⟩, x_add_of ⟨by omega, by omega⟩]; omega
  rw [G12_logged, e, x_gd_t ⟨by omega, by omega⟩]
  rfl
theorem L_log {a b : Int} (h : CR N (S 1)) (hi : Iv (S 1)) : ∃ o r v, G11_log a b N = some o ∧ G12_log a b S = some (r, x_up S 0 0 v) ∧ Ag (fun _ => 1) o r (x_up S 0 0 v) := by
  have hz := hi.1.2.2.2.2.2.2.2.2.2
  rw [G11_log, G12_log, g12_isIn]
  by_cases h0 : 0 ≤ b ∧ b ≤ 4
  · rw [if_neg (show ¬ b < 0 by omega), if_pos h0.2, if_pos h0]
    obtain ⟨k, rfl⟩ := Int.eq_ofNat_of_zero_le h0.1
    have es : x_sub (S 1 10) 1 = S 1 10 - 1 := x_sub_of ⟨by omega, by omega⟩
    by_cases h1 : 0 ≤ a ∧ a < S 1 10
    · obtain ⟨g, rfl⟩ := Int.eq_ofNat_of_zero_le h1.1
      refine ⟨.inl (S 1 (72 + 5 * g + k)), S 1 (72 + 5 * g + k), 0, ?_, ?_, up_s, rfl⟩
      · rw [g6_told h hi h1.2 (by omega), x_b1s]
      · simp only [x_b1s, x_b2s, x_b3s, x_b4s, x_tvn, x_tvs, up_s, Int.reduceEq, Int.reduceLE, reduceIte]
        rw [g12_isIn, x_up1, es, if_pos (show 0 ≤ (g : Int) ∧ (g : Int) ≤ S 1 10 - 1 by omega), x_b1s, if_neg (by decide), g12_logged (by omega) (by omega), x_up1, x_b1s, x_b1s]
    · refine ⟨.inl (-1), -1, 0, ?_, ?_, up_s, rfl⟩
      · rw [G6_told, h.2.2.2.2.1]
        by_cases h2 : a < 0
        · rw [if_pos h2, x_b1s]
        · rw [if_neg h2, if_neg (by omega), x_b1s]
      · simp only [x_b1s, x_b2s, x_b3s, x_b4s, x_tvn, x_tvs, up_s, Int.reduceEq, Int.reduceLE, reduceIte]
        rw [g12_isIn, x_up1, es, if_neg (show ¬ (0 ≤ a ∧ a ≤ S 1 10 - 1) by omega), x_b1s, if_pos rfl, x_b1s]
  · rw [if_neg h0]
    refine ⟨.inr 3, 0, 1, ?_, rfl, rfl⟩
    by_cases h2 : b < 0
    · rw [if_pos h2]
    · rw [if_neg h2, if_neg (by omega)]
/-- the flag of the first row that is a monk's, from a row on -/
def ff (m : Nat → Int) (a : Int) : Nat → Nat → Int
  | 0, _ => -1
  | d + 1, g => if m (75 + 5 * g) = a then m (76 + 5 * g) else ff m a d (g + 1)
def rw1 (m : Nat → Int) (a : Int) (g : Nat) : Int := if decide (m (75 + 5 * g) = a) then 1 else 0
theorem L_led {a b : Int} (h : CR N (S 1)) (hi : Iv (S 1)) : ∃ o r v, G11_led a b N = some o ∧ G12_led a b S = some (r, x_up S 0 0 v) ∧ Ag (fun _ => 1) o r (x_up S 0 0 v) := by
  have hz := hi.1.2.2.2.2.2.2.2.2.2
  rw [G11_led, G12_led, g11_needMonk h, g12_isMonk hi.many]
  by_cases h0 : 0 ≤ a ∧ a < S 1 3
  · rw [if_pos h0, if_pos h0]
    obtain ⟨n, en⟩ := Int.eq_ofNat_of_zero_le hz.1
    have t3 : ∀ g, g < n → G6_told (g : Int) 3 N = some (S 1 (75 + 5 * g)) := fun g hg => by
      have := g6_told (k := 3) h hi (show (g : Int) < S 1 10 by omega) (by decide)
      rw [show 72 + 5 * g + 3 = 75 + 5 * g by omega] at this
      exact this
    have t4 : ∀ g, g < n → G6_told (g : Int) 4 N = some (S 1 (76 + 5 * g)) := fun g hg => by
      have := g6_told (k := 4) h hi (show (g : Int) < S 1 10 by omega) (by decide)
      rw [show 72 + 5 * g + 4 = 76 + 5 * g by omega] at this
      exact this
    have l3 : ∀ g, g < n → G12_logged (g : Int) 3 (x_up S 0 0 0) = some (S 1 (75 + 5 * g)) := fun g hg => by
      have := g12_logged (S := x_up S 0 0 0) (g := g) (k := 3) (by omega) (by decide)
      rw [x_up1, show 72 + 5 * g + 3 = 75 + 5 * g by omega] at this
      exact this
    have l4 : ∀ g, g < n → G12_logged (g : Int) 4 (x_up S 0 0 0) = some (S 1 (76 + 5 * g)) := fun g hg => by
      have := g12_logged (S := x_up S 0 0 0) (g := g) (k := 4) (by omega) (by decide)
      rw [x_up1, show 72 + 5 * g + 4 = 76 + 5 * g by omega] at this
      exact this
    have c1 : G6_rowsOf a N = some (sm (rw1 (S 1) a) n) := by
      rw [G6_rowsOf, w_sm (f := G6_rowsOf_L4 a N) (n := n) (rw1 (S 1) a) 1 (by omega) (by decide) (by decide) (fun p _ => c01) (fun j s hj h2 h3 => by
        show (if N 3 1 ≤ (j : Int) then _ else _) = _
        rw [h.2.2.2.2.1, if_neg (by omega), t3 j hj, x_b1s, n_inc (by omega), rw1, ← n_cnt h2 h3]
        by_cases q : S 1 (75 + 5 * j) = a
        · rw [if_pos q, if_pos (decide_eq_true q), x_b1s]
        · rw [if_neg q, if_neg (by simp [q]), x_b1s]) (fun s => by
        show (if N 3 1 ≤ (n : Int) then _ else _) = _
        rw [h.2.2.2.2.1, if_pos (by omega)]), x_b1s]
    have c2 : G6_latestFlagOf a N = some (ff (S 1) a n 0) := by
      have key : ∀ d g fuel, g + d = n → d < fuel → x_lr (whl fuel (G6_latestFlagOf_L2 a N) (g : Int)) (fun (q : Unit) => x_e1 q fun (_q : Unit) => (some (-1 : Int))) (fun (q : Int) => some q) = some (ff (S 1) a d g) := by
        intro d
        induction d with
        | zero =>
          intro g fuel hg hf
          cases fuel with
          | zero => omega
          | succ fuel =>
            have : G6_latestFlagOf_L2 a N (g : Int) = some (.inr (.inl ())) := by
              show (if N 3 1 ≤ (g : Int) then _ else _) = _
              rw [h.2.2.2.2.1, if_pos (by omega)]
            rw [whl, this]
            rfl
        | succ d ih =>
          intro g fuel hg hf
          cases fuel with
          | zero => omega
          | succ fuel =>
            have e1 : G6_latestFlagOf_L2 a N (g : Int) = if S 1 (75 + 5 * g) = a then some (.inr (.inr (S 1 (76 + 5 * g)))) else some (.inl ((g + 1 : Nat) : Int)) := by
              show (if N 3 1 ≤ (g : Int) then _ else _) = _
              rw [h.2.2.2.2.1, if_neg (by omega), t3 g (by omega), x_b1s, t4 g (by omega), x_b1s, n_inc (by omega)]
            by_cases q : S 1 (75 + 5 * g) = a
            · rw [if_pos q] at e1
              rw [whl, e1, ff, if_pos q]
              rfl
            · rw [if_neg q] at e1
              rw [whl, e1, ff, if_neg q]
              exact ih (g + 1) fuel (by omega) (by omega)
      rw [G6_latestFlagOf]
      exact key n 0 xFU (by omega) (by unfold xFU; omega)
    have c3 : whl xFU (G12_led_L42 a S 0) (0, -1, x_sub (S 1 10) 1) = some (sm (rw1 (S 1) a) n, ff (S 1) a n 0) := by
      have es : x_sub (S 1 10) 1 = (n : Int) - 1 - ((0 : Nat) : Int) := by rw [x_sub_of ⟨by omega, by omega⟩, en]; omega
      have ez : sm (rw1 (S 1) a) n - sm (rw1 (S 1) a) (n - 0) = 0 := by rw [Nat.sub_zero]; omega
      have h00 : ((0 : Int), (-1 : Int), x_sub (S 1 10) 1) = (sm (rw1 (S 1) a) n - sm (rw1 (S 1) a) (n - 0), ff (S 1) a 0 (n - 0), (n : Int) - 1 - ((0 : Nat) : Int)) := by
        rw [es, ez]; rfl
      have ee : sm (rw1 (S 1) a) n = sm (rw1 (S 1) a) n - sm (rw1 (S 1) a) (n - n) := by
        rw [Nat.sub_self]; show _ = _ - 0; omega
      rw [h00, w_run (fun j => (sm (rw1 (S 1) a) n - sm (rw1 (S 1) a) (n - j), ff (S 1) a j (n - j), (n : Int) - 1 - (j : Int))) n (by unfold xFU; omega) (r := (sm (rw1 (S 1) a) n - sm (rw1 (S 1) a) (n - n), ff (S 1) a n (n - n))) (fun j hj => by
        have eg : (n : Int) - 1 - (j : Int) = ((n - j - 1 : Nat) : Int) := by omega
        have b1 := sm_bd (q := rw1 (S 1) a) (n := n) (B := 1) (fun p _ => c01)
        have b2 := sm_bd (q := rw1 (S 1) a) (n := n - j) (B := 1) (fun p _ => c01)
        have e2 : sm (rw1 (S 1) a) (n - j) = sm (rw1 (S 1) a) (n - (j + 1)) + rw1 (S 1) a (n - (j + 1)) := by
          rw [← sm_s, show n - (j + 1) + 1 = n - j by omega]
        have e3 : ff (S 1) a (j + 1) (n - (j + 1)) = if S 1 (75 + 5 * (n - (j + 1))) = a then S 1 (76 + 5 * (n - (j + 1))) else ff (S 1) a j (n - (j + 1) + 1) := rfl
        have hb3 : (0 : Int) ≤ sm (rw1 (S 1) a) (n - (j + 1)) := (sm_bd (q := rw1 (S 1) a) (n := n - (j + 1)) (B := 1) (fun p _ => c01)).1
        show (if (n : Int) - 1 - (j : Int) < 0 then _ else _) = _
        rw [if_neg (by omega), eg, l3 _ (by omega), x_b1s, l4 _ (by omega), x_b1s, show x_add ((n - j - 1 : Nat) : Int) (-1) = (n : Int) - 1 - ((j + 1 : Nat) : Int) by rw [x_add_of ⟨by omega, by omega⟩]; omega]
        rw [e3, show n - (j + 1) + 1 = n - j by omega, show n - j - 1 = n - (j + 1) by omega]
        by_cases q : S 1 (75 + 5 * (n - (j + 1))) = a
        · rw [rw1, if_pos (decide_eq_true q)] at e2
          rw [if_pos q, if_pos q, x_b2s, x_add_of ⟨by omega, by omega⟩]
          congr 3
          omega
        · rw [rw1, if_neg (by simp [q])] at e2
          rw [if_neg q, if_neg q, x_b2s]
          congr 3
          omega) (by
        show (if (n : Int) - 1 - (n : Int) < 0 then _ else _) = _
        rw [if_pos (by omega)])]
      rw [← ee, Nat.sub_self]
    by_cases hb : b = 0
    · refine ⟨.inl (sm (rw1 (S 1) a) n), sm (rw1 (S 1) a) n, 0, ?_, ?_, up_s, rfl⟩
      · simp only [x_b1s, x_b2s, x_b3s, x_b4s, x_tvn, x_tvs, up_s, Int.reduceEq, Int.reduceLE, reduceIte]
        rw [if_pos hb, c1, x_b1s, x_b1s]
      · simp only [x_b1s, x_b2s, x_b3s, x_b4s, x_tvn, x_tvs, up_s, Int.reduceEq, Int.reduceLE, reduceIte]
        rw [x_up1, c3, x_b2s, if_pos hb, x_b1s]
    · refine ⟨.inl (ff (S 1) a n 0), ff (S 1) a n 0, 0, ?_, ?_, up_s, rfl⟩
      · simp only [x_b1s, x_b2s, x_b3s, x_b4s, x_tvn, x_tvs, up_s, Int.reduceEq, Int.reduceLE, reduceIte]
        rw [if_neg hb, c2, x_b1s, x_b1s]
      · simp only [x_b1s, x_b2s, x_b3s, x_b4s, x_tvn, x_tvs, up_s, Int.reduceEq, Int.reduceLE, reduceIte]
        rw [x_up1, c3, x_b2s, if_neg hb, x_b1s]
  · rw [if_neg h0, if_neg h0]
    exact ⟨.inr 1, 0, 1, rfl, rfl, rfl⟩
end Q16
