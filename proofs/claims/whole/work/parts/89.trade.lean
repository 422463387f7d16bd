/-! Stalls changed: the rounds. -/
theorem pc_dif {v w : Nat} (hsub : sub w v) {s : Nat} (hs : s < 12) (hw : w.testBit s = true) : pc (dif v w) + 1 ≤ pc v := by
  refine pc_lt (s := s) hs (hsub s hw) (by rw [dif_bit, hw]; cases v.testBit s <;> rfl) fun i _ h => ?_
  rw [dif_bit, Bool.and_eq_true] at h
  exact h.1
/-- the rings' members -/
def rgm (F : Nat → Nat) (v : Nat) (k : Nat) : Nat := fo (fun j w => if v.testBit j then (if rg F j 7 j 1 = 0 then w else w ||| 2 ^ j) else w) 0 k
theorem rgm_s {F : Nat → Nat} {v k : Nat} : rgm F v (k + 1) = if v.testBit k then (if rg F k 7 k 1 = 0 then rgm F v k else rgm F v k ||| 2 ^ k) else rgm F v k := rfl
theorem rgm_bit {F : Nat → Nat} {v : Nat} : ∀ k j, (rgm F v k).testBit j = true ↔ (j < k ∧ v.testBit j = true ∧ rg F j 7 j 1 ≠ 0) := by
  intro k
  induction k with
  | zero =>
    intro j
    rw [show rgm F v 0 = 0 from rfl, Nat.zero_testBit]
    exact ⟨fun h => (nomatch h), fun h => absurd h.1 (by omega)⟩
  | succ k ih =>
    intro j
    rw [rgm_s]
    cases hb : v.testBit k with
    | false =>
      rw [if_neg Bool.false_ne_true, ih]
      constructor
      · rintro ⟨h1, h2⟩; exact ⟨by omega, h2⟩
      · rintro ⟨h1, h2, h3⟩
        refine ⟨?_, h2, h3⟩
        by_cases e : j = k
        · subst e; rw [hb] at h2; cases h2
        · omega
    | true =>
      rw [if_pos rfl]
      by_cases z : rg F k 7 k 1 = 0
      · rw [if_pos z, ih]
        constructor
        · rintro ⟨h1, h2⟩; exact ⟨by omega, h2⟩
        · rintro ⟨h1, h2, h3⟩
          refine ⟨?_, h2, h3⟩
          by_cases e : j = k
          · subst e; exact absurd z h3
          · omega
      · rw [if_neg z, Nat.testBit_or, Nat.testBit_two_pow, Bool.or_eq_true, ih]
        constructor
        · rintro (⟨h1, h2⟩ | h)
          · exact ⟨by omega, h2⟩
          · have := of_decide_eq_true h
            subst this
            exact ⟨by omega, hb, z⟩
        · rintro ⟨h1, h2, h3⟩
          by_cases e : k = j
          · exact .inr (decide_eq_true e)
          · exact .inl ⟨by omega, h2, h3⟩
theorem rgm_lt {F : Nat → Nat} {v : Nat} (h : v < 128) {k : Nat} : rgm F v k < 128 := by
  have hs : sub (rgm F v k) v := fun j hj => ((rgm_bit k j).mp hj).2.1
  have := sub_le hs
  omega
section TRA
variable {N S St : xU} {sl : Nat → Nat} {n : Nat}
/-- where both stand: those not in v have been given theirs -/
def Tr (n v : Nat) (St S : xU) : Prop := ∀ p, p < n → v.testBit p = false → St 3 p = S 12 p ∧ St 4 p = S 13 p
theorem s_round {v : Nat} (h : CR N (S 1)) (hi : Iv (S 1)) (hn : n ≤ 7) (e : S 1 3 = (n : Int)) (hs : ∀ p, p < n → S 1 (18 + 8 * p) = (sl p : Int)) (h12 : ∀ p, p < n → sl p < 12) (hv : v < 2 ^ n) (hv0 : v ≠ 0) (hT : Tr n v St S) {c : Nat} (hc : c < 7) :
    ∃ (v' : Nat) (St' S' : xU), G9_tradeAll_L11 N ((v : Int), (c : Int), St) = some (.inl ((v' : Int), ((c + 1 : Nat) : Int), St')) ∧ G12_trades_L5 ((v : Int), S) = some (.inl ((v' : Int), S')) ∧ v' < 2 ^ n ∧ pc v' + 1 ≤ pc v ∧ Tr n v' St' S' ∧ ∀ o, o ≠ 12 → o ≠ 13 → S' o = S o := by
  have p7 : 2 ^ n ≤ 2 ^ 7 := Nat.pow_le_pow_right (by decide) hn
  have hv7 : v < 128 := by omega
  have h3 : N 0 3 = (n : Int) := h.1.1.trans e
  obtain ⟨w0, hw0, hb0, _⟩ := low_ex hv hv0
  have hpt : ∀ i, ∃ q, q < n ∧ ptg (S 1) sl v i n = (q : Int) ∧ v.testBit q = true := fun i => by
    rcases ptg_in (m := S 1) (sl := sl) (v := v) (i := i) n with ⟨_, hno⟩ | hyes
    · have := hno w0 hw0; rw [hb0] at this; cases this
    · exact hyes
  let F : Nat → Nat := fun i => (ptg (S 1) sl v i n).toNat
  have hFe : ∀ i, ptg (S 1) sl v i n = (F i : Int) := fun i => by
    obtain ⟨q, _, q2, _⟩ := hpt i
    show _ = ((ptg (S 1) sl v i n).toNat : Int)
    rw [q2]; rfl
  have hF : ∀ i, F i < n ∧ v.testBit (F i) = true := fun i => by
    obtain ⟨q, q1, q2, q3⟩ := hpt i
    have : F i = q := by
      show (ptg (S 1) sl v i n).toNat = q
      rw [q2]; rfl
    rw [this]; exact ⟨q1, q3⟩
  have w24 : whl xFU (G9_tradeAll_L24 N (v : Int)) (0, St) = some (fll St 2 (fun p => (F p : Int)) n) := by
    have e0 : ((0 : Int), St) = (((0 : Nat) : Int), fll St 2 (fun p => (F p : Int)) 0) := by rw [fll_0]; rfl
    rw [e0]
    refine w_run (fun p => ((p : Int), fll St 2 (fun p => (F p : Int)) p)) n (by unfold xFU; omega) (fun p hp => ?_) (by rw [G9_tradeAll_L24, h3, if_pos (Int.le_refl _)])
    rw [G9_tradeAll_L24, h3, if_neg (by omega), if_neg (by omega), c_pointer h hi hn e hs h12 hp rfl hv7 (by rw [hFe]; omega), x_b1s, x_gd_t ⟨by omega, by omega⟩, Int.toNat_natCast, hFe, n_inc (by omega), fll_s (f := fun p => (F p : Int))]
  have zW : ∃ r1 r2, whl xFU (G9_tradeAll_L67 N (v : Int)) (0, 0, fll St 2 (fun p => (F p : Int)) n) = some r1 ∧ whl xFU (G12_trades_L13 (v : Int)) (0, 0, S) = some r2 ∧ (∃ (A B : xU), r1 = (((rgm F v n : Nat) : Int), A) ∧ r2 = (((rgm F v n : Nat) : Int), B) ∧ (∀ o, o ≠ 12 → o ≠ 13 → B o = S o) ∧ ∀ p, p < n → (v.testBit p = false ∨ (rgm F v n).testBit p = true) → A 3 p = B 12 p ∧ A 4 p = B 13 p) := by
    refine w_sim (fun j s1 s2 => ∃ (A B : xU), s1 = (((rgm F v j : Nat) : Int), (j : Int), A) ∧ s2 = (((rgm F v j : Nat) : Int), (j : Int), B) ∧ (∀ p, p < n → A 2 p = (F p : Int)) ∧ (∀ o, o ≠ 12 → o ≠ 13 → B o = S o) ∧ ∀ p, p < n → (v.testBit p = false ∨ (rgm F v j).testBit p = true) → A 3 p = B 12 p ∧ A 4 p = B 13 p)
      (fun (r1 r2 : Int × xU) => ∃ (A B : xU), r1 = (((rgm F v n : Nat) : Int), A) ∧ r2 = (((rgm F v n : Nat) : Int), B) ∧ (∀ o, o ≠ 12 → o ≠ 13 → B o = S o) ∧ ∀ p, p < n → (v.testBit p = false ∨ (rgm F v n).testBit p = true) → A 3 p = B 12 p ∧ A 4 p = B 13 p) n (by unfold xFU; omega) ?_ ?_ ⟨_, S, rfl, rfl, fun p hp => fll_i hp, fun o _ _ => rfl, ?_⟩
    · rintro j s1 s2 hj ⟨A, B, rfl, rfl, hA, hB, hE⟩
      have b1 : B 1 = S 1 := hB 1 (by decide) (by decide)
      have hrl := rgm_lt (F := F) hv7 (k := j)
      have hP : ∀ w, w < n → G12_pointsTo (w : Int) (v : Int) B = some (F w : Int) := fun w hw => by
        have zq := r_points (S := B) (v := v) (i := w) (n := n) (sl := sl) (by rw [b1]; exact hi) hn (by rw [b1]; exact e) (by rw [b1]; exact hs) h12 hw hv7
        rw [b1, hFe] at zq
        exact zq
      have hFl : ∀ w, w < n → F w < n := fun w _ => (hF w).1
      have rle := rg_le (F := F) (a := j) 7 j 1
      cases hb : v.testBit j with
      | false =>
        have er : rgm F v (j + 1) = rgm F v j := by rw [rgm_s, hb, if_neg Bool.false_ne_true]
        refine ⟨_, _, ?_, ?_, A, B, rfl, rfl, hA, hB, by rw [er]; exact hE⟩
        · rw [G9_tradeAll_L67, h3, if_neg (by omega), if_neg (by omega), g11_hold (R32n (by omega)) (by omega), x_b1s, ib_nat, hb, if_neg Bool.false_ne_true, if_pos rfl, x_b1s, if_pos (Int.le_refl _), x_b2s, n_inc (by omega), er]
        · rw [G12_trades_L13, b1, e, if_neg (by omega), g12_isOf (R32n (by omega)) (by omega), x_b1s, ib_nat, hb, if_neg Bool.false_ne_true, if_pos rfl, x_b1s, if_pos rfl, x_b2s, n_inc (by omega), er]
      | true =>
        have c0 := c_ringOf (St := A) (F := F) hn hj hFl hA
        have r0 := r_ringOf (S := B) (v := v) (F := F) hn hj hFl hP
        by_cases z : rg F j 7 j 1 = 0
        · have er : rgm F v (j + 1) = rgm F v j := by rw [rgm_s, hb, if_pos rfl, if_pos z]
          rw [z] at c0
          rw [if_pos z] at r0
          refine ⟨_, _, ?_, ?_, A, B, rfl, rfl, hA, hB, by rw [er]; exact hE⟩
          · rw [G9_tradeAll_L67, h3, if_neg (by omega), if_neg (by omega), g11_hold (R32n (by omega)) (by omega), x_b1s, ib_nat, hb, if_pos rfl, if_neg (by decide), c0, x_b1s, x_b1s, if_pos (show ((0 : Nat) : Int) ≤ 0 by decide), x_b2s, n_inc (by omega), er]
          · rw [G12_trades_L13, b1, e, if_neg (by omega), g12_isOf (R32n (by omega)) (by omega), x_b1s, ib_nat, hb, if_pos rfl, if_neg (by decide), r0, x_b1s, x_b1s, if_pos rfl, x_b2s, n_inc (by omega), er]
        · have er : rgm F v (j + 1) = rgm F v j ||| 2 ^ j := by rw [rgm_s, hb, if_pos rfl, if_neg z]
          rw [if_neg z] at r0
          have p12 : 2 ^ j < 2 ^ 7 := Nat.pow_lt_pow_right (by decide) (by omega)
          refine ⟨_, _, ?_, ?_, x_up (x_up A 3 j (F j : Int)) 4 j ((rg F j 7 j 1 : Nat) : Int), x_up (x_up B 12 j (F j : Int)) 13 j ((rg F j 7 j 1 : Nat) : Int), rfl, rfl, fun p hp => ?_, fun o o1 o2 => ?_, fun p hp hh => ?_⟩
          · rw [G9_tradeAll_L67, h3, if_neg (by omega), if_neg (by omega), g11_hold (R32n (by omega)) (by omega), x_b1s, ib_nat, hb, if_pos rfl, if_neg (by decide), c0, x_b1s, x_b1s, if_neg (by omega), x_gd_t ⟨by omega, by omega⟩, x_gd_t ⟨by omega, by omega⟩, x_gd_t ⟨by omega, by omega⟩, Int.toNat_natCast, hA j hj, n_shl1 j (by omega), n_or (by omega) (by omega), x_b2s, n_inc (by omega), er]
          · rw [G12_trades_L13, b1, e, if_neg (by omega), g12_isOf (R32n (by omega)) (by omega), x_b1s, ib_nat, hb, if_pos rfl, if_neg (by decide), r0, x_b1s, x_b1s, if_neg (by omega), hP j hj, x_b1s, x_gd_t ⟨by omega, by omega⟩, x_gd_t ⟨by omega, by omega⟩, Int.toNat_natCast, n_shl1 j (by omega), n_or (by omega) (by omega), x_b2s, n_inc (by omega), er]
          · rw [up_o (by decide), up_o (by decide)]; exact hA p hp
          · rw [up_o o2, up_o o1]; exact hB o o1 o2
          · by_cases ep : p = j
            · subst ep
              constructor
              · rw [up_o (by decide), up_s, up_o (by decide), up_s]
              · rw [up_s, up_s]
            · have hh' : v.testBit p = false ∨ (rgm F v j).testBit p = true := by
                rcases hh with hh | hh
                · exact .inl hh
                · refine .inr ?_
                  rw [rgm_bit] at hh ⊢
                  exact ⟨by omega, hh.2⟩
              obtain ⟨g1, g2⟩ := hE p hp hh'
              constructor
              · rw [up_o (by decide), up_i ep, up_o (by decide), up_i ep]; exact g1
              · rw [up_i ep, up_o (by decide), up_i ep, up_o (by decide)]; exact g2
    · rintro s1 s2 ⟨A, B, rfl, rfl, hA, hB, hE⟩
      have b1 : B 1 = S 1 := hB 1 (by decide) (by decide)
      refine ⟨(((rgm F v n : Nat) : Int), A), (((rgm F v n : Nat) : Int), B), ?_, ?_, A, B, rfl, rfl, hB, hE⟩
      · rw [G9_tradeAll_L67, h3, if_pos (Int.le_refl _)]
      · rw [G12_trades_L13, b1, e, if_pos (Int.le_refl _)]
    · intro p hp hh
      rcases hh with hh | hh
      · obtain ⟨g1, g2⟩ := hT p hp hh
        rw [fll_o (by decide), fll_o (by decide)]
        exact ⟨g1, g2⟩
      · rw [rgm_bit] at hh; exact absurd hh.1 (by omega)
  obtain ⟨r1, r2, e1, e2, A, B, rfl, rfl, hB, hE⟩ := zW
  obtain ⟨b, hb1, hb2, hb3⟩ := rg_ex (F := F) (v := v) hn (fun w _ => hF w) hw0 hb0
  have hsub : sub (rgm F v n) v := fun j hj => ((rgm_bit n j).mp hj).2.1
  refine ⟨dif v (rgm F v n), A, B, ?_, ?_, dif_lt hv, pc_dif hsub (s := b) (by omega) ((rgm_bit n b).mpr ⟨hb1, hb2, hb3⟩), fun p hp hh => hE p hp ?_, hB⟩
  · rw [G9_tradeAll_L11, if_neg (by omega), if_neg (by omega), w24, x_b1s, e1, x_b2s, n_dif (by omega), n_inc (by omega)]
  · rw [G12_trades_L5, if_neg (by omega), e2, x_b2s, n_dif (by omega)]
  · rw [dif_bit] at hh
    cases hvp : v.testBit p with
    | false => exact .inl rfl
    | true =>
      rw [hvp] at hh
      cases hrp : (rgm F v n).testBit p with
      | true => exact .inr rfl
      | false => rw [hrp] at hh; cases hh
theorem s_rounds (hn : n ≤ 7) (h12 : ∀ p, p < n → sl p < 12) : ∀ (d c v k1 k2 : Nat) (St S : xU), CR N (S 1) → Iv (S 1) → S 1 3 = (n : Int) → (∀ p, p < n → S 1 (18 + 8 * p) = (sl p : Int)) → c + d = 7 → pc v ≤ d → v < 2 ^ n → d < k1 → d < k2 → Tr n v St S →
    ∃ St' S', whl k1 (G9_tradeAll_L11 N) ((v : Int), (c : Int), St) = some St' ∧ whl k2 G12_trades_L5 ((v : Int), S) = some S' ∧ Tr n 0 St' S' ∧ ∀ o, o ≠ 12 → o ≠ 13 → S' o = S o := by
  intro d
  induction d with
  | zero =>
    intro c v k1 k2 St S h hi e hs hc hp hv h1 h2 hT
    obtain ⟨k1, rfl⟩ : ∃ k', k1 = k' + 1 := ⟨k1 - 1, by omega⟩
    obtain ⟨k2, rfl⟩ : ∃ k', k2 = k' + 1 := ⟨k2 - 1, by omega⟩
    have v0 : v = 0 := by
      by_cases z : v = 0
      · exact z
      · obtain ⟨w0, hw0, hb0, _⟩ := low_ex hv z
        have := pc_lt (x := 0) (y := v) (s := w0) (by omega) hb0 (Nat.zero_testBit _) (fun i _ hi2 => by rw [Nat.zero_testBit] at hi2; cases hi2)
        omega
    subst v0
    exact ⟨St, S, whl_r (by rw [G9_tradeAll_L11, if_pos (by omega)]), whl_r (by rw [G12_trades_L5, if_pos (show ((0 : Nat) : Int) = 0 from rfl)]), hT, fun o _ _ => rfl⟩
  | succ d ih =>
    intro c v k1 k2 St S h hi e hs hc hp hv h1 h2 hT
    obtain ⟨k1, rfl⟩ : ∃ k', k1 = k' + 1 := ⟨k1 - 1, by omega⟩
    obtain ⟨k2, rfl⟩ : ∃ k', k2 = k' + 1 := ⟨k2 - 1, by omega⟩
    by_cases z : v = 0
    · subst z
      exact ⟨St, S, whl_r (by rw [G9_tradeAll_L11, if_neg (by omega), if_pos (show ((0 : Nat) : Int) = 0 from rfl)]), whl_r (by rw [G12_trades_L5, if_pos (show ((0 : Nat) : Int) = 0 from rfl)]), hT, fun o _ _ => rfl⟩
    · obtain ⟨v', St', S', g1, g2, g3, g4, g5, g6⟩ := s_round h hi hn e hs h12 hv z hT (c := c) (by omega)
      have s1 : S' 1 = S 1 := g6 1 (by decide) (by decide)
      rw [whl_l g1, whl_l g2]
      obtain ⟨St2, S2, q1, q2, q3, q4⟩ := ih (c + 1) v' k1 k2 St' S' (by rw [s1]; exact h) (by rw [s1]; exact hi) (by rw [s1]; exact e) (by rw [s1]; exact hs) (by omega) (by omega) g3 (by omega) (by omega) g5
      exact ⟨St2, S2, q1, q2, q3, fun o o1 o2 => by rw [q4 o o1 o2, g6 o o1 o2]⟩
theorem pc_7 {n : Nat} (hn : n ≤ 7) : pc (2 ^ n - 1) = n := by
  have : ∀ k : Nat, k < 8 → pc (2 ^ k - 1) = k := by decide
  exact this n (by omega)
theorem L_trade {a b : Int} (h : CR N (S 1)) (hi : Iv (S 1)) : ∃ o T' r S', G11_trade a b N St = some (o, T') ∧ G12_trade a b S = some (r, S') ∧ Ag (fun _ => 1) o r S' ∧ (∀ E, o = .inr E → E = 1) ∧ (∀ o, o ≠ 0 → o < 7 → S' o = S o) ∧ ∀ i, i ≠ 0 → S' 0 i = S 0 i := by
  obtain ⟨n, hn, e⟩ := hi.nn
  let sl : Nat → Nat := fun p => (S 1 (18 + 8 * p)).toNat
  have hs : ∀ p, p < n → S 1 (18 + 8 * p) = (sl p : Int) := fun p hp => by
    have := (hi.mk (p := p) (by omega)).2.2.1
    show S 1 (18 + 8 * p) = ((S 1 (18 + 8 * p)).toNat : Int)
    omega
  have h12 : ∀ p, p < n → sl p < 12 := fun p hp => by have := (hi.mk (p := p) (by omega)).2.2.1; rw [hs p hp] at this; omega
  have p2 := Nat.two_pow_pos n
  have p7 : 2 ^ n ≤ 2 ^ 7 := Nat.pow_le_pow_right (by decide) hn
  have h3 : N 0 3 = (n : Int) := h.1.1.trans e
  rw [G11_trade, G12_trade, g11_needMonk h, g12_isMonk hi.many]
  by_cases h0 : 0 ≤ a ∧ a < S 1 3
  · obtain ⟨A, rfl⟩ : ∃ A : Nat, a = (A : Int) := ⟨a.toNat, by omega⟩
    rw [if_pos h0, if_pos h0]
    simp only [x_b1s, x_b2s, x_tvn, x_tvs, up_s, Int.reduceEq, Int.reduceLE, reduceIte]
    obtain ⟨St', S', q1, q2, q3, q4⟩ := s_rounds (N := N) (n := n) (sl := sl) hn h12 7 0 (2 ^ n - 1) xFU xFU St (x_up S 0 0 0) (by rw [x_up1]; exact h) (by rw [x_up1]; exact hi) (by rw [x_up1]; exact e) (by rw [x_up1]; exact hs) (by omega) (by rw [pc_7 hn]; exact hn) (by omega) (by unfold xFU; omega) (by unfold xFU; omega) (fun p hp hh => by
      rw [Nat.testBit_two_pow_sub_one, decide_eq_true hp] at hh
      cases hh)
    have s00 : S' 0 0 = 0 := by rw [q4 0 (by decide) (by decide), up_s]
    have fr1 : ∀ o, o ≠ 0 → o < 7 → S' o = S o := fun o h0 h7 => by rw [q4 o (by omega) (by omega), up_o h0]
    have fr2 : ∀ i, i ≠ 0 → S' 0 i = S 0 i := fun i h0 => by rw [q4 0 (by decide) (by decide), up_i h0]
    have cT : G9_tradeAll N St = some St' := by
      rw [G9_tradeAll, h3, n_shl1 n (by omega), x_sub_of ⟨by omega, by omega⟩, show ((2 ^ n : Nat) : Int) - 1 = ((2 ^ n - 1 : Nat) : Int) by omega, show whl xFU (G9_tradeAll_L11 N) (((2 ^ n - 1 : Nat) : Int), 0, St) = _ from q1, x_b1s]
    have rT : G12_trades (x_up S 0 0 0) = some S' := by
      rw [G12_trades, g12_all hn (by rw [x_up1]; exact e), x_b1s, q2, x_b1s]
    have hA := q3 A (by omega) (Nat.zero_testBit _)
    rw [cT, rT, x_b1s, x_b1s]
    by_cases zb : b = 0
    · rw [if_pos zb, if_pos zb, G9_giverOf, if_neg (by omega), if_neg (by omega), x_gd_t ⟨by omega, by omega⟩, x_gd_t ⟨by omega, by omega⟩, Int.toNat_natCast, x_b1s, x_b1s, x_b1s, x_b1s, hA.1]
      exact ⟨_, _, _, _, rfl, rfl, ⟨s00, rfl⟩, fun E h => (nomatch h), fr1, fr2⟩
    · rw [if_neg zb, if_neg zb, G9_ringSizeOf, if_neg (by omega), if_neg (by omega), x_gd_t ⟨by omega, by omega⟩, x_gd_t ⟨by omega, by omega⟩, Int.toNat_natCast, x_b1s, x_b1s, x_b1s, x_b1s, hA.2]
      exact ⟨_, _, _, _, rfl, rfl, ⟨s00, rfl⟩, fun E h => (nomatch h), fr1, fr2⟩
  · rw [if_neg h0, if_neg h0]
    simp only [x_b1s, x_b2s, x_tvn, x_tvs, up_s, Int.reduceEq, Int.reduceLE, reduceIte]
    exact ⟨_, _, _, _, rfl, rfl, up_s, fun E h => by cases h; rfl, fun o h0 _ => up_o h0, fun i h0 => up_i h0⟩
end TRA
