/-! A line of a law, both ways. -/
/-- what a line does to the halt and to the sum -/
def lsn (ka nu : Int) (b : Bool) (x : Int × Int) : Int × Int := if b then (if x.1 = 0 then (if ka = 2 then 1 else 0) else 1, x_add x.2 (if ka = 0 then x_neg nu else nu)) else x
/-- the reference behind the head of a line -/
def rRest (v4 v13 : Int) (S14 : xU) : Option xU := (if (S14 0 12) = (-1) then (x_b2 (G12_has 20 S14) fun (v19 : Int) (S20 : xU) => (x_b2 (if v19 = 0 then (some (1, S20)) else (x_b2 (G12_some S20) fun (v25 : Int) (S26 : xU) => (if v25 = 0 then (some (0, S26)) else (some (1, S26))))) fun (v22 : Int) (S23 : xU) => (if (S23 0 12) = (-1) then (if v22 = 0 then (some S23) else (x_b1 (if (S23 0 17) = 0 then (if v4 = 2 then (some 1) else (some 0)) else (some 1)) fun (v28 : Int) => (x_gd (v28 = 0 ∨ v28 = 1) (x_b1 (if v4 = 0 then (some (x_neg v13)) else (some v13)) fun (v30 : Int) => (some (x_up (x_up S23 0 17 v28) 0 18 (x_add ((x_up S23 0 17 v28) 0 18) v30))))))) else (some S23)))) else (some S14))
/-- the class behind the head of a line -/
def cRest (v4 v5 : Int) (T6 Lb : xU) : Option (xU × xU) := (x_b1 (G10_isRight T6) fun (v19 : Int) => (x_b2 (if v19 = 0 then (some (T6, Lb)) else (x_b2 (G10_takeWord 20 T6) fun (v24 : Int) (T25 : xU) => (if v24 = 0 then (some (T25, Lb)) else (x_b2 (G5_readAny 0 T25 Lb) fun (T27 : xU) (Lb28 : xU) => (some (T27, Lb28)))))) fun (T21 : xU) (Lb22 : xU) => (x_b1 (G4_addLine v4 v5 Lb22) fun (Lb30 : xU) => (some (T21, Lb30)))))
/-- where a line of the reference ends -/
def lst (S : xU) (p : Nat) (x : Int × Int) : xU := x_up (x_up (x_up S 0 11 (p : Int)) 0 17 x.1) 0 18 x.2
/-- a line's code and its condition -/
def EvN (u : (Nat → Int) → Bool) (Lb : xU) (e0 e1 : Nat) : Prop := ∀ (La : xU) (c : Nat → Int), (∀ i, e0 ≤ i → i < e1 → La 4 i = Lb 4 i) → Cc c La → e1 ≤ 400 → G4_holds (e0 : Int) (e1 : Int) La = some (bI (u c))
theorem holds_end {La : xU} {e1 : Nat} {v1 v2 v3 : Int} (h : e1 ≤ 400) : G4_holds_L11 (e1 : Int) La (v1, v2, v3, (e1 : Int)) = some (.inr v1) := by
  rw [G4_holds_L11, if_neg (by omega), if_pos (by omega)]
theorem holds_fin {v : Nat} {b : Bool} (h : v = 2 * (v / 2) + b.toNat) : (x_b1 (if (x_and (v : Int) 1) = 0 then (some 0) else (some (1 : Int))) fun (v22 : Int) => (x_gd (v22 = 0 ∨ v22 = 1) (some v22))) = some (bI b) := by
  have hb := b_lt b
  have e : x_and (v : Int) 1 = bI b := by
    rw [z_and1, n_b2]; omega
  rw [e]
  cases b <;> rfl
theorem EvB.n {u : (Nat → Int) → Bool} {Lb : xU} {e0 e1 : Nat} (h01 : e0 ≤ e1) (h : EvB u 2 Lb e0 e1) : EvN u Lb e0 e1 := by
  intro La c hh hc hb4
  obtain ⟨f', k⟩ := h La c e1 1 0 hh hc (Nat.le_refl _) hb4 (by decide)
  have w : whl xFU (G4_holds_L11 (e1 : Int) La) (1, 0, 0, (e0 : Int)) = some ((2 * 1 + (u c).toNat : Nat) : Int) := by
    rw [show xFU = (e1 - e0) + ((xFU - (e1 - e0) - 1) + 1) by unfold xFU; omega]
    have := k ((xFU - (e1 - e0) - 1) + 1)
    rw [whl_r (holds_end hb4)] at this
    exact this
  rw [G4_holds, w, x_b1s]
  exact holds_fin (by have := b_lt (u c); omega)
theorem EvN.no {Lb : xU} {e0 : Nat} : EvN (fun _ => true) Lb e0 e0 := by
  intro La c _ _ hb4
  have w : whl xFU (G4_holds_L11 (e0 : Int) La) (1, 0, 0, (e0 : Int)) = some ((1 : Nat) : Int) := by
    rw [show xFU = (xFU - 1) + 1 from rfl, whl_r (holds_end hb4)]; rfl
  rw [G4_holds, w, x_b1s]
  exact holds_fin rfl
theorem EvN.c {u : (Nat → Int) → Bool} {L1 L2 : xU} {e0 e1 : Nat} (h : EvN u L1 e0 e1) (hh : ∀ i, e0 ≤ i → i < e1 → L2 4 i = L1 4 i) : EvN u L2 e0 e1 :=
  fun La c h1 => h La c (fun i i0 i1 => (h1 i i0 i1).trans (hh i i0 i1))
section LIL
variable {n : Nat} {bt : Nat → Int} {q : Nat}
/-- a line is written down -/
theorem c_line {a b : Int} {Lb : xU} {j e : Nat} (h6 : Lb 0 6 = (j : Int)) (h5 : Lb 0 5 = (e : Int)) (hj : j < 12) : ∃ Lb', G4_addLine a b Lb = some Lb' ∧ Lb' 0 5 = (e : Int) ∧ Lb' 0 6 = ((j + 1 : Nat) : Int) ∧ Lb' 1 j = a ∧ Lb' 2 j = b ∧ Lb' 3 j = (e : Int) ∧ (∀ i, i ≠ j → Lb' 1 i = Lb 1 i ∧ Lb' 2 i = Lb 2 i ∧ Lb' 3 i = Lb 3 i) ∧ Lb' 4 = Lb 4 := by
  have a6 : ∀ (Z : xU) (o i : Nat) (v : Int), 0 ≠ o → x_up Z o i v 0 6 = Z 0 6 := fun Z o i v h => congrFun (up_o h) _
  have a5 : ∀ (Z : xU) (o i : Nat) (v : Int), 0 ≠ o → x_up Z o i v 0 5 = Z 0 5 := fun Z o i v h => congrFun (up_o h) _
  rw [G4_addLine, h6, if_neg (by omega), if_neg (by omega), x_gd_t ⟨by omega, by omega⟩, a6 _ _ _ _ (by decide), h6, x_gd_t ⟨by omega, by omega⟩, a6 _ _ _ _ (by decide), a6 _ _ _ _ (by decide), h6, x_gd_t ⟨by omega, by omega⟩, Int.toNat_natCast, a5 _ _ _ _ (by decide), a5 _ _ _ _ (by decide), h5, a6 _ _ _ _ (by decide), a6 _ _ _ _ (by decide), a6 _ _ _ _ (by decide), h6, n_inc (by omega), x_b1s]
  refine ⟨_, rfl, ?_, up_s, ?_, ?_, ?_, ?_, ?_⟩
  · rw [up_i (by decide), a5 _ _ _ _ (by decide), a5 _ _ _ _ (by decide), a5 _ _ _ _ (by decide), h5]
  · rw [up_o (by decide), up_o (by decide), up_o (by decide), up_s]
  · rw [up_o (by decide), up_o (by decide), up_s]
  · rw [up_o (by decide), up_s]
  · intro i hi
    refine ⟨?_, ?_, ?_⟩
    · rw [up_o (by decide), up_o (by decide), up_o (by decide), up_i hi]
    · rw [up_o (by decide), up_o (by decide), up_i hi, up_o (by decide)]
    · rw [up_o (by decide), up_i hi, up_o (by decide), up_o (by decide)]
  · rw [up_o (by decide), up_o (by decide), up_o (by decide), up_o (by decide)]
theorem c_lined {a b : Int} {Lb : xU} : ∃ Lb', G4_addLine a b Lb = some Lb' := by
  rw [G4_addLine]
  by_cases h1 : Lb 0 6 < 0
  · rw [if_pos h1]; exact ⟨_, rfl⟩
  · rw [if_neg h1]
    by_cases h2 : 12 ≤ Lb 0 6
    · rw [if_pos h2]; exact ⟨_, rfl⟩
    · obtain ⟨j, hj⟩ := Int.eq_ofNat_of_zero_le (show 0 ≤ Lb 0 6 by omega)
      have a6 : ∀ (Z : xU) (o i : Nat) (v : Int), 0 ≠ o → x_up Z o i v 0 6 = Z 0 6 := fun Z o i v h => congrFun (up_o h) _
      rw [if_neg h2, x_gd_t ⟨by omega, by omega⟩, a6 _ _ _ _ (by decide), x_gd_t ⟨by omega, by omega⟩, a6 _ _ _ _ (by decide), a6 _ _ _ _ (by decide), x_gd_t ⟨by omega, by omega⟩]
      exact ⟨_, rfl⟩
/-- what the class has written after a line -/
def LnC (Lb Lb' : xU) (j e0 e1 : Nat) (ka nu : Int) : Prop := Lb' 0 5 = (e1 : Int) ∧ Lb' 0 6 = ((j + 1 : Nat) : Int) ∧ Lb' 1 j = ka ∧ Lb' 2 j = nu ∧ Lb' 3 j = (e1 : Int) ∧ (∀ i, i ≠ j → Lb' 1 i = Lb 1 i ∧ Lb' 2 i = Lb 2 i ∧ Lb' 3 i = Lb 3 i) ∧ ∀ i, i < e0 ∨ e1 ≤ i → Lb' 4 i = Lb 4 i
/-- a line's rest -/
theorem s_rest {p1 : Nat} {ka nu : Int} (hn : n ≤ 400) (h1 : p1 ≤ n) (hka : 0 ≤ ka ∧ ka ≤ 2) :
    (∃ p u, p1 ≤ p ∧ p ≤ n ∧ (∀ S c, RS n bt (sk n bt p1) 0 S c → rRest ka nu S = some (lst S p (lsn ka nu (u c) (S 0 17, S 0 18)))) ∧
      (∀ T Lb (e0 j : Nat), TK n bt T (sk n bt p1) (-1) → Lb 0 5 = (e0 : Int) → Lb 0 6 = (j : Int) → j < 12 → e0 + p ≤ 400 + p1 → ∃ T' Lb' e1, cRest ka nu T Lb = some (T', Lb') ∧ TK n bt T' (sk n bt p) (-1) ∧ e1 + p1 ≤ e0 + p ∧ e0 ≤ e1 ∧ LnC Lb Lb' j e0 e1 ka nu ∧ EvN u Lb' e0 e1) ∧
      ∀ T Lb, TK n bt T (sk n bt p1) (-1) → ∃ T' Lb', cRest ka nu T Lb = some (T', Lb') ∧ TK n bt T' (sk n bt p) (-1)) ∨
    ∃ f : Nat, (∀ S c, RS n bt (sk n bt p1) 0 S c → ∃ S', rRest ka nu S = some S' ∧ S' 0 12 = (f : Int) ∧ F3 S S' ∧ 0 ≤ S' 0 11) ∧
      ∀ T Lb, TK n bt T (sk n bt p1) (-1) → ∃ T' Lb' q', cRest ka nu T Lb = some (T', Lb') ∧ TK n bt T' q' (f : Int) := by
  have hq1 := sk_le (bt := bt) h1
  have hq0 := sk_ge (n := n) (bt := bt) (q := p1)
  generalize hqq : sk n bt p1 = q at *
  have hle := en_le (n := n) (bt := bt) hq1
  -- when it holds, and when not
  have fin : ∀ S (p : Nat) (u : Bool), x_up S 0 11 (p : Int) 0 12 = -1 → (if (x_up S 0 11 (p : Int) 0 12) = (-1) then (if bI u = 0 then (some (x_up S 0 11 (p : Int))) else (x_b1 (if (x_up S 0 11 (p : Int) 0 17) = 0 then (if ka = 2 then (some 1) else (some 0)) else (some (1 : Int))) fun (v28 : Int) => (x_gd (v28 = 0 ∨ v28 = 1) (x_b1 (if ka = 0 then (some (x_neg nu)) else (some nu)) fun (v30 : Int) => (some (x_up (x_up (x_up S 0 11 (p : Int)) 0 17 v28) 0 18 (x_add ((x_up (x_up S 0 11 (p : Int)) 0 17 v28) 0 18) v30))))))) else (some (x_up S 0 11 (p : Int)))) = some (lst S p (lsn ka nu u (S 0 17, S 0 18))) := by
    intro S p u h12
    have e17 : x_up S 0 11 (p : Int) 0 17 = S 0 17 := up_i (by decide)
    have e18 : ∀ v : Int, x_up (x_up S 0 11 (p : Int)) 0 17 v 0 18 = S 0 18 := fun v => by rw [up_i (by decide), up_i (by decide)]
    rw [if_pos h12, e17]
    cases u with
    | false =>
      rw [if_pos (show bI false = 0 from rfl)]
      show some _ = some (x_up (x_up (x_up S 0 11 (p : Int)) 0 17 (S 0 17)) 0 18 (S 0 18))
      rw [up_id (S := x_up S 0 11 (p : Int)) (up_i (by decide)), up_id (S := x_up S 0 11 (p : Int)) (up_i (by decide))]
    | true =>
      rw [if_neg (show ¬ bI true = 0 by decide)]
      have ea : (if S 0 17 = 0 then (if ka = 2 then (some 1) else (some 0)) else (some (1 : Int))) = some (if S 0 17 = 0 then (if ka = 2 then 1 else 0) else 1) := by
        by_cases a : S 0 17 = 0
        · rw [if_pos a, if_pos a]
          by_cases b : ka = 2
          · rw [if_pos b, if_pos b]
          · rw [if_neg b, if_neg b]
        · rw [if_neg a, if_neg a]
      have eb : (if ka = 0 then (some (x_neg nu)) else (some nu)) = some (if ka = 0 then x_neg nu else nu) := by
        by_cases a : ka = 0
        · rw [if_pos a, if_pos a]
        · rw [if_neg a, if_neg a]
      have ec : (if S 0 17 = 0 then (if ka = 2 then (1 : Int) else 0) else 1) = 0 ∨ (if S 0 17 = 0 then (if ka = 2 then (1 : Int) else 0) else 1) = 1 := by
        by_cases a : S 0 17 = 0
        · rw [if_pos a]
          by_cases b : ka = 2
          · rw [if_pos b]; exact .inr rfl
          · rw [if_neg b]; exact .inl rfl
        · rw [if_neg a]; exact .inr rfl
      rw [ea, x_b1s, x_gd_t ec, eb, x_b1s, e18]
      rfl
  by_cases w : wm n bt 20 q = true
  · have ene : en n bt q = q + 2 := (of_decide_eq_true w).2.1
    have hge := sk_ge (n := n) (bt := bt) (q := en n bt q)
    have refq : ∀ S c, RS n bt q 0 S c → rRest ka nu S = x_b2 (G12_some (x_up S 0 11 (en n bt q : Int))) fun (v25 : Int) (S26 : xU) => (x_b2 (if v25 = 0 then (some ((0 : Int), S26)) else (some (1, S26))) fun (v22 : Int) (S23 : xU) => (if (S23 0 12) = (-1) then (if v22 = 0 then (some S23) else (x_b1 (if (S23 0 17) = 0 then (if ka = 2 then (some 1) else (some 0)) else (some (1 : Int))) fun (v28 : Int) => (x_gd (v28 = 0 ∨ v28 = 1) (x_b1 (if ka = 0 then (some (x_neg nu)) else (some nu)) fun (v30 : Int) => (some (x_up (x_up S23 0 17 v28) 0 18 (x_add ((x_up S23 0 17 v28) 0 18) v30))))))) else (some S23))) := by
      intro S c hS
      rw [rRest, if_pos hS.2.1, hS.has hn (by decide), if_pos w, x_b2s, if_neg (show ¬ (1 : Int) = 0 by decide), x_b22]
    have clsq : ∀ T Lb, TK n bt T q (-1) → ∃ T25, TK n bt T25 (sk n bt (en n bt q)) (-1) ∧ cRest ka nu T Lb = x_b2 (G5_readAny 0 T25 Lb) fun (T27 : xU) (Lb28 : xU) => (x_b1 (G4_addLine ka nu Lb28) fun (Lb30 : xU) => (some (T27, Lb30))) := by
      intro T Lb hT
      obtain ⟨T25, k1, k2⟩ := c_takeWord (k := 20) hn hT
      rw [if_pos w] at k2
      refine ⟨T25, k2, ?_⟩
      rw [cRest, c_isRight hT, if_pos rfl, x_b1s, if_neg (show ¬ (1 : Int) = 0 by decide), k1, if_pos w, x_b2s, if_neg (show ¬ (1 : Int) = 0 by decide), x_b22]
      rfl
    rcases s_any (n := n) (bt := bt) hn (sk_le hle) (sk_kA hle) with ⟨p, u, g1, g2, o1, o2, o3⟩ | ⟨f, b1, b2⟩
    · left
      refine ⟨p, u, by omega, g2, ?_, ?_, ?_⟩
      · intro S c hS
        rw [refq S c hS, o1 _ c (hS.mv hle), x_b2s, up_up]
        have e01 : (if bI (u c) = 0 then (some ((0 : Int), x_up S 0 11 (p : Int))) else (some (1, x_up S 0 11 (p : Int)))) = some (bI (u c), x_up S 0 11 (p : Int)) := by cases u c <;> rfl
        rw [e01, x_b2s]
        exact fin S p (u c) ((up_i (by decide)).trans hS.2.1)
      · intro T Lb e0 j hT he hj hj2 hb
        obtain ⟨T25, k1, k2⟩ := clsq T Lb hT
        obtain ⟨T', L1, e1, r1, r2, r3, r4, r5, r6⟩ := o2 T25 Lb e0 k1 he (by omega)
        obtain ⟨L2, s1, s2, s3, s4, s5, s6, s7, s8⟩ := c_line (a := ka) (b := nu) ((r5.2.1 6 (by decide)).trans hj) r5.1 hj2
        rw [k2, show G5_readAny 0 T25 Lb = _ from r1, x_b2s, s1, x_b1s]
        refine ⟨T', L2, e1, rfl, r2, by omega, r4, ⟨s2, s3, s4, s5, s6, fun i hi => ?_, fun i hi => ?_⟩, ?_⟩
        · have := s7 i hi
          rw [r5.2.2.1 1 (by decide) (by decide), r5.2.2.1 2 (by decide) (by decide), r5.2.2.1 3 (by decide) (by decide)] at this
          exact this
        · rw [s8]; exact r5.2.2.2 i hi
        · exact (r6.n r4).c (fun i _ _ => by rw [s8])
      · intro T Lb hT
        obtain ⟨T25, k1, k2⟩ := clsq T Lb hT
        obtain ⟨T', L1, r1, r2⟩ := o3 T25 Lb k1
        obtain ⟨L2, s1⟩ := c_lined (a := ka) (b := nu) (Lb := L1)
        rw [k2, show G5_readAny 0 T25 Lb = _ from r1, x_b2s, s1, x_b1s]
        exact ⟨T', L2, rfl, r2⟩
    · right
      refine ⟨f, ?_, ?_⟩
      · intro S c hS
        obtain ⟨v, S', w1, w2, w3, w4, w5, w6⟩ := b1 _ c (hS.mv hle)
        have e01 : ∃ b : Int, (if v = 0 then (some ((0 : Int), S')) else (some (1, S'))) = some (b, S') := by
          by_cases y : v = 0
          · exact ⟨0, if_pos y⟩
          · exact ⟨1, if_neg y⟩
        obtain ⟨b, hb⟩ := e01
        rw [refq S c hS, w1, x_b2s, hb, x_b2s, if_neg (by rw [w3]; omega)]
        exact ⟨S', rfl, w3, (F3.u (.inl rfl)).tr w4, w5⟩
      · intro T Lb hT
        obtain ⟨T25, k1, k2⟩ := clsq T Lb hT
        obtain ⟨T', L1, q', r1, r2⟩ := b2 T25 Lb k1
        obtain ⟨L2, s1⟩ := c_lined (a := ka) (b := nu) (Lb := L1)
        rw [k2, show G5_readAny 0 T25 Lb = _ from r1, x_b2s, s1, x_b1s]
        exact ⟨T', L2, q', rfl, r2⟩
  · left
    have hidq : sk n bt q = q := by rw [← hqq]; exact sk_id (sk_kA h1)
    have clsq : ∀ T Lb, TK n bt T q (-1) → ∃ T25, TK n bt T25 q (-1) ∧ cRest ka nu T Lb = x_b1 (G4_addLine ka nu Lb) fun (Lb30 : xU) => (some (T25, Lb30)) := by
      intro T Lb hT
      obtain ⟨T25, k1, k2⟩ := c_takeWord (k := 20) hn hT
      rw [if_neg w] at k2
      refine ⟨T25, k2, ?_⟩
      rw [cRest, c_isRight hT, if_pos rfl, x_b1s, if_neg (show ¬ (1 : Int) = 0 by decide), k1, if_neg w, x_b2s, if_pos rfl, x_b2s]
    refine ⟨q, fun _ => true, hq0, hq1, ?_, ?_, ?_⟩
    · intro S c hS
      rw [rRest, if_pos hS.2.1, hS.has hn (by decide), if_neg w, x_b2s, if_pos rfl, x_b2s]
      exact fin S q true ((up_i (by decide)).trans hS.2.1)
    · intro T Lb e0 j hT he hj hj2 hb
      obtain ⟨T25, k1, k2⟩ := clsq T Lb hT
      obtain ⟨L2, s1, s2, s3, s4, s5, s6, s7, s8⟩ := c_line (a := ka) (b := nu) hj he hj2
      rw [k2, s1, x_b1s, hidq]
      exact ⟨T25, L2, e0, rfl, k1, by omega, Nat.le_refl _, ⟨s2, s3, s4, s5, s6, s7, fun i _ => by rw [s8]⟩, EvN.no⟩
    · intro T Lb hT
      obtain ⟨T25, k1, k2⟩ := clsq T Lb hT
      obtain ⟨L2, s1⟩ := c_lined (a := ka) (b := nu) (Lb := Lb)
      rw [k2, s1, x_b1s, hidq]
      exact ⟨T25, L2, rfl, k1⟩
end LIL
