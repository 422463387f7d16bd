/-! What a law asks at one place, both ways. -/
/-- code that leaves a truth -/
def EvB (u : (Nat → Int) → Bool) (B : Nat) (Lb : xU) (e0 e1 : Nat) : Prop := ∀ (La : xU) (c : Nat → Int) (b s : Nat) (f : Int), (∀ i, e0 ≤ i → i < e1 → La 4 i = Lb 4 i) → Cc c La → e1 ≤ b → b ≤ 400 → s < B → ∃ f', Sg (G4_holds_L11 (b : Int) La) ((s : Int), 0, f, (e0 : Int)) (((2 * s + (u c).toNat : Nat) : Int), 0, f', (e1 : Int)) (e1 - e0)
theorem EvB.c {u : (Nat → Int) → Bool} {B : Nat} {L1 L2 : xU} {e0 e1 : Nat} (h : EvB u B L1 e0 e1) (hh : ∀ i, e0 ≤ i → i < e1 → L2 4 i = L1 4 i) : EvB u B L2 e0 e1 :=
  fun La c b s f h1 => h La c b s f (fun i i0 i1 => (h1 i i0 i1).trans (hh i i0 i1))
/-- the class reads what is plain -/
def cPlain (T Lb : xU) : Option (xU × xU) := (x_b2 (G10_takeWord 24 T) fun (v22 : Int) (T23 : xU) => (x_b2 (if v22 = 0 then (x_b2 (G10_takeWord 25 T23) fun (v28 : Int) (T29 : xU) => (if v28 = 0 then (x_b2 (G5_readSum T29 Lb) fun (T31 : xU) (Lb32 : xU) => (x_b1 (G10_isSign 60 T31) fun (v34 : Int) => (x_b1 (if v34 = 0 then (some 62) else (some 60)) fun (v36 : Int) => (x_b1 (G10_expectSign v36 T31) fun (T38 : xU) => (x_b1 (G4_addStep 2 0 Lb32) fun (Lb40 : xU) => (x_b2 (G5_readSum T38 Lb40) fun (T42 : xU) (Lb43 : xU) => (x_b1 (if v34 = 0 then (some 4) else (some 3)) fun (v45 : Int) => (x_b1 (G4_addStep v45 0 Lb43) fun (Lb47 : xU) => (some (T42, Lb47)))))))))) else (x_b1 (G4_addStep 6 0 Lb) fun (Lb49 : xU) => (some (T29, Lb49))))) else (x_b1 (G4_addStep 5 0 Lb) fun (Lb51 : xU) => (some (T23, Lb51)))) fun (T25 : xU) (Lb26 : xU) => (some (T25, Lb26))))
section PLN
variable (n : Nat) (bt : Nat → Int)
/-- what comes of reading a truth -/
def OutB (R : xU → Option (Int × xU)) (F : xU → xU → Option (xU × xU)) (q d B : Nat) : Prop :=
  (∃ p u, q < p ∧ p ≤ n ∧ OkR n bt R q d p (fun c => bI (u c)) ∧ OkC n bt F q p 1 (EvB u B) ∧ OkD n bt F q p) ∨
  ∃ f, BadR n bt R q d (fun v => v = 0 ∨ v = 1) f ∧ BadC n bt F q f
end PLN
section PLM
variable {n : Nat} {bt : Nat → Int} {q d : Nat}
/-- a sum read in dead mode -/
theorem c_sumd {T Lb : xU} {q : Nat} {f : Int} (hf : f ≠ -1) (hT : TK n bt T q f) : G5_readSum T Lb = some (T, Lb) := by
  rw [G5_readSum, show xFU = (xFU - 1) + 1 from rfl, whl_r (sum_dC _ _ _ q f hf hT), x_b2s]
/-- two sums against one another -/
theorem s_cmp {p1 : Nat} {u1 : (Nat → Int) → Int} (hn : n ≤ 400) (hd : d ≤ 7) (hk24 : ¬ wm n bt 24 q = true) (hk25 : ¬ wm n bt 25 q = true) (h1 : q < p1) (h2 : p1 ≤ n) (o1 : OkR n bt G12_sum q d p1 u1) (o2 : OkC n bt G5_readSum q p1 0 (EvS u1)) (o3 : OkD n bt G5_readSum q p1)
    {sg v34 : Int} {op : Nat} {cmp : Int → Int → Bool} (hs : sk n bt p1 < n ∧ bt (sk n bt p1) = sg) (hv : (sg = 60 ∧ v34 = 1 ∧ op = 3 ∧ cmp = fun a b => decide (a < b)) ∨ (sg = 62 ∧ v34 = 0 ∧ op = 4 ∧ cmp = fun a b => decide (b < a))) : OutB n bt G12_plain cPlain q d 1000000 := by
  have hge := sk_ge (n := n) (bt := bt) (q := p1)
  have hid := sk_id (n := n) (bt := bt) (sk_kA (n := n) (bt := bt) h2)
  have hkd : kd sg = 4 ∧ sg ≠ -1 := by
    rcases hv with ⟨rfl, -⟩ | ⟨rfl, -⟩ <;> decide
  have refq : ∀ S c, RS n bt q d S c → ∃ S', RS n bt (sk n bt (sk n bt p1 + 1)) d S' c ∧ F3 S S' ∧ (∀ w : Int, x_up S' 0 11 w = x_up S 0 11 w) ∧ G12_plain S = x_b2 (G12_sum S') fun (v : Int) (S14 : xU) => (some (bI (cmp (u1 c) v), S14)) := by
    intro S c hS
    refine ⟨x_up S 0 11 ((sk n bt p1 + 1 : Nat) : Int), hS.mv (by omega), F3.u (.inl rfl), fun _ => up_up, ?_⟩
    have hS1 := hS.mv h2
    have hS2 := hS1.at
    rw [up_up] at hS2
    rw [G12_plain, hS.has hn (by decide), if_neg hk24, x_b2s, if_pos rfl, hS.at.has hn (by decide), if_neg hk25, x_b2s, if_pos rfl, o1 _ c hS.at.at, x_b2s, up_up, up_up, if_pos hS1.2.1, hS1.sign hn, x_b2s, up_up]
    rcases hv with ⟨rfl, rfl, rfl, rfl⟩ | ⟨rfl, rfl, rfl, rfl⟩
    · rw [if_pos (decide_eq_true hs), if_neg (show ¬ (1 : Int) = 0 by decide), up_s, up_up, n_inc (by omega)]
      congr 1
      funext v S14
      rw [if_neg (show ¬ (1 : Int) = 0 by decide)]
      by_cases z : v ≤ u1 c
      · rw [if_pos z, x_b1s, x_gd_t (.inl rfl)]; dsimp only; rw [decide_eq_false (by omega)]; rfl
      · rw [if_neg z, x_b1s, x_gd_t (.inr rfl)]; dsimp only; rw [decide_eq_true (by omega)]; rfl
    · rw [if_neg (show ¬ decide (sk n bt p1 < n ∧ bt (sk n bt p1) = 60) = true from fun w => by have := (of_decide_eq_true w).2; rw [hs.2] at this; exact absurd this (by decide)), if_pos rfl, hS2.sign hn, if_pos (decide_eq_true hs), x_b2s, if_neg (show ¬ (1 : Int) = 0 by decide), up_up, up_s, up_up, n_inc (by omega)]
      congr 1
      funext v S14
      rw [if_pos rfl]
      by_cases z : u1 c ≤ v
      · rw [if_pos z, x_b1s, x_gd_t (.inl rfl)]; dsimp only; rw [decide_eq_false (by omega)]; rfl
      · rw [if_neg z, x_b1s, x_gd_t (.inr rfl)]; dsimp only; rw [decide_eq_true (by omega)]; rfl
  have clsq : ∀ T Lb, TK n bt T q (-1) → ∃ T29, TK n bt T29 q (-1) ∧ ∀ T31 L32, G5_readSum T29 Lb = some (T31, L32) → TK n bt T31 (sk n bt p1) (-1) → ∃ T38, TK n bt T38 (sk n bt (sk n bt p1 + 1)) (-1) ∧ cPlain T Lb = x_b1 (G4_addStep 2 0 L32) fun (Lb40 : xU) => (x_b2 (G5_readSum T38 Lb40) fun (T42 : xU) (Lb43 : xU) => (x_b1 (G4_addStep (op : Int) 0 Lb43) fun (Lb47 : xU) => (some (T42, Lb47)))) := by
    intro T Lb hT
    obtain ⟨T23, a1, a2⟩ := c_takeWord (k := 24) hn hT
    rw [if_neg hk24] at a2
    obtain ⟨T29, a3, a4⟩ := c_takeWord (k := 25) hn a2
    rw [if_neg hk25] at a4
    refine ⟨T29, a4, fun T31 L32 e1 t1 => ?_⟩
    obtain ⟨T38, a5, a6⟩ := c_expectSign (a := sg) hkd.1 hkd.2 hn t1
    rw [if_pos (decide_eq_true hs), if_pos (decide_eq_true hs)] at a6
    refine ⟨T38, a6, ?_⟩
    rw [cPlain, a1, x_b2s, if_neg hk24, if_pos rfl, a3, x_b2s, if_neg hk25, if_pos rfl, e1, x_b2s, c_isSign (by decide) (by decide) t1, x_b1s]
    rcases hv with ⟨rfl, rfl, rfl, rfl⟩ | ⟨rfl, rfl, rfl, rfl⟩
    · rw [if_pos (decide_eq_true hs), if_neg (show ¬ (1 : Int) = 0 by decide), x_b1s, a5, x_b1s]
      cases G4_addStep 2 0 L32 with
      | none => rfl
      | some L40 =>
        rw [x_b1s, x_b1s]
        cases G5_readSum T38 L40 with
        | none => rfl
        | some r =>
          obtain ⟨T42, L43⟩ := r
          rw [x_b2s, x_b2s, if_neg (show ¬ (1 : Int) = 0 by decide), x_b1s]
          show x_b2 (x_b1 (G4_addStep 3 0 L43) _) _ = x_b1 (G4_addStep 3 0 L43) _
          cases G4_addStep 3 0 L43 <;> rfl
    · rw [if_neg (show ¬ decide (sk n bt p1 < n ∧ bt (sk n bt p1) = 60) = true from fun w => by have := (of_decide_eq_true w).2; rw [hs.2] at this; exact absurd this (by decide)), if_pos rfl, x_b1s, a5, x_b1s]
      cases G4_addStep 2 0 L32 with
      | none => rfl
      | some L40 =>
        rw [x_b1s, x_b1s]
        cases G5_readSum T38 L40 with
        | none => rfl
        | some r =>
          obtain ⟨T42, L43⟩ := r
          rw [x_b2s, x_b2s, if_pos rfl, x_b1s]
          show x_b2 (x_b1 (G4_addStep 4 0 L43) _) _ = x_b1 (G4_addStep 4 0 L43) _
          cases G4_addStep 4 0 L43 <;> rfl
  have hop : ∀ (La : xU) (b i s : Nat) (v2 v3 : Int), s < 1000000 → La 4 i = ((16 * 0 + op : Nat) : Int) → i < b → b ≤ 400 → G4_holds_L11 (b : Int) La ((s : Int), v2, v3, (i : Int)) = some (.inl (((2 * s + (cmp v3 v2).toNat : Nat) : Int), 0, v3, ((i + 1 : Nat) : Int))) := by
    intro La b i s v2 v3 h1 h2 h3 h4
    rcases hv with ⟨rfl, rfl, rfl, rfl⟩ | ⟨rfl, rfl, rfl, rfl⟩
    · exact la_3 h1 h2 h3 h4
    · exact la_4 h1 h2 h3 h4
  have hop16 : op < 16 := by rcases hv with ⟨_, _, rfl, _⟩ | ⟨_, _, rfl, _⟩ <;> decide
  have hq2 := sk_le (n := n) (bt := bt) (q := sk n bt p1 + 1) (by omega)
  have hq3 := sk_ge (n := n) (bt := bt) (q := sk n bt p1 + 1)
  rcases s_sum (n := n) (bt := bt) (q := sk n bt (sk n bt p1 + 1)) hn hd hq2 (sk_kA (by omega)) with ⟨p2, u2, g1, g2, g3, g4, g5⟩ | ⟨f, b1, b2⟩
  · left
    refine ⟨p2, fun c => cmp (u1 c) (u2 c), by omega, g2, ?_, ?_, ?_⟩
    · intro S c hS
      obtain ⟨S', r1, r2, r3, r4⟩ := refq S c hS
      rw [r4, g3 S' c r1, x_b2s, r3]
    · intro T Lb e0 hT he hb
      obtain ⟨T29, t1, t2⟩ := clsq T Lb hT
      obtain ⟨T31, L1, e1, w1, w2, w3, w4, w5, w6⟩ := o2 T29 Lb e0 t1 he (by omega)
      obtain ⟨T38, t3, t4⟩ := t2 T31 L1 w1 w2
      obtain ⟨L2, s1, s2, s3⟩ := c_step (a := 2) (g := 0) (by decide) (by decide) w5.1 (by omega)
      obtain ⟨T42, L3, e2, x1, x2, x3, x4, x5, x6⟩ := g4 T38 L2 (e1 + 1) t3 s2.1 (by omega)
      obtain ⟨L4, y1, y2, y3⟩ := c_step (a := op) (g := 0) hop16 (by decide) x5.1 (by omega)
      rw [t4, show G4_addStep 2 0 L1 = _ from s1, x_b1s, x1, x_b2s, show G4_addStep (op : Int) 0 L3 = _ from y1, x_b1s]
      refine ⟨T42, L4, e2 + 1, rfl, x2, by omega, by omega, ((w5.tr s2 w4 (by omega)).tr x5 (by omega) x4).tr y2 (by omega) (by omega), ?_⟩
      intro La c b s f hh hc hb1 hb4 hs1
      have k1 := w6 La c b (s : Int) f (fun i i0 i1 => by rw [hh i i0 (by omega), y2.2.2.2 i (.inl (by omega)), x5.2.2.2 i (.inl (by omega)), s2.2.2.2 i (.inl (by omega))]) hc (by omega) hb4
      have k2 := Sg.one (la_2 (v1 := (s : Int)) (v2 := u1 c) (v3 := f) (La := La) (b := b) (i := e1) (by rw [hh e1 (by omega) (by omega), y2.2.2.2 e1 (.inl (by omega)), x5.2.2.2 e1 (.inl (by omega))]; exact s3) (by omega) hb4)
      have k3 := x6 La c b (s : Int) (u1 c) (fun i i0 i1 => by rw [hh i (by omega) (by omega), y2.2.2.2 i (.inl (by omega))]) hc (by omega) hb4
      have k4 := Sg.one (hop La b e2 s (u2 c) (u1 c) hs1 (by rw [hh e2 (by omega) (by omega)]; exact y3) (by omega) hb4)
      refine ⟨u1 c, ?_⟩
      rw [show e2 + 1 - e0 = (e1 - e0) + 1 + (e2 - (e1 + 1)) + 1 by omega]
      exact ((k1.tr k2).tr k3).tr k4
    · intro T Lb hT
      obtain ⟨T29, t1, t2⟩ := clsq T Lb hT
      obtain ⟨T31, L1, w1, w2⟩ := o3 T29 Lb t1
      obtain ⟨T38, t3, t4⟩ := t2 T31 L1 w1 w2
      obtain ⟨L2, s1⟩ := c_stepd (a := 2) (g := 0) (Lb := L1)
      obtain ⟨T42, L3, x1, x2⟩ := g5 T38 L2 t3
      obtain ⟨L4, y1⟩ := c_stepd (a := (op : Int)) (g := 0) (Lb := L3)
      rw [t4, s1, x_b1s, x1, x_b2s, y1, x_b1s]
      exact ⟨T42, L4, rfl, x2⟩
  · right
    refine ⟨f, ?_, ?_⟩
    · intro S c hS
      obtain ⟨S', r1, r2, r3, r4⟩ := refq S c hS
      obtain ⟨v, S2, w1, w2, w3, w4, w5⟩ := b1 S' c r1
      rw [r4, w1, x_b2s]
      exact ⟨_, S2, rfl, bI_01 _, w3, r2.tr w4, w5⟩
    · intro T Lb hT
      obtain ⟨T29, t1, t2⟩ := clsq T Lb hT
      obtain ⟨T31, L1, w1, w2⟩ := o3 T29 Lb t1
      obtain ⟨T38, t3, t4⟩ := t2 T31 L1 w1 w2
      obtain ⟨L2, s1⟩ := c_stepd (a := 2) (g := 0) (Lb := L1)
      obtain ⟨T42, L3, q', x1, x2⟩ := b2 T38 L2 t3
      obtain ⟨L4, y1⟩ := c_stepd (a := (op : Int)) (g := 0) (Lb := L3)
      rw [t4, s1, x_b1s, x1, x_b2s, y1, x_b1s]
      exact ⟨T42, L4, q', rfl, x2⟩
/-- what is plain -/
theorem s_plain (hn : n ≤ 400) (hd : d ≤ 7) (hq : q ≤ n) (hk1 : kA n bt q ≠ 1) : OutB n bt G12_plain cPlain q d 1000000 := by
  have hle := en_le (n := n) (bt := bt) hq
  by_cases k24 : wm n bt 24 q = true
  · have hqn : q < n := kA_lt (by rw [wm_kA k24]; decide)
    have hgt := en_gt (n := n) (bt := bt) hqn
    have cls : ∀ T Lb, TK n bt T q (-1) → ∃ T', TK n bt T' (sk n bt (en n bt q)) (-1) ∧ cPlain T Lb = x_b1 (G4_addStep 5 0 Lb) fun (Lb51 : xU) => (some (T', Lb51)) := by
      intro T Lb hT
      obtain ⟨T23, a1, a2⟩ := c_takeWord (k := 24) hn hT
      rw [if_pos k24] at a2
      refine ⟨T23, a2, ?_⟩
      rw [cPlain, a1, x_b2s, if_pos k24, if_neg (by decide)]
      cases G4_addStep 5 0 Lb <;> rfl
    left
    refine ⟨en n bt q, fun c => decide (c 7 = 1), hgt, hle, ?_, ?_, ?_⟩
    · intro S c hS
      have e15 : x_up S 0 11 (en n bt q : Int) 0 15 = bI (decide (c 7 = 1)) := by
        rw [up_i (by decide), hS.2.2.2.2.2.1]
        rcases hS.2.2.2.2.2.2.2.1 with z | z <;> rw [z] <;> rfl
      rw [G12_plain, hS.has hn (by decide), if_pos k24, x_b2s, if_neg (by decide), e15, x_gd_t (bI_01 _)]
    · intro T Lb e0 hT he hb
      obtain ⟨T', t1, t2⟩ := cls T Lb hT
      obtain ⟨L2, s1, s2, s3⟩ := c_step (a := 5) (g := 0) (by decide) (by decide) he (by omega)
      rw [t2, show G4_addStep 5 0 Lb = _ from s1, x_b1s]
      refine ⟨T', L2, e0 + 1, rfl, t1, by omega, by omega, s2, ?_⟩
      intro La c b s f hh hc hb1 hb4 hs1
      refine ⟨f, ?_⟩
      rw [show e0 + 1 - e0 = 1 by omega]
      exact Sg.one (la_5 hs1 (by rw [hh e0 (by omega) (by omega)]; exact s3) (by omega) hb4 hc (by
        show c 7 = bI (decide (c 7 = 1))
        rw [hc.2.1]
        by_cases z : x_rem (La 5 1) 4 = 0
        · rw [if_pos z]; rfl
        · rw [if_neg z]; rfl))
    · intro T Lb hT
      obtain ⟨T', t1, t2⟩ := cls T Lb hT
      obtain ⟨L2, s1⟩ := c_stepd (a := 5) (g := 0) (Lb := Lb)
      rw [t2, s1, x_b1s]
      exact ⟨T', L2, rfl, t1⟩
  by_cases k25 : wm n bt 25 q = true
  · have hqn : q < n := kA_lt (by rw [wm_kA k25]; decide)
    have hgt := en_gt (n := n) (bt := bt) hqn
    have cls : ∀ T Lb, TK n bt T q (-1) → ∃ T', TK n bt T' (sk n bt (en n bt q)) (-1) ∧ cPlain T Lb = x_b1 (G4_addStep 6 0 Lb) fun (Lb51 : xU) => (some (T', Lb51)) := by
      intro T Lb hT
      obtain ⟨T23, a1, a2⟩ := c_takeWord (k := 24) hn hT
      rw [if_neg k24] at a2
      obtain ⟨T29, a3, a4⟩ := c_takeWord (k := 25) hn a2
      rw [if_pos k25] at a4
      refine ⟨T29, a4, ?_⟩
      rw [cPlain, a1, x_b2s, if_neg k24, if_pos rfl, a3, x_b2s, if_pos k25, if_neg (by decide)]
      cases G4_addStep 6 0 Lb <;> rfl
    left
    refine ⟨en n bt q, fun c => decide (c 8 = 1), hgt, hle, ?_, ?_, ?_⟩
    · intro S c hS
      have e16 : x_up S 0 11 (en n bt q : Int) 0 16 = bI (decide (c 8 = 1)) := by
        rw [up_i (by decide), hS.2.2.2.2.2.2.1]
        rcases hS.2.2.2.2.2.2.2.2 with z | z <;> rw [z] <;> rfl
      rw [G12_plain, hS.has hn (by decide), if_neg k24, x_b2s, if_pos rfl, hS.at.has hn (by decide), if_pos k25, x_b2s, if_neg (by decide), up_up, e16, x_gd_t (bI_01 _)]
    · intro T Lb e0 hT he hb
      obtain ⟨T', t1, t2⟩ := cls T Lb hT
      obtain ⟨L2, s1, s2, s3⟩ := c_step (a := 6) (g := 0) (by decide) (by decide) he (by omega)
      rw [t2, show G4_addStep 6 0 Lb = _ from s1, x_b1s]
      refine ⟨T', L2, e0 + 1, rfl, t1, by omega, by omega, s2, ?_⟩
      intro La c b s f hh hc hb1 hb4 hs1
      refine ⟨f, ?_⟩
      rw [show e0 + 1 - e0 = 1 by omega]
      exact Sg.one (la_6 hs1 (by rw [hh e0 (by omega) (by omega)]; exact s3) (by omega) hb4 hc (by
        show c 8 = bI (decide (c 8 = 1))
        rw [hc.2.2]
        by_cases z : La 5 7 ≤ 0
        · rw [if_pos z]; rfl
        · rw [if_neg z]; rfl))
    · intro T Lb hT
      obtain ⟨T', t1, t2⟩ := cls T Lb hT
      obtain ⟨L2, s1⟩ := c_stepd (a := 6) (g := 0) (Lb := Lb)
      rw [t2, s1, x_b1s]
      exact ⟨T', L2, rfl, t1⟩
  -- a fault that ends it
  have dead : ∀ T Lb T23 T29, G10_takeWord 24 T = some ((if wm n bt 24 q then 1 else 0), T23) → G10_takeWord 25 T23 = some ((if wm n bt 25 q then 1 else 0), T29) → ∀ T31 L32 q' (f' : Int) sg, G5_readSum T29 Lb = some (T31, L32) → TK n bt T31 q' f' → (if decide (q' < n ∧ bt q' = 60) then (1 : Int) else 0) = sg → ∀ T38 q2 f2, G10_expectSign (if sg = 0 then 62 else 60) T31 = some T38 → TK n bt T38 q2 f2 → f2 ≠ -1 → ∃ Lb', cPlain T Lb = some (T38, Lb') := by
    intro T Lb T23 T29 a1 a3 T31 L32 q' f' sg e1 t1 his T38 q2 f2 e38 t38 hf2
    have e36 : (if sg = 0 then (some (62 : Int)) else (some 60)) = some (if sg = 0 then 62 else 60) := by
      by_cases z : sg = 0
      · rw [if_pos z, if_pos z]
      · rw [if_neg z, if_neg z]
    have e45 : (if sg = 0 then (some (4 : Int)) else (some 3)) = some (if sg = 0 then 4 else 3) := by
      by_cases z : sg = 0
      · rw [if_pos z, if_pos z]
      · rw [if_neg z, if_neg z]
    obtain ⟨L40, s1⟩ := c_stepd (a := 2) (g := 0) (Lb := L32)
    obtain ⟨L47, s2⟩ := c_stepd (a := if sg = 0 then 4 else 3) (g := 0) (Lb := L40)
    refine ⟨L47, ?_⟩
    rw [cPlain, a1, x_b2s, if_neg k24, if_pos rfl, a3, x_b2s, if_neg k25, if_pos rfl, e1, x_b2s, c_isSign (by decide) (by decide) t1, x_b1s, his, e36, x_b1s, e38, x_b1s, s1, x_b1s, c_sumd hf2 t38, x_b2s, e45, x_b1s, s2, x_b1s, x_b2s]
  have toks : ∀ T, TK n bt T q (-1) → ∃ T23 T29, G10_takeWord 24 T = some ((if wm n bt 24 q then 1 else 0), T23) ∧ G10_takeWord 25 T23 = some ((if wm n bt 25 q then 1 else 0), T29) ∧ TK n bt T29 q (-1) := by
    intro T hT
    obtain ⟨T23, a1, a2⟩ := c_takeWord (k := 24) hn hT
    rw [if_neg k24] at a2
    obtain ⟨T29, a3, a4⟩ := c_takeWord (k := 25) hn a2
    rw [if_neg k25] at a4
    exact ⟨T23, T29, a1, a3, a4⟩
  rcases s_sum (n := n) (bt := bt) (q := q) hn hd hq hk1 with ⟨p1, u1, h1, h2, o1, o2, o3⟩ | ⟨f, b1, b2⟩
  · by_cases s60 : sk n bt p1 < n ∧ bt (sk n bt p1) = 60
    · exact s_cmp hn hd k24 k25 h1 h2 o1 o2 o3 s60 (.inl ⟨rfl, rfl, rfl, rfl⟩)
    by_cases s62 : sk n bt p1 < n ∧ bt (sk n bt p1) = 62
    · exact s_cmp hn hd k24 k25 h1 h2 o1 o2 o3 s62 (.inr ⟨rfl, rfl, rfl, rfl⟩)
    have z60 : ¬ decide (sk n bt p1 < n ∧ bt (sk n bt p1) = 60) = true := fun w => s60 (of_decide_eq_true w)
    have z62 : ¬ decide (sk n bt p1 < n ∧ bt (sk n bt p1) = 62) = true := fun w => s62 (of_decide_eq_true w)
    have hq1 := sk_le (bt := bt) h2
    right
    refine ⟨sk n bt p1, ?_, ?_⟩
    · intro S c hS
      have hS1 := hS.mv h2
      have hS2 := hS1.at
      rw [up_up] at hS2
      have w12 : x_up S 0 11 (sk n bt p1 : Int) 0 12 = -1 := hS2.2.1
      rw [G12_plain, hS.has hn (by decide), if_neg k24, x_b2s, if_pos rfl, hS.at.has hn (by decide), if_neg k25, x_b2s, if_pos rfl, o1 _ c hS.at.at, x_b2s, up_up, up_up, if_pos hS1.2.1, hS1.sign hn, if_neg z60, x_b2s, if_pos rfl, up_up, hS2.sign hn, if_neg z62, x_b2s, if_pos rfl, up_up, up_s, G12_wrong, if_pos w12, x_b1s, x_b1s]
      exact ⟨0, _, rfl, .inl rfl, up_s, (F3.u (.inl rfl)).tr (F3.u (.inr (.inl rfl))), by rw [up_i (by decide), up_s]; omega, by rw [up_i (by decide), up_s]; omega⟩
    · intro T Lb hT
      obtain ⟨T23, T29, a1, a3, a4⟩ := toks T hT
      obtain ⟨T31, L32, e1, t1⟩ := o3 T29 Lb a4
      obtain ⟨T38, x1, x2⟩ := c_expectSign (a := 62) (by decide) (by decide) hn t1
      rw [if_neg z62, if_neg z62, if_pos rfl] at x2
      obtain ⟨L, hL⟩ := dead T Lb T23 T29 a1 a3 T31 L32 _ _ 0 e1 t1 (if_neg z60) T38 _ _ (by rw [if_pos rfl]; exact x1) x2 (by omega)
      exact ⟨T38, L, _, hL, x2⟩
  · right
    refine ⟨f, ?_, ?_⟩
    · intro S c hS
      obtain ⟨v, S2, w1, w2, w3, w4, w5⟩ := b1 _ c hS.at.at
      rw [up_up] at w1 w4
      rw [G12_plain, hS.has hn (by decide), if_neg k24, x_b2s, if_pos rfl, hS.at.has hn (by decide), if_neg k25, x_b2s, if_pos rfl, up_up, w1, x_b2s, if_neg (by rw [w3]; omega)]
      exact ⟨0, S2, rfl, .inl rfl, w3, (F3.u (.inl rfl)).tr w4, w5⟩
    · intro T Lb hT
      obtain ⟨T23, T29, a1, a3, a4⟩ := toks T hT
      obtain ⟨T31, L32, q', e1, t1⟩ := b2 T29 Lb a4
      by_cases y : decide (q' < n ∧ bt q' = 60) = true
      · obtain ⟨T38, x1, x2⟩ := c_expectSign (a := 60) (by decide) (by decide) hn t1
        rw [if_neg (show ¬ (f : Int) = -1 by omega), ite_self] at x2
        obtain ⟨L, hL⟩ := dead T Lb T23 T29 a1 a3 T31 L32 _ _ 1 e1 t1 (if_pos y) T38 _ _ (by rw [if_neg (by decide)]; exact x1) x2 (by omega)
        exact ⟨T38, L, _, hL, x2⟩
      · obtain ⟨T38, x1, x2⟩ := c_expectSign (a := 62) (by decide) (by decide) hn t1
        rw [if_neg (show ¬ (f : Int) = -1 by omega), ite_self] at x2
        obtain ⟨L, hL⟩ := dead T Lb T23 T29 a1 a3 T31 L32 _ _ 0 e1 t1 (if_neg y) T38 _ _ (by rw [if_pos rfl]; exact x1) x2 (by omega)
        exact ⟨T38, L, _, hL, x2⟩
end PLM
