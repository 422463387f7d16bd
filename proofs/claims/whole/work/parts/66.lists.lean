/-! Lists with 'and' and with 'or', and the whole of what a law asks. -/
/-- code that goes on from a truth to a truth -/
def EvL (B : Nat) (t : (Nat → Int) → Bool → Bool) (Lb : xU) (e0 e1 : Nat) : Prop := ∀ (La : xU) (c : Nat → Int) (b s : Nat) (f : Int) (w : Bool), (∀ i, e0 ≤ i → i < e1 → La 4 i = Lb 4 i) → Cc c La → e1 ≤ b → b ≤ 400 → s < B → ∃ f', Sg (G4_holds_L11 (b : Int) La) (((2 * s + w.toNat : Nat) : Int), 0, f, (e0 : Int)) (((2 * s + (t c w).toNat : Nat) : Int), 0, f', (e1 : Int)) (e1 - e0)
theorem EvL.c {B : Nat} {t : (Nat → Int) → Bool → Bool} {L1 L2 : xU} {e0 e1 : Nat} (h : EvL B t L1 e0 e1) (hh : ∀ i, e0 ≤ i → i < e1 → L2 4 i = L1 4 i) : EvL B t L2 e0 e1 :=
  fun La c b s f w h1 => h La c b s f w (fun i i0 i1 => (h1 i i0 i1).trans (hh i i0 i1))
theorem EvL.id {B : Nat} {Lb : xU} {e : Nat} : EvL B (fun _ a => a) Lb e e := fun La c b s f w _ _ _ _ _ => ⟨f, by rw [Nat.sub_self]; exact Sg.rf⟩
theorem EvL.tr {B : Nat} {t1 t2 : (Nat → Int) → Bool → Bool} {Lb : xU} {e0 e1 e2 : Nat} (h1 : e0 ≤ e1) (h2 : e1 ≤ e2) (h : EvL B t1 Lb e0 e1) (k : EvL B t2 Lb e1 e2) : EvL B (fun c a => t2 c (t1 c a)) Lb e0 e2 := by
  intro La c b s f w hh hc hb hb4 hs
  obtain ⟨f1, g1⟩ := h La c b s f w (fun i i0 i1 => hh i i0 (by omega)) hc (by omega) hb4 hs
  obtain ⟨f2, g2⟩ := k La c b s f1 (t1 c w) (fun i i0 i1 => hh i (by omega) i1) hc hb hb4 hs
  refine ⟨f2, ?_⟩
  rw [show e2 - e0 = (e1 - e0) + (e2 - e1) by omega]
  exact g1.tr g2
section LST
variable {n : Nat} {bt : Nat → Int} {d k op B B2 : Nat} {R : xU → Option (Int × xU)} {F : xU → xU → Option (xU × xU)} {gO : Int → Int → Option Int} {g : Bool → Bool → Bool} {fR : Int × xU → Option ((Int × xU) ⊕ (Int × xU))} {fC : Int × xU × xU → Option ((Int × xU × xU) ⊕ (xU × xU))}
theorem s_list (hn : n ≤ 400) (hk : 0 < x_sl.getD k 0) (hk2 : 2 ≤ x_sl.getD k 0) (hop16 : op < 16) (hB : 2 * B ≤ B2) (hB2 : B2 ≤ 100000)
    (hg : ∀ a b, gO (bI a) (bI b) = some (bI (g a b)))
    (hfR : ∀ v S, fR (v, S) = (if (S 0 12) = (-1) then (x_b2 (G12_has k S) fun (v10 : Int) (S11 : xU) => (if v10 = 0 then (some (.inr (v, S11))) else (x_b2 (R S11) fun (v13 : Int) (S14 : xU) => (x_b1 (gO v v13) fun (v16 : Int) => (some (.inl (v16, S14))))))) else (some (.inr (v, S)))))
    (hfC : ∀ v T Lb, fC (v, T, Lb) = (if 400 ≤ v then (some (.inr (T, Lb))) else (x_b1 (G10_isRight T) fun (v17 : Int) => (if v17 = 0 then (some (.inr (T, Lb))) else (if v = 0 then (x_b2 (F T Lb) fun (T19 : xU) (Lb20 : xU) => (x_b1 (if v ≤ 0 then (some Lb20) else (x_b1 (G4_addStep (op : Int) 0 Lb20) fun (Lb24 : xU) => (some Lb24))) fun (Lb22 : xU) => (some (.inl ((x_add v 1), T19, Lb22))))) else (x_b2 (G10_takeWord k T) fun (v26 : Int) (T27 : xU) => (if v26 = 0 then (some (.inr (T27, Lb))) else (x_b2 (F T27 Lb) fun (T29 : xU) (Lb30 : xU) => (x_b1 (if v ≤ 0 then (some Lb30) else (x_b1 (G4_addStep (op : Int) 0 Lb30) fun (Lb34 : xU) => (some Lb34))) fun (Lb32 : xU) => (some (.inl ((x_add v 1), T29, Lb32))))))))))))
    (hla : ∀ (La : xU) (b i s : Nat) (v w : Bool) (v2 v3 : Int), s < 100000 → La 4 i = ((16 * 0 + op : Nat) : Int) → i < b → b ≤ 400 → G4_holds_L11 (b : Int) La (((2 * (2 * s + v.toNat) + w.toNat : Nat) : Int), v2, v3, (i : Int)) = some (.inl (((2 * s + (g v w).toNat : Nat) : Int), v2, v3, ((i + 1 : Nat) : Int))))
    (item : ∀ q, q ≤ n → kA n bt q ≠ 1 → OutB n bt R F q d B2) :
    ∀ q, q ≤ n → kA n bt q ≠ 1 → OutB n bt (fun S => x_b2 (R S) fun (v1 : Int) (S2 : xU) => (x_b2 (whl xFU fR (v1, S2)) fun (v6 : Int) (S7 : xU) => (x_gd (v6 = 0 ∨ v6 = 1) (some (v6, S7))))) (fun T Lb => whl xFU fC (0, T, Lb)) q d B := by
  have dR : ∀ v S, S 0 12 ≠ -1 → fR (v, S) = some (.inr (v, S)) := fun v S h => by rw [hfR, if_neg h]
  have dC : ∀ v T Lb q f, f ≠ -1 → TK n bt T q f → fC (v, T, Lb) = some (.inr (T, Lb)) := by
    intro v T Lb q f hf hT
    rw [hfC]
    by_cases z : 400 ≤ v
    · rw [if_pos z]
    · rw [if_neg z, c_isRight hT, if_neg hf, x_b1s, if_pos rfl]
  have turn : ∀ p, p ≤ n → TnS n bt bI fR fC d p ∨ (∃ p1 t, p < p1 ∧ p1 ≤ n ∧ TnG n bt bI fR fC (EvL B) d p p1 t) ∨ ∃ f, TnB n bt bI fR fC (fun v => v = 0 ∨ v = 1) d p f := by
    intro p hp
    have hge := sk_ge (n := n) (bt := bt) (q := p)
    have hq := sk_le (bt := bt) hp
    generalize hqq : sk n bt p = q at hge hq
    have hle := en_le (n := n) (bt := bt) hq
    by_cases z : wm n bt k q = true
    · have ene : en n bt q = q + x_sl.getD k 0 := (of_decide_eq_true z).2.1
      have hqn : q < n := kA_lt (by rw [wm_kA z]; decide)
      have hge2 := sk_ge (n := n) (bt := bt) (q := en n bt q)
      have refq : ∀ S c a, RS n bt q d S c → fR (a, S) = x_b2 (R (x_up S 0 11 (en n bt q : Int))) fun (v13 : Int) (S14 : xU) => (x_b1 (gO a v13) fun (v16 : Int) => (some (.inl (v16, S14)))) := by
        intro S c a hS
        rw [hfR, if_pos hS.2.1, hS.has hn hk, if_pos z, x_b2s, if_neg (by decide)]
      have clsq : ∀ T Lb (j : Nat), TK n bt T q (-1) → 1 ≤ j → j ≤ p → ∃ T27, TK n bt T27 (sk n bt (en n bt q)) (-1) ∧ fC ((j : Int), T, Lb) = x_b2 (F T27 Lb) fun (T29 : xU) (Lb30 : xU) => (x_b1 (G4_addStep (op : Int) 0 Lb30) fun (Lb34 : xU) => (some (.inl (((j + 1 : Nat) : Int), T29, Lb34)))) := by
        intro T Lb j hT h1 h2
        obtain ⟨T27, k1, k2⟩ := c_takeWord (k := k) hn hT
        rw [if_pos z] at k2
        refine ⟨T27, k2, ?_⟩
        rw [hfC, if_neg (by omega), c_isRight hT, if_pos rfl, x_b1s, if_neg (by decide), if_neg (by omega), k1, if_pos z, x_b2s, if_neg (by decide), n_inc (by omega)]
        congr 1
        funext T29 L30
        rw [if_neg (by omega)]
        cases G4_addStep (op : Int) 0 L30 <;> rfl
      rcases item (sk n bt (en n bt q)) (sk_le hle) (sk_kA hle) with ⟨p1, u, h1, h2, o1, o2, o3⟩ | ⟨f, b1, b2⟩
      · right; left
        refine ⟨p1, fun c a => g a (u c), by omega, h2, ?_, ?_, ?_⟩
        · intro S c a hS
          rw [hqq] at hS
          rw [refq S c _ hS, o1 _ c (hS.mv hle), x_b2s, hg, x_b1s, up_up]
        · intro T Lb e0 j hT hj1 hj2 he hb
          rw [hqq] at hT
          obtain ⟨T27, k1, k2⟩ := clsq T Lb j hT hj1 hj2
          obtain ⟨T', L1, e1, r1, r2, r3, r4, r5, r6⟩ := o2 T27 Lb e0 k1 he (by omega)
          obtain ⟨L2, s1, s2, s3⟩ := c_step (a := op) (g := 0) hop16 (by decide) r5.1 (by omega)
          rw [k2, r1, x_b2s, show G4_addStep (op : Int) 0 L1 = _ from s1, x_b1s]
          refine ⟨T', L2, e1 + 1, rfl, r2, by omega, by omega, r5.tr s2 r4 (by omega), ?_⟩
          intro La c b s f w hh hc hb1 hb4 hs
          have hw := b_lt w
          obtain ⟨f', kk⟩ := r6 La c b (2 * s + w.toNat) f (fun i i0 i1 => by rw [hh i i0 (by omega), s2.2.2.2 i (.inl i1)]) hc (by omega) hb4 (by omega)
          refine ⟨f', ?_⟩
          rw [show e1 + 1 - e0 = (e1 - e0) + 1 by omega]
          exact kk.tr (Sg.one (hla La b e1 s w (u c) 0 f' (by omega) (by rw [hh e1 (by omega) (by omega)]; exact s3) (by omega) hb4))
        · intro T Lb j hT hj1 hj2
          rw [hqq] at hT
          obtain ⟨T27, k1, k2⟩ := clsq T Lb j hT hj1 hj2
          obtain ⟨T', L1, r1, r2⟩ := o3 T27 Lb k1
          obtain ⟨L2, s1⟩ := c_stepd (a := (op : Int)) (g := 0) (Lb := L1)
          rw [k2, r1, x_b2s, s1, x_b1s]
          exact ⟨T', L2, rfl, r2⟩
      · right; right
        refine ⟨f, ?_, ?_⟩
        · intro S c a hS
          rw [hqq] at hS
          obtain ⟨v, S', w1, w2, w3, w4, w5⟩ := b1 _ c (hS.mv hle)
          obtain ⟨b', hb'⟩ : ∃ b' : Bool, v = bI b' := by
            rcases w2 with rfl | rfl
            · exact ⟨false, rfl⟩
            · exact ⟨true, rfl⟩
          rw [refq S c _ hS, w1, x_b2s, hb', hg, x_b1s]
          exact ⟨_, S', rfl, bI_01 _, w3, (F3.u (.inl rfl)).tr w4, w5⟩
        · intro T Lb j hT hj1 hj2
          rw [hqq] at hT
          obtain ⟨T27, k1, k2⟩ := clsq T Lb j hT hj1 hj2
          obtain ⟨T', L1, q', r1, r2⟩ := b2 T27 Lb k1
          obtain ⟨L2, s1⟩ := c_stepd (a := (op : Int)) (g := 0) (Lb := L1)
          rw [k2, r1, x_b2s, s1, x_b1s]
          exact ⟨_, T', L2, q', rfl, r2⟩
    · left
      refine ⟨?_, ?_⟩
      · intro S c a hS
        rw [hqq] at hS ⊢
        rw [hfR, if_pos hS.2.1, hS.has hn hk, if_neg z, x_b2s, if_pos rfl]
      · intro T Lb j hT h1 h2
        rw [hqq] at hT ⊢
        obtain ⟨T27, k1, k2⟩ := c_takeWord (k := k) hn hT
        rw [if_neg z] at k2
        by_cases y : 400 ≤ (j : Int)
        · exact ⟨T, by rw [hfC, if_pos y], hT⟩
        · refine ⟨T27, ?_, k2⟩
          rw [hfC, if_neg y, c_isRight hT, if_pos rfl, x_b1s, if_neg (by decide), if_neg (by omega), k1, if_neg z, x_b2s, if_pos rfl]
  intro q hq hk1
  have first : ∀ T Lb, TK n bt T q (-1) → whl xFU fC (0, T, Lb) = x_b2 (F T Lb) fun (T1 : xU) (L1 : xU) => whl (xFU - 1) fC (((1 : Nat) : Int), T1, L1) := by
    intro T Lb hT
    have e : fC (0, T, Lb) = x_b2 (F T Lb) fun (T14 : xU) (Lb15 : xU) => (some (.inl (((1 : Nat) : Int), T14, Lb15))) := by
      rw [hfC, if_neg (by decide), c_isRight hT, if_pos rfl, x_b1s, if_neg (by decide), if_pos rfl]; rfl
    rw [show xFU = (xFU - 1) + 1 from rfl, whl, e]
    cases F T Lb with
    | none => rfl
    | some r => rfl
  have dead : ∀ T Lb q' (f : Nat), TK n bt T q' (f : Int) → whl (xFU - 1) fC (((1 : Nat) : Int), T, Lb) = some (T, Lb) := fun T Lb q' f hT => by
    rw [show xFU - 1 = (xFU - 2) + 1 from rfl, whl_r (dC _ _ _ q' f (by omega) hT)]
  rcases item q hq hk1 with ⟨p1, u, h1, h2, o1, o2, o3⟩ | ⟨f, b1, b2⟩
  · rcases tail_all (n := n) (bt := bt) (enc := bI) (fR := fR) (fC := fC) (E := EvL B) (gd := fun v => v = 0 ∨ v = 1) (d := d) (fun _ _ => EvL.id) (fun _ _ _ _ _ _ a b c e => EvL.tr a b c e) (fun _ _ _ _ _ a b => b.c a) dR dC turn (n - p1) p1 (Nat.le_refl _) h2 with ⟨p2, t, i1, i2, r1, r2, r3⟩ | ⟨f, r1, r2⟩
    · left
      refine ⟨p2, fun c => t c (u c), by omega, i2, ?_, ?_, ?_⟩
      · intro S c hS
        show (x_b2 (R S) fun (v1 : Int) (S2 : xU) => _) = _
        rw [o1 S c hS, x_b2s, r1 _ c (u c) xFU (hS.mv h2) (by unfold xFU; omega), x_b2s, x_gd_t (bI_01 _), up_up]
      · intro T Lb e0 hT he hb
        obtain ⟨T1, L1, e1, u1, u2, u3, u4, u5, u6⟩ := o2 T Lb e0 hT he (by omega)
        obtain ⟨T2, L2, e2, v1, v2, v3, v4, v5, v6⟩ := r2 T1 L1 e1 1 (xFU - 1) u2 (by omega) (by omega) (by unfold xFU; omega) u5.1 (by omega)
        show ∃ T' Lb' e1, whl xFU fC (0, T, Lb) = some (T', Lb') ∧ _
        rw [first T Lb hT, u1, x_b2s]
        refine ⟨T2, L2, e2, v1, v2, by omega, by omega, u5.tr v5 u4 v4, ?_⟩
        intro La c b s f hh hc hb1 hb4 hs
        obtain ⟨f1, g1⟩ := (u6.c (L2 := L2) (fun i _ hi => v5.2.2.2 i (.inl hi))) La c b s f (fun i i0 i1 => hh i i0 (by omega)) hc (by omega) hb4 (by omega)
        obtain ⟨f2, g2⟩ := v6 La c b s f1 (u c) (fun i i0 i1 => hh i (by omega) i1) hc hb1 hb4 hs
        refine ⟨f2, ?_⟩
        rw [show e2 - e0 = (e1 - e0) + (e2 - e1) by omega]
        exact g1.tr g2
      · intro T Lb hT
        obtain ⟨T1, L1, u1, u2⟩ := o3 T Lb hT
        show ∃ T' Lb', whl xFU fC (0, T, Lb) = some (T', Lb') ∧ _
        rw [first T Lb hT, u1, x_b2s]
        exact r3 T1 L1 1 (xFU - 1) u2 (by omega) (by omega) (by unfold xFU; omega)
    · right
      refine ⟨f, ?_, ?_⟩
      · intro S c hS
        obtain ⟨v, S', w1, w2, w3, w4, w5⟩ := r1 _ c (u c) xFU (hS.mv h2) (by unfold xFU; omega)
        show ∃ v S', (x_b2 (R S) fun (v1 : Int) (S2 : xU) => _) = _ ∧ _
        rw [o1 S c hS, x_b2s, w1, x_b2s, x_gd_t w2]
        exact ⟨v, S', rfl, w2, w3, (F3.u (.inl rfl)).tr w4, w5⟩
      · intro T Lb hT
        obtain ⟨T1, L1, u1, u2⟩ := o3 T Lb hT
        show ∃ T' Lb' q', whl xFU fC (0, T, Lb) = some (T', Lb') ∧ _
        rw [first T Lb hT, u1, x_b2s]
        exact r2 T1 L1 1 (xFU - 1) u2 (by omega) (by omega) (by unfold xFU; omega)
  · right
    refine ⟨f, ?_, ?_⟩
    · intro S c hS
      obtain ⟨v, S', w1, w2, w3, w4, w5⟩ := b1 S c hS
      show ∃ v S', (x_b2 (R S) fun (v1 : Int) (S2 : xU) => _) = _ ∧ _
      rw [w1, x_b2s, show xFU = (xFU - 1) + 1 from rfl, whl_r (dR v S' (by rw [w3]; omega)), x_b2s, x_gd_t w2]
      exact ⟨v, S', rfl, w2, w3, w4, w5⟩
    · intro T Lb hT
      obtain ⟨T1, L1, q', u1, u2⟩ := b2 T Lb hT
      show ∃ T' Lb' q', whl xFU fC (0, T, Lb) = some (T', Lb') ∧ _
      rw [first T Lb hT, u1, x_b2s, dead T1 L1 q' f u2]
      exact ⟨T1, L1, q', rfl, u2⟩
end LST
theorem OutB.cg {n : Nat} {bt : Nat → Int} {R R' : xU → Option (Int × xU)} {F F' : xU → xU → Option (xU × xU)} {q d B : Nat} (h : OutB n bt R F q d B) (e1 : ∀ S, R' S = R S) (e2 : ∀ T L, F' T L = F T L) : OutB n bt R' F' q d B := by
  have a1 : R' = R := funext e1
  have a2 : F' = F := funext fun T => funext fun L => e2 T L
  rw [a1, a2]; exact h
section RCS
variable {n : Nat} {bt : Nat → Int}
/-- a list with 'and', of the class: what its inner loop does -/
def cEvery (C1 : Int → xU → xU → Option (xU × xU)) (a : Int) (T Lb : xU) : Option (xU × xU) := whl xFU (G5_readAny_b_L32 a C1) (0, T, Lb)
theorem s_every {R0 R1 R2 : xU → Option (Int × xU)} {C1 : Int → xU → xU → Option (xU × xU)} {d : Nat} {a : Int} (hn : n ≤ 400) (hd : d ≤ 6) (item : ∀ q, q ≤ n → kA n bt q ≠ 1 → OutB n bt R0 (C1 a) q d (2 ^ (2 * d + 3))) :
    ∀ q, q ≤ n → kA n bt q ≠ 1 → OutB n bt (G12_every_b R0 R1 R2) (cEvery C1 a) q d (2 ^ (2 * d + 2)) := by
  intro q hq hk
  have h15 : 2 ^ (2 * d + 3) ≤ 32768 := p2_mono (b := 15) (by omega)
  have hB : 2 * 2 ^ (2 * d + 2) ≤ 2 ^ (2 * d + 3) := Nat.le_of_eq (by rw [Nat.mul_comm]; exact (Nat.pow_succ 2 (2 * d + 2)).symm)
  refine OutB.cg (s_list (k := 22) (op := 8) (B := 2 ^ (2 * d + 2)) (B2 := 2 ^ (2 * d + 3)) (R := R0) (F := C1 a) (gO := fun v v13 => if v = 0 then (some 0) else (if v13 = 0 then (some 0) else (some 1))) (g := fun x y => x && y) (fR := G12_every_b_L5 R0) (fC := G5_readAny_b_L32 a C1) hn (by decide) (by decide) (by decide) hB (by omega) (fun x y => by cases x <;> cases y <;> rfl) (fun v S => rfl) (fun v T Lb => rfl) (fun La b i s v w v2 v3 h1 h2 h3 h4 => la_8 h1 h2 h3 h4) item q hq hk) (fun S => rfl) (fun T L => rfl)
/-- with 'or' -/
theorem s_some {R0 R1 R2 : xU → Option (Int × xU)} {C0 C1 : Int → xU → xU → Option (xU × xU)} {d : Nat} {a : Int} (hn : n ≤ 400) (hd : d ≤ 6) (item : ∀ q, q ≤ n → kA n bt q ≠ 1 → OutB n bt R1 (cEvery C1 a) q d (2 ^ (2 * d + 2))) :
    ∀ q, q ≤ n → kA n bt q ≠ 1 → OutB n bt (G12_some_b R0 R1 R2) (G5_readAny_b C0 C1 a) q d (2 ^ (2 * d + 1)) := by
  intro q hq hk
  have h15 : 2 ^ (2 * d + 2) ≤ 32768 := p2_mono (b := 15) (by omega)
  have hB : 2 * 2 ^ (2 * d + 1) ≤ 2 ^ (2 * d + 2) := Nat.le_of_eq (by rw [Nat.mul_comm]; exact (Nat.pow_succ 2 (2 * d + 1)).symm)
  refine OutB.cg (s_list (k := 21) (op := 9) (B := 2 ^ (2 * d + 1)) (B2 := 2 ^ (2 * d + 2)) (R := R1) (F := cEvery C1 a) (gO := fun v v13 => if v = 0 then (if v13 = 0 then (some 0) else (some 1)) else (some 1)) (g := fun x y => x || y) (fR := G12_some_b_L5 R1) (fC := G5_readAny_b_L2 a C1) hn (by decide) (by decide) (by decide) hB (by omega) (fun x y => by cases x <;> cases y <;> rfl) (fun v S => rfl) (fun v T Lb => rfl) (fun La b i s v w v2 v3 h1 h2 h3 h4 => la_9 h1 h2 h3 h4) item q hq hk) (fun S => rfl) (fun T L => by
    show x_b2 (whl xFU (G5_readAny_b_L2 a C1) (0, T, L)) _ = whl xFU (G5_readAny_b_L2 a C1) (0, T, L)
    cases whl xFU (G5_readAny_b_L2 a C1) (0, T, L) <;> rfl)
/-- as deep as it goes -/
theorem s_deep (hn : n ≤ 400) : ∀ m d kr kc : Nat, m + d = 6 → 1 + 3 * m ≤ kr → 1 + 2 * m ≤ kc → ∀ q, q ≤ n → kA n bt q ≠ 1 → OutB n bt (G12_rec kr 0) (fun T L => G5_rec kc 1 (d : Int) T L) q d (2 ^ (2 * d + 3)) := by
  intro m
  induction m with
  | zero =>
    intro d kr kc hm h1 h2 q hq hk
    obtain ⟨kr, rfl⟩ : ∃ k, kr = k + 1 := ⟨kr - 1, by omega⟩
    obtain ⟨kc, rfl⟩ : ∃ k, kc = k + 1 := ⟨kc - 1, by omega⟩
    exact OutB.cg (s_atom (R0 := G12_rec kr 0) (R1 := G12_rec kr 1) (R2 := G12_rec kr 2) (C0 := G5_rec kc 0) (C1 := G5_rec kc 1) hn (by omega) hq hk (fun w => absurd w (by omega)) (fun w => absurd w (by omega))) (fun S => rfl) (fun T L => rfl)
  | succ m ih =>
    intro d kr kc hm h1 h2 q hq hk
    obtain ⟨kr, rfl⟩ : ∃ k, kr = k + 1 + 1 + 1 := ⟨kr - 3, by omega⟩
    obtain ⟨kc, rfl⟩ : ∃ k, kc = k + 1 + 1 := ⟨kc - 2, by omega⟩
    refine OutB.cg (s_atom (R0 := G12_rec (kr + 1 + 1) 0) (R1 := G12_rec (kr + 1 + 1) 1) (R2 := G12_rec (kr + 1 + 1) 2) (C0 := G5_rec (kc + 1) 0) (C1 := G5_rec (kc + 1) 1) hn (by omega) hq hk (fun w q hq hk => ?_) (fun w q hq hk => ?_)) (fun S => rfl) (fun T L => rfl)
    · exact ih (d + 1) (kr + 1 + 1) (kc + 1) (by omega) (by omega) (by omega) q hq hk
    · exact OutB.cg (s_some (R0 := G12_rec (kr + 1) 0) (R1 := G12_rec (kr + 1) 1) (R2 := G12_rec (kr + 1) 2) (C0 := G5_rec kc 0) (C1 := G5_rec kc 1) (a := ((d + 1 : Nat) : Int)) hn (by omega) (fun q hq hk => OutB.cg (s_every (R0 := G12_rec kr 0) (R1 := G12_rec kr 1) (R2 := G12_rec kr 2) (C1 := G5_rec kc 1) (a := ((d + 1 : Nat) : Int)) hn (by omega) (fun q hq hk => ih (d + 1) kr kc (by omega) (by omega) (by omega) q hq hk) q hq hk) (fun S => rfl) (fun T L => rfl)) q hq hk) (fun S => rfl) (fun T L => rfl)
/-- what a law asks, as a whole -/
theorem s_any (hn : n ≤ 400) {q : Nat} (hq : q ≤ n) (hk : kA n bt q ≠ 1) : OutB n bt G12_some (fun T L => G5_readAny 0 T L) q 0 2 :=
  OutB.cg (s_some (d := 0) (R0 := G12_rec 29 0) (R1 := G12_rec 29 1) (R2 := G12_rec 29 2) (C0 := G5_rec 19 0) (C1 := G5_rec 19 1) (a := 0) hn (by decide) (fun q hq hk => OutB.cg (s_every (d := 0) (R0 := G12_rec 28 0) (R1 := G12_rec 28 1) (R2 := G12_rec 28 2) (C1 := G5_rec 19 1) (a := 0) hn (by decide) (fun q hq hk => s_deep hn 6 0 28 19 rfl (by decide) (by decide) q hq hk) q hq hk) (fun S => rfl) (fun T L => rfl)) q hq hk) (fun S => rfl) (fun T L => rfl)
end RCS
