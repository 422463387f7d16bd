/-! One thing that a law asks, nested or not, both ways. -/
section ATM
variable {n : Nat} {bt : Nat → Int} {q d : Nat}
theorem RS.dp {S : xU} {c : Nat → Int} {d2 : Nat} (h : RS n bt q d S c) : RS n bt q d2 (x_up S 0 13 (d2 : Int)) c :=
  ⟨h.1.f3 (F3.u (.inr (.inr rfl))), (up_i (by decide)).trans h.2.1, by
    obtain ⟨p, h1, h2⟩ := h.2.2.1
    exact ⟨p, (up_i (by decide)).trans h1, h2⟩, up_s, h.2.2.2.2.f3 (F3.u (.inr (.inr rfl)))⟩
theorem st_nf {S : xU} {e p d1 dd : Int} (h : S 0 13 = dd) : x_up (x_up (x_up (x_up S 0 11 e) 0 13 d1) 0 11 p) 0 13 dd = x_up S 0 11 p := by
  funext o i
  by_cases ho : o = 0
  · subst ho
    by_cases h3 : i = 13
    · subst h3; rw [up_s, up_i (by decide), h]
    · by_cases h1 : i = 11
      · subst h1; rw [up_i (by decide), up_s, up_s]
      · rw [up_i h3, up_i h1, up_i h3, up_i h1, up_i h1]
  · rw [up_o ho, up_o ho, up_o ho, up_o ho, up_o ho]
theorem bI_not (b : Bool) : (if bI b = 0 then (some (1 : Int)) else (some 0)) = some (bI (!b)) := by cases b <;> rfl
theorem p2_mono {a b : Nat} (h : a ≤ b) : 2 ^ a ≤ 2 ^ b := Nat.pow_le_pow_right (by decide) h
theorem s_atom {R0 R1 R2 : xU → Option (Int × xU)} {C0 C1 : Int → xU → xU → Option (xU × xU)} (hn : n ≤ 400) (hd : d ≤ 6) (hq : q ≤ n) (hk1 : kA n bt q ≠ 1)
    (hnot : d < 6 → ∀ q, q ≤ n → kA n bt q ≠ 1 → OutB n bt R0 (C1 ((d + 1 : Nat) : Int)) q (d + 1) (2 ^ (2 * (d + 1) + 3)))
    (hpar : d < 6 → ∀ q, q ≤ n → kA n bt q ≠ 1 → OutB n bt R2 (C0 ((d + 1 : Nat) : Int)) q (d + 1) (2 ^ (2 * (d + 1) + 1))) :
    OutB n bt (G12_atom_b R0 R1 R2) (G5_readAtom_b C0 C1 (d : Int)) q d (2 ^ (2 * d + 3)) := by
  have hle := en_le (n := n) (bt := bt) hq
  have h15 : 2 ^ (2 * d + 3) ≤ 32768 := p2_mono (b := 15) (by omega)
  have nx : ∀ T, TK n bt T q (-1) → ∃ T', G10_readNext T = some T' ∧ TK n bt T' (sk n bt (en n bt q)) (-1) := fun T hT => c_next hn hT.1 hT.2.2.2.1 hT.2.2.2.2.2.2.1 hle
  have here : ∀ S c, RS n bt q d S c → G12_here S = some ((q : Int), x_up S 0 11 (q : Int)) := fun S c hS => by
    rw [G12_here, hS.skip hn, x_b1s, up_s]
  by_cases w : wm n bt 23 q = true
  · -- not
    have k2 : kA n bt q = 2 := wm_kA w
    have hqn : q < n := kA_lt (by rw [k2]; decide)
    have en3 : en n bt q = q + 3 := (of_decide_eq_true w).2.1
    have n40 : ¬ decide (q < n ∧ bt q = 40) = true := fun y => by
      have y2 := (of_decide_eq_true y).2
      have : kA n bt q = kd (bt q) := by unfold kA; rw [if_pos hqn]
      rw [this, y2] at k2
      exact absurd k2 (by decide)
    have refq : ∀ S c, RS n bt q d S c → G12_atom_b R0 R1 R2 S = (if (d : Int) = 6 then (some (0, x_up (x_up S 0 11 (en n bt q : Int)) 0 12 (q : Int))) else (x_b2 (R0 (x_up (x_up S 0 11 (en n bt q : Int)) 0 13 ((d + 1 : Nat) : Int))) fun (v20 : Int) (S21 : xU) => (x_b1 (if v20 = 0 then (some (1 : Int)) else (some 0)) fun (v7 : Int) => (x_gd (v7 = 0 ∨ v7 = 1) (some (v7, (x_up S21 0 13 (x_sub (S21 0 13) 1)))))))) := by
      intro S c hS
      have w12 : x_up S 0 11 (en n bt q : Int) 0 12 = -1 := (up_i (by decide)).trans hS.2.1
      have w13 : x_up S 0 11 (en n bt q : Int) 0 13 = (d : Int) := (up_i (by decide)).trans hS.2.2.2.1
      rw [G12_atom_b, if_pos hS.2.1, here S c hS, x_b2s, hS.at.has hn (by decide), if_pos w, x_b2s, if_neg (by decide), up_up, w13]
      by_cases z : (d : Int) = 6
      · rw [if_pos z, if_pos z, G12_wrong, if_pos w12, x_b1s, x_b1s]
      · rw [if_neg z, if_neg z, if_neg (by decide), n_inc (by omega)]
        cases R0 (x_up (x_up S 0 11 (en n bt q : Int)) 0 13 ((d + 1 : Nat) : Int)) with
        | none => rfl
        | some r =>
          obtain ⟨v, S2⟩ := r
          rw [x_b2s, x_b2s]
          by_cases y : v = 0
          · rw [if_pos y]; rfl
          · rw [if_neg y]; rfl
    have clsq : ∀ T Lb, TK n bt T q (-1) → G5_readAtom_b C0 C1 (d : Int) T Lb = (if (d : Int) < 6 then (x_b1 (G10_readNext T) fun (T53 : xU) => (x_b2 (C1 (x_add (d : Int) 1) T53 Lb) fun (T58 : xU) (Lb59 : xU) => (x_b1 (G4_addStep 7 0 Lb59) fun (Lb61 : xU) => (some (T58, Lb61))))) else (x_b1 (G10_refuse T) fun (T68 : xU) => (some (T68, Lb)))) := by
      intro T Lb hT
      rw [G5_readAtom_b, c_isSign (by decide) (by decide) hT, if_neg n40, x_b1s, if_pos rfl, c_isWord hn hT, if_pos w, x_b1s, if_neg (by decide)]
      by_cases z : (d : Int) < 6
      · rw [if_pos z, if_pos z]
        cases G10_readNext T with
        | none => rfl
        | some T53 =>
          rw [x_b1s, x_b1s, if_pos rfl]
          cases C1 (x_add (d : Int) 1) T53 Lb with
          | none => rfl
          | some r =>
            obtain ⟨T58, L59⟩ := r
            rw [x_b2s]
            cases G4_addStep 7 0 L59 <;> rfl
      · rw [if_neg z, if_neg z]
    by_cases z : d = 6
    · right
      refine ⟨q, ?_, ?_⟩
      · intro S c hS
        rw [refq S c hS, if_pos (by omega)]
        exact ⟨0, _, rfl, .inl rfl, up_s, (F3.u (.inl rfl)).tr (F3.u (.inr (.inl rfl))), by rw [up_i (by decide), up_s]; omega, by rw [up_i (by decide), up_s]; omega⟩
      · intro T Lb hT
        obtain ⟨T', k1, k2⟩ := c_refuse hT
        rw [if_pos rfl] at k2
        rw [clsq T Lb hT, if_neg (by omega), k1, x_b1s]
        exact ⟨T', Lb, q, rfl, k2⟩
    · have hge := sk_ge (n := n) (bt := bt) (q := en n bt q)
      have ed : x_add (d : Int) 1 = ((d + 1 : Nat) : Int) := n_inc (by omega)
      have es : ∀ S2 : xU, S2 0 13 = ((d + 1 : Nat) : Int) → x_sub (S2 0 13) 1 = (d : Int) := fun S2 h => by rw [h, x_sub_of ⟨by omega, by omega⟩]; omega
      have e6 : ¬ (d : Int) = 6 := by omega
      have e6' : (d : Int) < 6 := by omega
      rcases hnot (by omega) (sk n bt (en n bt q)) (sk_le hle) (sk_kA hle) with ⟨p, u, h1, h2, o1, o2, o3⟩ | ⟨f, b1, b2⟩
      · left
        refine ⟨p, fun c => !(u c), by omega, h2, ?_, ?_, ?_⟩
        · intro S c hS
          rw [refq S c hS, if_neg e6, o1 _ c (hS.mv hle).dp, x_b2s, bI_not, x_b1s, x_gd_t (bI_01 _), es _ (by rw [up_i (by decide), up_s]), st_nf hS.2.2.2.1]
        · intro T Lb e0 hT he hb
          obtain ⟨T53, k1, k2⟩ := nx T hT
          obtain ⟨T', L1, e1, r1, r2, r3, r4, r5, r6⟩ := o2 T53 Lb e0 k2 he (by omega)
          obtain ⟨L2, s1, s2, s3⟩ := c_step (a := 7) (g := 0) (by decide) (by decide) r5.1 (by omega)
          rw [clsq T Lb hT, if_pos e6', k1, x_b1s, ed, r1, x_b2s, show G4_addStep 7 0 L1 = _ from s1, x_b1s]
          refine ⟨T', L2, e1 + 1, rfl, r2, by omega, by omega, r5.tr s2 r4 (by omega), ?_⟩
          intro La c b s f hh hc hb1 hb4 hs1
          obtain ⟨f', k⟩ := (r6.c (L2 := L2) (fun i _ hi => s2.2.2.2 i (.inl hi))) La c b s f (fun i i0 i1 => hh i i0 (by omega)) hc (by omega) hb4 (Nat.lt_of_lt_of_le hs1 (p2_mono (by omega)))
          refine ⟨f', ?_⟩
          rw [show e1 + 1 - e0 = (e1 - e0) + 1 by omega]
          exact k.tr (Sg.one (la_7 (by omega) (by rw [hh e1 (by omega) (by omega)]; exact s3) (by omega) hb4))
        · intro T Lb hT
          obtain ⟨T53, k1, k2⟩ := nx T hT
          obtain ⟨T', L1, r1, r2⟩ := o3 T53 Lb k2
          obtain ⟨L2, s1⟩ := c_stepd (a := 7) (g := 0) (Lb := L1)
          rw [clsq T Lb hT, if_pos e6', k1, x_b1s, ed, r1, x_b2s, s1, x_b1s]
          exact ⟨T', L2, rfl, r2⟩
      · right
        refine ⟨f, ?_, ?_⟩
        · intro S c hS
          obtain ⟨v, S2, w1, w2, w3, w4, w5, w6⟩ := b1 _ c (hS.mv hle).dp
          have hb : (if v = 0 then (some (1 : Int)) else (some 0)) = some (if v = 0 then 1 else 0) := by
            by_cases y : v = 0
            · rw [if_pos y, if_pos y]
            · rw [if_neg y, if_neg y]
          have hg : (if v = 0 then (1 : Int) else 0) = 0 ∨ (if v = 0 then (1 : Int) else 0) = 1 := by
            by_cases y : v = 0
            · rw [if_pos y]; exact .inr rfl
            · rw [if_neg y]; exact .inl rfl
          rw [refq S c hS, if_neg e6, w1, x_b2s, hb, x_b1s, x_gd_t hg]
          refine ⟨_, _, rfl, hg, (up_i (by decide)).trans w3, (((F3.u (.inl rfl)).tr (F3.u (.inr (.inr rfl)))).tr w4).tr (F3.u (.inr (.inr rfl))), ?_, ?_⟩
          · rw [up_i (by decide)]; exact w5
          · rw [up_i (by decide)]; omega
        · intro T Lb hT
          obtain ⟨T53, k1, k2⟩ := nx T hT
          obtain ⟨T', L1, q', r1, r2⟩ := b2 T53 Lb k2
          obtain ⟨L2, s1⟩ := c_stepd (a := 7) (g := 0) (Lb := L1)
          rw [clsq T Lb hT, if_pos e6', k1, x_b1s, ed, r1, x_b2s, s1, x_b1s]
          exact ⟨T', L2, q', rfl, r2⟩
  by_cases y40 : q < n ∧ bt q = 40
  · -- in brackets
    have d40 := decide_eq_true y40
    have en1 : en n bt q = q + 1 := by unfold en; rw [if_pos y40.1, if_pos (by rw [y40.2]; decide)]
    have refq : ∀ S c, RS n bt q d S c → G12_atom_b R0 R1 R2 S = (if (d : Int) = 6 then (some (0, x_up (x_up S 0 11 (q : Int)) 0 12 (q : Int))) else (x_b2 (R2 (x_up (x_up (x_up S 0 11 (q : Int)) 0 13 ((d + 1 : Nat) : Int)) 0 11 ((q + 1 : Nat) : Int))) fun (v33 : Int) (S34 : xU) => (x_b1 (if (S34 0 12) = (-1) then (x_b2 (G12_isSign 41 S34) fun (v38 : Int) (S39 : xU) => (if v38 = 0 then (x_b1 (G12_wrong (S39 0 11) S39) fun (S41 : xU) => (some S41)) else (some S39))) else (some S34)) fun (S36 : xU) => (x_gd (v33 = 0 ∨ v33 = 1) (some (v33, (x_up (x_up S36 0 11 (x_add (S36 0 11) 1)) 0 13 (x_sub ((x_up S36 0 11 (x_add (S36 0 11) 1)) 0 13) 1))))))) ) := by
      intro S c hS
      have w12 : x_up S 0 11 (q : Int) 0 12 = -1 := (up_i (by decide)).trans hS.2.1
      have w13 : x_up S 0 11 (q : Int) 0 13 = (d : Int) := (up_i (by decide)).trans hS.2.2.2.1
      rw [G12_atom_b, if_pos hS.2.1, here S c hS, x_b2s, hS.at.has hn (by decide), if_neg w, x_b2s, if_pos rfl, up_up, hS.at.sign hn, if_pos d40, x_b2s, if_neg (by decide), up_up, w13]
      by_cases z : (d : Int) = 6
      · rw [if_pos z, if_pos z, G12_wrong, if_pos w12, x_b1s, x_b1s]
      · rw [if_neg z, if_neg z, if_pos rfl, n_inc (show d < 2147483647 by omega), up_i (show (11 : Nat) ≠ 13 by decide), up_s, n_inc (by omega)]
        cases R2 (x_up (x_up (x_up S 0 11 (q : Int)) 0 13 ((d + 1 : Nat) : Int)) 0 11 ((q + 1 : Nat) : Int)) with
        | none => rfl
        | some r =>
          obtain ⟨v, S2⟩ := r
          rw [x_b2s, x_b2s]
          cases (if (S2 0 12) = (-1) then (x_b2 (G12_isSign 41 S2) fun (v38 : Int) (S39 : xU) => (if v38 = 0 then (x_b1 (G12_wrong (S39 0 11) S39) fun (S41 : xU) => (some S41)) else (some S39))) else (some S2)) <;> rfl
    have clsq : ∀ T Lb, TK n bt T q (-1) → G5_readAtom_b C0 C1 (d : Int) T Lb = (if (d : Int) < 6 then (x_b1 (G10_readNext T) fun (T3 : xU) => (x_b2 (C0 (x_add (d : Int) 1) T3 Lb) fun (T13 : xU) (Lb14 : xU) => (x_b1 (G10_expectSign 41 T13) fun (T16 : xU) => (some (T16, Lb14))))) else (x_b1 (G10_refuse T) fun (T68 : xU) => (some (T68, Lb)))) := by
      intro T Lb hT
      rw [G5_readAtom_b, c_isSign (by decide) (by decide) hT, if_pos d40, x_b1s, if_neg (by decide)]
      by_cases z : (d : Int) < 6
      · rw [if_pos z, if_pos z]
        cases G10_readNext T with
        | none => rfl
        | some T53 =>
          rw [x_b1s, x_b1s, if_neg (by decide)]
          cases C0 (x_add (d : Int) 1) T53 Lb with
          | none => rfl
          | some r =>
            obtain ⟨T58, L59⟩ := r
            rw [x_b2s]
            cases G10_expectSign 41 T58 <;> rfl
      · rw [if_neg z, if_neg z]
    by_cases z : d = 6
    · right
      refine ⟨q, ?_, ?_⟩
      · intro S c hS
        rw [refq S c hS, if_pos (by omega)]
        exact ⟨0, _, rfl, .inl rfl, up_s, (F3.u (.inl rfl)).tr (F3.u (.inr (.inl rfl))), by rw [up_i (by decide), up_s]; omega, by rw [up_i (by decide), up_s]; omega⟩
      · intro T Lb hT
        obtain ⟨T', k1, k2⟩ := c_refuse hT
        rw [if_pos rfl] at k2
        rw [clsq T Lb hT, if_neg (by omega), k1, x_b1s]
        exact ⟨T', Lb, q, rfl, k2⟩
    · have hge := sk_ge (n := n) (bt := bt) (q := en n bt q)
      have ed : x_add (d : Int) 1 = ((d + 1 : Nat) : Int) := n_inc (by omega)
      have e6 : ¬ (d : Int) = 6 := by omega
      have e6' : (d : Int) < 6 := by omega
      have hS2 : ∀ S c, RS n bt q d S c → RS n bt (sk n bt (en n bt q)) (d + 1) (x_up (x_up (x_up S 0 11 (q : Int)) 0 13 ((d + 1 : Nat) : Int)) 0 11 ((q + 1 : Nat) : Int)) c := fun S c hS => by
        rw [en1]
        exact (hS.at.dp (d2 := d + 1)).mv (p := q + 1) (by omega)
      have fS2 : ∀ S : xU, F3 S (x_up (x_up (x_up S 0 11 (q : Int)) 0 13 ((d + 1 : Nat) : Int)) 0 11 ((q + 1 : Nat) : Int)) := fun S => ((F3.u (.inl rfl)).tr (F3.u (.inr (.inr rfl)))).tr (F3.u (.inl rfl))
      rcases hpar (by omega) (sk n bt (en n bt q)) (sk_le hle) (sk_kA hle) with ⟨p, u, h1, h2, o1, o2, o3⟩ | ⟨f, b1, b2⟩
      · have hge2 := sk_ge (n := n) (bt := bt) (q := p)
        have hq2 := sk_le (bt := bt) h2
        by_cases s41 : sk n bt p < n ∧ bt (sk n bt p) = 41
        · have d41 := decide_eq_true s41
          have cl : ∀ T, TK n bt T (sk n bt p) (-1) → ∃ T', G10_expectSign 41 T = some T' ∧ TK n bt T' (sk n bt (sk n bt p + 1)) (-1) := fun T hT => by
            obtain ⟨T', k1, k2⟩ := c_expectSign (a := 41) (by decide) (by decide) hn hT
            rw [if_pos d41, if_pos d41] at k2
            exact ⟨T', k1, k2⟩
          left
          refine ⟨sk n bt p + 1, u, by omega, by omega, ?_, ?_, ?_⟩
          · intro S c hS
            have hS3 := (hS2 S c hS).mv h2
            rw [refq S c hS, if_neg e6, o1 _ c (hS2 S c hS), x_b2s, if_pos hS3.2.1, hS3.sign hn, if_pos d41, x_b2s, if_neg (by decide), x_b1s, x_gd_t (bI_01 _), up_up, up_up, up_s, up_up, n_inc (by omega), up_i (show (13 : Nat) ≠ 11 by decide), up_s, show x_sub ((d + 1 : Nat) : Int) 1 = (d : Int) by rw [x_sub_of ⟨by omega, by omega⟩]; omega, st_nf hS.2.2.2.1]
          · intro T Lb e0 hT he hb
            obtain ⟨T53, k1, k2⟩ := nx T hT
            obtain ⟨T', L1, e1, r1, r2, r3, r4, r5, r6⟩ := o2 T53 Lb e0 k2 he (by omega)
            obtain ⟨T2, x1, x2⟩ := cl T' r2
            rw [clsq T Lb hT, if_pos e6', k1, x_b1s, ed, r1, x_b2s, x1, x_b1s]
            refine ⟨T2, L1, e1, rfl, x2, by omega, r4, r5, ?_⟩
            intro La c b s f hh hc hb1 hb4 hs1
            exact r6 La c b s f hh hc hb1 hb4 (Nat.lt_of_lt_of_le hs1 (p2_mono (by omega)))
          · intro T Lb hT
            obtain ⟨T53, k1, k2⟩ := nx T hT
            obtain ⟨T', L1, r1, r2⟩ := o3 T53 Lb k2
            obtain ⟨T2, x1, x2⟩ := cl T' r2
            rw [clsq T Lb hT, if_pos e6', k1, x_b1s, ed, r1, x_b2s, x1, x_b1s]
            exact ⟨T2, L1, rfl, x2⟩
        · have d41 : ¬ decide (sk n bt p < n ∧ bt (sk n bt p) = 41) = true := fun y => s41 (of_decide_eq_true y)
          right
          refine ⟨sk n bt p, ?_, ?_⟩
          · intro S c hS
            have hS3 := (hS2 S c hS).mv h2
            have hS4 := hS3.at
            rw [refq S c hS, if_neg e6, o1 _ c (hS2 S c hS), x_b2s, if_pos hS3.2.1, hS3.sign hn, if_neg d41, x_b2s, if_pos rfl, up_s, G12_wrong, if_pos hS4.2.1, x_b1s, x_b1s, x_b1s, x_gd_t (bI_01 _)]
            refine ⟨_, _, rfl, bI_01 _, ?_, ?_, ?_, ?_⟩
            · rw [up_i (by decide), up_i (by decide), up_s]
            · exact (((((fS2 S).tr (F3.u (.inl rfl))).tr (F3.u (.inl rfl))).tr (F3.u (.inr (.inl rfl)))).tr (F3.u (.inl rfl))).tr (F3.u (.inr (.inr rfl)))
            · rw [up_i (by decide), up_s, up_i (by decide), up_s, n_inc (by omega)]; omega
            · rw [up_i (by decide), up_s, up_i (by decide), up_s, n_inc (by omega)]; omega
          · intro T Lb hT
            obtain ⟨T53, k1, k2⟩ := nx T hT
            obtain ⟨T', L1, r1, r2⟩ := o3 T53 Lb k2
            obtain ⟨T2, x1, x2⟩ := c_expectSign (a := 41) (by decide) (by decide) hn r2
            rw [if_neg d41, if_neg d41, if_pos rfl] at x2
            rw [clsq T Lb hT, if_pos e6', k1, x_b1s, ed, r1, x_b2s, x1, x_b1s]
            exact ⟨T2, L1, _, rfl, x2⟩
      · right
        refine ⟨f, ?_, ?_⟩
        · intro S c hS
          obtain ⟨v, S2, w1, w2, w3, w4, w5, w6⟩ := b1 _ c (hS2 S c hS)
          obtain ⟨z, hz⟩ := Int.eq_ofNat_of_zero_le w5
          have hz2 : z < 1000 := by rw [hz] at w6; omega
          rw [refq S c hS, if_neg e6, w1, x_b2s, if_neg (by rw [w3]; omega), x_b1s, x_gd_t w2]
          refine ⟨_, _, rfl, w2, ?_, ((fS2 S).tr w4).tr ((F3.u (.inl rfl)).tr (F3.u (.inr (.inr rfl)))), ?_, ?_⟩
          · rw [up_i (by decide), up_i (by decide)]; exact w3
          · rw [up_i (by decide), up_s, hz, n_inc (by omega)]; omega
          · rw [up_i (by decide), up_s, hz, n_inc (by omega)]; omega
        · intro T Lb hT
          obtain ⟨T53, k1, k2⟩ := nx T hT
          obtain ⟨T', L1, q', r1, r2⟩ := b2 T53 Lb k2
          obtain ⟨T2, x1, x2⟩ := c_expectSign (a := 41) (by decide) (by decide) hn r2
          rw [if_neg (show ¬ (f : Int) = -1 by omega), ite_self] at x2
          rw [clsq T Lb hT, if_pos e6', k1, x_b1s, ed, r1, x_b2s, x1, x_b1s]
          exact ⟨T2, L1, _, rfl, x2⟩
  · -- plain
    have d40 : ¬ decide (q < n ∧ bt q = 40) = true := fun y => y40 (of_decide_eq_true y)
    have clsq : ∀ T Lb, TK n bt T q (-1) → G5_readAtom_b C0 C1 (d : Int) T Lb = cPlain T Lb := by
      intro T Lb hT
      rw [G5_readAtom_b, c_isSign (by decide) (by decide) hT, if_neg d40, x_b1s, if_pos rfl, c_isWord hn hT, if_neg w, x_b1s, if_pos rfl]
      rfl
    have refq : ∀ S c, RS n bt q d S c → G12_atom_b R0 R1 R2 S = x_b2 (G12_plain (x_up S 0 11 (q : Int))) fun (v50 : Int) (S51 : xU) => (x_gd (v50 = 0 ∨ v50 = 1) (some (v50, S51))) := by
      intro S c hS
      rw [G12_atom_b, if_pos hS.2.1, here S c hS, x_b2s, hS.at.has hn (by decide), if_neg w, x_b2s, if_pos rfl, up_up, hS.at.sign hn, if_neg d40, x_b2s, if_pos rfl, up_up]
    rcases s_plain (n := n) (bt := bt) (q := q) (d := d) hn (by omega) hq hk1 with ⟨p, u, h1, h2, o1, o2, o3⟩ | ⟨f, b1, b2⟩
    · left
      refine ⟨p, u, h1, h2, ?_, ?_, ?_⟩
      · intro S c hS
        rw [refq S c hS, o1 _ c hS.at, x_b2s, x_gd_t (bI_01 _), up_up]
      · intro T Lb e0 hT he hb
        obtain ⟨T', L1, e1, r1, r2, r3, r4, r5, r6⟩ := o2 T Lb e0 hT he hb
        rw [clsq T Lb hT]
        exact ⟨T', L1, e1, r1, r2, r3, r4, r5, fun La c b s f hh hc hb1 hb4 hs1 => r6 La c b s f hh hc hb1 hb4 (by omega)⟩
      · intro T Lb hT
        rw [clsq T Lb hT]
        exact o3 T Lb hT
    · right
      refine ⟨f, ?_, ?_⟩
      · intro S c hS
        obtain ⟨v, S2, w1, w2, w3, w4, w5⟩ := b1 _ c hS.at
        rw [refq S c hS, w1, x_b2s, x_gd_t w2]
        exact ⟨v, S2, rfl, w2, w3, (F3.u (.inl rfl)).tr w4, w5⟩
      · intro T Lb hT
        rw [clsq T Lb hT]
        exact b2 T Lb hT
end ATM
