/-! A law's text: its lines, read and obeyed. -/
/-- the class's lines from the j-th do what t says -/
def ELn (t : (Nat → Int) → Int × Int → Int × Int) (N : Nat) (Lb : xU) (j e0 : Nat) : Prop := ∀ (La : xU) (c : Nat → Int) (z pace : Int) (k : Nat), LaEq Lb La → Cc c La → 0 ≤ pace → pace ≤ 8 → -(20 * (j : Int)) ≤ z → z ≤ 20 * (j : Int) → N - j < k →
  whl k (G4_strideOf_L65 La) (pace + z, (e0 : Int), (j : Int)) = some (if (t c (0, z)).1 = 0 then .inl (pace + (t c (0, z)).2) else .inr (0, La)) ∧ ((t c (0, z)).1 = 0 → -(20 * (N : Int)) ≤ (t c (0, z)).2 ∧ (t c (0, z)).2 ≤ 20 * (N : Int))
def Hlt (t : (Nat → Int) → Int × Int → Int × Int) : Prop := ∀ c x, x.1 ≠ 0 → (t c x).1 ≠ 0
theorem ELn.end {N : Nat} {Lb : xU} {e0 : Nat} (h6 : Lb 0 6 = (N : Int)) : ELn (fun _ x => x) N Lb N e0 := by
  intro La c z pace k hL hc h1 h2 h3 h4 hk
  obtain ⟨k, rfl⟩ : ∃ k', k = k' + 1 := ⟨k - 1, by omega⟩
  refine ⟨?_, fun _ => ⟨h3, h4⟩⟩
  rw [whl_r (r := .inl (pace + z)) (by rw [G4_strideOf_L65, if_pos (by rw [hL.1.2, h6]; omega)]), if_pos rfl]
theorem ELn.step {t : (Nat → Int) → Int × Int → Int × Int} {u : (Nat → Int) → Bool} {ka nu : Int} {N : Nat} {Lb : xU} {j e0 e1 : Nat} (h : ELn t N Lb (j + 1) e1) (ht : Hlt t) (h6 : Lb 0 6 = (N : Int)) (hjN : j < N) (hN : N ≤ 12) (hka : 0 ≤ ka ∧ ka ≤ 2) (hnu : 0 ≤ nu ∧ nu ≤ 20) (he : e1 ≤ 400)
    (c1 : Lb 1 j = ka) (c2 : Lb 2 j = nu) (c3 : Lb 3 j = (e1 : Int)) (hu : EvN u Lb e0 e1) : ELn (fun c x => t c (lsn ka nu (u c) x)) N Lb j e0 := by
  intro La c z pace k hL hc h1 h2 h3 h4 hk
  obtain ⟨k, rfl⟩ : ∃ k', k = k' + 1 := ⟨k - 1, by omega⟩
  have l1 : La 1 j = ka := (hL.2 1 j (.inl ⟨by decide, by decide, by omega⟩)).trans c1
  have l2 : La 2 j = nu := (hL.2 2 j (.inl ⟨by decide, by decide, by omega⟩)).trans c2
  have l3 : La 3 j = (e1 : Int) := (hL.2 3 j (.inl ⟨by decide, by decide, by omega⟩)).trans c3
  have hh := hu La c (fun i _ hi => hL.2 4 i (.inr ⟨rfl, by omega⟩)) hc he
  have hj1 : j < 12 := by omega
  have pre : G4_strideOf_L65 La (pace + z, (e0 : Int), (j : Int)) = (if bI (u c) = 0 then (some (.inl (pace + z, (e1 : Int), ((j + 1 : Nat) : Int)))) else (if ka = 2 then (some (.inr (.inr (0, La)))) else (x_b1 (if ka = 1 then (some nu) else (some (x_neg nu))) fun (v13 : Int) => (some (.inl ((x_add (pace + z) v13), (e1 : Int), ((j + 1 : Nat) : Int))))))) := by
    rw [G4_strideOf_L65, if_neg (by rw [hL.1.2, h6]; omega), if_neg (by omega), x_gd_t ⟨by omega, by omega⟩, Int.toNat_natCast, l3, hh, x_b1s, l1, l2, x_gd_t ⟨by omega, by omega⟩, x_gd_t ⟨by omega, by omega⟩, x_gd_t ⟨by omega, by omega⟩, n_inc (by omega), x_gd_t ⟨by omega, by omega⟩, x_gd_t ⟨by omega, by omega⟩]
    congr 2
    congr 1
    funext v
    rw [x_gd_t ⟨by omega, by omega⟩]
  cases hb : u c with
  | false =>
    rw [hb, if_pos (show bI false = 0 from rfl)] at pre
    rw [whl_l pre]
    have := h La c z pace k hL hc h1 h2 (by omega) (by omega) (by omega)
    simp only [hb, lsn, Bool.false_eq_true, if_false]
    exact this
  | true =>
    rw [hb, if_neg (show ¬ bI true = 0 by decide)] at pre
    have els : lsn ka nu true (0, z) = (if ka = 2 then 1 else 0, x_add z (if ka = 0 then x_neg nu else nu)) := rfl
    by_cases k2 : ka = 2
    · rw [if_pos k2] at pre
      rw [whl_r pre]
      have hne : (t c (lsn ka nu (u c) (0, z))).1 ≠ 0 := by
        rw [hb, els]
        exact ht c _ (by rw [if_pos k2]; show (1 : Int) ≠ 0; decide)
      exact ⟨by rw [if_neg hne], fun w => absurd w hne⟩
    · rw [if_neg k2] at pre
      have ev : (if ka = 1 then (some nu) else (some (x_neg nu))) = some (if ka = 0 then x_neg nu else nu) := by
        by_cases a : ka = 1
        · rw [if_pos a, if_neg (show ¬ ka = 0 by omega)]
        · rw [if_neg a, if_pos (show ka = 0 by omega)]
      have en : x_neg nu = -nu := by
        rw [x_neg, ← Int32.ofInt_neg, x_to32 ⟨by omega, by omega⟩]
      have eb : -20 ≤ (if ka = 0 then x_neg nu else nu) ∧ (if ka = 0 then x_neg nu else nu) ≤ 20 := by
        by_cases a : ka = 0
        · rw [if_pos a, en]; omega
        · rw [if_neg a]; omega
      rw [if_neg k2] at els
      rw [ev, x_b1s] at pre
      generalize (if ka = 0 then x_neg nu else nu) = v at *
      rw [x_add_of ⟨by omega, by omega⟩] at pre els
      rw [whl_l pre, show pace + z + v = pace + (z + v) by omega]
      have := h La c (z + v) pace k hL hc h1 h2 (by omega) (by omega) (by omega)
      simp only [hb, els]
      exact this
section LTX
variable {n : Nat} {bt : Nat → Int}
theorem s_laws (hn : n ≤ 400) : ∀ d j p : Nat, j + d + 1 = 12 → p ≤ n → 
    (∃ N t, j < N ∧ N ≤ 12 ∧ Hlt t ∧ (∀ S c k, RS n bt (sk n bt p) 0 S c → 2 * d + 4 < k → whl k (G12_read_L23 1) (1, (j : Int), S) = some ((N : Int), lst S n (t c (S 0 17, S 0 18)))) ∧
      ∀ T Lb (e0 k : Nat), TK n bt T (sk n bt p) (-1) → Lb 0 5 = (e0 : Int) → Lb 0 6 = (j : Int) → e0 + n ≤ 400 + p → 2 * d + 2 < k → ∃ T' Lb', (x_b2 (G5_readLine T Lb) fun (T11 : xU) (D12 : xU) => whl k G5_readInto_L6 (((j + 1 : Nat) : Int), T11, D12)) = some (T', Lb') ∧ T' 0 7 = -1 ∧ Lb' 0 6 = (N : Int) ∧ (∀ i, i < j → Lb' 1 i = Lb 1 i ∧ Lb' 2 i = Lb 2 i ∧ Lb' 3 i = Lb 3 i) ∧ (∀ i, i < e0 → Lb' 4 i = Lb 4 i) ∧ ELn t N Lb' j e0) ∨
    ∃ f : Nat, (∀ S c k, RS n bt (sk n bt p) 0 S c → 2 * d + 4 < k → ∃ v S', whl k (G12_read_L23 1) (1, (j : Int), S) = some (v, S') ∧ S' 0 12 = (f : Int) ∧ F5 S S') ∧
      ∀ T Lb (k : Nat), TK n bt T (sk n bt p) (-1) → 2 * d + 2 < k → ∃ T' Lb', (x_b2 (G5_readLine T Lb) fun (T11 : xU) (D12 : xU) => whl k G5_readInto_L6 (((j + 1 : Nat) : Int), T11, D12)) = some (T', Lb') ∧ T' 0 7 = (f : Int) := by
  intro d
  induction d using Nat.strongRecOn with
  | ind d ih =>
    intro j p hj hp
    have hq := sk_le (bt := bt) hp
    have hpq := sk_ge (n := n) (bt := bt) (q := p)
    have hk1 := sk_kA (n := n) (bt := bt) hp
    generalize hqq : sk n bt p = q at *
    have nj : x_add (j : Int) 1 = ((j + 1 : Nat) : Int) := n_inc (by omega)
    -- the reference, a turn
    have turn : ∀ S c, RS n bt q 0 S c → G12_read_L23 1 (1, (j : Int), S) = x_b1 (G12_lawLine (x_up S 0 11 (q : Int))) fun (S16 : xU) => (x_b1 (G12_skip S16) fun (S24 : xU) => (if (S24 0 12) = (-1) then (if (S24 0 11) = (S24 0 10) then (some (.inl (0, ((j + 1 : Nat) : Int), S24))) else (x_b2 (G12_isSign 59 S24) fun (v26 : Int) (S27 : xU) => (if v26 = 0 then (x_b1 (G12_wrong (S27 0 11) S27) fun (S29 : xU) => (some (.inl (1, ((j + 1 : Nat) : Int), S29)))) else (some (.inl (1, ((j + 1 : Nat) : Int), (x_up S27 0 11 (x_add (S27 0 11) 1)))))))) else (some (.inl (0, ((j + 1 : Nat) : Int), S24))))) := by
      intro S c hS
      rw [G12_read_L23, if_neg (show ¬ (1 : Int) = 0 by decide), if_pos hS.2.1, hS.skip hn, x_b1s, if_neg (show ¬ (1 : Int) = 0 by decide), x_b1s, if_neg (show ¬ (j : Int) = 12 by omega), if_neg (show ¬ (1 : Int) = 0 by decide), nj]
      cases G12_lawLine (x_up S 0 11 (q : Int)) <;> rfl
    have clast : ∀ (T1 L1 T2 : xU) (v : Int), G10_startsLine ((j + 1 : Nat) : Int) 12 T1 = some (v, T2) → G5_readInto_L6 (((j + 1 : Nat) : Int), T1, L1) = (if v = 0 then (some (.inr (T2, L1))) else (x_b2 (G5_readLine T2 L1) fun (T13 : xU) (Lb14 : xU) => (some (.inl (((j + 1 + 1 : Nat) : Int), T13, Lb14))))) := by
      intro T1 L1 T2 v h
      rw [G5_readInto_L6, if_neg (by omega), h, x_b2s, n_inc (show j + 1 < 2147483647 by omega)]
    rcases s_lawline (n := n) (bt := bt) hn hq hk1 with ⟨p1, ka, nu, u, h1, h2, hka, hnu0, hnu1, o1, o2, o3⟩ | ⟨f, b1, b2⟩
    · -- the line is right
      have hq1 := sk_le (bt := bt) h2
      have hpq1 := sk_ge (n := n) (bt := bt) (q := p1)
      have hid1 := sk_id (n := n) (bt := bt) (sk_kA (n := n) (bt := bt) h2)
      have ref1 : ∀ S c, RS n bt q 0 S c → G12_read_L23 1 (1, (j : Int), S) = (if ((sk n bt p1 : Nat) : Int) = (n : Int) then (some (.inl (0, ((j + 1 : Nat) : Int), lst S (sk n bt p1) (lsn ka nu (u c) (S 0 17, S 0 18))))) else (x_b2 (G12_isSign 59 (lst S (sk n bt p1) (lsn ka nu (u c) (S 0 17, S 0 18)))) fun (v26 : Int) (S27 : xU) => (if v26 = 0 then (x_b1 (G12_wrong (S27 0 11) S27) fun (S29 : xU) => (some (.inl (1, ((j + 1 : Nat) : Int), S29)))) else (some (.inl (1, ((j + 1 : Nat) : Int), (x_up S27 0 11 (x_add (S27 0 11) 1)))))))) := by
        intro S c hS
        have hl := hS.lst (p := p1) (x := lsn ka nu (u c) (S 0 17, S 0 18)) h2
        have hl2 := hS.lst (p := sk n bt p1) (x := lsn ka nu (u c) (S 0 17, S 0 18)) hq1
        rw [turn S c hS, o1 _ c hS.at, x_b1s, lst_a, up_i (by decide), up_i (by decide), hl.skip hn, x_b1s, lst_u, if_pos hl2.2.1, lst_11, show lst S (sk n bt p1) (lsn ka nu (u c) (S 0 17, S 0 18)) 0 10 = (n : Int) from hl2.1.1]
      by_cases ze : sk n bt p1 < n
      · by_cases s : bt (sk n bt p1) = 59
        · have ds := decide_eq_true (⟨ze, s⟩ : sk n bt p1 < n ∧ bt (sk n bt p1) = 59)
          have ref2 : ∀ S c, RS n bt q 0 S c → G12_read_L23 1 (1, (j : Int), S) = some (.inl (1, ((j + 1 : Nat) : Int), lst S (sk n bt p1 + 1) (lsn ka nu (u c) (S 0 17, S 0 18)))) := by
            intro S c hS
            have hl2 := hS.lst (p := sk n bt p1) (x := lsn ka nu (u c) (S 0 17, S 0 18)) hq1
            rw [ref1 S c hS, if_neg (by omega), hl2.sign hn, hid1, if_pos ds, x_b2s, if_neg (show ¬ (1 : Int) = 0 by decide), up_s, up_up, n_inc (by omega), lst_u]
          by_cases l : j + 1 < 12
          · -- another line
            have hst : ∀ T1, TK n bt T1 (sk n bt p1) (-1) → ∃ T2, G10_startsLine ((j + 1 : Nat) : Int) 12 T1 = some (1, T2) ∧ TK n bt T2 (sk n bt (sk n bt p1 + 1)) (-1) := by
              intro T1 hT1
              obtain ⟨v, T2, q', f', e1, e2, A1, A2, A3, A4⟩ := c_starts (a := ((j + 1 : Nat) : Int)) (b := 12) hn (by omega) hT1
              have A := A4 rfl ze s
              rw [if_pos (by omega)] at A
              obtain ⟨rfl, rfl, rfl⟩ := A
              exact ⟨T2, e1, e2⟩
            rcases ih (d - 1) (by omega) (j + 1) (sk n bt p1 + 1) (by omega) (by omega) with ⟨N, t, i1, i2, i3, i4, i5⟩ | ⟨f, i4, i5⟩
            · left
              refine ⟨N, fun c x => t c (lsn ka nu (u c) x), by omega, i2, ?_, ?_, ?_⟩
              · intro c x hx
                refine i3 c _ ?_
                unfold lsn
                by_cases y : u c = true
                · rw [if_pos y]
                  show (if x.1 = 0 then (if ka = 2 then (1 : Int) else 0) else 1) ≠ 0
                  rw [if_neg hx]; decide
                · rw [if_neg y]; exact hx
              · intro S c k hS hk
                obtain ⟨k, rfl⟩ : ∃ k', k = k' + 1 := ⟨k - 1, by omega⟩
                have hl3 := hS.lst (p := sk n bt p1 + 1) (x := lsn ka nu (u c) (S 0 17, S 0 18)) (by omega)
                rw [whl_l (ref2 S c hS), i4 _ c k hl3 (by omega), lst_l, lst_17, lst_18]
              · intro T Lb e0 k hT he hj6 hb hk
                obtain ⟨k, rfl⟩ : ∃ k', k = k' + 1 := ⟨k - 1, by omega⟩
                obtain ⟨T1, L1, e1, r1, r2, r3, r4, ⟨l1, l2, l3, l4, l5, l6, l7⟩, r6⟩ := o2 T Lb e0 j hT he hj6 (by omega) (by omega)
                obtain ⟨T2, s1, s2⟩ := hst T1 r2
                obtain ⟨T', L', w1, w2, w3, w4, w5, w6⟩ := i5 T2 L1 e1 k s2 l1 l2 (by omega) (by omega)
                obtain ⟨Ta, La, y1, y2⟩ := x_bd2 w1
                refine ⟨T', L', ?_, w2, w3, ?_, ?_, ?_⟩
                · rw [r1, x_b2s, whl_l (s' := (((j + 1 + 1 : Nat) : Int), Ta, La)) (by rw [clast T1 L1 T2 1 s1, if_neg (show ¬ (1 : Int) = 0 by decide), y1, x_b2s])]
                  exact y2
                · intro i hi
                  have a := w4 i (by omega)
                  have b := l6 i (by omega)
                  exact ⟨a.1.trans b.1, a.2.1.trans b.2.1, a.2.2.trans b.2.2⟩
                · intro i hi
                  rw [w5 i (by omega), l7 i (.inl hi)]
                · have a := w4 j (by omega)
                  exact ELn.step w6 i3 w3 (by omega) i2 hka ⟨hnu0, hnu1⟩ (by omega) (a.1.trans l3) (a.2.1.trans l4) (a.2.2.trans l5) (r6.c (fun i _ hi => w5 i hi))
            · right
              refine ⟨f, ?_, ?_⟩
              · intro S c k hS hk
                obtain ⟨k, rfl⟩ : ∃ k', k = k' + 1 := ⟨k - 1, by omega⟩
                have hl3 := hS.lst (p := sk n bt p1 + 1) (x := lsn ka nu (u c) (S 0 17, S 0 18)) (by omega)
                obtain ⟨v, S', w1, w2, w3⟩ := i4 _ c k hl3 (by omega)
                rw [whl_l (ref2 S c hS)]
                exact ⟨v, S', w1, w2, lst_f5.tr w3⟩
              · intro T Lb k hT hk
                obtain ⟨k, rfl⟩ : ∃ k', k = k' + 1 := ⟨k - 1, by omega⟩
                obtain ⟨T1, L1, r1, r2⟩ := o3 T Lb hT
                obtain ⟨T2, s1, s2⟩ := hst T1 r2
                obtain ⟨T', L', w1, w2⟩ := i5 T2 L1 k s2 (by omega)
                obtain ⟨Ta, La, y1, y2⟩ := x_bd2 w1
                refine ⟨T', L', ?_, w2⟩
                rw [r1, x_b2s, whl_l (s' := (((j + 1 + 1 : Nat) : Int), Ta, La)) (by rw [clast T1 L1 T2 1 s1, if_neg (show ¬ (1 : Int) = 0 by decide), y1, x_b2s])]
                exact y2
          · -- too many lines
            right
            have ejl : ((j + 1 : Nat) : Int) = 12 := by omega
            refine ⟨sk n bt (sk n bt p1 + 1), ?_, ?_⟩
            · intro S c k hS hk
              obtain ⟨k, rfl⟩ : ∃ k', k = k' + 1 + 1 + 1 := ⟨k - 3, by omega⟩
              have hl3 := hS.lst (p := sk n bt p1 + 1) (x := lsn ka nu (u c) (S 0 17, S 0 18)) (by omega)
              have hl4 := hl3.at
              rw [lst_u] at hl4
              have w12 := hl4.2.1
              have hL5 : LT n bt (x_up (lst S (sk n bt (sk n bt p1 + 1)) (lsn ka nu (u c) (S 0 17, S 0 18))) 0 12 ((sk n bt (sk n bt p1 + 1) : Nat) : Int)) := hl4.1.f3 (F3.u (.inr (.inl rfl)))
              obtain ⟨w, hw⟩ := r_skipd hn hL5 (by rw [up_i (by decide), lst_11]; omega)
              have step3 : G12_read_L23 1 (1, ((j + 1 : Nat) : Int), lst S (sk n bt p1 + 1) (lsn ka nu (u c) (S 0 17, S 0 18))) = some (.inl (0, x_add ((j + 1 : Nat) : Int) 1, x_up (x_up (lst S (sk n bt (sk n bt p1 + 1)) (lsn ka nu (u c) (S 0 17, S 0 18))) 0 12 ((sk n bt (sk n bt p1 + 1) : Nat) : Int)) 0 11 (w : Int))) := by
                rw [G12_read_L23, if_neg (show ¬ (1 : Int) = 0 by decide), if_pos hl3.2.1, hl3.skip hn, x_b1s, if_neg (show ¬ (1 : Int) = 0 by decide), x_b1s, if_pos ejl, lst_u, lst_11, G12_wrong, if_pos w12, x_b1s, x_b1s, x_b1s, hw, x_b1s, if_neg (by rw [up_i (by decide), up_s]; omega)]
              rw [whl_l (ref2 S c hS), whl_l step3, whl_r (by rw [G12_read_L23, if_pos rfl])]
              exact ⟨_, _, rfl, by rw [up_i (by decide), up_s], (lst_f5.tr (F5.u (by omega))).tr (F5.u (by omega))⟩
            · intro T Lb k hT hk
              obtain ⟨k, rfl⟩ : ∃ k', k = k' + 1 := ⟨k - 1, by omega⟩
              obtain ⟨T1, L1, r1, r2⟩ := o3 T Lb hT
              obtain ⟨v, T2, q', f', e1, e2, A1, A2, A3, A4⟩ := c_starts (a := ((j + 1 : Nat) : Int)) (b := 12) hn (by omega) r2
              have A := A4 rfl ze s
              rw [if_neg (by omega)] at A
              obtain ⟨rfl, rfl⟩ := A
              rw [r1, x_b2s, whl_r (by rw [clast T1 L1 T2 0 e1, if_pos rfl])]
              exact ⟨T2, L1, rfl, e2.2.2.2.2.2.2.1⟩
        · -- no sign between
          have ds : ¬ decide (sk n bt p1 < n ∧ bt (sk n bt p1) = 59) = true := fun w => s (of_decide_eq_true w).2
          right
          refine ⟨sk n bt p1, ?_, ?_⟩
          · intro S c k hS hk
            obtain ⟨k, rfl⟩ : ∃ k', k = k' + 1 + 1 := ⟨k - 2, by omega⟩
            have hl2 := hS.lst (p := sk n bt p1) (x := lsn ka nu (u c) (S 0 17, S 0 18)) hq1
            have ref2 : G12_read_L23 1 (1, (j : Int), S) = some (.inl (1, ((j + 1 : Nat) : Int), x_up (lst S (sk n bt p1) (lsn ka nu (u c) (S 0 17, S 0 18))) 0 12 ((sk n bt p1 : Nat) : Int))) := by
              rw [ref1 S c hS, if_neg (by omega), hl2.sign hn, hid1, if_neg ds, x_b2s, if_pos rfl, up_s, lst_u, G12_wrong, if_pos hl2.2.1, x_b1s, x_b1s]
            rw [whl_l ref2, whl_r (by rw [G12_read_L23, if_neg (show ¬ (1 : Int) = 0 by decide), if_neg (by rw [up_s]; omega)])]
            exact ⟨_, _, rfl, up_s, lst_f5.tr (F5.u (by omega))⟩
          · intro T Lb k hT hk
            obtain ⟨k, rfl⟩ : ∃ k', k = k' + 1 := ⟨k - 1, by omega⟩
            obtain ⟨T1, L1, r1, r2⟩ := o3 T Lb hT
            obtain ⟨v, T2, q', f', e1, e2, A1, A2, A3, A4⟩ := c_starts (a := ((j + 1 : Nat) : Int)) (b := 12) hn (by omega) r2
            obtain ⟨rfl, rfl⟩ := A3 rfl ze s
            rw [r1, x_b2s, whl_r (by rw [clast T1 L1 T2 0 e1, if_pos rfl])]
            exact ⟨T2, L1, rfl, e2.2.2.2.2.2.2.1⟩
      · -- the end
        have en : sk n bt p1 = n := by omega
        left
        refine ⟨j + 1, fun c x => lsn ka nu (u c) x, by omega, by omega, ?_, ?_, ?_⟩
        · intro c x hx
          show (lsn ka nu (u c) x).1 ≠ 0
          unfold lsn
          by_cases y : u c = true
          · rw [if_pos y]
            show (if x.1 = 0 then (if ka = 2 then (1 : Int) else 0) else 1) ≠ 0
            rw [if_neg hx]; decide
          · rw [if_neg y]; exact hx
        · intro S c k hS hk
          obtain ⟨k, rfl⟩ : ∃ k', k = k' + 1 + 1 := ⟨k - 2, by omega⟩
          rw [whl_l (s' := (0, ((j + 1 : Nat) : Int), lst S (sk n bt p1) (lsn ka nu (u c) (S 0 17, S 0 18)))) (by rw [ref1 S c hS, if_pos (by omega)]), whl_r (by rw [G12_read_L23, if_pos rfl]), en]
        · intro T Lb e0 k hT he hj6 hb hk
          obtain ⟨k, rfl⟩ : ∃ k', k = k' + 1 := ⟨k - 1, by omega⟩
          obtain ⟨T1, L1, e1, r1, r2, r3, r4, ⟨l1, l2, l3, l4, l5, l6, l7⟩, r6⟩ := o2 T Lb e0 j hT he hj6 (by omega) (by omega)
          obtain ⟨v, T2, q', f', g1, g2, A1, A2, A3, A4⟩ := c_starts (a := ((j + 1 : Nat) : Int)) (b := 12) hn (by omega) r2
          obtain ⟨rfl, rfl⟩ := A2 rfl ze
          refine ⟨T2, L1, ?_, g2.2.2.2.2.2.2.1, l2, fun i hi => l6 i (by omega), fun i hi => l7 i (.inl hi), ?_⟩
          · rw [r1, x_b2s, whl_r (by rw [clast T1 L1 T2 0 g1, if_pos rfl])]
          · exact ELn.step (ELn.end l2) (fun _ _ h => h) l2 (by omega) (by omega) hka ⟨hnu0, hnu1⟩ (by omega) l3 l4 l5 r6
    · -- a fault in the line
      right
      refine ⟨f, ?_, ?_⟩
      · intro S c k hS hk
        obtain ⟨k, rfl⟩ : ∃ k', k = k' + 1 + 1 := ⟨k - 2, by omega⟩
        obtain ⟨S', w1, w2, w3, w4⟩ := b1 _ c hS.at
        obtain ⟨w, hw⟩ := r_skipd hn (hS.at.1.f3 w3) w4
        have st : G12_read_L23 1 (1, (j : Int), S) = some (.inl (0, ((j + 1 : Nat) : Int), x_up S' 0 11 (w : Int))) := by
          rw [turn S c hS, w1, x_b1s, hw, x_b1s, if_neg (by rw [up_i (by decide), w2]; omega)]
        rw [whl_l st, whl_r (by rw [G12_read_L23, if_pos rfl])]
        exact ⟨_, _, rfl, by rw [up_i (by decide), w2], ((F5.u (by omega)).tr w3.f5).tr (F5.u (by omega))⟩
      · intro T Lb k hT hk
        obtain ⟨k, rfl⟩ : ∃ k', k = k' + 1 := ⟨k - 1, by omega⟩
        obtain ⟨T1, L1, q', r1, r2⟩ := b2 T Lb hT
        obtain ⟨v, T2, q2, f', g1, g2, A1, A2, A3, A4⟩ := c_starts (a := ((j + 1 : Nat) : Int)) (b := 12) hn (by omega) r2
        obtain ⟨rfl, rfl⟩ := A1 (by omega)
        rw [r1, x_b2s, whl_r (by rw [clast T1 L1 T2 0 g1, if_pos rfl])]
        exact ⟨T2, L1, rfl, g2.2.2.2.2.2.2.1⟩
end LTX
