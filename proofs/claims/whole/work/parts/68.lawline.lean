/-! A law's line as a whole, and a law's text. -/
def F5 (S S' : xU) : Prop := (∀ o, o ≠ 0 → S' o = S o) ∧ ∀ i, i < 11 ∨ i = 14 ∨ i = 15 ∨ i = 16 ∨ 18 < i → S' 0 i = S 0 i
theorem F5.rf {S : xU} : F5 S S := ⟨fun _ _ => rfl, fun _ _ => rfl⟩
theorem F5.tr {S S' S2 : xU} (h : F5 S S') (k : F5 S' S2) : F5 S S2 := ⟨fun o ho => (k.1 o ho).trans (h.1 o ho), fun i h1 => (k.2 i h1).trans (h.2 i h1)⟩
theorem F5.u {S : xU} {i : Nat} {v : Int} (h : i = 11 ∨ i = 12 ∨ i = 13 ∨ i = 17 ∨ i = 18) : F5 S (x_up S 0 i v) := ⟨fun _ ho => up_o ho, fun _ h1 => up_i (by omega)⟩
theorem F3.f5 {S S' : xU} (h : F3 S S') : F5 S S' := ⟨h.1, fun i hi => h.2 i (by omega) (by omega) (by omega)⟩
theorem lst_f5 {S : xU} {p : Nat} {x : Int × Int} : F5 S (lst S p x) := ((F5.u (.inl rfl)).tr (F5.u (by omega))).tr (F5.u (by omega))
theorem lst_11 {S : xU} {p : Nat} {x : Int × Int} : lst S p x 0 11 = (p : Int) := by unfold lst; rw [up_i (by decide), up_i (by decide), up_s]
theorem lst_17 {S : xU} {p : Nat} {x : Int × Int} : lst S p x 0 17 = x.1 := by unfold lst; rw [up_i (by decide), up_s]
theorem lst_18 {S : xU} {p : Nat} {x : Int × Int} : lst S p x 0 18 = x.2 := by unfold lst; rw [up_s]
theorem lst_o {S : xU} {p i : Nat} {x : Int × Int} (h1 : i ≠ 11) (h2 : i ≠ 17) (h3 : i ≠ 18) : lst S p x 0 i = S 0 i := by unfold lst; rw [up_i h3, up_i h2, up_i h1]
theorem lst_u {S : xU} {p p2 : Nat} {x : Int × Int} : x_up (lst S p x) 0 11 (p2 : Int) = lst S p2 x := by
  funext o i
  by_cases ho : o = 0
  · subst ho
    by_cases h1 : i = 11
    · subst h1; rw [up_s, lst_11]
    · rw [up_i h1]
      by_cases h2 : i = 17
      · subst h2; rw [lst_17, lst_17]
      · by_cases h3 : i = 18
        · subst h3; rw [lst_18, lst_18]
        · rw [lst_o h1 h2 h3, lst_o h1 h2 h3]
  · rw [up_o ho, lst_f5.1 o ho, lst_f5.1 o ho]
theorem lst_a {S : xU} {p p2 : Nat} {x : Int × Int} : lst (x_up S 0 11 (p : Int)) p2 x = lst S p2 x := by unfold lst; rw [up_up]
theorem lst_l {S : xU} {p p2 : Nat} {x y : Int × Int} : lst (lst S p x) p2 y = lst S p2 y := by
  funext o i
  by_cases ho : o = 0
  · subst ho
    by_cases h1 : i = 11
    · subst h1; rw [lst_11, lst_11]
    · by_cases h2 : i = 17
      · subst h2; rw [lst_17, lst_17]
      · by_cases h3 : i = 18
        · subst h3; rw [lst_18, lst_18]
        · rw [lst_o h1 h2 h3, lst_o h1 h2 h3, lst_o h1 h2 h3]
  · rw [lst_f5.1 o ho, lst_f5.1 o ho, lst_f5.1 o ho]
section LLN
variable {n : Nat} {bt : Nat → Int} {q d : Nat}
theorem RS.f5 {S S' : xU} {c : Nat → Int} (h : RS n bt q 0 S c) (k : F5 S S') {p : Nat} (h11 : S' 0 11 = (p : Int)) (hp : p ≤ n) (h12 : S' 0 12 = -1) (h13 : S' 0 13 = 0) : RS n bt (sk n bt p) 0 S' c := by
  refine ⟨⟨(k.2 10 (by omega)).trans h.1.1, ?_⟩, h12, ⟨p, h11, hp, rfl⟩, h13, ?_, ?_, ?_, h.2.2.2.2.2.2.2⟩
  · rw [k.2 9 (by omega), k.1 5 (by decide), k.1 1 (by decide)]
    exact h.1.2
  · intro i hi; rw [k.1 6 (by decide)]; exact h.2.2.2.2.1 i hi
  · rw [k.2 15 (by omega)]; exact h.2.2.2.2.2.1
  · rw [k.2 16 (by omega)]; exact h.2.2.2.2.2.2.1
theorem RS.lst {S : xU} {c : Nat → Int} (h : RS n bt q 0 S c) {p : Nat} {x : Int × Int} (hp : p ≤ n) : RS n bt (sk n bt p) 0 (lst S p x) c :=
  h.f5 lst_f5 lst_11 hp (by rw [lst_o (by decide) (by decide) (by decide)]; exact h.2.1) (by rw [lst_o (by decide) (by decide) (by decide)]; exact h.2.2.2.1)
theorem c_restd {ka nu : Int} {T Lb : xU} {f : Int} (hf : f ≠ -1) (hT : TK n bt T q f) : ∃ Lb', cRest ka nu T Lb = some (T, Lb') := by
  obtain ⟨L, hL⟩ := c_lined (a := ka) (b := nu) (Lb := Lb)
  refine ⟨L, ?_⟩
  rw [cRest, c_isRight hT, if_neg hf, x_b1s, if_pos rfl, x_b2s, hL, x_b1s]
/-- a line of a law, as the class and the reference have it -/
def LlO (n : Nat) (bt : Nat → Int) (q p : Nat) (ka nu : Int) (u : (Nat → Int) → Bool) : Prop := (∀ S c, RS n bt q 0 S c → G12_lawLine S = some (lst S p (lsn ka nu (u c) (S 0 17, S 0 18)))) ∧
  (∀ T Lb (e0 j : Nat), TK n bt T q (-1) → Lb 0 5 = (e0 : Int) → Lb 0 6 = (j : Int) → j < 12 → e0 + p ≤ 400 + q → ∃ T' Lb' e1, G5_readLine T Lb = some (T', Lb') ∧ TK n bt T' (sk n bt p) (-1) ∧ e1 + q ≤ e0 + p ∧ e0 ≤ e1 ∧ LnC Lb Lb' j e0 e1 ka nu ∧ EvN u Lb' e0 e1) ∧
  ∀ T Lb, TK n bt T q (-1) → ∃ T' Lb', G5_readLine T Lb = some (T', Lb') ∧ TK n bt T' (sk n bt p) (-1)
def LlB (n : Nat) (bt : Nat → Int) (q f : Nat) : Prop := (∀ S c, RS n bt q 0 S c → ∃ S', G12_lawLine S = some S' ∧ S' 0 12 = (f : Int) ∧ F3 S S' ∧ 0 ≤ S' 0 11) ∧
  ∀ T Lb, TK n bt T q (-1) → ∃ T' Lb' q', G5_readLine T Lb = some (T', Lb') ∧ TK n bt T' q' (f : Int)
/-- a line with a number -/
theorem s_lnum {ka : Int} {w0 : Nat} (hn : n ≤ 400) (hq : q ≤ n) (hk0 : q < en n bt q) (hka : 0 ≤ ka ∧ ka ≤ 2)
    (refq : ∀ S c, RS n bt q 0 S c → G12_lawLine S = x_b2 (G12_figures 0 20 (x_up S 0 11 (en n bt q : Int))) fun (v13 : Int) (S14 : xU) => rRest ka v13 S14)
    (clsq : ∀ T Lb, TK n bt T q (-1) → ∃ T2, TK n bt T2 (sk n bt (en n bt q)) (-1) ∧ G5_readLine T Lb = x_b2 (G10_takeNumber 20 T2) fun (v : Int) (T6 : xU) => cRest ka v T6 Lb) :
    (∃ p nu u, q < p ∧ p ≤ n ∧ 0 ≤ nu ∧ nu ≤ 20 ∧ LlO n bt q p ka nu u) ∨ ∃ f, LlB n bt q f := by
  have hle := en_le (n := n) (bt := bt) hq
  have hq2 := sk_le (bt := bt) hle
  have hge := sk_ge (n := n) (bt := bt) (q := en n bt q)
  have hid := sk_id (n := n) (bt := bt) (sk_kA (n := n) (bt := bt) hle)
  generalize hqq : sk n bt (en n bt q) = q2 at *
  have hle2 := en_le (n := n) (bt := bt) hq2
  have hge2 := en_ge (n := n) (bt := bt) (q := q2)
  by_cases y : num n bt q2 ≠ -1 ∧ num n bt q2 ≤ 20
  · have hnb := num_bd y.1
    have fig : ∀ S c, RS n bt q 0 S c → G12_figures 0 20 (x_up S 0 11 (en n bt q : Int)) = some (num n bt q2, x_up S 0 11 (en n bt q2 : Int)) := by
      intro S c hS
      have hS2 := hS.mv hle
      obtain ⟨r1, r2⟩ := r_figures (b := 20) (p := en n bt q) hn hS2.1 up_s hle hS2.2.1
      rw [hqq, up_up] at r1
      exact r1 y
    have num_c : ∀ T2, TK n bt T2 q2 (-1) → ∃ T6, TK n bt T6 (sk n bt (en n bt q2)) (-1) ∧ G10_takeNumber 20 T2 = some (num n bt q2, T6) := by
      intro T2 h2
      obtain ⟨T6, k1, k2⟩ := c_takeNumber (a := 20) hn h2
      rw [if_pos y, if_pos y] at k2
      rw [if_pos y] at k1
      exact ⟨T6, k2, k1⟩
    rcases s_rest (n := n) (bt := bt) (p1 := en n bt q2) (ka := ka) (nu := num n bt q2) hn hle2 hka with ⟨p, u, h1, h2, o1, o2, o3⟩ | ⟨f, b1, b2⟩
    · left
      refine ⟨p, num n bt q2, u, by omega, h2, hnb.1, y.2, ?_, ?_, ?_⟩
      · intro S c hS
        rw [refq S c hS, fig S c hS, x_b2s, o1 _ c (hS.mv hle2), lst_a, up_i (by decide), up_i (by decide)]
      · intro T Lb e0 j hT he hj hj2 hb
        obtain ⟨T2, k1, k2⟩ := clsq T Lb hT
        obtain ⟨T6, k3, k4⟩ := num_c T2 k1
        obtain ⟨T', L1, e1, r1, r2, r3, r4, r5, r6⟩ := o2 T6 Lb e0 j k3 he hj hj2 (by omega)
        rw [k2, k4, x_b2s]
        exact ⟨T', L1, e1, r1, r2, by omega, r4, r5, r6⟩
      · intro T Lb hT
        obtain ⟨T2, k1, k2⟩ := clsq T Lb hT
        obtain ⟨T6, k3, k4⟩ := num_c T2 k1
        rw [k2, k4, x_b2s]
        exact o3 T6 Lb k3
    · right
      refine ⟨f, ?_, ?_⟩
      · intro S c hS
        obtain ⟨S', w1, w2, w3, w4⟩ := b1 _ c (hS.mv hle2)
        rw [refq S c hS, fig S c hS, x_b2s]
        exact ⟨S', w1, w2, (F3.u (.inl rfl)).tr w3, w4⟩
      · intro T Lb hT
        obtain ⟨T2, k1, k2⟩ := clsq T Lb hT
        obtain ⟨T6, k3, k4⟩ := num_c T2 k1
        rw [k2, k4, x_b2s]
        exact b2 T6 Lb k3
  · right
    refine ⟨q2, ?_, ?_⟩
    · intro S c hS
      have hS2 := hS.mv hle
      obtain ⟨r1, r2⟩ := r_figures (b := 20) (p := en n bt q) hn hS2.1 up_s hle hS2.2.1
      rw [hqq] at r2
      obtain ⟨v, r, hr, e3⟩ := r2 y
      rw [up_up] at e3
      rw [refq S c hS, e3, x_b2s, rRest, if_neg (by rw [up_s]; omega)]
      exact ⟨_, rfl, up_s, (F3.u (.inl rfl)).tr (F3.u (.inr (.inl rfl))), by rw [up_i (by decide), up_s]; omega⟩
    · intro T Lb hT
      obtain ⟨T2, k1, k2⟩ := clsq T Lb hT
      obtain ⟨T6, k3, k4⟩ := c_takeNumber (a := 20) hn k1
      rw [if_neg y, if_neg y, if_pos rfl] at k4
      rw [if_neg y] at k3
      obtain ⟨L, hL⟩ := c_restd (ka := ka) (nu := -1) (Lb := Lb) (show (q2 : Int) ≠ -1 by omega) k4
      rw [k2, k3, x_b2s]
      exact ⟨T6, L, q2, hL, k4⟩
/-- a line of a law -/
theorem s_lawline (hn : n ≤ 400) (hq : q ≤ n) (hk1 : kA n bt q ≠ 1) :
    (∃ p ka nu u, q < p ∧ p ≤ n ∧ (0 ≤ ka ∧ ka ≤ 2) ∧ 0 ≤ nu ∧ nu ≤ 20 ∧ LlO n bt q p ka nu u) ∨ ∃ f, LlB n bt q f := by
  have hle := en_le (n := n) (bt := bt) hq
  have tw : ∀ (k : Nat) (T : xU), TK n bt T q (-1) → ∃ T2, G10_takeWord k T = some ((if wm n bt k q then 1 else 0), T2) ∧ (wm n bt k q = true → TK n bt T2 (sk n bt (en n bt q)) (-1)) ∧ (¬ wm n bt k q = true → TK n bt T2 q (-1)) := by
    intro k T hT
    obtain ⟨T2, k1, k2⟩ := c_takeWord (k := k) hn hT
    exact ⟨T2, k1, fun w => by rw [if_pos w] at k2; exact k2, fun w => by rw [if_neg w] at k2; exact k2⟩
  have hs : ∀ (k : Nat) S c, 0 < x_sl.getD k 0 → RS n bt q 0 S c → G12_has k (x_up S 0 11 (q : Int)) = some (if wm n bt k q then (1, x_up S 0 11 (en n bt q : Int)) else (0, x_up S 0 11 (q : Int))) := fun k S c hk hS => by
    rw [hS.at.has hn hk, up_up, up_up]
  by_cases w17 : wm n bt 17 q = true
  · have hgt := en_gt (n := n) (bt := bt) (kA_lt (n := n) (bt := bt) (q := q) (by rw [wm_kA w17]; decide))
    rcases s_lnum (ka := 0) (w0 := 0) hn hq hgt (by decide) (fun S c hS => by
      rw [G12_lawLine, hS.has hn (by decide), if_pos w17, x_b2s, if_neg (show ¬ (1 : Int) = 0 by decide), x_b2s, if_neg (by decide), if_neg (by decide), x_b22]
      rfl) (fun T Lb hT => by
      obtain ⟨T2, k1, k2, -⟩ := tw 17 T hT
      refine ⟨T2, k2 w17, ?_⟩
      rw [G5_readLine, k1, if_pos w17, x_b2s, if_neg (show ¬ (1 : Int) = 0 by decide)]
      cases G10_takeNumber 20 T2 <;> rfl) with ⟨p, nu, u, h1, h2, h3, h4, h5⟩ | h
    · exact .inl ⟨p, 0, nu, u, h1, h2, by decide, h3, h4, h5⟩
    · exact .inr h
  by_cases w18 : wm n bt 18 q = true
  · have hgt := en_gt (n := n) (bt := bt) (kA_lt (n := n) (bt := bt) (q := q) (by rw [wm_kA w18]; decide))
    rcases s_lnum (ka := 1) (w0 := 0) hn hq hgt (by decide) (fun S c hS => by
      rw [G12_lawLine, hS.has hn (by decide), if_neg w17, x_b2s, if_pos rfl, hs 18 S c (by decide) hS, if_pos w18, x_b2s, if_neg (show ¬ (1 : Int) = 0 by decide), x_b2s, if_neg (by decide), if_neg (by decide), x_b22]
      rfl) (fun T Lb hT => by
      obtain ⟨T2, k1, -, k2⟩ := tw 17 T hT
      obtain ⟨T3, k3, k4, -⟩ := tw 18 T2 (k2 w17)
      refine ⟨T3, k4 w18, ?_⟩
      rw [G5_readLine, k1, if_neg w17, x_b2s, if_pos rfl, k3, if_pos w18, x_b2s, if_neg (show ¬ (1 : Int) = 0 by decide)]
      cases G10_takeNumber 20 T3 <;> rfl) with ⟨p, nu, u, h1, h2, h3, h4, h5⟩ | h
    · exact .inl ⟨p, 1, nu, u, h1, h2, by decide, h3, h4, h5⟩
    · exact .inr h
  by_cases w19 : wm n bt 19 q = true
  · have hgt := en_gt (n := n) (bt := bt) (kA_lt (n := n) (bt := bt) (q := q) (by rw [wm_kA w19]; decide))
    have refq : ∀ S c, RS n bt q 0 S c → G12_lawLine S = rRest 2 0 (x_up S 0 11 (en n bt q : Int)) := fun S c hS => by
      rw [G12_lawLine, hS.has hn (by decide), if_neg w17, x_b2s, if_pos rfl, hs 18 S c (by decide) hS, if_neg w18, x_b2s, if_pos rfl, hs 19 S c (by decide) hS, if_pos w19, x_b2s, if_neg (show ¬ (1 : Int) = 0 by decide), x_b2s, if_neg (by decide), if_pos rfl, x_b2s]
      rfl
    have clsq : ∀ T Lb, TK n bt T q (-1) → ∃ T2, TK n bt T2 (sk n bt (en n bt q)) (-1) ∧ G5_readLine T Lb = cRest 2 0 T2 Lb := fun T Lb hT => by
      obtain ⟨T2, k1, -, k2⟩ := tw 17 T hT
      obtain ⟨T3, k3, -, k4⟩ := tw 18 T2 (k2 w17)
      obtain ⟨T4, k5, k6⟩ := c_expectWord (k := 19) hn (k4 w18)
      rw [if_pos w19, if_pos w19] at k6
      refine ⟨T4, k6, ?_⟩
      rw [G5_readLine, k1, if_neg w17, x_b2s, if_pos rfl, k3, if_neg w18, x_b2s, if_pos rfl, k5, x_b1s, x_b3s]
      rfl
    rcases s_rest (n := n) (bt := bt) (p1 := en n bt q) (ka := 2) (nu := 0) hn hle (by decide) with ⟨p, u, h1, h2, o1, o2, o3⟩ | ⟨f, b1, b2⟩
    · left
      refine ⟨p, 2, 0, u, by omega, h2, by decide, by decide, by decide, ?_, ?_, ?_⟩
      · intro S c hS
        rw [refq S c hS, o1 _ c (hS.mv hle), lst_a, up_i (by decide), up_i (by decide)]
      · intro T Lb e0 j hT he hj hj2 hb
        obtain ⟨T2, k1, k2⟩ := clsq T Lb hT
        obtain ⟨T', L1, e1, r1, r2, r3, r4, r5, r6⟩ := o2 T2 Lb e0 j k1 he hj hj2 (by omega)
        rw [k2]
        exact ⟨T', L1, e1, r1, r2, by omega, r4, r5, r6⟩
      · intro T Lb hT
        obtain ⟨T2, k1, k2⟩ := clsq T Lb hT
        rw [k2]
        exact o3 T2 Lb k1
    · right
      refine ⟨f, ?_, ?_⟩
      · intro S c hS
        obtain ⟨S', w1, w2, w3, w4⟩ := b1 _ c (hS.mv hle)
        rw [refq S c hS]
        exact ⟨S', w1, w2, (F3.u (.inl rfl)).tr w3, w4⟩
      · intro T Lb hT
        obtain ⟨T2, k1, k2⟩ := clsq T Lb hT
        rw [k2]
        exact b2 T2 Lb k1
  right
  refine ⟨q, ?_, ?_⟩
  · intro S c hS
    rw [G12_lawLine, hS.has hn (by decide), if_neg w17, x_b2s, if_pos rfl, hs 18 S c (by decide) hS, if_neg w18, x_b2s, if_pos rfl, hs 19 S c (by decide) hS, if_neg w19, x_b2s, if_pos rfl, x_b2s, if_pos rfl, up_s, G12_wrong, if_pos hS.at.2.1, x_b1s, x_b1s]
    exact ⟨_, rfl, up_s, (F3.u (.inl rfl)).tr (F3.u (.inr (.inl rfl))), by rw [up_i (by decide), up_s]; omega⟩
  · intro T Lb hT
    obtain ⟨T2, k1, -, k2⟩ := tw 17 T hT
    obtain ⟨T3, k3, -, k4⟩ := tw 18 T2 (k2 w17)
    obtain ⟨T4, k5, k6⟩ := c_expectWord (k := 19) hn (k4 w18)
    rw [if_neg w19, if_neg w19, if_pos rfl] at k6
    obtain ⟨L, hL⟩ := c_restd (ka := 2) (nu := 0) (Lb := Lb) (show (q : Int) ≠ -1 by omega) k6
    refine ⟨T4, L, q, ?_, k6⟩
    rw [G5_readLine, k1, if_neg w17, x_b2s, if_pos rfl, k3, if_neg w18, x_b2s, if_pos rfl, k5, x_b1s, x_b3s]
    exact hL
end LLN
