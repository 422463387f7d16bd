/-! The law, both ways. -/
section LAW
variable {S C La T X N Lb : xU} {A : xA} {p n : Nat} {bt : Nat → Int}
/-- the class looks at a monk -/
theorem c_lookAt {m : Nat → Int} (hc : CR C m) (hi : Iv m) (hp : (p : Int) < m 3) : ∃ La3, G4_lookAt (p : Int) C La = some La3 ∧ (∀ o, o ≠ 5 → La3 o = La o) ∧ La3 5 0 = (p : Int) ∧ La3 5 1 = m (16 + 8 * p) ∧ La3 5 2 = m (17 + 8 * p) ∧ La3 5 3 = (if m 7 = 4 then m (16 + 8 * p) / 4 else m 7) ∧ La3 5 4 = m (21 + 8 * p) ∧ La3 5 5 = m 4 ∧ La3 5 6 = m (18 + 8 * p) ∧ La3 5 7 = m (22 + 8 * p) := by
  obtain ⟨f, hf⟩ := Int.eq_ofNat_of_zero_le (hi.mk hp).1.1
  have hf16 : f < 16 := by have := (hi.mk hp).1.2; omega
  have hse : G1_seasonOf (m (16 + 8 * p)) C = some (if m 7 = 4 then m (16 + 8 * p) / 4 else m 7) := by
    rw [hf]; exact g1_seasonOf hc hi hf16
  rw [G4_lookAt, g1_of0 hc hi hp, x_b1s, g1_of1 hc hi hp, x_b1s, x_b1s, hse, x_b1s, g1_of5 hc hi hp, x_b1s, g1_of2 hc hi hp, x_b1s, g1_of6 hc hi hp, x_b1s]
  refine ⟨_, rfl, ?_, ?_, ?_, ?_, ?_, ?_, ?_, ?_, ?_⟩
  · intro o ho
    rw [up_o ho, up_o ho, up_o ho, up_o ho, up_o ho, up_o ho, up_o ho, up_o ho]
  · rw [up_i (by decide), up_i (by decide), up_i (by decide), up_i (by decide), up_i (by decide), up_i (by decide), up_i (by decide), up_s]
  · rw [up_i (by decide), up_i (by decide), up_i (by decide), up_i (by decide), up_i (by decide), up_i (by decide), up_s]
  · rw [up_i (by decide), up_i (by decide), up_i (by decide), up_i (by decide), up_i (by decide), up_s]
  · rw [up_i (by decide), up_i (by decide), up_i (by decide), up_i (by decide), up_s]
  · rw [up_i (by decide), up_i (by decide), up_i (by decide), up_s]
  · rw [up_i (by decide), up_i (by decide), up_s, hc.1.2.2.1]
  · rw [up_i (by decide), up_s]
  · rw [up_s]
/-- laws that were read are obeyed alike -/
theorem mk_LR {N : Nat} {t : (Nat → Int) → Int × Int → Int × Int} {m : Nat → Int} (hn : n ≤ 400) (hN : N ≤ 12) (href : ∀ S c, RS n bt (sk n bt 0) 0 S c → G12_read 1 S = some ((N : Int), lst S n (t c (S 0 17, S 0 18)))) (h6 : Lb 0 6 = (N : Int)) (he : ELn t N Lb 0 0) (m1 : m 1 = (N : Int)) (m2 : m 2 = (n : Int)) (mb : ∀ i, i < n → m (372 + i) = bt i) : LR Lb m := by
  refine ⟨h6.trans m1.symm, fun La1 C S p e1 hc hi lw hp => ?_⟩
  have h7 := hi.many
  have hm := hi.mk hp
  have s1 : S 1 1 = (N : Int) := lw.1.trans m1
  have s2 : S 1 2 = (n : Int) := lw.2.1.trans m2
  obtain ⟨La3, k1, k2, d0, d1, d2, d3, d4, d5, d6, d7⟩ := c_lookAt (La := La1) hc hi hp
  have eL : LaEq Lb La3 := by
    refine ⟨⟨?_, ?_⟩, fun o i h => ?_⟩
    · rw [k2 0 (by decide)]; exact e1.1.1
    · rw [k2 0 (by decide)]; exact e1.1.2
    · rw [k2 o (by omega)]; exact e1.2 o i h
  obtain ⟨hm0, hm1, hm2, hm3, hm4, hm5, hm6, hm7⟩ := hm
  have h4 := hi.1.2.2.1
  have hs7 := hi.1.2.2.2.2.2.1
  let c : Nat → Int := fun i => if i < 7 then La3 5 i else if i = 7 then (if x_rem (La3 5 1) 4 = 0 then 1 else 0) else (if La3 5 7 ≤ 0 then 0 else 1)
  have hcc : Cc c La3 := by
    refine ⟨fun i hi7 => ?_, rfl, rfl⟩
    have ec : c i = La3 5 i := if_pos hi7
    refine ⟨ec.symm, ?_⟩
    rw [ec]
    rcases (show i = 0 ∨ i = 1 ∨ i = 2 ∨ i = 3 ∨ i = 4 ∨ i = 5 ∨ i = 6 by omega) with rfl | rfl | rfl | rfl | rfl | rfl | rfl
    · rw [d0]; exact R32n (by omega)
    · rw [d1]; exact ⟨by omega, by omega⟩
    · rw [d2]; exact ⟨by omega, by omega⟩
    · rw [d3]
      by_cases z : S 1 7 = 4
      · rw [if_pos z]; exact ⟨by omega, by omega⟩
      · rw [if_neg z]; exact ⟨by omega, by omega⟩
    · rw [d4]; exact ⟨by omega, by omega⟩
    · rw [d5]; exact ⟨by omega, by omega⟩
    · rw [d6]; exact ⟨by omega, by omega⟩
  have hst := r_stride (S := S) (p := p) hi hp (by rw [s1]; omega)
  rw [s1, s2] at hst
  generalize hX : sxs S p (S 1 (16 + 8 * p)) (S 1 (17 + 8 * p)) (if S 1 7 = 4 then S 1 (16 + 8 * p) / 4 else S 1 7) (S 1 (21 + 8 * p)) (S 1 4) (S 1 (18 + 8 * p)) (if x_rem (S 1 (16 + 8 * p)) 4 = 0 then 1 else 0) (if S 1 (22 + 8 * p) ≤ 0 then 0 else 1) (if (N : Int) = 0 then 0 else (n : Int)) = Sx at hst
  have so : ∀ o, o ≠ 0 → o ≠ 6 → Sx o = S o := fun o h0 h6 => by rw [← hX]; exact sxs_o h0 h6
  have si : ∀ i, i < 9 → Sx 0 i = S 0 i := fun i h => by rw [← hX]; exact sxs_i h
  have s6 : Sx 6 0 = (p : Int) ∧ Sx 6 1 = S 1 (16 + 8 * p) ∧ Sx 6 2 = S 1 (17 + 8 * p) ∧ Sx 6 3 = (if S 1 7 = 4 then S 1 (16 + 8 * p) / 4 else S 1 7) ∧ Sx 6 4 = S 1 (21 + 8 * p) ∧ Sx 6 5 = S 1 4 ∧ Sx 6 6 = S 1 (18 + 8 * p) := by rw [← hX]; exact sxs_6
  have s0 : Sx 0 15 = (if x_rem (S 1 (16 + 8 * p)) 4 = 0 then 1 else 0) ∧ Sx 0 16 = (if S 1 (22 + 8 * p) ≤ 0 then 0 else 1) ∧ Sx 0 12 = -1 ∧ Sx 0 9 = 372 ∧ Sx 0 10 = (if (N : Int) = 0 then 0 else (n : Int)) ∧ Sx 0 11 = 0 ∧ Sx 0 13 = 0 ∧ Sx 0 17 = 0 ∧ Sx 0 18 = 0 := by rw [← hX]; exact sxs_0
  obtain ⟨t15, t16, t12, t9, t10, t11, t13, t17, t18⟩ := s0
  have g15 : Sx 0 15 = 0 ∨ Sx 0 15 = 1 := by
    rw [t15]
    by_cases z : x_rem (S 1 (16 + 8 * p)) 4 = 0
    · rw [if_pos z]; exact .inr rfl
    · rw [if_neg z]; exact .inl rfl
  have g16 : Sx 0 16 = 0 ∨ Sx 0 16 = 1 := by
    rw [t16]
    by_cases z : S 1 (22 + 8 * p) ≤ 0
    · rw [if_pos z]; exact .inl rfl
    · rw [if_neg z]; exact .inr rfl
  have c7 : c 7 = Sx 0 15 := by
    show (if x_rem (La3 5 1) 4 = 0 then (1 : Int) else 0) = _
    rw [d1, t15]
  have c8 : c 8 = Sx 0 16 := by
    show (if La3 5 7 ≤ 0 then (0 : Int) else 1) = _
    rw [d7, t16]
  have read : ∃ (v : Int) (P : Nat) (x : Int × Int), G12_read 1 Sx = some (v, lst Sx P x) ∧ whl xFU (G4_strideOf_L65 La3) (S 1 (17 + 8 * p), 0, 0) = some (if x.1 = 0 then .inl (S 1 (17 + 8 * p) + x.2) else .inr (0, La3)) ∧ (x.1 = 0 → -240 ≤ x.2 ∧ x.2 ≤ 240) := by
    by_cases zN : N = 0
    · subst zN
      rw [if_pos (show ((0 : Nat) : Int) = 0 from rfl)] at t10
      refine ⟨0, 0, (0, 0), ?_, ?_, fun _ => ⟨by decide, by decide⟩⟩
      · have l0 : lst Sx 0 (0, 0) = Sx := by
          have := (lst_id (S := Sx) (p := 0)).symm
          rw [t17, t18] at this
          rw [this]
          exact up_id t11
        have sk0 : G12_skip Sx = some Sx := by
          rw [G12_skip, show xFU = (xFU - 1) + 1 from rfl, whl_r (r := Sx) (by rw [G12_skip_L0, t10, t11, if_pos (Int.le_refl 0)]), x_b1s]
        rw [G12_read, sk0, x_b1s, t10, t11, if_pos (Int.le_refl 0), x_b1s, show xFU = (xFU - 1) + 1 from rfl, whl_r (by rw [G12_read_L23, if_pos rfl]), x_b2s, l0]
      · rw [if_pos rfl, show xFU = (xFU - 1) + 1 from rfl, whl_r (r := .inl (S 1 (17 + 8 * p))) (by rw [G4_strideOf_L65, if_pos (by rw [eL.1.2, h6]; decide)]), show S 1 (17 + 8 * p) + (0, (0 : Int)).2 = S 1 (17 + 8 * p) from Int.add_zero _]
    · have hne : ¬ (N : Int) = 0 := by omega
      rw [if_neg hne] at t10
      have hRS : RS n bt (sk n bt 0) 0 Sx c := by
        refine ⟨⟨t10, .inr ⟨t9, fun i hi2 => ?_⟩⟩, t12, ⟨0, t11, by omega, rfl⟩, t13, ⟨fun i hi7 => ?_, c7.symm, c8.symm, ?_, ?_⟩⟩
        · rw [so 1 (by decide) (by decide), lw.2.2 _ (by omega) (by omega)]; exact mb i hi2
        · have ec : c i = La3 5 i := if_pos hi7
          obtain ⟨q0, q1, q2, q3, q4, q5, q6⟩ := s6
          rw [ec]
          rcases (show i = 0 ∨ i = 1 ∨ i = 2 ∨ i = 3 ∨ i = 4 ∨ i = 5 ∨ i = 6 by omega) with rfl | rfl | rfl | rfl | rfl | rfl | rfl
          · rw [d0, q0]
          · rw [d1, q1]
          · rw [d2, q2]
          · rw [d3, q3]
          · rw [d4, q4]
          · rw [d5, q5]
          · rw [d6, q6]
        · rw [c7]; exact g15
        · rw [c8]; exact g16
      have hr := href Sx c hRS
      rw [t17, t18] at hr
      obtain ⟨w1, w2⟩ := he La3 c 0 (S 1 (17 + 8 * p)) xFU eL hcc (by omega) (by omega) (by decide) (by decide) (by unfold xFU; omega)
      rw [Int.add_zero] at w1
      exact ⟨_, n, t c (0, 0), hr, w1, fun h => by have := w2 h; omega⟩
  obtain ⟨v, P, x, r1, r2, r3⟩ := read
  have f17 : x_up (lst Sx P x) 0 12 (S 0 12) 0 17 = x.1 := by rw [up_i (by decide), lst_17]
  have f18 : x_up (lst Sx P x) 0 12 (S 0 12) 0 18 = x.2 := by rw [up_i (by decide), lst_18]
  have fo : ∀ o, o ≠ 0 → o ≠ 6 → x_up (lst Sx P x) 0 12 (S 0 12) o = S o := fun o h0 h6 => by rw [up_o h0, lst_f5.1 o h0, so o h0 h6]
  have fi : ∀ i, i < 9 → x_up (lst Sx P x) 0 12 (S 0 12) 0 i = S 0 i := fun i h => by rw [up_i (by omega), lst_o (by omega) (by omega) (by omega), si i h]
  have hK : Kq S (x_up (lst Sx P x) 0 12 (S 0 12)) := by
    refine ⟨fo 2 (by decide) (by decide), fo 3 (by decide) (by decide), fo 4 (by decide) (by decide), fo 5 (by decide) (by decide), fi 0 (by decide), fi 3 (by decide), fi 6 (by decide), fi 8 (by decide), up_s, fun _ => ⟨?_, ?_⟩⟩
    · rw [up_i (by decide), lst_o (by decide) (by decide) (by decide)]; exact g15
    · rw [up_i (by decide), lst_o (by decide) (by decide) (by decide)]; exact g16
  have cls : G4_strideOf (p : Int) C La1 = some (if x.1 = 0 then min 15 (max 0 (S 1 (17 + 8 * p) + x.2)) else 0, La3) := by
    rw [G4_strideOf, g1_of1 hc hi hp, x_b1s, if_neg (by rw [e1.1.2, h6]; omega), k1, x_b1s, r2]
    by_cases z : x.1 = 0
    · rw [if_pos z, if_pos z]; rfl
    · rw [if_neg z, if_neg z]; rfl
  refine ⟨if x.1 = 0 then min 15 (max 0 (S 1 (17 + 8 * p) + x.2)) else 0, La3, x_up (lst Sx P x) 0 12 (S 0 12), ?_, ?_, cls, eL, ?_, fo 1 (by decide) (by decide), fo 7 (by decide) (by decide), hK⟩
  · by_cases z : x.1 = 0
    · rw [if_pos z]; omega
    · rw [if_neg z]; exact Int.le_refl _
  · by_cases z : x.1 = 0
    · rw [if_pos z]; omega
    · rw [if_neg z]; decide
  · rw [hst, r1, x_b2s, f17, f18]
    by_cases z : x.1 = 0
    · have hz := r3 z
      rw [if_pos z, if_pos z, g12_of1 (by omega), x_b1s, fo 1 (by decide) (by decide), g12_lesser, x_b1s, g12_greater, x_b1s, x_b1s, x_add_of ⟨by omega, by omega⟩]
      congr 2
      omega
    · rw [if_neg z, if_neg z, x_b1s]
theorem CR.cg2 {m m' : Nat → Int} (h : CR C m) (hi : Iv m) (e : ∀ i, i ≠ 1 → i ≠ 2 → i < 372 → m' i = m i) : CR C m' := by
  have h7 := hi.many
  have h10 := hi.1.2.2.2.2.2.2.2.2.2
  obtain ⟨a1, a2, a3, a4, a5, n, a6, a7, a8⟩ := h
  refine ⟨?_, ?_, ?_, ?_, ?_, n, a6, a7, ?_⟩
  · rw [e 3 (by decide) (by decide) (by decide), e 0 (by decide) (by decide) (by decide), e 4 (by decide) (by decide) (by decide), e 5 (by decide) (by decide) (by decide), e 6 (by decide) (by decide) (by decide), e 7 (by decide) (by decide) (by decide), e 8 (by decide) (by decide) (by decide), e 9 (by decide) (by decide) (by decide), e 11 (by decide) (by decide) (by decide)]
    exact a1
  · intro w hw; rw [e _ (by omega) (by omega) (by omega)]; exact a2 w hw
  · intro p k hp hk
    rw [e 3 (by decide) (by decide) (by decide)] at hp
    rw [e _ (by omega) (by omega) (by omega)]; exact a3 p k hp hk
  · intro p k h1 hp h4 hk
    rw [e 3 (by decide) (by decide) (by decide)] at hp
    exact a4 p k h1 hp h4 hk
  · rw [e 10 (by decide) (by decide) (by decide)]; exact a5
  · intro g hg
    rw [e 10 (by decide) (by decide) (by decide)] at hg
    rw [e _ (by omega) (by omega) (by omega), e _ (by omega) (by omega) (by omega), e _ (by omega) (by omega) (by omega), e _ (by omega) (by omega) (by omega), e _ (by omega) (by omega) (by omega)]
    exact a8 g hg
theorem Iv.cg2 {m m' : Nat → Int} (hi : Iv m) (e : ∀ i, i ≠ 1 → i ≠ 2 → i < 372 → m' i = m i) : Iv m' := by
  let m2 : Nat → Int := fun i => if i = 1 then m' 1 else if i = 2 then m' 2 else m i
  have h7 := hi.many
  have h10 := hi.1.2.2.2.2.2.2.2.2.2
  obtain ⟨a1, a2, a3, a4, a5⟩ := hi
  refine ⟨?_, ?_, ?_, ?_, ?_⟩
  · rw [e 3 (by decide) (by decide) (by decide), e 0 (by decide) (by decide) (by decide), e 4 (by decide) (by decide) (by decide), e 5 (by decide) (by decide) (by decide), e 6 (by decide) (by decide) (by decide), e 7 (by decide) (by decide) (by decide), e 8 (by decide) (by decide) (by decide), e 9 (by decide) (by decide) (by decide), e 11 (by decide) (by decide) (by decide), e 10 (by decide) (by decide) (by decide)]
    exact a1
  · intro w hw; rw [e _ (by omega) (by omega) (by omega)]; exact a2 w hw
  · intro p hp
    rw [e 3 (by decide) (by decide) (by decide)] at hp
    have := a3 p hp
    unfold Mk at this ⊢
    rw [e _ (by omega) (by omega) (by omega), e _ (by omega) (by omega) (by omega), e _ (by omega) (by omega) (by omega), e _ (by omega) (by omega) (by omega), e _ (by omega) (by omega) (by omega), e _ (by omega) (by omega) (by omega), e _ (by omega) (by omega) (by omega), e _ (by omega) (by omega) (by omega)]
    exact this
  · intro g hg
    rw [e 10 (by decide) (by decide) (by decide)] at hg
    have := a4 g hg
    unfold Lg at this ⊢
    rw [e _ (by omega) (by omega) (by omega), e _ (by omega) (by omega) (by omega), e _ (by omega) (by omega) (by omega), e _ (by omega) (by omega) (by omega), e _ (by omega) (by omega) (by omega)]
    exact this
  · intro p q hp hq
    rw [e 3 (by decide) (by decide) (by decide)] at hp hq
    rw [e _ (by omega) (by omega) (by omega), e _ (by omega) (by omega) (by omega)]
    exact a5 p q hp hq
theorem L_law (hN : CR N (S 1)) (hi : Iv (S 1)) (hLR : LR La (S 1)) (hT : TR T S) (hA : AR X A S) (hF : Fl S) : ∃ o X' T' La' Lb' b S', G11_law X T La Lb = some (o, X', T', La', Lb') ∧ G12_law S = some (b, S') ∧ Ag (fun _ => 1) o b S' ∧ (∀ E, o = .inr E → E = 0) ∧
    CR N (S' 1) ∧ Iv (S' 1) ∧ LR La' (S' 1) ∧ AR X' A S' ∧ TR T' S' ∧ S' 2 = S 2 ∧ S' 0 3 = S 0 3 ∧ X' 0 16 = S' 0 12 ∧ X' 0 13 = X 0 13 ∧ Fl S' := by
  obtain ⟨n, hn, tt2, s8, tb⟩ := hT
  obtain ⟨S1, e3, q12, q9, q10, q8, q11, qo, qi⟩ := r_begins (S := S) (n := n) s8
  have q13 : S1 0 13 = 0 := by cases e3; exact up_s
  have hB : TB n (S 5) T := ⟨tt2, fun i hi2 => ⟨(tb i hi2).1, (tb i hi2).2.2⟩⟩
  let c : Nat → Int := fun i => if i < 7 then S 6 i else if i = 7 then S 0 15 else S 0 16
  have hRS : RS n (S 5) (sk n (S 5) 0) 0 S1 c := by
    refine ⟨⟨q10, .inl ⟨q9, fun i _ => by rw [qo 5 (by decide)]⟩⟩, q12, ⟨0, q11, by omega, rfl⟩, q13, ⟨fun i h7 => ?_, qi 15 (by decide), qi 16 (by decide), hF.1, hF.2⟩⟩
    rw [qo 6 (by decide)]
    exact (if_pos h7).symm
  rcases s_lawtext (n := n) (bt := S 5) hn with ⟨M, t, h1, h2, h3, h4⟩ | ⟨f, h3, h4⟩
  · obtain ⟨T', Lb', k1, k2, k3⟩ := h4 T Lb hB
    have hr := h3 S1 c hRS
    generalize hx : t c (S1 0 17, S1 0 18) = x at hr
    have i12 : lst S1 n x 0 12 = -1 := by rw [lst_o (by decide) (by decide) (by decide)]; exact q12
    have j0 : lst S1 n x 0 10 = (n : Int) := by rw [lst_o (by decide) (by decide) (by decide)]; exact q10
    have z0 : x_up (x_up (lst S1 n x) 0 0 0) 1 1 (M : Int) 0 10 = (n : Int) := by rw [up_o (by decide), up_i (by decide), j0]
    generalize hZ : x_up (x_up (x_up (lst S1 n x) 0 0 0) 1 1 (M : Int)) 1 2 (n : Int) = Z
    have Zo : ∀ o, o ≠ 0 → o ≠ 1 → Z o = S o := fun o o0 o1 => by rw [← hZ, up_o o1, up_o o1, up_o o0, lst_f5.1 o o0, qo o o0]
    have Zi : ∀ i, i ≠ 0 → Z 0 i = lst S1 n x 0 i := fun i h => by rw [← hZ, up_o (by decide), up_o (by decide), up_i h]
    have Z1 : ∀ i, i ≠ 1 → i ≠ 2 → Z 1 i = S 1 i := fun i i1 i2 => by rw [← hZ, up_i i2, up_i i1, up_o (by decide), lst_f5.1 1 (by decide), qo 1 (by decide)]
    have Z11 : Z 1 1 = (M : Int) := by rw [← hZ, up_i (by decide), up_s]
    have Z12 : Z 1 2 = (n : Int) := by rw [← hZ, up_s]
    have Z00 : Z 0 0 = 0 := by rw [← hZ, up_o (by decide), up_o (by decide), up_s]
    have w : whl xFU G12_law_L55 (0, Z) = some (rcp Z 1 372 5 0 n) :=
      w_rcp 1 372 5 0 n (by decide) (by unfold xFU; omega) (fun j hj => by
        have e0 : rcp Z 1 372 5 0 j 0 10 = (n : Int) := by rw [rcp_o (by decide), Zi 10 (by decide), j0]
        have e1 : x_add 372 (j : Int) = ((372 + j : Nat) : Int) := n_add (a := 372) (by omega)
        show (if (rcp Z 1 372 5 0 j 0 10) ≤ (j : Int) then _ else _) = _
        rw [e0, if_neg (by omega), e1, x_gd_t ⟨by omega, by omega⟩, x_gd_t ⟨by omega, by omega⟩, n_inc (by omega), Int.toNat_natCast, Int.toNat_natCast, Nat.zero_add]) (by
        have e0 : rcp Z 1 372 5 0 n 0 10 = (n : Int) := by rw [rcp_o (by decide), Zi 10 (by decide), j0]
        show (if (rcp Z 1 372 5 0 n 0 10) ≤ (n : Int) then _ else _) = _
        rw [e0, if_pos (Int.le_refl _)])
    generalize hR : rcp Z 1 372 5 0 n = R at w
    have Ro : ∀ o, o ≠ 1 → R o = Z o := fun o o1 => by rw [← hR]; exact rcp_o o1
    have Rl : ∀ i, i < 372 → R 1 i = Z 1 i := fun i h => by rw [← hR]; exact rcp_out (.inl h)
    have Rt : ∀ i, i < n → R 1 (372 + i) = S 5 i := fun i h => by
      rw [← hR]
      have := rcp_in (S := Z) (o1 := 1) (b1 := 372) (o2 := 5) (b2 := 0) h
      rw [this, Nat.zero_add, Zo 5 (by decide) (by decide)]
    have ref : G12_law S = some ((M : Int), x_up R 0 6 0) := by
      rw [G12_law, e3, x_b1s, hr, x_b2s, i12, if_pos rfl, x_b1s, up_s, if_pos (by decide), z0, hZ, w, x_b1s]
    have cls : G11_law X T La Lb = some (.inl (lf La Lb' 0 6), x_up (x_up X 0 16 (-1)) 0 15 0, x_up T' 0 2 0, lf La Lb', Lb') := by
      rw [G11_law, k1, x_b3s, G10_useUp, x_b1s, up_s, if_pos rfl, lf_eq, x_b1s]
    have cg : ∀ i, i ≠ 1 → i ≠ 2 → i < 372 → x_up R 0 6 0 1 i = S 1 i := fun i i1 i2 i3 => by rw [up_o (by decide), Rl i i3, Z1 i i1 i2]
    refine ⟨_, _, _, _, _, _, _, cls, ref, ⟨?_, ?_⟩, fun E h => (nomatch h), hN.cg2 hi cg, hi.cg2 cg, ?_, ?_, ⟨0, by decide, up_s, ?_, fun i h => absurd h (by omega)⟩, ?_, ?_, ?_, ?_, hF.cg ?_ ?_⟩
    · rw [up_i (by decide), Ro 0 (by decide), Z00]
    · rw [lf_La.1.2, k2]
    · have := mk_LR hn h1 h3 k2 k3 (m := x_up R 0 6 0 1) (by rw [up_o (by decide), Rl 1 (by decide), Z11]) (by rw [up_o (by decide), Rl 2 (by decide), Z12]) (fun i hi2 => by rw [up_o (by decide)]; exact Rt i hi2)
      exact this.mv lf_La Lw.rf
    · obtain ⟨f, a, x1, x2, x3, hf, ha, hk⟩ := hA
      exact ⟨f, 0, by rw [up_i (by decide), up_i (by decide)]; exact x1, up_s, up_s, hf, by omega, fun k h => absurd h (by omega)⟩
    · rw [up_i (by decide), Ro 0 (by decide), Zi 8 (by decide), lst_o (by decide) (by decide) (by decide), q8]; rfl
    · rw [up_o (by decide), Ro 2 (by decide), Zo 2 (by decide) (by decide)]
    · rw [up_i (by decide), Ro 0 (by decide), Zi 3 (by decide), lst_o (by decide) (by decide) (by decide), qi 3 (by decide)]
    · rw [up_i (by decide), up_s, up_i (by decide), Ro 0 (by decide), Zi 12 (by decide), i12]
    · rw [up_i (by decide), up_i (by decide)]
    · rw [up_i (by decide), Ro 0 (by decide), Zi 15 (by decide), lst_o (by decide) (by decide) (by decide), qi 15 (by decide)]
    · rw [up_i (by decide), Ro 0 (by decide), Zi 16 (by decide), lst_o (by decide) (by decide) (by decide), qi 16 (by decide)]
  · obtain ⟨T', Lb', k1⟩ := h4 T Lb hB
    obtain ⟨v, S4, r1, r2, r3⟩ := h3 S1 c hRS
    have hf : ¬ (f : Int) = -1 := by omega
    have ref : G12_law S = some (0, x_up S4 0 0 1) := by
      rw [G12_law, e3, x_b1s, r1, x_b2s, r2, if_neg hf, x_b1s, up_s, if_neg (by decide)]
    have cls : G11_law X T La Lb = some (.inr 0, x_up X 0 16 (f : Int), x_up T' 0 2 0, La, Lb') := by
      rw [G11_law, k1, x_b3s, G10_useUp, x_b1s, up_s, if_neg hf]
    have ro : ∀ o, o ≠ 0 → x_up S4 0 0 1 o = S o := fun o o0 => by rw [up_o o0, r3.1 o o0, qo o o0]
    have ri : ∀ i, i ≠ 0 → (i < 8 ∨ i = 15 ∨ i = 16) → x_up S4 0 0 1 0 i = S 0 i := fun i i0 h => by rw [up_i i0, r3.2 i (by omega), qi i (by omega)]
    refine ⟨_, _, _, _, _, _, _, cls, ref, up_s, fun E h => by cases h; rfl, by rw [ro 1 (by decide)]; exact hN, by rw [ro 1 (by decide)]; exact hi, by rw [ro 1 (by decide)]; exact hLR, ?_, ⟨0, by decide, up_s, ?_, fun i h => absurd h (by omega)⟩, ro 2 (by decide), ri 3 (by decide) (by decide), ?_, up_i (by decide), hF.cg (ri 15 (by decide) (by decide)) (ri 16 (by decide) (by decide))⟩
    · obtain ⟨f2, a, x1, x2, x3, hf2, ha, hk⟩ := hA
      refine AR.cg (S := S) ⟨f2, a, ?_, ?_, x3, hf2, ha, hk⟩ (ro 4 (by decide)) (ri 6 (by decide) (by decide)) (by rw [ro 1 (by decide)]) (by rw [ro 1 (by decide)])
      · rw [up_i (by decide)]; exact x1
      · rw [up_i (by decide)]; exact x2
    · rw [up_i (by decide), r3.2 8 (by decide), q8]; rfl
    · rw [up_s, up_i (by decide), r2]
end LAW
