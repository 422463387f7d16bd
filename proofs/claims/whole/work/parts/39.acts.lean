/-! Rows copied; acts remembered, undone; the image. -/
def rcp (S : xU) (o1 b1 o2 b2 j : Nat) : xU := fun o i => if o = o1 ∧ b1 ≤ i ∧ i < b1 + j then S o2 (i - b1 + b2) else S o i
theorem rcp_o {S : xU} {o1 b1 o2 b2 j o : Nat} (h : o ≠ o1) : rcp S o1 b1 o2 b2 j o = S o := by
  funext i
  unfold rcp
  rw [if_neg (fun q => h q.1)]
theorem rcp_out {S : xU} {o1 b1 o2 b2 j i : Nat} (h : i < b1 ∨ b1 + j ≤ i) : rcp S o1 b1 o2 b2 j o1 i = S o1 i := by
  unfold rcp
  rw [if_neg (by omega)]
theorem rcp_in {S : xU} {o1 b1 o2 b2 j i : Nat} (h : i < j) : rcp S o1 b1 o2 b2 j o1 (b1 + i) = S o2 (b2 + i) := by
  unfold rcp
  rw [if_pos ⟨rfl, by omega, by omega⟩]
  congr 1
  omega
theorem w_rcp {f : Int × xU → Option ((Int × xU) ⊕ xU)} {S : xU} (o1 b1 o2 b2 n : Nat) (ho : o1 ≠ o2) (hn : n < xFU)
    (hs : ∀ j, j < n → f ((j : Int), rcp S o1 b1 o2 b2 j) = some (.inl (((j + 1 : Nat) : Int), x_up (rcp S o1 b1 o2 b2 j) o1 (b1 + j) (rcp S o1 b1 o2 b2 j o2 (b2 + j))))) (he : f ((n : Int), rcp S o1 b1 o2 b2 n) = some (.inr (rcp S o1 b1 o2 b2 n))) : whl xFU f (0, S) = some (rcp S o1 b1 o2 b2 n) := by
  have h0 : ((0 : Int), S) = (((0 : Nat) : Int), rcp S o1 b1 o2 b2 0) := by
    congr 1
    funext o i
    unfold rcp
    rw [if_neg (by omega)]
  rw [h0]
  refine w_run (fun j => ((j : Int), rcp S o1 b1 o2 b2 j)) n hn (fun j hj => ?_) he
  rw [hs j hj]
  congr 3
  funext o i
  by_cases h1 : o = o1
  · subst h1
    by_cases h2 : i = b1 + j
    · subst h2
      rw [up_s, rcp_in (by omega), rcp_o (fun q => ho q.symm)]
    · rw [up_i h2]
      unfold rcp
      by_cases h3 : b1 ≤ i ∧ i < b1 + j
      · rw [if_pos ⟨rfl, h3⟩, if_pos ⟨rfl, h3.1, by omega⟩]
      · rw [if_neg (fun q => h3 q.2), if_neg (by omega)]
  · rw [up_o h1, rcp_o h1, rcp_o h1]
theorem g12_putsAside {S : xU} : G12_putsAside S = some (rcp S 3 0 1 0 372) := by
  rw [G12_putsAside, w_rcp 3 0 1 0 372 (by decide) (by decide) (fun j hj => by
    show (if (372 : Int) ≤ (j : Int) then _ else _) = _
    rw [if_neg (by omega), x_gd_t ⟨by omega, by omega⟩, x_gd_t ⟨by omega, by omega⟩, n_inc (by omega), Int.toNat_natCast, Nat.zero_add]) rfl]
  rfl
theorem g12_comesBack {S : xU} : G12_comesBack S = some (rcp S 1 0 3 0 372) := by
  rw [G12_comesBack, w_rcp 1 0 3 0 372 (by decide) (by decide) (fun j hj => by
    show (if (372 : Int) ≤ (j : Int) then _ else _) = _
    rw [if_neg (by omega), x_gd_t ⟨by omega, by omega⟩, x_gd_t ⟨by omega, by omega⟩, n_inc (by omega), Int.toNat_natCast, Nat.zero_add]) rfl]
  rfl
/-- the class's copies -/
theorem cf_CR {C V : xU} {m : Nat → Int} (h : CR V m) (h7 : m 3 ≤ 7) : CR (x_cf C V) m := by
  obtain ⟨⟨b1, b2, b3, b4, b5, b6, b7, b8, b9⟩, a2, a3, a4, a5, n, a6, a7, a8⟩ := h
  have e : x_cf C V = x_up (x_up (x_up (x_up (x_up (x_up (x_up (x_up (x_up (x_up (x_up (x_cp (x_cp (x_cp C 1 V 1 56) 2 V 2 4) 4 V 4 60) 3 1 (V 3 1)) 3 2 (V 3 2)) 0 3 (V 0 3)) 0 4 (V 0 4)) 0 5 (V 0 5)) 0 6 (V 0 6)) 0 7 (V 0 7)) 0 8 (V 0 8)) 0 9 (V 0 9)) 0 10 (V 0 10)) 0 11 (V 0 11) := rfl
  have r1 : ∀ i, i < 56 → x_cf C V 1 i = V 1 i := fun i hi => by rw [e]; simp [x_up, x_cp, hi]
  have r2 : ∀ i, i < 4 → x_cf C V 2 i = V 2 i := fun i hi => by rw [e]; simp [x_up, x_cp, hi]
  have r4 : ∀ i, i < 60 → x_cf C V 4 i = V 4 i := fun i hi => by rw [e]; simp [x_up, x_cp, hi]
  have r3 : x_cf C V 3 1 = V 3 1 ∧ x_cf C V 3 2 = V 3 2 := by rw [e]; simp [x_up]
  have r0 : x_cf C V 0 3 = V 0 3 ∧ x_cf C V 0 4 = V 0 4 ∧ x_cf C V 0 5 = V 0 5 ∧ x_cf C V 0 6 = V 0 6 ∧ x_cf C V 0 7 = V 0 7 ∧ x_cf C V 0 8 = V 0 8 ∧ x_cf C V 0 9 = V 0 9 ∧ x_cf C V 0 10 = V 0 10 ∧ x_cf C V 0 11 = V 0 11 := by
    rw [e]; simp [x_up]
  obtain ⟨c1, c2, c3, c4, c5, c6, c7, c8, c9⟩ := r0
  refine ⟨⟨c1.trans b1, c2.trans b2, c3.trans b3, c4.trans b4, c5.trans b5, c6.trans b6, c7.trans b7, c8.trans b8, c9.trans b9⟩, ?_, ?_, ?_, ?_, n, a6, ?_, ?_⟩
  · intro w hw; rw [r2 w hw]; exact a2 w hw
  · intro p k hp hk
    rw [r1 _ (by omega)]; exact a3 p k hp hk
  · intro p k h1 hp h4 hk; rw [r1 _ (by omega)]; exact a4 p k h1 hp h4 hk
  · rw [r3.1]; exact a5
  · rw [r3.2]; exact a7
  · intro g hg; rw [r4 _ (by omega)]; exact a8 g hg
theorem CR.cg {C : xU} {m m' : Nat → Int} (h : CR C m) (hi : Iv m) (e : ∀ i, i < 372 → m' i = m i) : CR C m' := by
  have h7 := hi.many
  have h10 := hi.1.2.2.2.2.2.2.2.2.2
  obtain ⟨a1, a2, a3, a4, a5, n, a6, a7, a8⟩ := h
  refine ⟨?_, ?_, ?_, ?_, ?_, n, a6, a7, ?_⟩
  · rw [e 3 (by decide), e 0 (by decide), e 4 (by decide), e 5 (by decide), e 6 (by decide), e 7 (by decide), e 8 (by decide), e 9 (by decide), e 11 (by decide)]
    exact a1
  · intro w hw; rw [e _ (by omega)]; exact a2 w hw
  · intro p k hp hk
    rw [e 3 (by decide)] at hp
    rw [e _ (by omega)]; exact a3 p k hp hk
  · intro p k h1 hp h4 hk
    rw [e 3 (by decide)] at hp
    exact a4 p k h1 hp h4 hk
  · rw [e 10 (by decide)]; exact a5
  · intro g hg
    rw [e 10 (by decide)] at hg
    rw [e _ (by omega), e _ (by omega), e _ (by omega), e _ (by omega), e _ (by omega)]
    exact a8 g hg
theorem Iv.cg {m m' : Nat → Int} (hi : Iv m) (e : ∀ i, i < 372 → m' i = m i) : Iv m' := by
  have h7 := hi.many
  have h10 := hi.1.2.2.2.2.2.2.2.2.2
  obtain ⟨a1, a2, a3, a4, a5⟩ := hi
  refine ⟨?_, ?_, ?_, ?_, ?_⟩
  · rw [e 3 (by decide), e 0 (by decide), e 4 (by decide), e 5 (by decide), e 6 (by decide), e 7 (by decide), e 8 (by decide), e 9 (by decide), e 11 (by decide), e 10 (by decide)]
    exact a1
  · intro w hw; rw [e _ (by omega)]; exact a2 w hw
  · intro p hp
    rw [e 3 (by decide)] at hp
    have := a3 p hp
    unfold Mk at this ⊢
    rw [e _ (by omega), e _ (by omega), e _ (by omega), e _ (by omega), e _ (by omega), e _ (by omega), e _ (by omega), e _ (by omega)]
    exact this
  · intro g hg
    rw [e 10 (by decide)] at hg
    have := a4 g hg
    unfold Lg at this ⊢
    rw [e _ (by omega), e _ (by omega), e _ (by omega), e _ (by omega), e _ (by omega)]
    exact this
  · intro p q hp hq
    rw [e 3 (by decide)] at hp hq
    rw [e _ (by omega), e _ (by omega)]
    exact a5 p q hp hq
/-- the class's laws copied -/
def lf (P Q : xU) : xU := x_up (x_up (x_cp (x_cp (x_cp (x_cp P 1 Q 1 12) 2 Q 2 12) 3 Q 3 12) 4 Q 4 400) 0 5 (Q 0 5)) 0 6 (Q 0 6)
theorem lf_eq {P Q : xU} : G4_copyFrom P Q = some (lf P Q) := rfl
theorem lf_La {P Q : xU} : LaEq Q (lf P Q) := by
  refine ⟨⟨?_, ?_⟩, ?_⟩
  · simp [lf, x_up]
  · simp [lf, x_up]
  · rintro o i (⟨h1, h2, h3⟩ | ⟨h1, h2⟩)
    · rcases (show o = 1 ∨ o = 2 ∨ o = 3 by omega) with rfl | rfl | rfl <;> simp [lf, x_up, x_cp, h3]
    · subst h1; simp [lf, x_up, x_cp, h2]
/-- the acts of both -/
def AR (X : xU) (A : xA) (S : xU) : Prop := ∃ f a : Nat, X 0 14 = (f : Int) ∧ X 0 15 = (a : Int) ∧ S 0 6 = (a : Int) ∧ f < 12 ∧ a ≤ 12 ∧
  ∀ k, k < a → CR (A (6 + (f + k) % 12)) (fun i => S 4 (372 * k + i)) ∧ Iv (fun i => S 4 (372 * k + i)) ∧ S 4 (372 * k + 1) = S 1 1 ∧ S 4 (372 * k + 2) = S 1 2
theorem w_rem1 {S : xU} : ∃ S', whl xFU G12_remembers_L11 (0, S) = some S' ∧ (∀ o, o ≠ 4 → S' o = S o) ∧ ∀ i, i < 4092 → S' 4 i = S 4 (i + 372) := by
  refine ⟨fun o i => if o = 4 ∧ i < 4092 then S 4 (i + 372) else S o i, ?_, ?_, ?_⟩
  · have h0 : ((0 : Int), S) = (((0 : Nat) : Int), fun o i => if o = 4 ∧ i < 0 then S 4 (i + 372) else S o i) := by
      congr 1
      funext o i
      rw [if_neg (by omega)]
    rw [h0]
    refine w_run (fun j => ((j : Int), (fun o i => if o = 4 ∧ i < j then S 4 (i + 372) else S o i : xU))) 4092 (by decide) (fun j hj => ?_) rfl
    show (if (4092 : Int) ≤ (j : Int) then _ else _) = _
    rw [if_neg (by omega), show x_add (j : Int) 372 = ((j + 372 : Nat) : Int) from n_add (b := 372) (by omega), x_gd_t ⟨by omega, by omega⟩, x_gd_t ⟨by omega, by omega⟩, n_inc (by omega), Int.toNat_natCast, Int.toNat_natCast]
    congr 3
    funext o i
    by_cases h1 : o = 4
    · subst h1
      by_cases h2 : i = j
      · subst h2
        rw [up_s, if_pos ⟨rfl, by omega⟩]
        show (if 4 = 4 ∧ i + 372 < i then S 4 (i + 372 + 372) else S 4 (i + 372)) = _
        rw [if_neg (by omega)]
      · rw [up_i h2]
        by_cases h3 : i < j
        · simp [h3, show i < j + 1 by omega]
        · simp [h3, show ¬ i < j + 1 by omega]
    · rw [up_o h1]
      simp [h1]
  · intro o ho
    funext i
    simp [ho]
  · intro i hi
    simp [hi]
section Q8
variable {X N S La : xU} {A : xA}
/-- what is kept when an act is remembered -/
def Kr (S S' : xU) : Prop := (∀ o, o ≠ 0 → o ≠ 4 → S' o = S o) ∧ ∀ i, i ≠ 6 → S' 0 i = S 0 i
theorem w_rem2 {S : xU} {a : Nat} (h : S 0 6 = (a : Int)) (ha : a < 12) : whl xFU G12_remembers_L52 (0, S) = some (rcp S 4 (372 * a) 1 0 372) :=
  w_rcp 4 (372 * a) 1 0 372 (by decide) (by decide) (fun j hj => by
    have e0 : rcp S 4 (372 * a) 1 0 j 0 6 = (a : Int) := by rw [rcp_o (by decide)]; exact h
    have e1 : x_add (x_mul 372 (a : Int)) (j : Int) = ((372 * a + j : Nat) : Int) := by
      rw [x_mul_of ⟨by omega, by omega⟩, x_add_of ⟨by omega, by omega⟩]; omega
    show (if (372 : Int) ≤ (j : Int) then _ else _) = _
    rw [if_neg (by omega), x_gd_t ⟨by omega, by omega⟩, e0, e1, x_gd_t ⟨by omega, by omega⟩, n_inc (by omega), Int.toNat_natCast, Int.toNat_natCast, Nat.zero_add]) rfl
theorem s_rem (h : CR N (S 1)) (hi : Iv (S 1)) (hA : AR X A S) :
    ∃ X' A' S', G11_remember X N A = some (X', A') ∧ G12_remembers S = some S' ∧ AR X' A' S' ∧ Kr S S' ∧ (∀ o, o ≠ 0 → X' o = X o) ∧ ∀ i, i ≠ 14 → i ≠ 15 → X' 0 i = X 0 i := by
  obtain ⟨f, a, x1, x2, x3, hf, ha, hk⟩ := hA
  by_cases q : a < 12
  · have ep : x_mod (x_add (X 0 14) (X 0 15)) 12 = (((f + a) % 12 : Nat) : Int) := by
      rw [x1, x2, n_add (by omega), x_mod]; omega
    refine ⟨x_up X 0 15 ((a + 1 : Nat) : Int), x_aw A (6 + (f + a) % 12) (x_cf (A (6 + (f + a) % 12)) N), x_up (rcp S 4 (372 * a) 1 0 372) 0 6 ((a + 1 : Nat) : Int), ?_, ?_, ⟨f, a + 1, ?_, up_s, up_s, hf, by omega, ?_⟩, ⟨?_, ?_⟩, fun o ho => up_o ho, fun i h1 h2 => up_i h2⟩
    · rw [G11_remember, if_pos (by omega), x_b1, Option.bind_some, ep, Int.toNat_natCast, x2, n_inc (by omega)]
    · rw [G12_remembers, if_neg (by omega), x_b1, Option.bind_some, w_rem2 x3 q, x_b1, Option.bind_some, show rcp S 4 (372 * a) 1 0 372 0 6 = (a : Int) by rw [rcp_o (by decide)]; exact x3, n_inc (by omega)]
    · rw [up_i (by decide)]; exact x1
    · intro k hk2
      have e4 : ∀ i, x_up (rcp S 4 (372 * a) 1 0 372) 0 6 ((a + 1 : Nat) : Int) 4 i = rcp S 4 (372 * a) 1 0 372 4 i := fun i => congrFun (up_o (by decide)) i
      have e1 : ∀ i, x_up (rcp S 4 (372 * a) 1 0 372) 0 6 ((a + 1 : Nat) : Int) 1 i = S 1 i := fun i => by rw [up_o (by decide), rcp_o (by decide)]
      rw [e4, e4, e1, e1]
      by_cases e : k = a
      · subst e
        have ec : ∀ i, i < 372 → (fun i => x_up (rcp S 4 (372 * k) 1 0 372) 0 6 ((k + 1 : Nat) : Int) 4 (372 * k + i)) i = S 1 i := by
          intro i hi2
          show x_up (rcp S 4 (372 * k) 1 0 372) 0 6 ((k + 1 : Nat) : Int) 4 (372 * k + i) = S 1 i
          rw [e4, rcp_in hi2, Nat.zero_add]
        refine ⟨?_, hi.cg ec, ?_, ?_⟩
        · rw [x_aw, if_pos rfl]
          exact (cf_CR h hi.many.2).cg hi ec
        · rw [rcp_in (by decide)]
        · rw [rcp_in (by decide)]
      · obtain ⟨g1, g2, g3, g4⟩ := hk k (by omega)
        have ec : ∀ i, i < 372 → (fun i => x_up (rcp S 4 (372 * a) 1 0 372) 0 6 ((a + 1 : Nat) : Int) 4 (372 * k + i)) i = (fun i => S 4 (372 * k + i)) i := by
          intro i hi2
          show x_up (rcp S 4 (372 * a) 1 0 372) 0 6 ((a + 1 : Nat) : Int) 4 (372 * k + i) = S 4 (372 * k + i)
          rw [e4, rcp_out (by omega)]
        refine ⟨?_, g2.cg ec, ?_, ?_⟩
        · rw [x_aw, if_neg (by omega)]
          exact g1.cg g2 ec
        · rw [rcp_out (by omega)]; exact g3
        · rw [rcp_out (by omega)]; exact g4
    · intro o h1 h2
      rw [up_o h1, rcp_o h2]
    · intro i h1
      rw [up_i h1, rcp_o (by decide)]
  · have ea : a = 12 := by omega
    subst ea
    obtain ⟨S1, w1, w2, w3⟩ := w_rem1 (S := S)
    have er : x_rem (x_add (X 0 14) 1) 12 = (((f + 1) % 12 : Nat) : Int) := by
      rw [x1, n_inc (by omega), x_rem_pos (R32n (by omega)) ⟨by decide, by decide⟩ (by decide) (by omega)]; omega
    have y1 : x_up (x_up X 0 14 (((f + 1) % 12 : Nat) : Int)) 0 15 11 0 14 = (((f + 1) % 12 : Nat) : Int) := by rw [up_i (by decide), up_s]
    have ep : x_mod (x_add (((f + 1) % 12 : Nat) : Int) 11) 12 = (((f + 1 + 11) % 12 : Nat) : Int) := by
      rw [show x_add (((f + 1) % 12 : Nat) : Int) 11 = (((f + 1) % 12 + 11 : Nat) : Int) from n_add (b := 11) (by omega), x_mod]; omega
    have z6 : x_up S1 0 6 11 0 6 = ((11 : Nat) : Int) := up_s
    refine ⟨x_up (x_up (x_up X 0 14 (((f + 1) % 12 : Nat) : Int)) 0 15 11) 0 15 ((12 : Nat) : Int), x_aw A (6 + (f + 1 + 11) % 12) (x_cf (A (6 + (f + 1 + 11) % 12)) N), x_up (rcp (x_up S1 0 6 11) 4 (372 * 11) 1 0 372) 0 6 ((12 : Nat) : Int), ?_, ?_, ⟨(f + 1) % 12, 12, ?_, up_s, up_s, by omega, by omega, ?_⟩, ⟨?_, ?_⟩, ?_, ?_⟩
    · rw [G11_remember, if_neg (by omega), x_b1, Option.bind_some, er, y1, up_s, ep, Int.toNat_natCast, show x_add 11 1 = ((12 : Nat) : Int) by decide]
    · rw [G12_remembers, if_pos (show S 0 6 = 12 from x3), w1, x_b1, x_b1, Option.bind_some, show S1 0 6 = 12 by rw [w2 0 (by decide)]; exact x3, show x_sub 12 1 = 11 by decide, Option.bind_some, w_rem2 z6 (by decide), x_b1, Option.bind_some, show rcp (x_up S1 0 6 11) 4 (372 * 11) 1 0 372 0 6 = 11 by rw [rcp_o (by decide), up_s], show x_add 11 1 = ((12 : Nat) : Int) by decide]
    · rw [up_i (by decide)]; exact y1
    · intro k hk2
      have e4 : ∀ i, x_up (rcp (x_up S1 0 6 11) 4 (372 * 11) 1 0 372) 0 6 ((12 : Nat) : Int) 4 i = rcp (x_up S1 0 6 11) 4 (372 * 11) 1 0 372 4 i := fun i => congrFun (up_o (by decide)) i
      have e1 : ∀ i, x_up (rcp (x_up S1 0 6 11) 4 (372 * 11) 1 0 372) 0 6 ((12 : Nat) : Int) 1 i = S 1 i := fun i => by rw [up_o (by decide), rcp_o (by decide), up_o (by decide), w2 1 (by decide)]
      rw [e4, e4, e1, e1]
      by_cases e : k = 11
      · subst e
        have ec : ∀ i, i < 372 → (fun i => x_up (rcp (x_up S1 0 6 11) 4 (372 * 11) 1 0 372) 0 6 ((12 : Nat) : Int) 4 (372 * 11 + i)) i = S 1 i := by
          intro i hi2
          show x_up (rcp (x_up S1 0 6 11) 4 (372 * 11) 1 0 372) 0 6 ((12 : Nat) : Int) 4 (372 * 11 + i) = S 1 i
          rw [e4, rcp_in hi2, Nat.zero_add, up_o (by decide), w2 1 (by decide)]
        refine ⟨?_, hi.cg ec, ?_, ?_⟩
        · rw [x_aw, if_pos (by omega)]
          exact (cf_CR h hi.many.2).cg hi ec
        · rw [rcp_in (by decide), up_o (by decide), w2 1 (by decide)]
        · rw [rcp_in (by decide), up_o (by decide), w2 1 (by decide)]
      · obtain ⟨g1, g2, g3, g4⟩ := hk (k + 1) (by omega)
        have el : ∀ i, 372 * k + i < 4092 → rcp (x_up S1 0 6 11) 4 (372 * 11) 1 0 372 4 (372 * k + i) = S 4 (372 * (k + 1) + i) := fun i hi2 => by
          rw [rcp_out (by omega), up_o (by decide), w3 _ hi2, show 372 * k + i + 372 = 372 * (k + 1) + i by omega]
        have ec : ∀ i, i < 372 → (fun i => x_up (rcp (x_up S1 0 6 11) 4 (372 * 11) 1 0 372) 0 6 ((12 : Nat) : Int) 4 (372 * k + i)) i = (fun i => S 4 (372 * (k + 1) + i)) i := by
          intro i hi2
          show x_up (rcp (x_up S1 0 6 11) 4 (372 * 11) 1 0 372) 0 6 ((12 : Nat) : Int) 4 (372 * k + i) = S 4 (372 * (k + 1) + i)
          rw [e4, el i (by omega)]
        refine ⟨?_, g2.cg ec, ?_, ?_⟩
        · rw [x_aw, if_neg (by omega), show 6 + ((f + 1) % 12 + k) % 12 = 6 + (f + (k + 1)) % 12 by omega]
          exact g1.cg g2 ec
        · rw [el 1 (by omega)]; exact g3
        · rw [el 2 (by omega)]; exact g4
    · intro o h1 h2
      rw [up_o h1, rcp_o h2, up_o h1, w2 o h2]
    · intro i h1
      rw [up_i h1, rcp_o (by decide), up_i h1, w2 0 (by decide)]
    · intro o ho
      rw [up_o ho, up_o ho, up_o ho]
    · intro i h1 h2
      rw [up_i h2, up_i h2, up_i h1]
end Q8
