/-! A new cloister. -/
section CLO
variable {X T N Dr S La : xU} {A : xA}
/-- the reference begins a text -/
theorem r_begins {n : Nat} (h8 : S 0 8 = (n : Int)) : ∃ S', G12_begins S = some S' ∧ S' 0 12 = -1 ∧ S' 0 9 = -1 ∧ S' 0 10 = (n : Int) ∧ S' 0 8 = 0 ∧ S' 0 11 = 0 ∧ (∀ o, o ≠ 0 → S' o = S o) ∧ ∀ i, i < 8 ∨ 13 < i → S' 0 i = S 0 i := by
  refine ⟨_, rfl, ?_, ?_, ?_, ?_, ?_, ?_, ?_⟩
  · rw [up_i (by decide), up_i (by decide), up_i (by decide), up_i (by decide), up_i (by decide), up_s]
  · rw [up_i (by decide), up_i (by decide), up_i (by decide), up_i (by decide), up_s]
  · rw [up_i (by decide), up_i (by decide), up_i (by decide), up_s, up_i (by decide), up_i (by decide), h8]
  · rw [up_i (by decide), up_i (by decide), up_s]
  · rw [up_i (by decide), up_s]
  · intro o ho
    rw [up_o ho, up_o ho, up_o ho, up_o ho, up_o ho, up_o ho]
  · intro i hi
    rw [up_i (by omega), up_i (by omega), up_i (by omega), up_i (by omega), up_i (by omega), up_i (by omega)]
theorem L_cloister (hN : CR N (S 1)) (hi : Iv (S 1)) (hT : TR T S) (hA : AR X A S) : ∃ o X' T' N' Dr' b S', G11_cloister X T N Dr = some (o, X', T', N', Dr') ∧ G12_cloister S = some (b, S') ∧ Ag (fun E => if E = 0 then 1 else 2) o b S' ∧ (∀ E, o = .inr E → E = 0 ∨ E = 4) ∧
    CR N' (S' 1) ∧ Iv (S' 1) ∧ Lw (S 1) (S' 1) ∧ AR X' A S' ∧ TR T' S' ∧ S' 2 = S 2 ∧ S' 0 3 = S 0 3 ∧ X' 0 16 = S' 0 12 ∧ X' 0 13 = X 0 13 ∧ (Fl S → Fl S') := by
  obtain ⟨n, hn, t2, s8, tb⟩ := hT
  obtain ⟨S3, e3, q12, q9, q10, q8, q11, qo, qi⟩ := r_begins (S := rcp S 3 0 1 0 372) (n := n) (by rw [rcp_o (by decide)]; exact s8)
  have o1 : S3 1 = S 1 := (qo 1 (by decide)).trans (rcp_o (by decide))
  have o5 : S3 5 = S 5 := (qo 5 (by decide)).trans (rcp_o (by decide))
  have o3 : ∀ i, i < 372 → S3 3 i = S 1 i := fun i hi2 => by
    rw [qo 3 (by decide)]
    have := rcp_in (S := S) (o1 := 3) (b1 := 0) (o2 := 1) (b2 := 0) (j := 372) hi2
    rw [Nat.zero_add] at this
    exact this
  have hB : TB n (S 5) T := ⟨t2, fun i hi2 => ⟨(tb i hi2).1, (tb i hi2).2.2⟩⟩
  have hL : LT n (S 5) S3 := ⟨q10, .inl ⟨q9, fun i _ => by rw [o5]⟩⟩
  have hC1 : CR (x_cf Dr N) (S3 1) := by rw [o1]; exact cf_CR hN hi.many.2
  obtain ⟨T', D', S6, f', jj, r1, r2, r3, r4, r5, r6, r7⟩ := s_lines (a := 0) (nl := 14) (cl := G2_readLine) (rl := G12_cloisterLine) (f1 := G2_readInto_L2) (I := fun _ D Z => CR D (Z 1) ∧ Iv (Z 1)) (F := Ln) hn (by decide) (by decide) rfl
    (fun v T D => rfl) (fun Z => by rw [if_pos rfl]; cases G12_cloisterLine Z <;> rfl) (fun _ => Ln.rf) (fun _ _ _ h k => h.tr k) (fun _ _ h => h.ln) (fun _ _ h => ⟨h.2.1 9 (by decide) (by decide), h.2.2.2.2⟩) (fun _ D Z Z1 h k => by rw [h.1 1 (by decide)]; exact k)
    (fun j T D Z q p _ hI k1 k2 k3 k4 k5 k6 k7 => s_line hn (fun i hi2 => (tb i hi2).2.1) k1 k2 k3 k4 k5 k6 k7 hI.1 hI.2) hB ⟨hC1, by rw [o1]; exact hi⟩ hL q9 q12 q11
  have g11 : G11_cloister X T N Dr = (if f' = -1 then (if (N 0 4) < 12 then (some ((.inl (x_cf N (x_up D' 0 4 (x_add (D' 0 4) 1)) 0 4)), (x_up (x_up X 0 16 f') 0 15 0), x_up T' 0 2 0, x_cf N (x_up D' 0 4 (x_add (D' 0 4) 1)), (x_up D' 0 4 (x_add (D' 0 4) 1)))) else (some ((.inr 4), (x_up X 0 16 f'), x_up T' 0 2 0, N, D'))) else (some ((.inr 0), (x_up X 0 16 f'), x_up T' 0 2 0, N, D'))) := by
    rw [G11_cloister, show G1_copyFrom Dr N = some (x_cf Dr N) from rfl, x_b1s, G2_readInto, r1, x_b2s, x_b3s, G10_useUp, x_b1s, r3, up_s]
    rfl
  have m0 : S6 1 0 = S 1 0 := by rw [r7.2.2.2.1, o1]
  have h12 := hi.1.2.1
  have gR : ∀ v : Int, (if (S6 0 12) = (-1) then (if (S6 1 0) = 12 then (some 2) else (some 0)) else (some (1 : Int))) = some v → G12_cloister S = (if v ≤ 0 then (some (((x_up (x_up (x_up S6 0 0 v) 1 0 (x_add ((x_up S6 0 0 v) 1 0) 1)) 0 6 0) 1 0), (x_up (x_up (x_up S6 0 0 v) 1 0 (x_add ((x_up S6 0 0 v) 1 0) 1)) 0 6 0))) else (some (0, rcp (x_up S6 0 0 v) 1 0 3 0 372))) := by
    intro v hv
    rw [G12_cloister, g12_putsAside, x_b1s, e3, x_b1s, r2, x_b2s, hv, x_b1s, up_s, g12_comesBack, x_b1s]
  have bk : ∀ v : Int, CR N (rcp (x_up S6 0 0 v) 1 0 3 0 372 1) ∧ Iv (rcp (x_up S6 0 0 v) 1 0 3 0 372 1) ∧ Lw (S 1) (rcp (x_up S6 0 0 v) 1 0 3 0 372 1) ∧ AR (x_up X 0 16 f') A (rcp (x_up S6 0 0 v) 1 0 3 0 372) ∧ TR (x_up T' 0 2 0) (rcp (x_up S6 0 0 v) 1 0 3 0 372) ∧ rcp (x_up S6 0 0 v) 1 0 3 0 372 2 = S 2 ∧ rcp (x_up S6 0 0 v) 1 0 3 0 372 0 3 = S 0 3 ∧ x_up X 0 16 f' 0 16 = rcp (x_up S6 0 0 v) 1 0 3 0 372 0 12 ∧ x_up X 0 16 f' 0 13 = X 0 13 ∧ rcp (x_up S6 0 0 v) 1 0 3 0 372 0 0 = v ∧ (Fl S → Fl (rcp (x_up S6 0 0 v) 1 0 3 0 372)) := by
    intro v
    have a0 : ∀ o, o ≠ 0 → o ≠ 1 → o ≠ 3 → rcp (x_up S6 0 0 v) 1 0 3 0 372 o = S o := fun o h0 h1 h3 => by
      rw [rcp_o h1, up_o h0, r7.1 o h0 h1, qo o h0, rcp_o h3]
    have a1 : ∀ i, i < 372 → rcp (x_up S6 0 0 v) 1 0 3 0 372 1 i = S 1 i := fun i hi2 => by
      have := rcp_in (S := x_up S6 0 0 v) (o1 := 1) (b1 := 0) (o2 := 3) (b2 := 0) (j := 372) hi2
      rw [Nat.zero_add] at this
      rw [this, up_o (by decide), r7.1 3 (by decide) (by decide), o3 i hi2]
    have a2 : ∀ i, i ≠ 0 → rcp (x_up S6 0 0 v) 1 0 3 0 372 0 i = S6 0 i := fun i h0 => by rw [rcp_o (by decide), up_i h0]
    have lw : Lw (S 1) (rcp (x_up S6 0 0 v) 1 0 3 0 372 1) := by
      refine ⟨a1 1 (by decide), a1 2 (by decide), fun k h1 h2 => ?_⟩
      rw [rcp_out (by omega), up_o (by decide), r7.2.2.1.2.2 k h1 h2, o1]
    refine ⟨hN.cg hi a1, hi.cg a1, lw, ?_, ⟨0, by decide, up_s, ?_, fun i h => absurd h (by omega)⟩, a0 2 (by decide) (by decide) (by decide), ?_, ?_, up_i (by decide), ?_, fun w => w.cg ?_ ?_⟩
    · obtain ⟨f, a, x1, x2, x3, hf, ha, hk⟩ := hA
      refine AR.cg (S := S) ⟨f, a, ?_, ?_, x3, hf, ha, hk⟩ (a0 4 (by decide) (by decide) (by decide)) ?_ lw.1 lw.2.1
      · rw [up_i (by decide)]; exact x1
      · rw [up_i (by decide)]; exact x2
      · rw [a2 6 (by decide), r7.2.1 6 (by decide) (by decide), qi 6 (by decide), rcp_o (by decide)]
    · rw [a2 8 (by decide), r7.2.1 8 (by decide) (by decide), q8]; rfl
    · rw [a2 3 (by decide), r7.2.1 3 (by decide) (by decide), qi 3 (by decide), rcp_o (by decide)]
    · rw [up_s, a2 12 (by decide), r4]
    · rw [rcp_o (by decide), up_s]
    · rw [a2 15 (by decide), r7.2.1 15 (by decide) (by decide), qi 15 (by decide), rcp_o (by decide)]
    · rw [a2 16 (by decide), r7.2.1 16 (by decide) (by decide), qi 16 (by decide), rcp_o (by decide)]
  rw [g11]
  by_cases z : f' = -1
  · rw [if_pos z]
    obtain ⟨c1, c2⟩ := r6 z
    by_cases y : S 1 0 = 12
    · obtain ⟨b1, b2, b3, b4, b5, b6, b7, b8, b9, b10, b11⟩ := bk 2
      rw [if_neg (show ¬ N 0 4 < 12 by rw [hN.1.2.1, y]; decide), gR 2 (by rw [r4, if_pos z, m0, if_pos y]), if_neg (by decide)]
      exact ⟨.inr 4, _, _, _, _, _, _, rfl, rfl, b10, fun E h => by cases h; exact .inr rfl, b1, b2, b3, b4, b5, b6, b7, b8, b9, b11⟩
    · rw [if_pos (show N 0 4 < 12 by rw [hN.1.2.1]; omega), gR 0 (by rw [r4, if_pos z, m0, if_neg y]), if_pos (by decide)]
      have ev : x_add (D' 0 4) 1 = S 1 0 + 1 := by rw [c1.1.2.1, m0, x_add_of ⟨by omega, by omega⟩]
      have ew : x_add ((x_up S6 0 0 0) 1 0) 1 = S 1 0 + 1 := by rw [up_o (by decide), m0, x_add_of ⟨by omega, by omega⟩]
      rw [ev, ew]
      have u1 : x_up (x_up (x_up S6 0 0 0) 1 0 (S 1 0 + 1)) 0 6 0 1 = x_up S6 1 0 (S 1 0 + 1) 1 := by
        rw [up_o (by decide)]
        funext i
        by_cases h : i = 0
        · subst h; rw [up_s, up_s]
        · rw [up_i h, up_i h, up_o (by decide)]
      have k1 : CR (x_up D' 0 4 (S 1 0 + 1)) (x_up S6 1 0 (S 1 0 + 1) 1) := c1.sc (by omega)
      have k2 : Iv (x_up S6 1 0 (S 1 0 + 1) 1) := c2.sc (by omega)
      have k3 := cf_CR (C := N) k1 k2.many.2
      have e0 : ∀ i, i ≠ 0 → i ≠ 6 → x_up (x_up (x_up S6 0 0 0) 1 0 (S 1 0 + 1)) 0 6 0 0 i = S6 0 i := fun i h0 h6 => by rw [up_i h6, up_o (by decide), up_i h0]
      have l0 : Lw (S 1) (S6 1) := by have := r7.2.2.1; rw [o1] at this; exact this
      refine ⟨.inl (x_cf N (x_up D' 0 4 (S 1 0 + 1)) 0 4), _, _, _, _, _, _, rfl, rfl, ⟨?_, ?_⟩, fun E h => (nomatch h), by rw [u1]; exact k3, by rw [u1]; exact k2, by rw [u1]; exact l0.tr (Lw.up (by omega)), ?_, ⟨0, by decide, up_s, ?_, fun i h => absurd h (by omega)⟩, ?_, ?_, ?_, ?_, fun w => w.cg ?_ ?_⟩
      · rw [up_i (by decide), up_o (by decide), up_s]
      · rw [u1, k3.1.2.1]
      · obtain ⟨f, a, x1, x2, x3, hf, ha, hk⟩ := hA
        exact ⟨f, 0, by rw [up_i (by decide), up_i (by decide)]; exact x1, up_s, up_s, hf, by omega, fun k h => absurd h (by omega)⟩
      · rw [e0 8 (by decide) (by decide), r7.2.1 8 (by decide) (by decide), q8]; rfl
      · rw [up_o (by decide), up_o (by decide), up_o (by decide), r7.1 2 (by decide) (by decide), qo 2 (by decide), rcp_o (by decide)]
      · rw [e0 3 (by decide) (by decide), r7.2.1 3 (by decide) (by decide), qi 3 (by decide), rcp_o (by decide)]
      · rw [up_i (by decide), up_s, e0 12 (by decide) (by decide), r4]
      · rw [up_i (by decide), up_i (by decide)]
      · rw [e0 15 (by decide) (by decide), r7.2.1 15 (by decide) (by decide), qi 15 (by decide), rcp_o (by decide)]
      · rw [e0 16 (by decide) (by decide), r7.2.1 16 (by decide) (by decide), qi 16 (by decide), rcp_o (by decide)]
  · obtain ⟨b1, b2, b3, b4, b5, b6, b7, b8, b9, b10, b11⟩ := bk 1
    rw [if_neg z, gR 1 (by rw [r4, if_neg z]), if_neg (by decide)]
    exact ⟨.inr 0, _, _, _, _, _, _, rfl, rfl, b10, fun E h => by cases h; exact .inl rfl, b1, b2, b3, b4, b5, b6, b7, b8, b9, b11⟩
end CLO
