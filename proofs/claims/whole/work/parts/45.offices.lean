/-! Who is late at the next offices; by which flag and which mood the fewest are. -/
theorem w_until2 {σ1 ρ1 σ2 ρ2 : Type} {f1 : σ1 → Option (σ1 ⊕ ρ1)} {f2 : σ2 → Option (σ2 ⊕ ρ2)} (R : Nat → σ1 → σ2 → Prop) (Q : ρ1 → ρ2 → Prop) (n : Nat) (hn : n < xFU)
    (hs : ∀ j s1 s2, j < n → R j s1 s2 → (∃ t1 t2, f1 s1 = some (.inl t1) ∧ f2 s2 = some (.inl t2) ∧ R (j + 1) t1 t2) ∨ (∃ r1 r2, f1 s1 = some (.inr r1) ∧ f2 s2 = some (.inr r2) ∧ Q r1 r2))
    (he : ∀ s1 s2, R n s1 s2 → ∃ r1 r2, f1 s1 = some (.inr r1) ∧ f2 s2 = some (.inr r2) ∧ Q r1 r2)
    {s1 : σ1} {s2 : σ2} (h0 : R 0 s1 s2) : ∃ r1 r2, whl xFU f1 s1 = some r1 ∧ whl xFU f2 s2 = some r2 ∧ Q r1 r2 := by
  have key : ∀ d j s1 s2 k, j + d = n → d < k → R j s1 s2 → ∃ r1 r2, whl k f1 s1 = some r1 ∧ whl k f2 s2 = some r2 ∧ Q r1 r2 := by
    intro d
    induction d with
    | zero =>
      intro j s1 s2 k hj hk hr
      cases k with
      | zero => omega
      | succ k =>
        have : j = n := by omega
        subst this
        obtain ⟨r1, r2, e1, e2, q⟩ := he s1 s2 hr
        exact ⟨r1, r2, by rw [whl, e1], by rw [whl, e2], q⟩
    | succ d ih =>
      intro j s1 s2 k hj hk hr
      cases k with
      | zero => omega
      | succ k =>
        rcases hs j s1 s2 (by omega) hr with ⟨t1, t2, e1, e2, q⟩ | ⟨r1, r2, e1, e2, q⟩
        · obtain ⟨r1, r2, g1, g2, gq⟩ := ih (j + 1) t1 t2 k (by omega) (by omega) q
          exact ⟨r1, r2, by rw [whl, e1]; exact g1, by rw [whl, e2]; exact g2, gq⟩
        · exact ⟨r1, r2, by rw [whl, e1], by rw [whl, e2], q⟩
  exact key n 0 s1 s2 xFU (by omega) hn h0
section Q14
variable {X N S S7 La Th C Fo : xU} {A : xA}
/-- a row made 0 up to a number -/
def zr (S : xU) (o n : Nat) : xU := fun q i => if q = o ∧ i < n then 0 else S q i
theorem zr_o {S : xU} {o n q : Nat} (h : q ≠ o) : zr S o n q = S q := by
  funext i
  unfold zr
  rw [if_neg (fun z => h z.1)]
theorem zr_s {S : xU} {o n i : Nat} (h : i < n) : zr S o n o i = 0 := by
  unfold zr
  rw [if_pos ⟨rfl, h⟩]
theorem w_zr {f : Int × xU → Option ((Int × xU) ⊕ xU)} {S : xU} (o n : Nat) (hn : n < xFU)
    (hs : ∀ (j : Nat) S2, j < n → f ((j : Int), S2) = some (.inl (((j + 1 : Nat) : Int), x_up S2 o j 0))) (he : ∀ S2, f ((n : Int), S2) = some (.inr S2)) : whl xFU f (0, S) = some (zr S o n) := by
  have h0 : ((0 : Int), S) = (((0 : Nat) : Int), zr S o 0) := by
    congr 1
    funext q i
    unfold zr
    rw [if_neg (by omega)]
  rw [h0]
  refine w_run (fun j => ((j : Int), zr S o j)) n hn (fun j hj => ?_) (he _)
  rw [hs j _ hj]
  congr 3
  funext q i
  by_cases h1 : q = o
  · subst h1
    by_cases h2 : i = j
    · subst h2; rw [up_s, zr_s (by omega)]
    · rw [up_i h2]
      unfold zr
      by_cases h3 : i < j
      · rw [if_pos ⟨rfl, h3⟩, if_pos ⟨rfl, by omega⟩]
      · rw [if_neg (by omega), if_neg (by omega)]
  · rw [up_o h1, zr_o h1, zr_o h1]
/-- late ones counted by the class -/
def cl (Fo : xU) (b j : Nat) : xU := fun o i => if o = 1 ∧ i < j ∧ b.testBit i = true then x_add (Fo 1 i) 1 else Fo o i
theorem w_cl {b : Nat} (hb : b < 128) : ∃ F', G3_countLate (b : Int) Fo = some (x_bc (b : Int), F') ∧ (∀ i, i < 7 → F' 1 i = if b.testBit i = true then x_add (Fo 1 i) 1 else Fo 1 i) ∧ ∀ o, o ≠ 1 → F' o = Fo o := by
  refine ⟨cl Fo b 7, ?_, ?_, ?_⟩
  · have h0 : ((0 : Int), Fo) = (((0 : Nat) : Int), (cl Fo b 0)) := by
      congr 1
      funext o i
      unfold cl
      rw [if_neg (by omega)]
    rw [G3_countLate, h0, show whl xFU (G3_countLate_L2 (b : Int)) (((0 : Nat) : Int), (cl Fo b 0)) = some (cl Fo b 7) from
      w_run (fun j => ((j : Int), (cl Fo b j))) 7 (by decide) (fun j hj => by
        show (if (7 : Int) ≤ (j : Int) then _ else _) = _
        rw [if_neg (by omega), g11_hold (R32n (by omega)) (by omega), ib_nat, x_b1s, n_inc (by omega), x_gd_t ⟨by omega, by omega⟩, Int.toNat_natCast]
        have ez : cl Fo b j 1 j = Fo 1 j := if_neg (by omega)
        rw [ez]
        by_cases q : b.testBit j = true
        · rw [if_pos q, if_neg (by decide), x_gd_t ⟨by omega, by omega⟩, x_b1s]
          congr 3
          funext o i
          by_cases h1 : o = 1
          · subst h1
            by_cases h2 : i = j
            · subst h2; rw [up_s]; unfold cl; rw [if_pos ⟨rfl, by omega, q⟩]
            · rw [up_i h2]
              unfold cl
              by_cases h3 : i < j ∧ b.testBit i = true
              · rw [if_pos ⟨rfl, h3⟩, if_pos ⟨rfl, by omega, h3.2⟩]
              · rw [if_neg (fun z => h3 z.2), if_neg (fun z => h3 ⟨by omega, z.2.2⟩)]
          · rw [up_o h1]
            unfold cl
            rw [if_neg (fun z => h1 z.1), if_neg (fun z => h1 z.1)]
        · rw [if_neg q, if_pos rfl, x_b1s]
          congr 3
          funext o i
          unfold cl
          by_cases h3 : o = 1 ∧ i < j ∧ b.testBit i = true
          · rw [if_pos h3, if_pos ⟨h3.1, by omega, h3.2.2⟩]
          · rw [if_neg h3, if_neg (fun z => h3 ⟨z.1, by
              by_cases e : i = j
              · subst e; exact absurd z.2.2 q
              · omega, z.2.2⟩)]) rfl]
    rfl
  · intro i hi
    show (if 1 = 1 ∧ i < 7 ∧ b.testBit i = true then x_add (Fo 1 i) 1 else Fo 1 i) = _
    by_cases q : b.testBit i = true
    · rw [if_pos ⟨rfl, hi, q⟩, if_pos q]
    · rw [if_neg (fun z => q z.2.2), if_neg q]
  · intro o ho
    funext i
    exact if_neg (fun z => ho z.1)
theorem bc_bd {b : Nat} (hb : b < 128) : 0 ≤ x_bc (b : Int) ∧ x_bc (b : Int) ≤ 7 := by
  rw [bc_cn b hb]
  have : 0 ≤ cn (fun p => b.testBit p) 7 ∧ cn (fun p => b.testBit p) 7 ≤ ((7 : Nat) : Int) * 1 := sm_bd (q := fun p => if b.testBit p then (1 : Int) else 0) (n := 7) (B := 1) (fun p _ => c01)
  exact ⟨this.1, by have := this.2; omega⟩
/-- offices to come -/
theorem s_offs {a : Nat} (ha : a ≤ 9) (h : CR C (S 1)) (hi : Iv (S 1)) (hL : LR La (S 1)) :
    ∃ v C' La' Fo' S', G3_passOffices (a : Int) C La Fo = some (v, C', La', Fo') ∧ G12_latesIn (a : Int) S = some (v, S') ∧ LaEq La La' ∧ Kw S S' ∧ S' 0 0 = S 0 0 ∧ (0 ≤ v ∧ v ≤ 189) ∧ (∀ i, i < 7 → Fo' 1 i = S' 7 i) ∧ (∀ i, i < 7 → 0 ≤ S' 7 i) ∧ ∀ i : Nat, i < 7 → S 1 3 ≤ (i : Int) → S' 7 i = 0 := by
  have z1 : whl xFU G3_passOffices_L2 (0, Fo) = some (zr Fo 1 7) := w_zr 1 7 (by decide) (fun j S2 hj => by
    show (if (7 : Int) ≤ (j : Int) then _ else _) = _
    rw [if_neg (by omega), x_gd_t ⟨by omega, by omega⟩, n_inc (by omega), Int.toNat_natCast]) (fun S2 => rfl)
  have z2 : whl xFU G12_latesIn_L2 (0, S) = some (zr S 7 7) := w_zr 7 7 (by decide) (fun j S2 hj => by
    show (if (7 : Int) ≤ (j : Int) then _ else _) = _
    rw [if_neg (by omega), x_gd_t ⟨by omega, by omega⟩, n_inc (by omega), Int.toNat_natCast]) (fun S2 => rfl)
  have r1 : rcp (zr S 7 7) 3 0 1 0 372 1 = S 1 := by rw [rcp_o (by decide), zr_o (by decide)]
  have r7 : rcp (zr S 7 7) 3 0 1 0 372 7 = zr S 7 7 7 := by rw [rcp_o (by decide)]
  have hh := hi.1.2.2.1
  obtain ⟨r1', r2', w1, w2, v, C', La', Fo', S7, rfl, rfl, k1, k2, k3, k4, k5, k6⟩ := w_until2 (f1 := G3_passOffices_L29 (a : Int)) (f2 := G12_latesIn_L29 (a : Int))
    (fun j s1 s2 => ∃ (u : Nat) (v : Int) (C2 La2 Fo2 S2 : xU), s1 = ((u : Int), v, (j : Int), C2, La2, Fo2) ∧ s2 = (v, (u : Int), S2) ∧ Nx La (rcp (zr S 7 7) 3 0 1 0 372) C2 La2 S2 ∧ 3 * (u : Int) + (S2 1 4 + 2) % 3 = (S 1 4 + 2) % 3 + j ∧ (0 ≤ v ∧ v ≤ 7 * j) ∧ (∀ i, i < 7 → Fo2 1 i = S2 7 i) ∧ (∀ i, i < 7 → 0 ≤ S2 7 i ∧ S2 7 i ≤ j) ∧ ∀ i : Nat, i < 7 → S 1 3 ≤ (i : Int) → S2 7 i = 0)
    (fun r1 r2 => ∃ v C' La' Fo' S7, r1 = (v, C', La', Fo') ∧ r2 = (v, S7) ∧ Nx La (rcp (zr S 7 7) 3 0 1 0 372) C' La' S7 ∧ (0 ≤ v ∧ v ≤ 189) ∧ (∀ i, i < 7 → Fo' 1 i = S7 7 i) ∧ (∀ i, i < 7 → 0 ≤ S7 7 i) ∧ (∀ i : Nat, i < 7 → S 1 3 ≤ (i : Int) → S7 7 i = 0) ∧ True)
    27 (by decide) (by
      rintro j s1 s2 hj ⟨u, v, C2, La2, Fo2, S2, rfl, rfl, hN, hu, hv, hF, hB, hZ⟩
      by_cases q : a ≤ u
      · right
        refine ⟨(v, C2, La2, Fo2), (v, S2), ?_, ?_, v, C2, La2, Fo2, S2, rfl, rfl, hN, ⟨hv.1, by omega⟩, hF, fun i h1 => (hB i h1).1, hZ, trivial⟩
        · show (if (27 : Int) ≤ (j : Int) then _ else _) = _
          rw [if_neg (by omega), if_pos (by omega)]
        · show (if (a : Int) ≤ (u : Int) then _ else _) = _
          rw [if_pos (by omega)]
      · left
        obtain ⟨b, C3, La3, S3, g1, g2, g3, g4, g5, g6, g7⟩ := s_pass (d := 0) hN.1 hN.2.1 (hL.mv hN.2.2.2.2.2 (by have := hN.2.2.2.2.1; rw [r1] at this; exact this))
        obtain ⟨F', f1, f2, f3⟩ := w_cl (Fo := Fo2) g3
        have hbd := bc_bd g3
        have h4 := hN.2.1.1.2.2.1
        have e3 : S2 1 3 = S 1 3 := by rw [hN.2.2.1, r1]
        have er : x_rem (S2 1 4) 3 = S2 1 4 % 3 := x_rem_pos ⟨by omega, by omega⟩ ⟨by decide, by decide⟩ (by decide) (by omega)
        refine ⟨(((if S2 1 4 % 3 = 0 then u + 1 else u : Nat) : Int), v + x_bc (b : Int), ((j + 1 : Nat) : Int), C3, La3, F'), (v + x_bc (b : Int), ((if S2 1 4 % 3 = 0 then u + 1 else u : Nat) : Int), S3), ?_, ?_, _, _, C3, La3, F', S3, rfl, rfl, hN.tr g4, ?_, ⟨by omega, by omega⟩, ?_, ?_, ?_⟩
        · show (if (27 : Int) ≤ (j : Int) then _ else _) = _
          rw [if_neg (by omega), if_neg (by omega), hN.1.1.2.2.1, er, g1]
          by_cases q2 : S2 1 4 % 3 = 0
          · rw [if_pos q2, if_pos q2, x_b1s, x_b3s, f1, x_b2s, n_inc (by omega), n_inc (by omega), x_add_of ⟨by omega, by omega⟩]
          · rw [if_neg q2, if_neg q2, x_b1s, x_b3s, f1, x_b2s, n_inc (by omega), x_add_of ⟨by omega, by omega⟩]
        · show (if (a : Int) ≤ (u : Int) then _ else _) = _
          rw [if_neg (by omega), er, g2]
          by_cases q2 : S2 1 4 % 3 = 0
          · rw [if_pos q2, if_pos q2, x_b1s, x_b2s, n_inc (by omega), x_add_of ⟨by omega, by omega⟩]
          · rw [if_neg q2, if_neg q2, x_b1s, x_b2s, x_add0 (R32n (by omega)), x_add_of ⟨by omega, by omega⟩]
        · rw [g7]
          by_cases q2 : S2 1 4 % 3 = 0
          · rw [if_pos q2]; omega
          · rw [if_neg q2]; omega
        · intro i h1
          rw [f2 i h1, g5 i, hF i h1]
        · intro i h1
          have := hB i h1
          rw [g5 i]
          by_cases q2 : b.testBit i = true
          · rw [if_pos q2, x_add_of ⟨by omega, by omega⟩]; omega
          · rw [if_neg q2]; omega
        · intro i h1 h2
          rw [g5 i, g6 i (by omega), if_neg (by decide)]
          exact hZ i h1 h2) (by
      rintro s1 s2 ⟨u, v, C2, La2, Fo2, S2, rfl, rfl, hN, hu, hv, hF, hB, hZ⟩
      have h4 := hN.2.1.1.2.2.1
      refine ⟨(v, C2, La2, Fo2), (v, S2), rfl, ?_, v, C2, La2, Fo2, S2, rfl, rfl, hN, ⟨hv.1, by omega⟩, hF, fun i h1 => (hB i h1).1, hZ, trivial⟩
      show (if (a : Int) ≤ (u : Int) then _ else _) = _
      rw [if_pos (by omega)])
    (s1 := (0, 0, 0, C, La, zr Fo 1 7)) (s2 := (0, 0, rcp (zr S 7 7) 3 0 1 0 372))
    ⟨0, 0, C, La, zr Fo 1 7, _, rfl, rfl, ⟨by rw [r1]; exact h, by rw [r1]; exact hi, rfl, Kq.rf, Lw.rf, LaEq.rf⟩, by rw [r1]; omega, by omega, fun i h1 => by rw [r7, zr_s h1, zr_s h1], fun i h1 => by rw [r7, zr_s h1]; omega, fun i h1 _ => by rw [r7, zr_s h1]⟩
  obtain ⟨b1, b2, b3⟩ := s_bk (S := zr S 7 7) k1.2.2.2.1 (by have := k1.2.2.2.2.1; rw [r1] at this; rw [zr_o (by decide)]; exact this)
  refine ⟨v, C', La', Fo', rcp S7 1 0 3 0 372, ?_, ?_, k1.2.2.2.2.2, ?_, ?_, k2, fun i h1 => by rw [b3, k3 i h1], fun i h1 => by rw [b3]; exact k4 i h1, fun i h1 h2 => by rw [b3]; exact k5 i h1 h2⟩
  · rw [G3_passOffices, z1, x_b1s, w1, x_b4s]
  · rw [G12_latesIn, z2, x_b1s, g12_putsAside, x_b1s, w2, x_b2s, g12_comesBack, x_b1s]
  · refine Kw.tr ⟨fun i _ => by rw [zr_o (by decide)], zr_o (by decide), zr_o (by decide), zr_o (by decide), congrFun (zr_o (by decide)) _, congrFun (zr_o (by decide)) _, congrFun (zr_o (by decide)) _, congrFun (zr_o (by decide)) _, fun w => w.cg (congrFun (zr_o (by decide)) _) (congrFun (zr_o (by decide)) _)⟩ b1
  · rw [b2, zr_o (by decide)]
end Q14
