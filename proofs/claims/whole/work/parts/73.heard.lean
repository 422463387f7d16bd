/-! Riddles: where a monk began and what to ask; the abbot's rule and what to ask. -/
def anW (b0 v h : Int) : Int := if (x_rem (x_add (x_div v 9) (x_mul h (x_rem v 9))) 16) = b0 then 1 else 0
def anR (v h : Int) : Int := x_rem (x_add (x_mul (x_div v 5) h) (x_rem v 5)) 5
def mx5 (c : Nat → Int) : Int := max (max (max (max (max 0 (c 0)) (c 1)) (c 2)) (c 3)) (c 4)
/-- of those that fit, how many answer so -/
def cA (an : Int → Int → Int) (q : Nat → Bool) (h : Int) (a j : Nat) : Int := ct (fun i => q i && decide (an (i : Int) h = (a : Int))) j
theorem cA_s {an : Int → Int → Int} {q : Nat → Bool} {h : Int} {a j : Nat} : cA an q h a (j + 1) = cA an q h a j + bI (q j && decide (an (j : Int) h = (a : Int))) := rfl
section RI2
variable {n R M : Nat} {bt : Nat → Int} {T S Ri : xU} {b : Int} {an : Int → Int → Int} {q : Nat → Bool} {h : Int}
theorem cA_bd {a j : Nat} : 0 ≤ cA an q h a j ∧ cA an q h a j ≤ (j : Int) := ct_bd _ _
/-- the class finds the greatest part -/
theorem c_gp {Z : xU} (hM : M ≤ 144) (h6 : Z 0 6 = (M : Int)) (h2 : ∀ v, v < M → Z 2 v = bI (q v)) (hA : ∀ Z' : xU, Z' 0 4 = Z 0 4 → Z' 0 5 = Z 0 5 → ∀ v h, G7_answerOf v h Z' = some (an v h)) (han : ∀ v : Nat, v < M → 0 ≤ an (v : Int) h ∧ an (v : Int) h ≤ 4) :
    ∃ Z', G7_greatestPart h Z = some (mx5 (fun a => cA an q h a M), Z') ∧ ∀ o, o ≠ 3 → Z' o = Z o := by
  have w1 : whl xFU G7_greatestPart_L2 (0, Z) = some (zr Z 3 5) := w_zr 3 5 (by unfold xFU; omega) (fun j S2 hj => by
    rw [G7_greatestPart_L2, if_neg (by omega), x_gd_t ⟨by omega, by omega⟩, Int.toNat_natCast, n_inc (by omega)]) (fun S2 => by rw [G7_greatestPart_L2, if_pos (by decide)])
  have key : ∀ d j v6 Y k, j + d = M → d < k → v6 = mx5 (fun a => cA an q h a j) → (∀ a, a < 5 → Y 3 a = cA an q h a j) → (∀ o, o ≠ 3 → Y o = Z o) → ∃ Z', whl k (G7_greatestPart_L24 h) (v6, (j : Int), Y) = some (mx5 (fun a => cA an q h a M), Z') ∧ ∀ o, o ≠ 3 → Z' o = Z o := by
    intro d
    induction d with
    | zero =>
      intro j v6 Y k hj hk hv h3 ho
      obtain ⟨k, rfl⟩ : ∃ k', k = k' + 1 := ⟨k - 1, by omega⟩
      have : j = M := by omega
      subst this
      rw [whl_r (r := (v6, Y)) (by rw [G7_greatestPart_L24, ho 0 (by decide), h6, if_pos (Int.le_refl _)]), hv]
      exact ⟨Y, rfl, ho⟩
    | succ d ih =>
      intro j v6 Y k hj hk hv h3 ho
      obtain ⟨k, rfl⟩ : ∃ k', k = k' + 1 := ⟨k - 1, by omega⟩
      have hb := han j (by omega)
      obtain ⟨a0, ha0⟩ := Int.eq_ofNat_of_zero_le hb.1
      have ha5 : a0 < 5 := by omega
      have pre : G7_greatestPart_L24 h (v6, (j : Int), Y) = x_b2 (if bI (q j) = 0 then (some (v6, Y)) else (some ((max v6 (x_add (Y 3 a0) 1)), (x_up Y 3 a0 (x_add (Y 3 a0) 1))))) fun (v15 : Int) (Ri16 : xU) => (some (.inl (v15, ((j + 1 : Nat) : Int), Ri16))) := by
        rw [G7_greatestPart_L24, ho 0 (by decide), h6, if_neg (by omega), if_neg (by omega), hA Y (by rw [ho 0 (by decide)]) (by rw [ho 0 (by decide)]), x_b1s, x_gd_t ⟨by omega, by omega⟩, Int.toNat_natCast, ho 2 (by decide), h2 j (by omega), ha0, if_neg (show ¬ (a0 : Int) < 0 by omega), if_neg (show ¬ (5 : Int) ≤ (a0 : Int) by omega), x_gd_t ⟨by omega, by omega⟩, x_gd_t ⟨by omega, by omega⟩, x_gd_t ⟨by omega, by omega⟩, Int.toNat_natCast, up_s, n_inc (by omega)]
      have hc : ∀ a : Nat, cA an q h a (j + 1) = cA an q h a j + (if q j = true ∧ a0 = a then 1 else 0) := by
        intro a
        rw [cA_s, ha0]
        congr 1
        cases hqj : q j with
        | false => rw [if_neg (fun w => Bool.false_ne_true w.1)]; rfl
        | true =>
          by_cases e : a0 = a
          · subst e; rw [if_pos ⟨rfl, rfl⟩, decide_eq_true rfl]; rfl
          · rw [if_neg (fun w => e w.2), decide_eq_false (by omega)]; rfl
      cases hqj : q j with
      | false =>
        rw [hqj, if_pos (show bI false = 0 from rfl), x_b2s] at pre
        have he : ∀ a, cA an q h a (j + 1) = cA an q h a j := fun a => by rw [hc a, hqj, if_neg (fun w => Bool.false_ne_true w.1), Int.add_zero]
        rw [whl_l pre]
        exact ih (j + 1) v6 Y k (by omega) (by omega) (by rw [hv]; unfold mx5; simp only [he]) (fun a ha => by rw [he]; exact h3 a ha) ho
      | true =>
        have hbd := cA_bd (an := an) (q := q) (h := h) (a := a0) (j := j)
        rw [hqj, if_neg (show ¬ bI true = 0 by decide), x_b2s, h3 a0 ha5, x_add_of ⟨by omega, by omega⟩] at pre
        rw [whl_l pre]
        have he : ∀ a, cA an q h a (j + 1) = cA an q h a j + (if a0 = a then 1 else 0) := fun a => by
          rw [hc a, hqj]
          by_cases e : a0 = a
          · rw [if_pos ⟨rfl, e⟩, if_pos e]
          · rw [if_neg (fun w => e w.2), if_neg e]
        refine ih (j + 1) _ _ k (by omega) (by omega) ?_ (fun a ha => ?_) (fun o h3' => by rw [up_o h3']; exact ho o h3')
        · rw [hv]
          unfold mx5
          simp only [he]
          rcases (show a0 = 0 ∨ a0 = 1 ∨ a0 = 2 ∨ a0 = 3 ∨ a0 = 4 by omega) with rfl | rfl | rfl | rfl | rfl
          · simp; omega
          · simp; omega
          · simp; omega
          · simp; omega
          · simp; omega
        · rw [he]
          by_cases e : a = a0
          · subst e; rw [up_s, if_pos rfl]
          · rw [up_i e, if_neg (fun w => e w.symm), h3 a ha, Int.add_zero]
  obtain ⟨Z', k1, k2⟩ := key M 0 0 (zr Z 3 5) xFU (by omega) (by unfold xFU; omega) rfl (fun a ha => by rw [zr_s ha]; rfl) (fun o ho => zr_o ho)
  rw [G7_greatestPart, w1, x_b1s, show whl xFU (G7_greatestPart_L24 h) (0, 0, zr Z 3 5) = _ from k1, x_b2s]
  exact ⟨Z', rfl, k2⟩
theorem mx5_bd {j : Nat} : 0 ≤ mx5 (fun a => cA an q h a j) ∧ mx5 (fun a => cA an q h a j) ≤ (j : Int) := by
  have h0 := cA_bd (an := an) (q := q) (h := h) (a := 0) (j := j)
  have h1 := cA_bd (an := an) (q := q) (h := h) (a := 1) (j := j)
  have h2 := cA_bd (an := an) (q := q) (h := h) (a := 2) (j := j)
  have h3 := cA_bd (an := an) (q := q) (h := h) (a := 3) (j := j)
  have h4 := cA_bd (an := an) (q := q) (h := h) (a := 4) (j := j)
  unfold mx5
  dsimp only
  omega
/-- which hour tells most, both ways -/
theorem s_tellh (hM : M ≤ 144) (h6 : Ri 0 6 = (M : Int)) (h2 : ∀ v, v < M → Ri 2 v = bI (q v)) (hA : ∀ Z' : xU, Z' 0 4 = Ri 0 4 → Z' 0 5 = Ri 0 5 → ∀ v h, G7_answerOf v h Z' = some (an v h)) (han : ∀ (v h : Nat), v < M → h < 24 → 0 ≤ an (v : Int) (h : Int) ∧ an (v : Int) (h : Int) ≤ 4)
    {f2 : Int × Int × Int → Option ((Int × Int × Int) ⊕ Int)} (hf2 : ∀ (i w : Int) (j : Nat), j < 24 → f2 (i, w, (j : Int)) = some (.inl (if mx5 (fun a => cA an q (j : Int) a M) < w then (j : Int) else i, if mx5 (fun a => cA an q (j : Int) a M) < w then mx5 (fun a => cA an q (j : Int) a M) else w, ((j + 1 : Nat) : Int)))) (hf3 : ∀ i w, f2 (i, w, 24) = some (.inr i)) :
    ∃ v Ri', whl xFU G7_bestHour_L17 (0, 1000000, 0, Ri) = some (v, Ri') ∧ whl xFU f2 (-1, 2000000000, 0) = some v := by
  have W : ∃ r1 r2, whl xFU G7_bestHour_L17 (0, 1000000, 0, Ri) = some r1 ∧ whl xFU f2 (-1, 2000000000, 0) = some r2 ∧ r1.1 = r2 := by
   refine w_sim (f1 := G7_bestHour_L17) (f2 := f2)
     (fun j s1 s2 => ∃ i1 b1 i2 b2 Z, s1 = (i1, b1, (j : Int), Z) ∧ s2 = (i2, b2, (j : Int)) ∧ (∀ o, o ≠ 3 → Z o = Ri o) ∧ (j = 0 ∧ b1 = 1000000 ∧ b2 = 2000000000 ∨ 1 ≤ j ∧ i1 = i2 ∧ b1 = b2))
     (fun r1 r2 => r1.1 = r2) 24 (by unfold xFU; omega) ?_ ?_ (s1 := (0, 1000000, 0, Ri)) (s2 := (-1, 2000000000, 0)) ⟨0, 1000000, -1, 2000000000, Ri, rfl, rfl, fun _ _ => rfl, .inl ⟨rfl, rfl, rfl⟩⟩
   · rintro j s1 s2 hj ⟨i1, b1, i2, b2, Z, rfl, rfl, hZ, hr⟩
     obtain ⟨Z', k1, k2⟩ := c_gp (an := an) (q := q) (h := (j : Int)) (Z := Z) hM (by rw [hZ 0 (by decide)]; exact h6) (fun v hv => by rw [hZ 2 (by decide)]; exact h2 v hv) (fun Z' h4 h5 => hA Z' (by rw [h4, hZ 0 (by decide)]) (by rw [h5, hZ 0 (by decide)])) (fun v hv => han v j hv hj)
     have hb := mx5_bd (an := an) (q := q) (h := (j : Int)) (j := M)
     have c1 : G7_bestHour_L17 (i1, b1, (j : Int), Z) = some (.inl (if b1 ≤ mx5 (fun a => cA an q (j : Int) a M) then i1 else (j : Int), if b1 ≤ mx5 (fun a => cA an q (j : Int) a M) then b1 else mx5 (fun a => cA an q (j : Int) a M), ((j + 1 : Nat) : Int), Z')) := by
       rw [G7_bestHour_L17, if_neg (by omega), k1, x_b2s, n_inc (by omega)]
       by_cases z : b1 ≤ mx5 (fun a => cA an q (j : Int) a M)
       · rw [if_pos z, if_pos z, if_pos z, x_b2s]
       · rw [if_neg z, if_neg z, if_neg z, x_b2s]
     refine ⟨_, _, c1, hf2 i2 b2 j hj, _, _, _, _, Z', rfl, rfl, fun o ho => (k2 o ho).trans (hZ o ho), .inr ⟨by omega, ?_, ?_⟩⟩
     · rcases hr with ⟨_, rfl, rfl⟩ | ⟨_, rfl, rfl⟩
       · rw [if_neg (by omega), if_pos (by omega)]
       · by_cases z : b1 ≤ mx5 (fun a => cA an q (j : Int) a M)
         · rw [if_pos z, if_neg (by omega)]
         · rw [if_neg z, if_pos (by omega)]
     · rcases hr with ⟨_, rfl, rfl⟩ | ⟨_, rfl, rfl⟩
       · rw [if_neg (by omega), if_pos (by omega)]
       · by_cases z : b1 ≤ mx5 (fun a => cA an q (j : Int) a M)
         · rw [if_pos z, if_neg (by omega)]
         · rw [if_neg z, if_pos (by omega)]
   · rintro s1 s2 ⟨i1, b1, i2, b2, Z, rfl, rfl, hZ, hr⟩
     have : i1 = i2 := by
       rcases hr with ⟨h0, _⟩ | ⟨_, h1, _⟩
       · exact absurd h0 (by decide)
       · exact h1
     exact ⟨(i1, Z), i2, rfl, hf3 i2 b2, this⟩
  obtain ⟨r1, r2, e1, e2, e3⟩ := W
  exact ⟨r1.1, r1.2, e1, by rw [e2, ← e3]⟩
/-- the reference asks all -/
theorem w_asks {f : Int × Int × xU → Option ((Int × Int × xU) ⊕ (Int × xU))} {g : Nat → Int × xU → Option ((Int × xU) ⊕ xU)} (hM : M ≤ 144) (hgs : ∀ j, j < M → whl xFU (g j) (0, x_up (fs S q j) 11 j 1) = some (x_up (fs S q j) 11 j (bI (q j))))
    (hf : ∀ (v : Int) (j : Nat) (Z : xU), j < M → f (v, (j : Int), Z) = x_b1 (whl xFU (g j) (0, x_up Z 11 j 1)) fun (S12 : xU) => (x_b1 (if (S12 11 j) = 0 then (some 0) else (some 1)) fun (v21 : Int) => (some (.inl ((x_add v v21), ((j + 1 : Nat) : Int), S12))))) (he : ∀ v Z, f (v, (M : Int), Z) = some (.inr (v, Z))) :
    whl xFU f (0, 0, S) = some (ct q M, fs S q M) := by
  have e0 : ((0 : Int), (0 : Int), S) = (ct q 0, ((0 : Nat) : Int), fs S q 0) := by rw [fs_0]; rfl
  rw [e0]
  refine w_run (fun j => (ct q j, (j : Int), fs S q j)) M (by unfold xFU; omega) (fun j hj => ?_) (he _ _)
  have hb := ct_bd q j
  have e1 : (if bI (q j) = 0 then (some (0 : Int)) else (some 1)) = some (bI (q j)) := by cases q j <;> rfl
  have h01 := bI_01 (q j)
  rw [hf _ j _ hj, hgs j hj, x_b1s, up_s, e1, x_b1s, fs_s, ct_s, x_add_of ⟨by omega, by omega⟩]
theorem rwk_b {i : Nat} (hy : rwk n bt b) (hi : i < n) (h1 : i % 2 = 1) : bt i ≤ b := by
  have := hy.2.2 i hi
  unfold rwl at this
  rw [if_neg (by omega)] at this
  exact this
/-- the reference hears about a walk -/
theorem r_heard {b0 : Int} (hn : n ≤ 400) (h8 : S 0 8 = (n : Int)) (h5 : ∀ i, i < n → S 5 i = bt i) (hby : ∀ i, i < n → 0 ≤ bt i ∧ bt i ≤ 255) (hb0 : S 1 6 = b0) :
    G12_heard S = if rwk n bt 1 then some (ct (fit (anW b0) bt (n / 2)) 144, fs (x_up S 0 8 0) (fit (anW b0) bt (n / 2)) 144) else some (-1, x_up S 0 8 0) := by
  rw [G12_heard, h8, r_areRows (bt := bt) (S := x_up S 0 8 0) hn (fun i hi => by rw [up_o (by decide)]; exact h5 i hi), x_b1s]
  by_cases y : rwk n bt 1
  · rw [decide_eq_true y, if_neg (show ¬ bI true = 0 by decide), if_pos y]
    obtain ⟨y1, y2, y3⟩ := id y
    have w := w_asks (S := x_up S 0 8 0) (M := 144) (q := fit (anW b0) bt (n / 2)) (f := G12_heard_L25 S) (g := fun j => G12_heard_L42 S (j : Int)) (by decide) (fun j hj => by
      have f5 : ∀ (w : Int), x_up (fs (x_up S 0 8 0) (fit (anW b0) bt (n / 2)) j) 11 j w 5 = S 5 := fun w => by rw [up_o (by decide), fs_o (by decide), up_o (by decide)]
      have f1 : ∀ (w : Int), x_up (fs (x_up S 0 8 0) (fit (anW b0) bt (n / 2)) j) 11 j w 1 6 = b0 := fun w => by rw [up_o (by decide), fs_o (by decide), up_o (by decide)]; exact hb0
      refine w_heard (R := n / 2) (an := anW b0) (bt := bt) (by omega) (fun r hr => ?_) (fun r hr => ?_) ?_
      · have e15 : G12_isThere (j : Int) (bt (2 * r)) (x_up (fs (x_up S 0 8 0) (fit (anW b0) bt (n / 2)) j) 11 j 1) = some (anW b0 (j : Int) (bt (2 * r))) := by
          have h01 : anW b0 (j : Int) (bt (2 * r)) = 0 ∨ anW b0 (j : Int) (bt (2 * r)) = 1 := by
            unfold anW
            by_cases z : (x_rem (x_add (x_div (j : Int) 9) (x_mul (bt (2 * r)) (x_rem (j : Int) 9))) 16) = b0
            · rw [if_pos z]; exact .inr rfl
            · rw [if_neg z]; exact .inl rfl
          rw [G12_isThere, f1, x_its, x_b1s]
          exact x_gd_t h01
        have hbt := rwk_b y (show 2 * r + 1 < n by omega) (by omega)
        have hb0' := (hby (2 * r + 1) (by omega)).1
        have e17 : (if bt (2 * r + 1) = 1 then (some (1 : Int)) else (some 0)) = some (bt (2 * r + 1)) := by
          by_cases z : bt (2 * r + 1) = 1
          · rw [if_pos z, z]
          · rw [if_neg z, show bt (2 * r + 1) = 0 by omega]
        have e01 : (if anW b0 (j : Int) (bt (2 * r)) = bt (2 * r + 1) then (1 : Int) else 0) = 0 ∨ (if anW b0 (j : Int) (bt (2 * r)) = bt (2 * r + 1) then (1 : Int) else 0) = 1 := by
          by_cases z : anW b0 (j : Int) (bt (2 * r)) = bt (2 * r + 1)
          · rw [if_pos z]; exact .inr rfl
          · rw [if_neg z]; exact .inl rfl
        show G12_heard_L42 S (j : Int) (((2 * r : Nat) : Int), _) = _
        rw [G12_heard_L42, h8, if_neg (by omega), x_gd_t ⟨by omega, by omega⟩, Int.toNat_natCast, up_s, if_neg (by decide), x_gd_t ⟨by omega, by omega⟩, Int.toNat_natCast, f5, h5 _ (by omega), e15, x_b1s, n_inc (by omega), x_gd_t ⟨by omega, by omega⟩, Int.toNat_natCast, h5 _ (by omega), e17, x_b1s, x_its, x_b1s, x_gd_t ⟨by omega, by omega⟩, x_gd_t e01, up_up, show x_add ((2 * r : Nat) : Int) 2 = ((2 * (r + 1) : Nat) : Int) from n_add (b := 2) (by omega)]
      · show G12_heard_L42 S (j : Int) (((2 * r : Nat) : Int), _) = _
        rw [G12_heard_L42, h8]
        by_cases z : (n : Int) ≤ ((2 * r : Nat) : Int)
        · rw [if_pos z]
        · rw [if_neg z, x_gd_t ⟨by omega, by omega⟩, Int.toNat_natCast, up_s, if_pos rfl]
      · show G12_heard_L42 S (j : Int) (((2 * (n / 2) : Nat) : Int), _) = _
        rw [G12_heard_L42, h8, if_pos (by omega)]) (fun v j Z hj => by
      rw [G12_heard_L25, if_neg (by omega), x_gd_t ⟨by omega, by omega⟩, Int.toNat_natCast]
      simp only [x_gd_t (show (0 : Int) ≤ (j : Int) ∧ (j : Int) < 144 from ⟨by omega, by omega⟩), n_inc (show j < 2147483647 by omega)]) (fun v Z => by rw [G12_heard_L25, if_pos (by decide)])
    rw [w, x_b2s]
  · rw [decide_eq_false y, if_pos (show bI false = 0 from rfl), if_neg y]
/-- the reference hears about a rule -/
theorem r_ruled (hn : n ≤ 400) (h8 : S 0 8 = (n : Int)) (h5 : ∀ i, i < n → S 5 i = bt i) :
    G12_ruled S = if rwk n bt 4 then some (ct (fit anR bt (n / 2)) 25, fs (x_up S 0 8 0) (fit anR bt (n / 2)) 25) else some (-1, x_up S 0 8 0) := by
  rw [G12_ruled, h8, r_areRows (bt := bt) (S := x_up S 0 8 0) hn (fun i hi => by rw [up_o (by decide)]; exact h5 i hi), x_b1s]
  by_cases y : rwk n bt 4
  · rw [decide_eq_true y, if_neg (show ¬ bI true = 0 by decide), if_pos y]
    obtain ⟨y1, y2, y3⟩ := id y
    have w := w_asks (S := x_up S 0 8 0) (M := 25) (q := fit anR bt (n / 2)) (f := G12_ruled_L25 S) (g := fun j => G12_ruled_L41 S (j : Int)) (by decide) (fun j hj => by
      have f5 : ∀ (w : Int), x_up (fs (x_up S 0 8 0) (fit anR bt (n / 2)) j) 11 j w 5 = S 5 := fun w => by rw [up_o (by decide), fs_o (by decide), up_o (by decide)]
      refine w_heard (R := n / 2) (an := anR) (bt := bt) (by omega) (fun r hr => ?_) (fun r hr => ?_) ?_
      · have e01 : (if anR (j : Int) (bt (2 * r)) = bt (2 * r + 1) then (1 : Int) else 0) = 0 ∨ (if anR (j : Int) (bt (2 * r)) = bt (2 * r + 1) then (1 : Int) else 0) = 1 := by
          by_cases z : anR (j : Int) (bt (2 * r)) = bt (2 * r + 1)
          · rw [if_pos z]; exact .inr rfl
          · rw [if_neg z]; exact .inl rfl
        show G12_ruled_L41 S (j : Int) (((2 * r : Nat) : Int), _) = _
        rw [G12_ruled_L41, h8, if_neg (by omega), x_gd_t ⟨by omega, by omega⟩, Int.toNat_natCast, up_s, if_neg (by decide), x_gd_t ⟨by omega, by omega⟩, Int.toNat_natCast, f5, h5 _ (by omega), show G12_moodBy (j : Int) (bt (2 * r)) = some (anR (j : Int) (bt (2 * r))) from rfl, x_b1s, n_inc (by omega), x_gd_t ⟨by omega, by omega⟩, Int.toNat_natCast, h5 _ (by omega), x_its, x_b1s, x_gd_t ⟨by omega, by omega⟩, x_gd_t e01, up_up, show x_add ((2 * r : Nat) : Int) 2 = ((2 * (r + 1) : Nat) : Int) from n_add (b := 2) (by omega)]
      · show G12_ruled_L41 S (j : Int) (((2 * r : Nat) : Int), _) = _
        rw [G12_ruled_L41, h8]
        by_cases z : (n : Int) ≤ ((2 * r : Nat) : Int)
        · rw [if_pos z]
        · rw [if_neg z, x_gd_t ⟨by omega, by omega⟩, Int.toNat_natCast, up_s, if_pos rfl]
      · show G12_ruled_L41 S (j : Int) (((2 * (n / 2) : Nat) : Int), _) = _
        rw [G12_ruled_L41, h8, if_pos (by omega)]) (fun v j Z hj => by
      rw [G12_ruled_L25, if_neg (by omega), x_gd_t ⟨by omega, by omega⟩, Int.toNat_natCast]
      simp only [x_gd_t (show (0 : Int) ≤ (j : Int) ∧ (j : Int) < 144 from ⟨by omega, by omega⟩), n_inc (show j < 2147483647 by omega)]) (fun v Z => by rw [G12_ruled_L25, if_pos (by decide)])
    rw [w, x_b2s]
  · rw [decide_eq_false y, if_pos (show bI false = 0 from rfl), if_neg y]
end RI2
