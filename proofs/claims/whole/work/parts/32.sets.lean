/-! Sets of monks by a question. -/
theorem w_bsC {f : Int × Int → Option ((Int × Int) ⊕ Int)} {mm : Int} {n : Nat} (Q : Int → Option Int) (q : Nat → Bool) (hm : mm = (n : Int)) (hn : n ≤ 7)
    (hf : ∀ s j, f (s, j) = if mm ≤ j then some (.inr s) else x_b1 (Q j) fun v => x_b1 (if v = 0 then some s else some (x_or s (x_shl 1 j))) fun v8 => some (.inl (v8, x_add j 1)))
    (hQ : ∀ j : Nat, j < n → Q (j : Int) = some (if q j then 1 else 0)) : whl xFU f (0, 0) = some ((bs q n : Nat) : Int) := by
  refine w_bs q (by omega) ?_ ?_
  · intro j s hj hs
    rw [hf, if_neg (by omega), hQ j hj, x_b1, Option.bind_some, n_bsC (by omega) hs, x_b1, Option.bind_some, n_inc (by omega)]
  · intro s
    rw [hf, if_pos (by omega)]
theorem w_bsR {f : Int × Int → Option ((Int × Int) ⊕ Int)} {mm : Int} {n : Nat} (Q : Int → Option Int) (q : Nat → Bool) (hm : mm = (n : Int)) (hn : n ≤ 7)
    (hf : ∀ s j, f (s, j) = if mm ≤ j then some (.inr s) else x_b1 (Q j) fun v => x_b1 (if v = 0 then some 0 else some (x_shl 1 j)) fun v8 => some (.inl (x_or s v8, x_add j 1)))
    (hQ : ∀ j : Nat, j < n → Q (j : Int) = some (if q j then 1 else 0)) : whl xFU f (0, 0) = some ((bs q n : Nat) : Int) := by
  refine w_bs q (by omega) ?_ ?_
  · intro j s hj hs
    have e : (if (if q j then (1 : Int) else 0) = 0 then some (0 : Int) else some (x_shl 1 (j : Int))) = some (if q j then x_shl 1 (j : Int) else 0) := by
      cases q j <;> rfl
    rw [hf, if_neg (by omega), hQ j hj, x_b1, Option.bind_some, e, x_b1, Option.bind_some, n_bsR (by omega) hs, n_inc (by omega)]
  · intro s
    rw [hf, if_pos (by omega)]
section Q1
variable {N S : xU} {m : Nat → Int}
theorem g1_doesLike {p t : Nat} (h : CR N m) (hi : Iv m) (hp : (p : Int) < m 3) (ht : t < 32) : G1_doesLike (p : Int) (t : Int) N = some (if ib (m (19 + 8 * p)) t then 1 else 0) := by
  have h4 := (hi.mk hp).2.2.2.1
  rw [G1_doesLike, g1_of3 h hi hp, x_b1, Option.bind_some, g11_hold ⟨by omega, by omega⟩ ht, x_b1, Option.bind_some]
  cases ib (m (19 + 8 * p)) t <;> rfl
theorem g1_isAt {p : Nat} {f : Int} (h : CR N m) (hi : Iv m) (hp : (p : Int) < m 3) : G1_isAt (p : Int) f N = some (if decide (m (20 + 8 * p) = 0 ∧ m (16 + 8 * p) = f) then 1 else 0) := by
  rw [G1_isAt, g1_of4 h hi hp, g1_of0 h hi hp]
  by_cases q1 : m (20 + 8 * p) = 0
  · by_cases q2 : m (16 + 8 * p) = f
    · simp [x_b1, q1, q2, x_gd]
    · simp [x_b1, q1, q2, x_gd]
  · simp [x_b1, q1, x_gd]
theorem g12_inChoir {p : Nat} (hi : Iv (S 1)) (hp : (p : Int) < S 1 3) : G12_inChoir (p : Int) S = some (if decide (S 1 (20 + 8 * p) = 0 ∧ S 1 (16 + 8 * p) = S 1 6) then 1 else 0) := by
  have h7 := hi.many
  have h5 := (hi.mk hp).2.2.2.2.1
  rw [G12_inChoir, g12_isLost (by omega), g12_of0 (by omega)]
  by_cases q1 : S 1 (20 + 8 * p) = 0
  · rw [if_neg (by omega)]
    by_cases q2 : S 1 (16 + 8 * p) = S 1 6
    · simp [x_b1, q1, q2, x_gd]
    · simp [x_b1, q1, q2, x_gd]
  · rw [if_pos (by omega)]
    simp [x_b1, q1, x_gd]
theorem x_up1 {v : Int} : x_up S 0 0 v 1 = S 1 := up_o (by decide)
theorem L_choir (h : CR N (S 1)) (hi : Iv (S 1)) : ∃ b, G11_choir N = some b ∧ G12_choir S = some (b, x_up S 0 0 0) := by
  obtain ⟨n, hn, e⟩ := hi.nn
  refine ⟨((bs (fun p => decide (S 1 (20 + 8 * p) = 0 ∧ S 1 (16 + 8 * p) = S 1 6)) n : Nat) : Int), ?_, ?_⟩
  · rw [G11_choir, w_bsC (fun j => G1_isAt j (N 0 7) N) _ (h.1.1.trans e) hn (fun _ _ => rfl) (fun j hj => by rw [h.1.2.2.2.2.1]; exact g1_isAt h hi (by omega))]
    rfl
  · rw [G12_choir, w_bsR (fun j => G12_inChoir j (x_up S 0 0 0)) _ (by rw [x_up1]; exact e) hn (fun _ _ => rfl) (fun j hj => by
      have := g12_inChoir (S := x_up S 0 0 0) (p := j) (by rw [x_up1]; exact hi) (by rw [x_up1]; omega)
      rw [x_up1] at this; exact this)]
    rfl
theorem L_gone (h : CR N (S 1)) (hi : Iv (S 1)) : ∃ b, G11_gone N = some b ∧ G12_gone S = some (b, x_up S 0 0 0) := by
  obtain ⟨n, hn, e⟩ := hi.nn
  refine ⟨((bs (fun p => decide (0 < S 1 (20 + 8 * p))) n : Nat) : Int), ?_, ?_⟩
  · rw [G11_gone, w_bsC (fun j => G1_isLost j N) (fun p => decide (0 < S 1 (20 + 8 * p))) (h.1.1.trans e) hn (fun _ _ => rfl) (fun j hj => by rw [g1_isLost h hi (by omega)]; simp)]
    rfl
  · rw [G12_gone, G12_goneOnes, w_bsR (fun j => G12_isLost j (x_up S 0 0 0)) (fun p => decide (0 < S 1 (20 + 8 * p))) (by rw [x_up1]; exact e) hn (fun _ _ => rfl) (fun j hj => by
      rw [g12_isLost (by omega), x_up1]; simp)]
    rfl
theorem L_content (h : CR N (S 1)) (hi : Iv (S 1)) : ∃ b, G11_content N = some b ∧ G12_content S = some (b, x_up S 0 0 0) := by
  obtain ⟨n, hn, e⟩ := hi.nn
  refine ⟨((bs (fun p => ib (S 1 (19 + 8 * p)) (S 1 (18 + 8 * p)).toNat) n : Nat) : Int), ?_, ?_⟩
  · rw [G11_content, w_bsC (fun j => x_b1 (G1_of 2 j N) fun v6 => G1_doesLike j v6 N) (fun p => ib (S 1 (19 + 8 * p)) (S 1 (18 + 8 * p)).toNat) (h.1.1.trans e) hn (fun s j => by
      show (if _ then _ else _) = _
      congr 1
      cases (G1_of 2 j N) <;> rfl) (fun j hj => by
      have h3 := (hi.mk (p := j) (by omega)).2.2.1
      obtain ⟨t, ht⟩ := Int.eq_ofNat_of_zero_le h3.1
      show x_b1 (G1_of 2 (j : Int) N) _ = _
      rw [g1_of2 h hi (by omega), x_b1, Option.bind_some, ht, g1_doesLike h hi (by omega) (by omega)]
      rfl)]
    rfl
  · rw [G12_content, w_bsR (mm := (x_up S 0 0 0) 1 3) (fun j => x_b1 (G12_of j 3 (x_up S 0 0 0)) fun v6 => x_b1 (G12_of j 2 (x_up S 0 0 0)) fun v8 => G12_isOf v6 v8) (fun p => ib (S 1 (19 + 8 * p)) (S 1 (18 + 8 * p)).toNat) (by rw [x_up1]; exact e) hn (fun s j => by
      show (if _ then _ else _) = _
      congr 1
      cases (G12_of j 3 (x_up S 0 0 0)) with
      | none => rfl
      | some v => cases (G12_of j 2 (x_up S 0 0 0)) <;> rfl) (fun j hj => by
      have h3 := (hi.mk (p := j) (by omega)).2.2.1
      have h4 := (hi.mk (p := j) (by omega)).2.2.2.1
      obtain ⟨t, ht⟩ := Int.eq_ofNat_of_zero_le h3.1
      show x_b1 (G12_of (j : Int) 3 (x_up S 0 0 0)) _ = _
      rw [g12_of3 (by omega), g12_of2 (by omega), x_up1, x_b1, Option.bind_some, x_b1, Option.bind_some, ht, g12_isOf ⟨by omega, by omega⟩ (by omega)]
      rfl)]
    rfl
/-- the reference's word for what is thrown -/
def Th (c : Bool) (k : Int) : Int := if c then 0 else k
theorem L_serves {a : Int} (h : CR N (S 1)) (hi : Iv (S 1)) : ∃ o b v, G11_serves a N = some o ∧ G12_serves a S = some (b, x_up S 0 0 v) ∧ Ag (fun _ => 1) o b (x_up S 0 0 v) := by
  obtain ⟨n, hn, e⟩ := hi.nn
  rw [G11_serves, G12_serves, g12_isIn]
  by_cases h0 : 0 ≤ a ∧ a ≤ 11
  · obtain ⟨t, rfl⟩ := Int.eq_ofNat_of_zero_le h0.1
    refine ⟨.inl ((bs (fun p => ib (S 1 (19 + 8 * p)) t) n : Nat) : Int), ((bs (fun p => ib (S 1 (19 + 8 * p)) t) n : Nat) : Int), 0, ?_, ?_, rfl, rfl⟩
    · rw [if_neg (by omega), if_pos (by omega), w_bsC (fun j => G1_doesLike j (t : Int) N) _ (h.1.1.trans e) hn (fun _ _ => rfl) (fun j hj => g1_doesLike h hi (by omega) (by omega))]
      rfl
    · rw [if_pos h0]
      show x_b1 (whl xFU (G12_serves_L32 (t : Int) S 0) (0, 0)) _ = _
      rw [w_bsR (mm := (x_up S 0 0 0) 1 3) (fun j => x_b1 (G12_of j 3 (x_up S 0 0 0)) fun v10 => G12_isOf v10 (t : Int)) (fun p => ib (S 1 (19 + 8 * p)) t) (by rw [x_up1]; exact e) hn (fun s j => by
        show (if _ then _ else _) = _
        congr 1
        cases (G12_of j 3 (x_up S 0 0 0)) <;> rfl) (fun j hj => by
        have h4 := (hi.mk (p := j) (by omega)).2.2.2.1
        show x_b1 (G12_of (j : Int) 3 (x_up S 0 0 0)) _ = _
        rw [g12_of3 (by omega), x_up1, x_b1, Option.bind_some, g12_isOf ⟨by omega, by omega⟩ (by omega)])]
      rfl
  · refine ⟨.inr 1, 0, 1, ?_, ?_, rfl⟩
    · by_cases h1 : a < 0
      · rw [if_pos h1]
      · rw [if_neg h1, if_neg (by omega)]
    · rw [if_neg h0]; rfl
theorem L_round {a : Int} (h : CR N (S 1)) (hi : Iv (S 1)) : ∃ o b v, G11_round a N = some o ∧ G12_round a S = some (b, x_up S 0 0 v) ∧ Ag (fun _ => 1) o b (x_up S 0 0 v) := by
  obtain ⟨n, hn, e⟩ := hi.nn
  rw [G11_round, G12_round, g12_isIn, g11_needWithin]
  by_cases h0 : 0 ≤ a ∧ a ≤ 999
  · refine ⟨.inl ((bs (fun p => decide (a ≤ S 1 (23 + 8 * p))) n : Nat) : Int), ((bs (fun p => decide (a ≤ S 1 (23 + 8 * p))) n : Nat) : Int), 0, ?_, ?_, rfl, rfl⟩
    · rw [if_pos h0]
      show x_b1 (whl xFU (G11_round_L11 a N) (0, 0)) _ = _
      rw [w_bsC (fun j => x_b1 (G1_of 7 j N) fun v => some (if decide (a ≤ v) then 1 else 0)) (fun p => decide (a ≤ S 1 (23 + 8 * p))) (h.1.1.trans e) hn (fun s j => by
        show (if _ then _ else _) = _
        congr 1
        cases (G1_of 7 j N) with
        | none => rfl
        | some v =>
          by_cases q : v < a
          · simp [x_b1, q, show ¬ a ≤ v by omega]
          · simp [x_b1, q, show a ≤ v by omega]) (fun j hj => by
        show x_b1 (G1_of 7 (j : Int) N) _ = _
        rw [g1_of7 h hi (by omega)]; rfl)]
      rfl
    · rw [if_pos h0]
      show x_b1 (whl xFU (G12_round_L33 a S 0) (0, 0)) _ = _
      rw [w_bsR (mm := (x_up S 0 0 0) 1 3) (fun j => x_b1 (G12_of j 7 (x_up S 0 0 0)) fun v => some (if decide (a ≤ v) then 1 else 0)) (fun p => decide (a ≤ S 1 (23 + 8 * p))) (by rw [x_up1]; exact e) hn (fun s j => by
        show (if _ then _ else _) = _
        congr 1
        cases (G12_of j 7 (x_up S 0 0 0)) with
        | none => rfl
        | some v =>
          by_cases q : v < a
          · simp [x_b1, q, show ¬ a ≤ v by omega]
          · simp [x_b1, q, show a ≤ v by omega]) (fun j hj => by
        show x_b1 (G12_of (j : Int) 7 (x_up S 0 0 0)) _ = _
        rw [g12_of7 (by omega), x_up1]; rfl)]
      rfl
  · refine ⟨.inr 0, 0, 1, ?_, ?_, rfl⟩
    · rw [if_neg h0]; rfl
    · rw [if_neg h0]; rfl
end Q1
