/-! Stalls changed: rings asked, rounds. -/
section TRD
variable {N S St : xU} {m : Nat → Int} {sl : Nat → Nat} {v n : Nat} {F : Nat → Nat}
theorem c_ringOf {a : Nat} (hn : n ≤ 7) (ha : a < n) (hF : ∀ w, w < n → F w < n) (hS : ∀ w, w < n → St 2 w = (F w : Int)) : G9_ringOf (a : Int) St = some ((rg F a 7 a 1 : Nat) : Int) := by
  have zk1 : ∀ (d x k K : Nat), k + d = 8 → d < K → x < n → 1 ≤ k → ∃ r, whl K (G9_ringOf_L4 (a : Int) St) ((x : Int), (k : Int)) = some r ∧ ((r = .inl () ∧ rg F a d x k = 0) ∨ r = .inr ((rg F a d x k : Nat) : Int)) := by
    intro d
    induction d with
    | zero =>
      intro x k K hk hK hx h1
      obtain ⟨K, rfl⟩ : ∃ K', K = K' + 1 := ⟨K - 1, by omega⟩
      exact ⟨_, whl_r (by rw [G9_ringOf_L4, if_pos (by omega)]), .inl ⟨rfl, rfl⟩⟩
    | succ d ih =>
      intro x k K hk hK hx h1
      obtain ⟨K, rfl⟩ : ∃ K', K = K' + 1 := ⟨K - 1, by omega⟩
      have st : G9_ringOf_L4 (a : Int) St ((x : Int), (k : Int)) = if F x = a then some (.inr (.inr (k : Int))) else some (.inl ((F x : Int), ((k + 1 : Nat) : Int))) := by
        rw [G9_ringOf_L4, if_neg (by omega), if_neg (by omega), if_neg (by omega), x_gd_t ⟨by omega, by omega⟩, Int.toNat_natCast, hS x hx, x_b1s, n_inc (by omega)]
        by_cases z : F x = a
        · rw [if_pos (by omega), if_pos z]
        · rw [if_neg (by omega), if_neg z]
      have ed : rg F a (d + 1) x k = if F x = a then k else rg F a d (F x) (k + 1) := rfl
      rw [ed]
      by_cases z : F x = a
      · rw [if_pos z] at st
        rw [whl_r st, if_pos z]
        exact ⟨_, rfl, .inr rfl⟩
      · rw [if_neg z] at st
        rw [whl_l st, if_neg z]
        exact ih (F x) (k + 1) K (by omega) (by omega) (hF x hx) (by omega)
  obtain ⟨r, e1, e2⟩ := zk1 7 a 1 xFU (by omega) (by unfold xFU; omega) ha (Nat.le_refl _)
  rw [G9_ringOf, show whl xFU (G9_ringOf_L4 (a : Int) St) ((a : Int), 1) = _ from e1]
  rcases e2 with ⟨rfl, e3⟩ | rfl
  · rw [e3]; rfl
  · rfl
theorem r_ringOf {a : Nat} (hn : n ≤ 7) (ha : a < n) (hF : ∀ w, w < n → F w < n) (hP : ∀ w, w < n → G12_pointsTo (w : Int) (v : Int) S = some (F w : Int)) : G12_ringOf (a : Int) (v : Int) S = some (if rg F a 7 a 1 = 0 then -1 else ((rg F a 7 a 1 : Nat) : Int)) := by
  have zk1 : ∀ (d x k K : Nat), k + d = 8 → d < K → x < n → 1 ≤ k → ∃ y k' : Nat, whl K (G12_ringOf_L10 (a : Int) (v : Int) S) ((x : Int), (k : Int)) = some ((y : Int), (k' : Int)) ∧ ((y = a ∧ k' < 8 ∧ k ≤ k' ∧ ∀ x', F x' = x → rg F a (d + 1) x' k = k') ∨ (y = itr F x d ∧ k' = 8 ∧ (∀ x', F x' = x → rg F a (d + 1) x' k = (if y = a then 8 else 0)))) := by
    intro d
    induction d with
    | zero =>
      intro x k K hk hK hx h1
      obtain ⟨K, rfl⟩ : ∃ K', K = K' + 1 := ⟨K - 1, by omega⟩
      have hk8 : k = 8 := by omega
      subst hk8
      refine ⟨x, 8, whl_r ?_, .inr ⟨rfl, rfl, fun x' hx' => ?_⟩⟩
      · rw [G12_ringOf_L10]
        by_cases z : (x : Int) = (a : Int)
        · rw [if_pos z]
        · rw [if_neg z, if_pos (by decide)]
      · show (if F x' = a then 8 else 0) = _
        rw [hx']
    | succ d ih =>
      intro x k K hk hK hx h1
      obtain ⟨K, rfl⟩ : ∃ K', K = K' + 1 := ⟨K - 1, by omega⟩
      by_cases z : x = a
      · refine ⟨x, k, whl_r ?_, .inl ⟨z, by omega, Nat.le_refl _, fun x' hx' => ?_⟩⟩
        · rw [G12_ringOf_L10, if_pos (by omega)]
        · show (if F x' = a then k else rg F a (d + 1) (F x') (k + 1)) = k
          rw [hx', if_pos z]
      · have st : G12_ringOf_L10 (a : Int) (v : Int) S ((x : Int), (k : Int)) = some (.inl ((F x : Int), ((k + 1 : Nat) : Int))) := by
          rw [G12_ringOf_L10, if_neg (by omega), if_neg (by omega), hP x hx, x_b1s, n_inc (by omega)]
        rw [whl_l st]
        have er : ∀ x', F x' = x → rg F a (d + 1 + 1) x' k = rg F a (d + 1) x (k + 1) := fun x' hx' => by
          show (if F x' = a then k else rg F a (d + 1) (F x') (k + 1)) = _
          rw [hx', if_neg z]
        obtain ⟨y, k', g1, g2⟩ := ih (F x) (k + 1) K (by omega) (by omega) (hF x hx) (by omega)
        refine ⟨y, k', g1, ?_⟩
        rcases g2 with ⟨b1, b2, b3, b4⟩ | ⟨b1, b2, b3⟩
        · exact .inl ⟨b1, b2, by omega, fun x' hx' => by rw [er x' hx']; exact b4 x rfl⟩
        · refine .inr ⟨?_, b2, fun x' hx' => by rw [er x' hx']; exact b3 x rfl⟩
          rw [b1, show d + 1 = 1 + d by omega, itr_add]
          rfl
  have hFa := hF a ha
  obtain ⟨y, k', g1, g2⟩ := zk1 7 (F a) 1 xFU (by omega) (by unfold xFU; omega) hFa (Nat.le_refl _)
  have e8 : itr F (F a) 7 = itr F a 8 := by
    rw [show 8 = 1 + 7 from rfl, itr_add]
    rfl
  have r7 : rg F a 8 a 1 ≠ rg F a 7 a 1 → rg F a 7 a 1 = 0 ∧ itr F a 8 = a := by
    have gen : ∀ d x k, 1 ≤ k → rg F a (d + 1) x k ≠ rg F a d x k → rg F a d x k = 0 ∧ itr F x (d + 1) = a := by
      intro d
      induction d with
      | zero =>
        intro x k hk hh
        refine ⟨rfl, ?_⟩
        have e1 : rg F a 1 x k = if F x = a then k else 0 := rfl
        have e2 : rg F a 0 x k = 0 := rfl
        rw [e1, e2] at hh
        by_cases z : F x = a
        · exact z
        · rw [if_neg z] at hh; exact absurd rfl hh
      | succ d ih =>
        intro x k hk hh
        have e1 : rg F a (d + 1 + 1) x k = if F x = a then k else rg F a (d + 1) (F x) (k + 1) := rfl
        have e2 : rg F a (d + 1) x k = if F x = a then k else rg F a d (F x) (k + 1) := rfl
        rw [e1, e2] at hh
        rw [e2]
        by_cases z : F x = a
        · rw [if_pos z, if_pos z] at hh; exact absurd rfl hh
        · rw [if_neg z, if_neg z] at hh
          rw [if_neg z]
          obtain ⟨i1, i2⟩ := ih (F x) (k + 1) (by omega) hh
          refine ⟨i1, ?_⟩
          rw [show d + 1 + 1 = 1 + (d + 1) by omega, itr_add]
          exact i2
    exact gen 7 a 1 (Nat.le_refl _)
  have no8 : rg F a 7 a 1 = 0 → itr F a 8 ≠ a := fun h0 => itr_8 hn hF ha (fun j h1 h2 => rg_0 7 0 h0 j (by omega) (by omega))
  have same : rg F a 8 a 1 = rg F a 7 a 1 := by
    by_cases z : rg F a 8 a 1 = rg F a 7 a 1
    · exact z
    · obtain ⟨z1, z2⟩ := r7 z
      exact absurd z2 (no8 z1)
  rw [G12_ringOf, hP a ha, x_b1s, show whl xFU (G12_ringOf_L10 (a : Int) (v : Int) S) ((F a : Int), 1) = _ from g1, x_b2s]
  rcases g2 with ⟨b1, b2, b3, b4⟩ | ⟨b1, b2, b3⟩
  · have b5 := b4 a rfl
    rw [same] at b5
    rw [if_pos (by omega), x_b1s, b5, if_neg (by omega)]
  · have b5 := b3 a rfl
    rw [same] at b5
    have b6 : rg F a 7 a 1 = 0 := by
      rcases rg_le (F := F) (a := a) 7 a 1 with b7 | b7
      · by_cases z : y = a
        · rw [if_pos z] at b5; omega
        · rw [if_neg z] at b5; exact b5
      · exact b7
    have b8 : y ≠ a := by rw [b1, e8]; exact no8 b6
    rw [if_neg (by omega), x_b1s, if_pos b6]
end TRD
