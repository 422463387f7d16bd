/-! An hour: walking and eating. -/
theorem up_comm {S : xU} {o i j : Nat} {v w : Int} (h : i ≠ j) : x_up (x_up S o i v) o j w = x_up (x_up S o j w) o i v := by
  funext o2 k
  by_cases h1 : o2 = o
  · subst h1
    by_cases h2 : k = i
    · subst h2; rw [up_i h, up_s, up_s]
    · by_cases h3 : k = j
      · subst h3; rw [up_s, up_i h2, up_s]
      · rw [up_i h3, up_i h2, up_i h2, up_i h3]
  · rw [up_o h1, up_o h1, up_o h1, up_o h1]
theorem up_id {S : xU} {o i : Nat} {v : Int} (h : S o i = v) : x_up S o i v = S := by
  funext o2 k
  by_cases h1 : o2 = o
  · subst h1
    by_cases h2 : k = i
    · subst h2; rw [up_s, h]
    · rw [up_i h2]
  · rw [up_o h1]
/-- a step on: the same cloister for both, the law and all else of the reference kept -/
def Nx (La S C' La' S' : xU) : Prop := CR C' (S' 1) ∧ Iv (S' 1) ∧ S' 1 3 = S 1 3 ∧ Kq S S' ∧ Lw (S 1) (S' 1) ∧ LaEq La La'
theorem Nx.tr {La S C1 La1 S1 C2 La2 S2 : xU} (h : Nx La S C1 La1 S1) (k : Nx La1 S1 C2 La2 S2) : Nx La S C2 La2 S2 :=
  ⟨k.1, k.2.1, k.2.2.1.trans h.2.2.1, h.2.2.2.1.tr k.2.2.2.1, h.2.2.2.2.1.tr k.2.2.2.2.1, h.2.2.2.2.2.tr k.2.2.2.2.2⟩
/-- neither the counts nor the hour change -/
def H7 (S S' : xU) : Prop := S' 7 = S 7 ∧ S' 1 4 = S 1 4
theorem H7.rf {S : xU} : H7 S S := ⟨rfl, rfl⟩
theorem H7.tr {S S' S2 : xU} (h : H7 S S') (k : H7 S' S2) : H7 S S2 := ⟨k.1.trans h.1, k.2.trans h.2⟩
theorem H7.up {S : xU} {i : Nat} {v : Int} (h : 4 ≠ i) : H7 S (x_up S 1 i v) := ⟨up_o (by decide), up_i h⟩
section Q6
variable {C S La : xU}
theorem g1_put0 {p : Nat} {v : Int} (hp : p < 7) : G1_put 0 (p : Int) v C = some (x_up C 1 (7 * 0 + p) v) := g1_put (k := 0) (by decide) hp
theorem g12_lays0 {p : Nat} {v : Int} (hp : p < 8) : G12_lays (p : Int) 0 v S = some (x_up S 1 (16 + 8 * p + 0) v) := g12_lays (k := 0) (by decide) hp
theorem mku_0 {p : Nat} {v : Int} (h : Mk (S 1) p) (hv : 0 ≤ v ∧ v < 16) : Mk (x_up S 1 (16 + 8 * p + 0) v 1) p := by
  have e : ∀ j, j ≠ 16 + 8 * p + 0 → x_up S 1 (16 + 8 * p + 0) v 1 j = S 1 j := fun j hj => up_i hj
  have ek : x_up S 1 (16 + 8 * p + 0) v 1 (16 + 8 * p) = v := by rw [show 16 + 8 * p = 16 + 8 * p + 0 by omega, up_s]
  unfold Mk at h ⊢
  exact ⟨by rw [ek]; exact hv, by rw [e _ (by omega)]; exact h.2.1, by rw [e _ (by omega)]; exact h.2.2.1, by rw [e _ (by omega)]; exact h.2.2.2.1, by rw [e _ (by omega)]; exact h.2.2.2.2.1, by rw [e _ (by omega)]; exact h.2.2.2.2.2.1, by rw [e _ (by omega)]; exact h.2.2.2.2.2.2.1, by rw [e _ (by omega)]; exact h.2.2.2.2.2.2.2⟩
theorem s_put0 {p : Nat} {v : Int} (h : CR C (S 1)) (hi : Iv (S 1)) (hp : (p : Int) < S 1 3) (hv : 0 ≤ v ∧ v < 16) : Nx La S (x_up C 1 (7 * 0 + p) v) La (x_up S 1 (16 + 8 * p + 0) v) :=
  ⟨h.put hi hp (by decide), hi.put hp (by decide) (by decide) (mku_0 (hi.mk hp) hv), up_i (by omega), Kq.m, Lw.up (by have := hi.many; omega), LaEq.rf⟩
theorem g1_put1 {p : Nat} {v : Int} (hp : p < 7) : G1_put 1 (p : Int) v C = some (x_up C 1 (7 * 1 + p) v) := g1_put (k := 1) (by decide) hp
theorem g12_lays1 {p : Nat} {v : Int} (hp : p < 8) : G12_lays (p : Int) 1 v S = some (x_up S 1 (16 + 8 * p + 1) v) := g12_lays (k := 1) (by decide) hp
theorem mku_1 {p : Nat} {v : Int} (h : Mk (S 1) p) (hv : 0 ≤ v ∧ v ≤ 8) : Mk (x_up S 1 (16 + 8 * p + 1) v 1) p := by
  have e : ∀ j, j ≠ 16 + 8 * p + 1 → x_up S 1 (16 + 8 * p + 1) v 1 j = S 1 j := fun j hj => up_i hj
  have ek : x_up S 1 (16 + 8 * p + 1) v 1 (17 + 8 * p) = v := by rw [show 17 + 8 * p = 16 + 8 * p + 1 by omega, up_s]
  unfold Mk at h ⊢
  exact ⟨by rw [e _ (by omega)]; exact h.1, by rw [ek]; exact hv, by rw [e _ (by omega)]; exact h.2.2.1, by rw [e _ (by omega)]; exact h.2.2.2.1, by rw [e _ (by omega)]; exact h.2.2.2.2.1, by rw [e _ (by omega)]; exact h.2.2.2.2.2.1, by rw [e _ (by omega)]; exact h.2.2.2.2.2.2.1, by rw [e _ (by omega)]; exact h.2.2.2.2.2.2.2⟩
theorem s_put1 {p : Nat} {v : Int} (h : CR C (S 1)) (hi : Iv (S 1)) (hp : (p : Int) < S 1 3) (hv : 0 ≤ v ∧ v ≤ 8) : Nx La S (x_up C 1 (7 * 1 + p) v) La (x_up S 1 (16 + 8 * p + 1) v) :=
  ⟨h.put hi hp (by decide), hi.put hp (by decide) (by decide) (mku_1 (hi.mk hp) hv), up_i (by omega), Kq.m, Lw.up (by have := hi.many; omega), LaEq.rf⟩
theorem g1_put2 {p : Nat} {v : Int} (hp : p < 7) : G1_put 2 (p : Int) v C = some (x_up C 1 (7 * 2 + p) v) := g1_put (k := 2) (by decide) hp
theorem g12_lays2 {p : Nat} {v : Int} (hp : p < 8) : G12_lays (p : Int) 2 v S = some (x_up S 1 (16 + 8 * p + 2) v) := g12_lays (k := 2) (by decide) hp
theorem mku_2 {p : Nat} {v : Int} (h : Mk (S 1) p) (hv : 0 ≤ v ∧ v < 12) : Mk (x_up S 1 (16 + 8 * p + 2) v 1) p := by
  have e : ∀ j, j ≠ 16 + 8 * p + 2 → x_up S 1 (16 + 8 * p + 2) v 1 j = S 1 j := fun j hj => up_i hj
  have ek : x_up S 1 (16 + 8 * p + 2) v 1 (18 + 8 * p) = v := by rw [show 18 + 8 * p = 16 + 8 * p + 2 by omega, up_s]
  unfold Mk at h ⊢
  exact ⟨by rw [e _ (by omega)]; exact h.1, by rw [e _ (by omega)]; exact h.2.1, by rw [ek]; exact hv, by rw [e _ (by omega)]; exact h.2.2.2.1, by rw [e _ (by omega)]; exact h.2.2.2.2.1, by rw [e _ (by omega)]; exact h.2.2.2.2.2.1, by rw [e _ (by omega)]; exact h.2.2.2.2.2.2.1, by rw [e _ (by omega)]; exact h.2.2.2.2.2.2.2⟩
theorem g1_put3 {p : Nat} {v : Int} (hp : p < 7) : G1_put 3 (p : Int) v C = some (x_up C 1 (7 * 3 + p) v) := g1_put (k := 3) (by decide) hp
theorem g12_lays3 {p : Nat} {v : Int} (hp : p < 8) : G12_lays (p : Int) 3 v S = some (x_up S 1 (16 + 8 * p + 3) v) := g12_lays (k := 3) (by decide) hp
theorem mku_3 {p : Nat} {v : Int} (h : Mk (S 1) p) (hv : 0 ≤ v ∧ v < 4096) : Mk (x_up S 1 (16 + 8 * p + 3) v 1) p := by
  have e : ∀ j, j ≠ 16 + 8 * p + 3 → x_up S 1 (16 + 8 * p + 3) v 1 j = S 1 j := fun j hj => up_i hj
  have ek : x_up S 1 (16 + 8 * p + 3) v 1 (19 + 8 * p) = v := by rw [show 19 + 8 * p = 16 + 8 * p + 3 by omega, up_s]
  unfold Mk at h ⊢
  exact ⟨by rw [e _ (by omega)]; exact h.1, by rw [e _ (by omega)]; exact h.2.1, by rw [e _ (by omega)]; exact h.2.2.1, by rw [ek]; exact hv, by rw [e _ (by omega)]; exact h.2.2.2.2.1, by rw [e _ (by omega)]; exact h.2.2.2.2.2.1, by rw [e _ (by omega)]; exact h.2.2.2.2.2.2.1, by rw [e _ (by omega)]; exact h.2.2.2.2.2.2.2⟩
theorem s_put3 {p : Nat} {v : Int} (h : CR C (S 1)) (hi : Iv (S 1)) (hp : (p : Int) < S 1 3) (hv : 0 ≤ v ∧ v < 4096) : Nx La S (x_up C 1 (7 * 3 + p) v) La (x_up S 1 (16 + 8 * p + 3) v) :=
  ⟨h.put hi hp (by decide), hi.put hp (by decide) (by decide) (mku_3 (hi.mk hp) hv), up_i (by omega), Kq.m, Lw.up (by have := hi.many; omega), LaEq.rf⟩
theorem g1_put4 {p : Nat} {v : Int} (hp : p < 7) : G1_put 4 (p : Int) v C = some (x_up C 1 (7 * 4 + p) v) := g1_put (k := 4) (by decide) hp
theorem g12_lays4 {p : Nat} {v : Int} (hp : p < 8) : G12_lays (p : Int) 4 v S = some (x_up S 1 (16 + 8 * p + 4) v) := g12_lays (k := 4) (by decide) hp
theorem mku_4 {p : Nat} {v : Int} (h : Mk (S 1) p) (hv : 0 ≤ v ∧ v ≤ 20) : Mk (x_up S 1 (16 + 8 * p + 4) v 1) p := by
  have e : ∀ j, j ≠ 16 + 8 * p + 4 → x_up S 1 (16 + 8 * p + 4) v 1 j = S 1 j := fun j hj => up_i hj
  have ek : x_up S 1 (16 + 8 * p + 4) v 1 (20 + 8 * p) = v := by rw [show 20 + 8 * p = 16 + 8 * p + 4 by omega, up_s]
  unfold Mk at h ⊢
  exact ⟨by rw [e _ (by omega)]; exact h.1, by rw [e _ (by omega)]; exact h.2.1, by rw [e _ (by omega)]; exact h.2.2.1, by rw [e _ (by omega)]; exact h.2.2.2.1, by rw [ek]; exact hv, by rw [e _ (by omega)]; exact h.2.2.2.2.2.1, by rw [e _ (by omega)]; exact h.2.2.2.2.2.2.1, by rw [e _ (by omega)]; exact h.2.2.2.2.2.2.2⟩
theorem s_put4 {p : Nat} {v : Int} (h : CR C (S 1)) (hi : Iv (S 1)) (hp : (p : Int) < S 1 3) (hv : 0 ≤ v ∧ v ≤ 20) : Nx La S (x_up C 1 (7 * 4 + p) v) La (x_up S 1 (16 + 8 * p + 4) v) :=
  ⟨h.put hi hp (by decide), hi.put hp (by decide) (by decide) (mku_4 (hi.mk hp) hv), up_i (by omega), Kq.m, Lw.up (by have := hi.many; omega), LaEq.rf⟩
theorem g1_put5 {p : Nat} {v : Int} (hp : p < 7) : G1_put 5 (p : Int) v C = some (x_up C 1 (7 * 5 + p) v) := g1_put (k := 5) (by decide) hp
theorem g12_lays5 {p : Nat} {v : Int} (hp : p < 8) : G12_lays (p : Int) 5 v S = some (x_up S 1 (16 + 8 * p + 5) v) := g12_lays (k := 5) (by decide) hp
theorem mku_5 {p : Nat} {v : Int} (h : Mk (S 1) p) (hv : 0 ≤ v ∧ v ≤ 999) : Mk (x_up S 1 (16 + 8 * p + 5) v 1) p := by
  have e : ∀ j, j ≠ 16 + 8 * p + 5 → x_up S 1 (16 + 8 * p + 5) v 1 j = S 1 j := fun j hj => up_i hj
  have ek : x_up S 1 (16 + 8 * p + 5) v 1 (21 + 8 * p) = v := by rw [show 21 + 8 * p = 16 + 8 * p + 5 by omega, up_s]
  unfold Mk at h ⊢
  exact ⟨by rw [e _ (by omega)]; exact h.1, by rw [e _ (by omega)]; exact h.2.1, by rw [e _ (by omega)]; exact h.2.2.1, by rw [e _ (by omega)]; exact h.2.2.2.1, by rw [e _ (by omega)]; exact h.2.2.2.2.1, by rw [ek]; exact hv, by rw [e _ (by omega)]; exact h.2.2.2.2.2.2.1, by rw [e _ (by omega)]; exact h.2.2.2.2.2.2.2⟩
theorem s_put5 {p : Nat} {v : Int} (h : CR C (S 1)) (hi : Iv (S 1)) (hp : (p : Int) < S 1 3) (hv : 0 ≤ v ∧ v ≤ 999) : Nx La S (x_up C 1 (7 * 5 + p) v) La (x_up S 1 (16 + 8 * p + 5) v) :=
  ⟨h.put hi hp (by decide), hi.put hp (by decide) (by decide) (mku_5 (hi.mk hp) hv), up_i (by omega), Kq.m, Lw.up (by have := hi.many; omega), LaEq.rf⟩
theorem g1_put6 {p : Nat} {v : Int} (hp : p < 7) : G1_put 6 (p : Int) v C = some (x_up C 1 (7 * 6 + p) v) := g1_put (k := 6) (by decide) hp
theorem g12_lays6 {p : Nat} {v : Int} (hp : p < 8) : G12_lays (p : Int) 6 v S = some (x_up S 1 (16 + 8 * p + 6) v) := g12_lays (k := 6) (by decide) hp
theorem mku_6 {p : Nat} {v : Int} (h : Mk (S 1) p) (hv : 0 ≤ v ∧ v ≤ 99) : Mk (x_up S 1 (16 + 8 * p + 6) v 1) p := by
  have e : ∀ j, j ≠ 16 + 8 * p + 6 → x_up S 1 (16 + 8 * p + 6) v 1 j = S 1 j := fun j hj => up_i hj
  have ek : x_up S 1 (16 + 8 * p + 6) v 1 (22 + 8 * p) = v := by rw [show 22 + 8 * p = 16 + 8 * p + 6 by omega, up_s]
  unfold Mk at h ⊢
  exact ⟨by rw [e _ (by omega)]; exact h.1, by rw [e _ (by omega)]; exact h.2.1, by rw [e _ (by omega)]; exact h.2.2.1, by rw [e _ (by omega)]; exact h.2.2.2.1, by rw [e _ (by omega)]; exact h.2.2.2.2.1, by rw [e _ (by omega)]; exact h.2.2.2.2.2.1, by rw [ek]; exact hv, by rw [e _ (by omega)]; exact h.2.2.2.2.2.2.2⟩
theorem s_put6 {p : Nat} {v : Int} (h : CR C (S 1)) (hi : Iv (S 1)) (hp : (p : Int) < S 1 3) (hv : 0 ≤ v ∧ v ≤ 99) : Nx La S (x_up C 1 (7 * 6 + p) v) La (x_up S 1 (16 + 8 * p + 6) v) :=
  ⟨h.put hi hp (by decide), hi.put hp (by decide) (by decide) (mku_6 (hi.mk hp) hv), up_i (by omega), Kq.m, Lw.up (by have := hi.many; omega), LaEq.rf⟩
theorem g1_put7 {p : Nat} {v : Int} (hp : p < 7) : G1_put 7 (p : Int) v C = some (x_up C 1 (7 * 7 + p) v) := g1_put (k := 7) (by decide) hp
theorem g12_lays7 {p : Nat} {v : Int} (hp : p < 8) : G12_lays (p : Int) 7 v S = some (x_up S 1 (16 + 8 * p + 7) v) := g12_lays (k := 7) (by decide) hp
theorem mku_7 {p : Nat} {v : Int} (h : Mk (S 1) p) (hv : 0 ≤ v ∧ v ≤ 999) : Mk (x_up S 1 (16 + 8 * p + 7) v 1) p := by
  have e : ∀ j, j ≠ 16 + 8 * p + 7 → x_up S 1 (16 + 8 * p + 7) v 1 j = S 1 j := fun j hj => up_i hj
  have ek : x_up S 1 (16 + 8 * p + 7) v 1 (23 + 8 * p) = v := by rw [show 23 + 8 * p = 16 + 8 * p + 7 by omega, up_s]
  unfold Mk at h ⊢
  exact ⟨by rw [e _ (by omega)]; exact h.1, by rw [e _ (by omega)]; exact h.2.1, by rw [e _ (by omega)]; exact h.2.2.1, by rw [e _ (by omega)]; exact h.2.2.2.1, by rw [e _ (by omega)]; exact h.2.2.2.2.1, by rw [e _ (by omega)]; exact h.2.2.2.2.2.1, by rw [e _ (by omega)]; exact h.2.2.2.2.2.2.1, by rw [ek]; exact hv⟩
theorem s_put7 {p : Nat} {v : Int} (h : CR C (S 1)) (hi : Iv (S 1)) (hp : (p : Int) < S 1 3) (hv : 0 ≤ v ∧ v ≤ 999) : Nx La S (x_up C 1 (7 * 7 + p) v) La (x_up S 1 (16 + 8 * p + 7) v) :=
  ⟨h.put hi hp (by decide), hi.put hp (by decide) (by decide) (mku_7 (hi.mk hp) hv), up_i (by omega), Kq.m, Lw.up (by have := hi.many; omega), LaEq.rf⟩
theorem s_go {p : Nat} (h : CR C (S 1)) (hi : Iv (S 1)) (hL : LR La (S 1)) (hp : (p : Int) < S 1 3) :
    ∃ C' La' S', G1_goOn (p : Int) C La = some (C', La') ∧ G12_walks (p : Int) S = some S' ∧ Nx La S C' La' S' ∧ H7 S S' := by
  have h7 := hi.many
  have h4 := mk_4 hi hp
  have h0 := mk_0 hi hp
  by_cases q : 0 < S 1 (20 + 8 * p)
  · refine ⟨x_up C 1 (7 * 4 + p) (S 1 (20 + 8 * p) - 1), La, x_up S 1 (16 + 8 * p + 4) (S 1 (20 + 8 * p) - 1), ?_, ?_, s_put4 h hi hp ⟨by omega, by omega⟩, H7.up (by omega)⟩
    · rw [G1_goOn, g1_isLost h hi hp, if_pos q, x_b1, Option.bind_some, if_neg (by decide), g1_of4 h hi hp, x_b1, Option.bind_some, x_sub_of ⟨by omega, by omega⟩, g1_put4 (by omega)]
      rfl
    · rw [G12_walks, g12_isLost (by omega), if_pos q, x_b1, Option.bind_some, if_neg (by decide), g12_of4 (by omega), x_b1, Option.bind_some, x_sub_of ⟨by omega, by omega⟩, g12_lays4 (by omega)]
      rfl
  · obtain ⟨v, La2, S2, hv0, hv1, eC, eLa, eS, e1, e7, eK⟩ := hL.2 La C S p LaEq.rf h hi Lw.rf hp
    have hC2 : CR C (S2 1) := by rw [e1]; exact h
    have hi2 : Iv (S2 1) := by rw [e1]; exact hi
    have hp2 : (p : Int) < S2 1 3 := by rw [e1]; exact hp
    have hN0 : Nx La S C La2 S2 := ⟨hC2, hi2, by rw [e1], eK, by rw [e1]; exact Lw.rf, eLa⟩
    have ea : x_add (S 1 (16 + 8 * p)) v = S 1 (16 + 8 * p) + v := x_add_of ⟨by omega, by omega⟩
    have er : x_rem (S 1 (16 + 8 * p) + v) 16 = (S 1 (16 + 8 * p) + v) % 16 := x_rem_pos ⟨by omega, by omega⟩ ⟨by decide, by decide⟩ (by decide) (by omega)
    have hN1 : Nx La2 S2 (x_up C 1 (7 * 0 + p) ((S 1 (16 + 8 * p) + v) % 16)) La2 (x_up S2 1 (16 + 8 * p + 0) ((S 1 (16 + 8 * p) + v) % 16)) := s_put0 hC2 hi2 hp2 ⟨by omega, by omega⟩
    by_cases q2 : S 1 (16 + 8 * p) + v < 16
    · refine ⟨_, La2, _, ?_, ?_, hN0.tr hN1, H7.tr ⟨e7, by rw [e1]⟩ (H7.up (by omega))⟩
      · rw [G1_goOn, g1_isLost h hi hp, if_neg q, x_b1, Option.bind_some, if_pos rfl, g1_of0 h hi hp, x_b1, Option.bind_some, eC, x_b2, Option.bind_some, ea, er, g1_put0 (by omega), x_b1, Option.bind_some, if_pos q2]
        rfl
      · rw [G12_walks, g12_isLost (by omega), if_neg q, x_b1, Option.bind_some, if_pos rfl, g12_of0 (by omega), x_b1, Option.bind_some, eS, x_b2, Option.bind_some, ea, er, g12_lays0 (by omega), x_b1, Option.bind_some, if_neg (by omega)]
    · have hp3 : (p : Int) < x_up S2 1 (16 + 8 * p + 0) ((S 1 (16 + 8 * p) + v) % 16) 1 3 := by rw [hN1.2.2.1]; exact hp2
      have hr := mk_7 hi2 hp2
      have er7 : x_up S2 1 (16 + 8 * p + 0) ((S 1 (16 + 8 * p) + v) % 16) 1 (23 + 8 * p) = S2 1 (23 + 8 * p) := up_i (by omega)
      have em : min 999 (x_add (S2 1 (23 + 8 * p)) 1) = min 999 (S2 1 (23 + 8 * p) + 1) := by rw [x_add_of ⟨by omega, by omega⟩]
      have hN2 := s_put7 (La := La2) (v := min 999 (S2 1 (23 + 8 * p) + 1)) hN1.1 hN1.2.1 hp3 ⟨by omega, by omega⟩
      have hp4 : (p : Int) < x_up (x_up S2 1 (16 + 8 * p + 0) ((S 1 (16 + 8 * p) + v) % 16)) 1 (16 + 8 * p + 7) (min 999 (S2 1 (23 + 8 * p) + 1)) 1 3 := by rw [hN2.2.2.1]; exact hp3
      obtain ⟨C', S', eA, eB, c1, c2, c3, c4, c5, c6, c7⟩ := s_log (c := 1) hN2.1 hN2.2.1 hp4 ⟨by decide, by decide⟩
      have ef : x_up (x_up S2 1 (16 + 8 * p + 0) ((S 1 (16 + 8 * p) + v) % 16)) 1 (16 + 8 * p + 7) (min 999 (S2 1 (23 + 8 * p) + 1)) 1 (16 + 8 * p) = (S 1 (16 + 8 * p) + v) % 16 := by
        rw [up_i (by omega)]; exact up_s
      rw [ef] at eA
      refine ⟨C', La2, S', ?_, ?_, ((hN0.tr hN1).tr hN2).tr ⟨c1, c2, c3, c4, c5, LaEq.rf⟩, ?_⟩
      · rw [G1_goOn, g1_isLost h hi hp, if_neg q, x_b1, Option.bind_some, if_pos rfl, g1_of0 h hi hp, x_b1, Option.bind_some, eC, x_b2, Option.bind_some, ea, er, g1_put0 (by omega), x_b1, Option.bind_some, if_neg q2, g1_of7 hN1.1 hN1.2.1 hp3, er7, x_b1, x_b1, Option.bind_some, em, g1_put7 (by omega), x_b1, Option.bind_some, eA]
        rfl
      · rw [G12_walks, g12_isLost (by omega), if_neg q, x_b1, Option.bind_some, if_pos rfl, g12_of0 (by omega), x_b1, Option.bind_some, eS, x_b2, Option.bind_some, ea, er, g12_lays0 (by omega), x_b1, Option.bind_some, if_pos (by omega), g12_of7 (by omega), er7, x_b1, Option.bind_some, g12_lesser, em, x_b1, Option.bind_some, g12_lays7 (by omega), x_b1, Option.bind_some, eB]
        rfl
      · exact ⟨by rw [c6, up_o (by decide), up_o (by decide), e7], by rw [c7 4 (by decide) (by decide), up_i (by omega), up_i (by omega), e1]⟩
theorem g1_putStore {w : Nat} {v : Int} (hw : w < 4) : G1_putStore (w : Int) v C = some (x_up C 2 w v) := by
  rw [G1_putStore, if_neg (by omega), if_neg (by omega), x_gd_t ⟨by omega, by omega⟩]
  rfl
theorem s_st {w : Nat} {v : Int} (h : CR C (S 1)) (hi : Iv (S 1)) (hw : w < 4) (hv : 0 ≤ v ∧ v ≤ 999) : Nx La S (x_up C 2 w v) La (x_up S 1 (12 + w) v) :=
  ⟨h.st hw, hi.pst hw hv, up_i (by omega), Kq.m, Lw.up (by omega), LaEq.rf⟩
theorem g1_addStore {w : Nat} {v : Int} (h : CR C (S 1)) (hi : Iv (S 1)) (hw : w < 4) (hv : -1000 ≤ v ∧ v ≤ 1000) : G1_addStore (w : Int) v C = some (x_up C 2 w (min 999 (S 1 (12 + w) + v))) := by
  have hs := hi.st hw
  rw [G1_addStore, g1_storeOf h hw, x_b1, Option.bind_some, x_add_of ⟨by omega, by omega⟩, g1_putStore hw]
  rfl
theorem s_eat {p : Nat} (h : CR C (S 1)) (hi : Iv (S 1)) (hp : (p : Int) < S 1 3) :
    ∃ C' S', G1_eat (p : Int) C = some C' ∧ G12_eats (p : Int) S = some S' ∧ Nx La S C' La S' ∧ H7 S S' := by
  have h7 := hi.many
  have h0 := mk_0 hi hp
  have h6 := mk_6 hi hp
  by_cases q : 0 < S 1 (20 + 8 * p)
  · refine ⟨C, S, ?_, ?_, ⟨h, hi, rfl, Kq.rf, Lw.rf, LaEq.rf⟩, H7.rf⟩
    · rw [G1_eat, g1_isLost h hi hp, if_pos q, x_b1, Option.bind_some, if_neg (by decide)]
    · rw [G12_eats, g12_isLost (by omega), if_pos q, x_b1, Option.bind_some, if_neg (by decide)]
  · obtain ⟨w, hw⟩ := Int.eq_ofNat_of_zero_le (show 0 ≤ S 1 (16 + 8 * p) / 4 by omega)
    have hw4 : w < 4 := by omega
    have hs := hi.st hw4
    have ew : x_add 12 (w : Int) = ((12 + w : Nat) : Int) := n_add (a := 12) (by omega)
    by_cases q2 : S 1 (12 + w) ≤ 0
    · have ez : S 1 (12 + w) = 0 := by omega
      have hN := s_put6 (La := La) (v := min 99 (S 1 (22 + 8 * p) + 1)) h hi hp ⟨by omega, by omega⟩
      refine ⟨_, _, ?_, ?_, hN, H7.up (by omega)⟩
      · rw [G1_eat, g1_isLost h hi hp, if_neg q, x_b1, Option.bind_some, if_pos rfl, g1_walkOf h hi hp, hw, x_b1, Option.bind_some, g1_storeOf h hw4, x_b1, Option.bind_some, if_pos q2, g1_of6 h hi hp]
        show x_b1 (x_b1 (G1_put 6 (p : Int) (min 99 (x_add (S 1 (22 + 8 * p)) 1)) C) _) _ = _
        rw [x_add_of ⟨by omega, by omega⟩, g1_put6 (by omega)]
        rfl
      · rw [G12_eats, g12_isLost (by omega), if_neg q, x_b1, Option.bind_some, if_pos rfl, g12_of0 (by omega), x_b1, Option.bind_some, fl4 h0, hw, ew, x_gd_t ⟨by omega, by omega⟩, Int.toNat_natCast, if_pos q2, g12_of6 (by omega)]
        show x_b1 (x_b1 (G12_lesser 99 (x_add (S 1 (22 + 8 * p)) 1)) _) _ = _
        rw [x_add_of ⟨by omega, by omega⟩, g12_lesser]
        show x_b1 (G12_lays (p : Int) 6 (min 99 (S 1 (22 + 8 * p) + 1)) S) _ = _
        rw [g12_lays6 (by omega), x_b1, Option.bind_some, x_gd_t ⟨by omega, by omega⟩, up_i (by omega), ez, show x_sub 0 1 = -1 by decide, g12_greater]
        rw [x_b1, Option.bind_some, x_gd_t ⟨by omega, by omega⟩, show max 0 (-1 : Int) = 0 by decide, up_id (by rw [up_i (by omega)]; exact ez)]
    · have hN1 := s_st (La := La) (v := S 1 (12 + w) - 1) h hi hw4 ⟨by omega, by omega⟩
      have hp1 : (p : Int) < x_up S 1 (12 + w) (S 1 (12 + w) - 1) 1 3 := by rw [hN1.2.2.1]; exact hp
      have hN2 := s_put6 (La := La) (v := 0) hN1.1 hN1.2.1 hp1 ⟨by decide, by decide⟩
      refine ⟨_, _, ?_, ?_, hN1.tr hN2, (H7.up (by omega)).tr (H7.up (by omega))⟩
      · rw [G1_eat, g1_isLost h hi hp, if_neg q, x_b1, Option.bind_some, if_pos rfl, g1_walkOf h hi hp, hw, x_b1, Option.bind_some, g1_storeOf h hw4, x_b1, Option.bind_some, if_neg q2, g1_addStore h hi hw4 ⟨by decide, by decide⟩]
        show x_b1 (x_b1 (G1_put 6 (p : Int) 0 (x_up C 2 w (min 999 (S 1 (12 + w) + -1)))) _) _ = _
        rw [show min 999 (S 1 (12 + w) + -1) = S 1 (12 + w) - 1 by omega, g1_put6 (by omega)]
        rfl
      · rw [G12_eats, g12_isLost (by omega), if_neg q, x_b1, Option.bind_some, if_pos rfl, g12_of0 (by omega), x_b1, Option.bind_some, fl4 h0, hw, ew, x_gd_t ⟨by omega, by omega⟩, Int.toNat_natCast, if_neg q2]
        show x_b1 (G12_lays (p : Int) 6 0 S) _ = _
        rw [g12_lays6 (by omega), x_b1, Option.bind_some, x_gd_t ⟨by omega, by omega⟩, up_i (by omega), x_sub_of ⟨by omega, by omega⟩, g12_greater]
        rw [x_b1, Option.bind_some, x_gd_t ⟨by omega, by omega⟩, show max 0 (S 1 (12 + w) - 1) = S 1 (12 + w) - 1 by omega, up_comm (by omega)]
end Q6
