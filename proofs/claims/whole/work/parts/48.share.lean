/-! Monks alike; stores shared; walks without a monk; who would rest. -/
section Q17
variable {X N S S7 La Th C Fo : xU} {A : xA} {m : Nat → Int}
/-- one pair alike -/
def al (m : Nat → Int) (i j : Nat) : Int := if decide (m (17 + 8 * i) = m (17 + 8 * j) ∧ m (16 + 8 * i) = m (16 + 8 * j)) then 1 else 0
theorem al_comm {i j : Nat} : al m i j = al m j i := by
  unfold al
  congr 1
  simp only [decide_eq_true_eq]
  apply propext
  constructor <;> rintro ⟨h1, h2⟩ <;> exact ⟨h1.symm, h2.symm⟩
def up2 (m : Nat → Int) (i j : Nat) : Int := if i < j then al m i j else 0
theorem sm_add {q q' : Nat → Int} {n : Nat} : sm (fun i => q i + q' i) n = sm q n + sm q' n := by
  induction n with
  | zero => rfl
  | succ n ih => rw [sm_s, sm_s, sm_s, ih]; omega
theorem sm_zero {q : Nat → Int} {n : Nat} (h : ∀ i, i < n → q i = 0) : sm q n = 0 := by
  rw [sm_congr (q' := fun _ => 0) h]
  induction n with
  | zero => rfl
  | succ n ih => rw [sm_s, ih (fun i hi => h i (by omega))]; rfl
/-- pairs told from the lower one, and from the higher one -/
theorem sm_pairs {n : Nat} : sm (fun i => sm (up2 m i) n) n = sm (fun i => sm (al m i) i) n := by
  induction n with
  | zero => rfl
  | succ n ih =>
    have e1 : sm (fun i => sm (up2 m i) (n + 1)) n = sm (fun i => sm (up2 m i) n) n + sm (al m n) n := by
      rw [← sm_add]
      exact sm_congr (fun i hi => by
        rw [sm_s]
        have : up2 m i n = al m n i := by unfold up2; rw [if_pos hi, al_comm]
        rw [this])
    have e2 : sm (up2 m n) (n + 1) = 0 := sm_zero (fun i hi => by unfold up2; rw [if_neg (by omega)])
    rw [show sm (fun i => sm (up2 m i) (n + 1)) (n + 1) = sm (fun i => sm (up2 m i) (n + 1)) n + sm (up2 m n) (n + 1) from rfl, show sm (fun i => sm (al m i) i) (n + 1) = sm (fun i => sm (al m i) i) n + sm (al m n) n from rfl, e1, e2, ih]
    omega
theorem al_bd {i j : Nat} : 0 ≤ al m i j ∧ al m i j ≤ 1 := c01
theorem sm7 {q : Nat → Int} {n : Nat} {B : Int} (hn : n ≤ 7) (h : ∀ p, p < n → 0 ≤ q p ∧ q p ≤ B) (hB : 0 ≤ B) : 0 ≤ sm q n ∧ sm q n ≤ 7 * B := by
  have := sm_bd h
  have h2 : (n : Int) * B ≤ 7 * B := Int.mul_le_mul_of_nonneg_right (by omega) hB
  omega
theorem L_alike (h : CR N (S 1)) (hi : Iv (S 1)) : ∃ b, G11_alike N = some b ∧ G12_alike S = some (b, x_up S 0 0 0) := by
  obtain ⟨n, hn, e⟩ := hi.nn
  refine ⟨sm (fun i => sm (al (S 1) i) i) n, ?_, ?_⟩
  · have inner : ∀ (i : Nat) (v : Int), i < n → 0 ≤ v → v ≤ 1000 → whl xFU (G11_alike_L17 N (i : Int)) (v, 0) = some (v + sm (al (S 1) i) i) := by
      intro i v hi2 hv0 hv1
      have ez : (v, (0 : Int)) = (v + sm (al (S 1) i) 0, ((0 : Nat) : Int)) := by
        show _ = (v + 0, _); rw [Int.add_zero]; rfl
      rw [ez]
      refine w_run (fun j => (v + sm (al (S 1) i) j, (j : Int))) i (by unfold xFU; omega) (fun j hj => ?_) ?_
      · have hb := sm7 (q := al (S 1) i) (n := j) (B := 1) (by omega) (fun p _ => al_bd) (by decide)
        show (if (i : Int) ≤ (j : Int) then _ else _) = _
        rw [if_neg (by omega), g1_of1 h hi (by omega), x_b1s, g1_of1 h hi (by omega), x_b1s, g1_of0 h hi (by omega), x_b1s, g1_of0 h hi (by omega), x_b1s, n_inc (by omega), sm_s, al]
        by_cases q1 : S 1 (17 + 8 * i) = S 1 (17 + 8 * j)
        · rw [if_pos q1]
          by_cases q2 : S 1 (16 + 8 * i) = S 1 (16 + 8 * j)
          · rw [if_pos q2, x_b1s, if_pos (by simp [q1, q2]), x_add_of ⟨by omega, by omega⟩, Int.add_assoc]
          · rw [if_neg q2, x_b1s, if_neg (by simp [q2]), Int.add_zero]
        · rw [if_neg q1, x_b1s, if_neg (by simp [q1]), Int.add_zero]
      · show (if (i : Int) ≤ (i : Int) then _ else _) = _
        rw [if_pos (by omega)]
    rw [G11_alike, show whl xFU (G11_alike_L4 N) (0, 0) = some (fo (fun i s => s + sm (al (S 1) i) i) 0 n) from w_fo (f := G11_alike_L4 N) (g := fun i s => s + sm (al (S 1) i) i) (a := 0) (em := fun j s => (s, (j : Int))) (out := fun s => s) n (by unfold xFU; omega) (fun j s => 0 ≤ s ∧ s ≤ 7 * j) (by omega) (fun j s hj hs => by
      have := sm7 (q := al (S 1) j) (n := j) (B := 1) (by omega) (fun p _ => al_bd) (by decide)
      show 0 ≤ s + _ ∧ s + _ ≤ _
      omega) (fun j s hj hs => by
      show (if N 0 3 ≤ (j : Int) then _ else _) = _
      rw [h.1.1, if_neg (by omega), inner j s hj hs.1 (by omega), x_b1s, n_inc (by omega)]) (fun s hs => by
      show (if N 0 3 ≤ (n : Int) then _ else _) = _
      rw [h.1.1, if_pos (by omega)]), x_b1s]
    rfl
  · have inner : ∀ (i : Nat) (v : Int), i < n → 0 ≤ v → v ≤ 1000 → whl xFU (G12_alike_L23 S (i : Int)) (v, ((i + 1 : Nat) : Int)) = some (v + sm (up2 (S 1) i) n) := by
      intro i v hi2 hv0 hv1
      have z0 : sm (up2 (S 1) i) (i + 1 + 0) = 0 := sm_zero (fun p hp => by unfold up2; rw [if_neg (by omega)])
      have ez : (v, ((i + 1 : Nat) : Int)) = (v + sm (up2 (S 1) i) (i + 1 + 0), ((i + 1 + 0 : Nat) : Int)) := by
        rw [z0, Int.add_zero]
      rw [ez, w_run (fun j => (v + sm (up2 (S 1) i) (i + 1 + j), ((i + 1 + j : Nat) : Int))) (n - (i + 1)) (by unfold xFU; omega) (r := v + sm (up2 (S 1) i) (i + 1 + (n - (i + 1)))) (fun j hj => ?_) ?_]
      · rw [show i + 1 + (n - (i + 1)) = n by omega]
      · show (if (x_up S 0 0 0) 1 3 ≤ ((i + 1 + (n - (i + 1)) : Nat) : Int) then _ else _) = _
        rw [x_up1, if_pos (by omega)]
      · have hb := sm7 (q := up2 (S 1) i) (n := i + 1 + j) (B := 1) (by omega) (fun p _ => by
          unfold up2
          by_cases q : i < p
          · rw [if_pos q]; exact al_bd
          · rw [if_neg q]; decide) (by decide)
        show (if (x_up S 0 0 0) 1 3 ≤ ((i + 1 + j : Nat) : Int) then _ else _) = _
        have eu : up2 (S 1) i (i + 1 + j) = al (S 1) i (i + 1 + j) := by unfold up2; rw [if_pos (by omega)]
        rw [x_up1, if_neg (by omega), g12_of1 (by omega), x_up1, x_b1s, g12_of1 (by omega), x_up1, x_b1s, g12_of0 (by omega), x_up1, x_b1s, g12_of0 (by omega), x_up1, x_b1s, n_inc (by omega), ← Nat.add_assoc, sm_s, eu, al]
        by_cases q1 : S 1 (17 + 8 * i) = S 1 (17 + 8 * (i + 1 + j))
        · rw [if_pos q1]
          by_cases q2 : S 1 (16 + 8 * i) = S 1 (16 + 8 * (i + 1 + j))
          · rw [if_pos q2, x_b1s, if_pos (by simp [q1, q2]), x_add_of ⟨by omega, by omega⟩, Int.add_assoc]
          · rw [if_neg q2, x_b1s, if_neg (by simp [q2]), Int.add_zero, x_add0 ⟨by omega, by omega⟩]
        · rw [if_neg q1, x_b1s, if_neg (by simp [q1]), Int.add_zero, x_add0 ⟨by omega, by omega⟩]
    rw [← sm_pairs, G12_alike, show whl xFU (G12_alike_L9 S) (0, 0) = some (fo (fun i s => s + sm (up2 (S 1) i) n) 0 n) from w_fo (f := G12_alike_L9 S) (g := fun i s => s + sm (up2 (S 1) i) n) (a := 0) (em := fun j s => (s, (j : Int))) (out := fun s => s) n (by unfold xFU; omega) (fun j s => 0 ≤ s ∧ s ≤ 7 * j) (by omega) (fun j s hj hs => by
      have := sm7 (q := up2 (S 1) j) (n := n) (B := 1) (by omega) (fun p _ => by
          unfold up2
          by_cases q : j < p
          · rw [if_pos q]; exact al_bd
          · rw [if_neg q]; decide) (by decide)
      show 0 ≤ s + _ ∧ s + _ ≤ _
      omega) (fun j s hj hs => by
      show (if (x_up S 0 0 0) 1 3 ≤ (j : Int) then _ else _) = _
      rw [x_up1, if_neg (by omega), n_inc (by omega), inner j s hj hs.1 (by omega), x_b1s]) (fun s hs => by
      show (if (x_up S 0 0 0) 1 3 ≤ (n : Int) then _ else _) = _
      rw [x_up1, if_pos (by omega)]), x_b1s]
    rfl
/-- the walk with the least -/
def ls (q : Nat → Int) : Nat → Nat
  | 0 => 0
  | j + 1 => if q (ls q j) ≤ q (j + 1) then ls q j else j + 1
theorem ls_lt {q : Nat → Int} {j : Nat} : ls q j ≤ j := by
  induction j with
  | zero => exact Nat.le_refl _
  | succ j ih =>
    show (if q (ls q j) ≤ q (j + 1) then ls q j else j + 1) ≤ j + 1
    by_cases h : q (ls q j) ≤ q (j + 1)
    · rw [if_pos h]; omega
    · rw [if_neg h]; omega
theorem g1_storeC {w : Nat} (hw : w < 4) : G1_storeOf (w : Int) C = some (C 2 w) := by
  rw [G1_storeOf, if_neg (by omega), if_neg (by omega), x_gd_t ⟨by omega, by omega⟩, x_b1s]
  rfl
theorem L_share {a b : Int} (h : CR N (S 1)) (hi : Iv (S 1)) : ∃ o T' r S', G11_share a b N Th = some (o, T') ∧ G12_share a b S = some (r, S') ∧ Ag (fun E => if E = 1 then 1 else 2) o r S' ∧ Kw S S' := by
  rw [G11_share, G12_share, g11_needWalk, g12_isWalk, g11_needWithin, g12_isIn]
  by_cases h0 : 0 ≤ a ∧ a ≤ 3
  · rw [if_pos h0, if_pos h0]
    obtain ⟨w, rfl⟩ := Int.eq_ofNat_of_zero_le h0.1
    by_cases h1 : 0 ≤ b ∧ b ≤ 999
    · rw [if_pos h1, if_pos h1]
      obtain ⟨n, rfl⟩ := Int.eq_ofNat_of_zero_le h1.1
      obtain ⟨T2, l1, l2⟩ := g3_look (Th := Th) h hi
      -- the stores told
      obtain ⟨S9, w1, wr, wo⟩ : ∃ S9, whl xFU G12_share_L42 (0, x_up S 0 0 0) = some S9 ∧ (∀ i, i < 4 → S9 14 i = S 1 (12 + i)) ∧ ∀ o, o ≠ 14 → S9 o = x_up S 0 0 0 o := by
        refine ⟨rcp (x_up S 0 0 0) 14 0 1 12 4, w_rcp 14 0 1 12 4 (by decide) (by decide) (fun j hj => ?_) rfl, fun i h2 => ?_, fun o ho => rcp_o ho⟩
        · show (if (4 : Int) ≤ (j : Int) then _ else _) = _
          rw [if_neg (by omega), show x_add 12 (j : Int) = ((12 + j : Nat) : Int) from n_add (a := 12) (by omega), x_gd_t ⟨by omega, by omega⟩, x_gd_t ⟨by omega, by omega⟩, n_inc (by omega), Int.toNat_natCast, Int.toNat_natCast, Nat.zero_add]
        · have := rcp_in (S := x_up S 0 0 0) (o1 := 14) (b1 := 0) (o2 := 1) (b2 := 12) h2
          rw [Nat.zero_add, x_up1] at this
          exact this
      have pick : ∀ C : xU, whl xFU (G1_shareOut_L12 C) (0, 1) = some ((ls (C 2) 3 : Nat) : Int) := by
        intro C
        refine w_run (fun j => (((ls (C 2) j : Nat) : Int), ((j + 1 : Nat) : Int))) 3 (by decide) (fun j hj => ?_) rfl
        have hl := ls_lt (q := C 2) (j := j)
        show (if (4 : Int) ≤ ((j + 1 : Nat) : Int) then _ else _) = _
        rw [if_neg (by omega), g1_storeC (by omega), x_b1s, g1_storeC (by omega), x_b1s, n_inc (by omega), ls]
        by_cases q : C 2 (ls (C 2) j) ≤ C 2 (j + 1)
        · rw [if_pos q, if_pos q, x_b1s]
        · rw [if_neg q, if_neg q, x_b1s]
      have pick2 : ∀ Z : xU, whl xFU (G12_share_L81 Z) (0, 1) = some ((ls (Z 14) 3 : Nat) : Int) := by
        intro Z
        refine w_run (fun j => (((ls (Z 14) j : Nat) : Int), ((j + 1 : Nat) : Int))) 3 (by decide) (fun j hj => ?_) rfl
        have hl := ls_lt (q := Z 14) (j := j)
        show (if (4 : Int) ≤ ((j + 1 : Nat) : Int) then _ else _) = _
        rw [if_neg (by omega), x_gd_t ⟨by omega, by omega⟩, x_gd_t ⟨by omega, by omega⟩, Int.toNat_natCast, Int.toNat_natCast, n_inc (by omega), ls]
        by_cases q : Z 14 (ls (Z 14) j) ≤ Z 14 (j + 1)
        · rw [if_pos q, if_pos q, x_b1s]
        · rw [if_neg q, if_neg q, x_b1s]
      have lcg : ∀ (q q' : Nat → Int) (j : Nat), (∀ i, i ≤ j → q i = q' i) → ls q j = ls q' j := by
        intro q q' j
        induction j with
        | zero => intro _; rfl
        | succ j ih =>
          intro hq
          have e1 := ih (fun i h2 => hq i (by omega))
          have e2 := ls_lt (q := q) (j := j)
          rw [ls, ls, ← e1, hq (ls q j) (by omega), hq (j + 1) (by omega)]
      obtain ⟨C', S', k1, k2, _, _, rfl, rfl, k3, k4, k5⟩ := w_sim (f1 := G1_shareOut_L2 (n : Int)) (f2 := G12_share_L70 (n : Int))
        (fun j s1 s2 => ∃ C2 S2, s1 = ((j : Int), C2) ∧ s2 = ((j : Int), S2) ∧ (∀ i, i < 4 → C2 2 i = S2 14 i) ∧ (∀ i, i < 4 → 0 ≤ S2 14 i ∧ S2 14 i ≤ 999) ∧ ∀ o, o ≠ 14 → S2 o = x_up S 0 0 0 o)
        (fun r1 r2 => ∃ C' S', r1 = C' ∧ r2 = S' ∧ (∀ i, i < 4 → C' 2 i = S' 14 i) ∧ (∀ i, i < 4 → 0 ≤ S' 14 i ∧ S' 14 i ≤ 999) ∧ ∀ o, o ≠ 14 → S' o = x_up S 0 0 0 o)
        n (by unfold xFU; omega) (by
          rintro j s1 s2 hj ⟨C2, S2, rfl, rfl, hC, hB, hO⟩
          have hl := ls_lt (q := S2 14) (j := 3)
          have el : ls (C2 2) 3 = ls (S2 14) 3 := lcg _ _ 3 (fun i h2 => hC i (by omega))
          have hb := hB (ls (S2 14) 3) (by omega)
          refine ⟨(((j + 1 : Nat) : Int), x_up C2 2 (ls (S2 14) 3) (min 999 (S2 14 (ls (S2 14) 3) + 1))), (((j + 1 : Nat) : Int), x_up S2 14 (ls (S2 14) 3) (min 999 (S2 14 (ls (S2 14) 3) + 1))), ?_, ?_, _, _, rfl, rfl, ?_, ?_, ?_⟩
          · show (if (n : Int) ≤ (j : Int) then _ else _) = _
            rw [if_neg (by omega), pick, x_b1s, el, G1_addStore, g1_storeC (by omega), x_b1s, g1_putStore (by omega), x_b1s, x_b1s, n_inc (by omega), hC _ (by omega), x_add_of (a := S2 14 (ls (S2 14) 3)) ⟨by omega, by omega⟩]
          · show (if (n : Int) ≤ (j : Int) then _ else _) = _
            rw [if_neg (by omega), pick2, x_b1s, x_gd_t ⟨by omega, by omega⟩, Int.toNat_natCast, g12_lesser, x_b1s, x_gd_t ⟨by omega, by omega⟩, n_inc (by omega), x_add_of (a := S2 14 (ls (S2 14) 3)) ⟨by omega, by omega⟩]
          · intro i h2
            by_cases z : i = ls (S2 14) 3
            · rw [z, up_s, up_s]
            · rw [up_i z, up_i z]; exact hC i h2
          · intro i h2
            by_cases z : i = ls (S2 14) 3
            · rw [z, up_s]; omega
            · rw [up_i z]; exact hB i h2
          · intro o ho
            rw [up_o ho]; exact hO o ho) (by
          rintro s1 s2 ⟨C2, S2, rfl, rfl, hC, hB, hO⟩
          refine ⟨C2, S2, ?_, ?_, C2, S2, rfl, rfl, hC, hB, hO⟩
          · show (if (n : Int) ≤ (n : Int) then _ else _) = _
            rw [if_pos (by omega)]
          · show (if (n : Int) ≤ (n : Int) then _ else _) = _
            rw [if_pos (by omega)])
        (s1 := (0, T2)) (s2 := (0, S9)) ⟨T2, S9, rfl, rfl, fun i h2 => by rw [wr i h2, l2.2.1 i h2], fun i h2 => by rw [wr i h2]; exact hi.st h2, wo⟩
      refine ⟨.inl (C' 2 w), C', C' 2 w, S', ?_, ?_, ⟨by rw [k5 0 (by decide), up_s], rfl⟩, Kw.tr (S' := x_up S 0 0 0) Kw.th ⟨fun i _ => by rw [k5 1 (by decide)], k5 2 (by decide), k5 4 (by decide), k5 5 (by decide), congrFun (k5 0 (by decide)) _, congrFun (k5 0 (by decide)) _, congrFun (k5 0 (by decide)) _, congrFun (k5 0 (by decide)) _, fun w => w.cg (congrFun (k5 0 (by decide)) _) (congrFun (k5 0 (by decide)) _)⟩⟩
      · simp only [x_b1s, x_b2s, x_b3s, x_b4s, x_tvn, x_tvs, up_s, Int.reduceEq, Int.reduceLE, reduceIte]
        rw [l1, x_b1s, G1_shareOut, k1, x_b1s, x_b1s, g1_storeC (by omega), x_b1s]
      · simp only [x_b1s, x_b2s, x_b3s, x_b4s, x_tvn, x_tvs, up_s, Int.reduceEq, Int.reduceLE, reduceIte]
        rw [w1, x_b1s, k2, x_b1s, x_gd_t ⟨by omega, by omega⟩, Int.toNat_natCast, k3 w (by omega)]
    · rw [if_neg h1, if_neg h1]
      exact ⟨.inr 0, Th, 0, x_up S 0 0 2, rfl, rfl, rfl, Kw.th⟩
  · rw [if_neg h0, if_neg h0]
    exact ⟨.inr 1, Th, 0, x_up S 0 0 1, rfl, rfl, rfl, Kw.th⟩
end Q17
