/-! The road. -/
/-- the first flag of a best way, class -/
def mf (c : Nat → Int) (fl : Nat → Nat) (m : Int) (j : Nat) : Int := fo (fun k b => if c k = m then (if b = -1 then (fl k : Int) else if b ≤ (fl k : Int) then b else (fl k : Int)) else b) (-1) j
theorem mf_s {c : Nat → Int} {fl : Nat → Nat} {m : Int} {j : Nat} : mf c fl m (j + 1) = if c j = m then (if mf c fl m j = -1 then (fl j : Int) else if mf c fl m j ≤ (fl j : Int) then mf c fl m j else (fl j : Int)) else mf c fl m j := rfl
theorem mf_no {c : Nat → Int} {fl : Nat → Nat} {m : Int} : ∀ j, (∀ k, k < j → c k ≠ m) → mf c fl m j = -1 := by
  intro j
  induction j with
  | zero => intro _; rfl
  | succ j ih =>
    intro h
    rw [mf_s, if_neg (h j (by omega))]
    exact ih (fun k hk => h k (by omega))
theorem mf_bd {c : Nat → Int} {fl : Nat → Nat} {m : Int} {n : Nat} (hfl : ∀ i, i < n → fl i < 16) : ∀ j, j ≤ n → mf c fl m j = -1 ∨ 0 ≤ mf c fl m j ∧ mf c fl m j < 16 := by
  intro j
  induction j with
  | zero => intro _; exact .inl rfl
  | succ j ih =>
    intro hj
    have f1 := hfl j (by omega)
    rw [mf_s]
    by_cases z : c j = m
    · rw [if_pos z]
      by_cases y : mf c fl m j = -1
      · rw [if_pos y]; omega
      · rw [if_neg y]
        by_cases w : mf c fl m j ≤ (fl j : Int)
        · rw [if_pos w]; exact ih (by omega)
        · rw [if_neg w]; omega
    · rw [if_neg z]; exact ih (by omega)
/-- the least of the first j -/
def mn (c : Nat → Int) (B : Int) (j : Nat) : Int := fo (fun k b => min b (c k)) B j
theorem mn_s {c : Nat → Int} {B : Int} {j : Nat} : mn c B (j + 1) = min (mn c B j) (c j) := rfl
theorem mn_le {c : Nat → Int} {B : Int} : ∀ j k, k < j → mn c B j ≤ c k := by
  intro j
  induction j with
  | zero => intro k hk; omega
  | succ j ih =>
    intro k hk
    rw [mn_s]
    by_cases e : k = j
    · subst e; omega
    · have := ih k (by omega); omega
theorem mn_bd {c : Nat → Int} {B : Int} {n : Nat} (hc : ∀ k, k < n → 0 ≤ c k ∧ c k ≤ 100000) (hB : 0 ≤ B) : ∀ j, j ≤ n → 0 ≤ mn c B j ∧ mn c B j ≤ B := by
  intro j
  induction j with
  | zero => intro _; exact ⟨hB, Int.le_refl _⟩
  | succ j ih =>
    intro hj
    have := ih (by omega)
    have := hc j (by omega)
    rw [mn_s]; omega
section RD3
variable {N S Ro T : xU} {n : Nat} {fl : Nat → Nat}
theorem full_bit {n k : Nat} (h : k < n) : (2 ^ n - 1).testBit k = true := by rw [Nat.testBit_two_pow_sub_one, decide_eq_true h]
theorem L_road {a b : Int} (h : CR N (S 1)) (hi : Iv (S 1)) (hT : TR T S) : ∃ o T' Ro' r S', G11_road a b T N Ro = some (o, T', Ro') ∧ G12_road a b S = some (r, S') ∧ Ag (fun E => if E = 1 then 1 else 2) o r S' ∧ (∀ E, o = .inr E → E = 1 ∨ E = 0) ∧ TR T' S' ∧ Kz S S' := by
  obtain ⟨n, hn, t2, s8, tb⟩ := hT
  let fl : Nat → Nat := fun i => (S 5 i).toNat
  have hfl5 : ∀ i, i < n → S 5 i = (fl i : Int) := fun i hi2 => by
    have := (tb i hi2).2.1
    show S 5 i = ((S 5 i).toNat : Int)
    omega
  have hb : ∀ i, i < n → fl i < 256 := fun i hi2 => by have := (tb i hi2).2.1; rw [hfl5 i hi2] at this; omega
  have hB : TB n (S 5) T := ⟨t2, fun i hi2 => ⟨(tb i hi2).1, (tb i hi2).2.2⟩⟩
  have c := c_readFlags (Ro := Ro) hn hB hfl5 hb
  have r := r_areFlags (S := x_up S 0 8 0) (fl := fl) hn (fun i hi2 => by rw [up_o (by decide)]; exact hfl5 i hi2) hb
  have kz : ∀ v : Int, Kz S (x_up (x_up S 0 8 0) 0 0 v) := fun v => kz_0
  rw [G11_road, G12_road, g12_isFlag, x_b1s, s8, r]
  have cread : ∃ (v : Int) (Ro' : xU), G8_readFlags T Ro = some (v, Ro') ∧ (if rok n fl then v = 1 ∧ Ro' 0 2 = (n : Int) ∧ ∀ i, i < n → Ro' 1 i = (fl i : Int) else v = 0) := by
    by_cases y : rok n fl
    · rw [if_pos y] at c
      obtain ⟨Ro', k1, k2, k3⟩ := c
      exact ⟨1, Ro', k1, by rw [if_pos y]; exact ⟨rfl, k2, k3⟩⟩
    · rw [if_neg y] at c
      obtain ⟨Ro', k1⟩ := c
      exact ⟨0, Ro', k1, by rw [if_neg y]⟩
  obtain ⟨v, Ro', k1, k2⟩ := cread
  rw [k1, x_b2s, G10_useUp, x_b1s, g11_needFlag]
  by_cases h0 : 0 ≤ a ∧ a ≤ 15
  · rw [if_pos h0, if_pos h0]
    simp only [x_b1s, x_b2s, x_tvn, x_tvs, up_s, Int.reduceEq, Int.reduceLE, reduceIte]
    by_cases y : rok n fl
    · rw [if_pos y] at k2
      obtain ⟨rfl, w2, w3⟩ := k2
      rw [decide_eq_true y, if_neg (show ¬ (1 : Int) = 0 by decide), if_neg (show ¬ bI true = 0 by decide), x_b1s, if_pos (show (0 : Int) ≤ 0 by decide)]
      have hn7 := y.1
      have hfl : ∀ i, i < n → fl i < 16 := fun i hi2 => okf_lt (y.2 i hi2)
      have p2 := Nat.two_pow_pos n
      have p7 : 2 ^ n ≤ 2 ^ 7 := Nat.pow_le_pow_right (by decide) hn7
      have ef : x_sub (x_shl 1 (n : Int)) 1 = ((2 ^ n - 1 : Nat) : Int) := by
        rw [n_shl1 n (by omega), x_sub_of ⟨by omega, by omega⟩]; omega
      have z1 : x_up (x_up S 0 8 0) 0 0 0 1 = S 1 := by rw [up_o (by decide), up_o (by decide)]
      obtain ⟨R2, S2, q1, q2, q3, q4, q5⟩ := s_roads (N := N) (S := x_up (x_up S 0 8 0) 0 0 0) (Ro := Ro') (n := n) (fl := fl) (by rw [z1]; exact h) (by rw [z1]; exact hi) hn7 hfl w2 w3 (fun k hk => by rw [up_o (by decide), up_o (by decide)]; exact hfl5 k hk)
      let t : Nat → Nat → Int := fun s k => R2 2 (7 * s + k)
      have s21 : S2 1 = S 1 := (q4 1 (by decide)).trans z1
      have s25 : S2 5 = S 5 := by rw [q4 5 (by decide), up_o (by decide), up_o (by decide)]
      have dfull : ∀ k, k < n → dif (2 ^ n - 1) (2 ^ k) < 2 ^ n - 1 := fun k hk => dif_lt' (2 ^ n - 1) (by omega) k (by omega) (full_bit hk)
      have tbd : ∀ k, k < n → 0 ≤ t (dif (2 ^ n - 1) (2 ^ k)) k ∧ t (dif (2 ^ n - 1) (2 ^ k)) k ≤ 2048 := fun k hk => by
        have hd := dfull k hk
        have := q5 (dif (2 ^ n - 1) (2 ^ k)) k (by omega) hk
        show 0 ≤ R2 2 _ ∧ R2 2 _ ≤ _
        omega
      let cc : Nat → Int := cnd (S 1) fl t a (2 ^ n - 1)
      have cbd : ∀ k, k < n → 0 ≤ cc k ∧ cc k ≤ 100000 := fun k hk => by
        have hfr := fr_bd hi (f := a) (g := (fl k : Int))
        have := tbd k hk
        show 0 ≤ fr (S 1) a (fl k : Int) + t (dif (2 ^ n - 1) (2 ^ k)) k ∧ fr (S 1) a (fl k : Int) + t (dif (2 ^ n - 1) (2 ^ k)) k ≤ _
        omega
      have lw : ∀ B : Int, ∀ j, j ≤ n → lfw cc (2 ^ n - 1) B j = mn cc B j := by
        intro B j
        induction j with
        | zero => intro _; rfl
        | succ j ih => intro hj; rw [lfw_s, mn_s, full_bit (by omega), if_pos rfl, ih (by omega)]
      have least : G8_leastWay a N Ro' = some ((if n = 0 then 0 else mn cc 1000000 n), R2) := by
        rw [G8_leastWay, q1, x_b1s, w2, ef, c_leastFrom (t := t) h hi hn7 ⟨h0.1, by omega⟩ hfl (by omega) (by rw [q3 0 (by decide)]; exact w2) (fun k hk => by rw [q3 1 (by decide)]; exact w3 k hk) (fun k hk _ => ⟨rfl, (tbd k hk).1, by have := (tbd k hk).2; omega⟩), x_b1s]
        congr 2
        by_cases z : n = 0
        · subst z; rfl
        · have : ¬ 2 ^ n - 1 = 0 := by
            have : 2 ^ 1 ≤ 2 ^ n := Nat.pow_le_pow_right (by decide) (by omega)
            omega
          rw [if_neg z, if_neg this]
          exact lw _ n (Nat.le_refl _)
      have trn : ∀ Z : xU, Z 0 8 = 0 → TR (x_up T 0 2 0) Z := fun Z hz => ⟨0, by decide, up_s, hz.trans rfl, fun i hi2 => absurd hi2 (by omega)⟩
      by_cases zn : n = 0
      · rw [if_pos (show (n : Int) = 0 by omega), least]
        subst zn
        by_cases zb : b = 0
        · rw [if_pos zb, if_pos zb, x_b2s, x_b2s, x_b1s]
          exact ⟨_, _, _, _, _, rfl, rfl, ⟨up_s, rfl⟩, fun E hE => (nomatch hE), tr_0, kz 0⟩
        · have w23 : whl xFU (G8_firstFlag_L23 a N (if 0 = 0 then 0 else mn cc 1000000 0) R2) (-1, 0) = some (-1) := by
            rw [show xFU = (xFU - 1) + 1 from rfl, whl_r (r := -1) (by rw [G8_firstFlag_L23, q3 0 (by decide), w2, if_pos (by decide)])]
          rw [if_neg zb, if_neg zb, G8_firstFlag, least, x_b2s, w23, x_b1s, x_b2s, x_b2s, x_b1s]
          exact ⟨_, _, _, _, _, rfl, rfl, ⟨up_s, rfl⟩, fun E hE => (nomatch hE), tr_0, kz 0⟩
      · rw [if_neg (show ¬ (n : Int) = 0 by omega), q2, x_b1s]
        rw [if_neg zn] at least
        -- the reference's last loop
        have r78 : whl xFU (G12_road_L78 a S S2) (2000000000, 16, 0) = some (mn cc 2000000000 n, if mf cc fl (mn cc 2000000000 n) n = -1 then 16 else mf cc fl (mn cc 2000000000 n) n) := by
          have key : ∀ d j k v10, j + d = n → d < k → v10 = (if mf cc fl (mn cc 2000000000 j) j = -1 then 16 else mf cc fl (mn cc 2000000000 j) j) → whl k (G12_road_L78 a S S2) (mn cc 2000000000 j, v10, (j : Int)) = some (mn cc 2000000000 n, if mf cc fl (mn cc 2000000000 n) n = -1 then 16 else mf cc fl (mn cc 2000000000 n) n) := by
            intro d
            induction d with
            | zero =>
              intro j k v10 hj hk hv
              obtain ⟨k, rfl⟩ : ∃ k', k = k' + 1 := ⟨k - 1, by omega⟩
              have : j = n := by omega
              subst this
              rw [whl_r (r := (mn cc 2000000000 j, v10)) (by rw [G12_road_L78, s8, if_pos (Int.le_refl _)]), hv]
            | succ d ih =>
              intro j k v10 hj hk hv
              obtain ⟨k, rfl⟩ : ∃ k', k = k' + 1 := ⟨k - 1, by omega⟩
              have hjn : j < n := by omega
              have fj := hfl j hjn
              have hcb := cbd j hjn
              have hmb := mn_bd (c := cc) (B := 2000000000) cbd (by decide) j (by omega)
              have hlow := mn_le (c := cc) (B := 2000000000) j
              have hmf := mf_bd (c := cc) (fl := fl) (m := mn cc 2000000000 j) hfl j (by omega)
              have hd := dfull j hjn
              have p2j : 2 ^ j < 2 ^ n := Nat.pow_lt_pow_right (by decide) hjn
              have ecpl : 2 ^ n - 1 - dif (2 ^ n - 1) (2 ^ j) = 2 ^ j := by
                have := cpl_or (n := n) (s := 2 ^ n - 1) (k := j) (by omega) hjn (full_bit hjn)
                rw [Nat.sub_self, Nat.zero_or] at this
                exact this.symm
              have ei : x_add (x_mul 8 (x_shl 1 (j : Int))) (j : Int) = ((8 * 2 ^ j + j : Nat) : Int) := by
                rw [n_shl1 j (by omega), x_mul_of ⟨by omega, by omega⟩, x_add_of ⟨by omega, by omega⟩]; omega
              have cell : S2 10 (8 * 2 ^ j + j) = t (dif (2 ^ n - 1) (2 ^ j)) j := by
                have := (q5 (dif (2 ^ n - 1) (2 ^ j)) j (by omega) hjn).1
                rw [ecpl] at this
                exact this.symm
              have ecand : x_add (fr (S 1) a (fl j : Int)) (S2 10 (8 * 2 ^ j + j)) = cc j := by
                have hfr := fr_bd hi (f := a) (g := (fl j : Int))
                have := tbd j hjn
                rw [cell, x_add_of ⟨by omega, by omega⟩]
                rfl
              have st : G12_road_L78 a S S2 (mn cc 2000000000 j, v10, (j : Int)) = some (.inl (mn cc 2000000000 (j + 1), (if mn cc 2000000000 j < cc j then v10 else min (if mn cc 2000000000 j ≤ cc j then v10 else 16) (fl j : Int)), ((j + 1 : Nat) : Int))) := by
                have e18 : ∀ P : Prop, [Decidable P] → (if P then (some v10) else (some (16 : Int))) = some (if P then v10 else 16) := fun P _ => x_its
                rw [G12_road_L78, s8, if_neg (by omega), x_gd_t ⟨by omega, by omega⟩, Int.toNat_natCast, s25, hfl5 j hjn, g12_farOf (by rw [s21]; exact hi) ⟨h0.1, by omega⟩ ⟨by omega, by omega⟩, x_b1s, ei, x_gd_t ⟨by omega, by omega⟩, Int.toNat_natCast, s21, ecand, e18, x_b1s, x_gd_t ⟨by omega, by omega⟩, g12_lesser, x_b1s, g12_lesser, n_inc (by omega)]
                by_cases z : mn cc 2000000000 j < cc j
                · rw [if_pos z, if_pos z, x_b1s, x_b1s, if_pos (show mn cc 2000000000 j ≤ cc j by omega)]; rfl
                · rw [if_neg z, if_neg z, x_b1s, x_b1s]; rfl
              rw [whl_l st]
              refine ih (j + 1) k _ (by omega) (by omega) ?_
              rw [mn_s]
              by_cases z1 : mn cc 2000000000 j < cc j
              · rw [if_pos z1, show min (mn cc 2000000000 j) (cc j) = mn cc 2000000000 j by omega, mf_s, if_neg (show ¬ cc j = mn cc 2000000000 j by omega)]
                exact hv
              · rw [if_neg z1]
                by_cases z2 : mn cc 2000000000 j = cc j
                · rw [if_pos (show mn cc 2000000000 j ≤ cc j by omega), show min (mn cc 2000000000 j) (cc j) = mn cc 2000000000 j by omega, mf_s, if_pos z2.symm, hv]
                  by_cases z3 : mf cc fl (mn cc 2000000000 j) j = -1
                  · rw [if_pos z3, if_pos z3, if_neg (show ¬ (fl j : Int) = -1 by omega)]; omega
                  · rw [if_neg z3, if_neg z3]
                    by_cases z4 : mf cc fl (mn cc 2000000000 j) j ≤ (fl j : Int)
                    · rw [if_pos z4, if_neg z3]; omega
                    · rw [if_neg z4, if_neg (show ¬ (fl j : Int) = -1 by omega)]; omega
                · rw [if_neg (show ¬ mn cc 2000000000 j ≤ cc j by omega), show min (mn cc 2000000000 j) (cc j) = cc j by omega, mf_s, if_pos rfl, mf_no j (fun k hk => by have := hlow k hk; omega), if_pos rfl, if_neg (show ¬ (fl j : Int) = -1 by omega)]
                  omega
          exact key n 0 xFU 16 (by omega) (by unfold xFU; omega) rfl
        have emn : mn cc 1000000 n = mn cc 2000000000 n := by
          obtain ⟨n', rfl⟩ : ∃ n', n = n' + 1 := ⟨n - 1, by omega⟩
          rcases lfw_eq (c := cc) (s := 2 ^ (n' + 1) - 1) (n := n' + 1) (B1 := 1000000) (B2 := 2000000000) (fun k hk _ => by have := cbd k hk; omega) (n' + 1) (Nat.le_refl _) with ⟨q, _, _⟩ | q
          · have := q 0 (by omega)
            rw [full_bit (by omega)] at this; cases this
          · rw [lw _ _ (Nat.le_refl _), lw _ _ (Nat.le_refl _)] at q
            exact q
        have kz2 : Kz S S2 := by
          refine ⟨fun o o0 o7 => ?_, fun i i0 i8 => ?_⟩
          · rw [q4 o (by omega), up_o o0, up_o o0]
          · rw [q4 0 (by decide), up_i i0, up_i i8]
        have s200 : S2 0 0 = 0 := by rw [q4 0 (by decide), up_s]
        have s208 : S2 0 8 = 0 := by rw [q4 0 (by decide), up_i (by decide), up_s]
        rw [r78, x_b2s]
        by_cases zb : b = 0
        · rw [if_pos zb, if_pos zb, least, x_b2s, x_b2s, x_b1s]
          exact ⟨_, _, _, _, _, rfl, rfl, ⟨s200, emn.symm⟩, fun E hE => (nomatch hE), trn S2 s208, kz2⟩
        · have w23 : whl xFU (G8_firstFlag_L23 a N (mn cc 1000000 n) R2) (-1, 0) = some (mf cc fl (mn cc 1000000 n) n) := by
            have r02 : R2 0 2 = (n : Int) := by rw [q3 0 (by decide)]; exact w2
            refine w_run (fun j => (mf cc fl (mn cc 1000000 n) j, (j : Int))) n (by unfold xFU; omega) (fun j hj => ?_) (by rw [G8_firstFlag_L23, r02, if_pos (Int.le_refl _)])
            have r1j : R2 1 j = (fl j : Int) := by rw [q3 1 (by decide)]; exact w3 j hj
            rw [G8_firstFlag_L23, r02, if_neg (by omega), if_neg (by omega), ef, c_wayBy (t := t) h hi hn7 ⟨h0.1, by omega⟩ hfl (by omega) hj r1j rfl ⟨(tbd j hj).1, by have := (tbd j hj).2; omega⟩, x_b1s]
            simp only [x_gd_t (show (0 : Int) ≤ (j : Int) ∧ (j : Int) < 7 from ⟨by omega, by omega⟩)]
            rw [Int.toNat_natCast, r1j, n_inc (by omega), mf_s]
            show x_b1 (if cc j = mn cc 1000000 n then _ else _) _ = _
            by_cases z : cc j = mn cc 1000000 n
            · rw [if_pos z, if_pos z, x_its, x_its, x_b1s]
            · rw [if_neg z, if_neg z, x_b1s]
          have hmf : mf cc fl (mn cc 2000000000 n) n ≠ -1 := by
            -- one of them is the least
            intro hno
            have : ∀ j, j ≤ n → (∃ k, k < j ∧ cc k = mn cc 2000000000 j) ∨ j = 0 := by
              intro j
              induction j with
              | zero => intro _; exact .inr rfl
              | succ j ih =>
                intro hj
                left
                rw [mn_s]
                have hcb := cbd j (by omega)
                rcases ih (by omega) with ⟨k, e1, e2⟩ | e0
                · by_cases z : mn cc 2000000000 j ≤ cc j
                  · exact ⟨k, by omega, by omega⟩
                  · exact ⟨j, by omega, by omega⟩
                · subst e0
                  exact ⟨0, by omega, by show cc 0 = min 2000000000 (cc 0); omega⟩
            have mono : ∀ j, j ≤ n → mf cc fl (mn cc 2000000000 n) j = -1 → ∀ k, k < j → cc k ≠ mn cc 2000000000 n := by
              intro j
              induction j with
              | zero => intro _ _ k hk; omega
              | succ j ih =>
                intro hj hm k hk
                have fj := hfl j (by omega)
                rw [mf_s] at hm
                by_cases z : cc j = mn cc 2000000000 n
                · rw [if_pos z] at hm
                  exfalso
                  by_cases y2 : mf cc fl (mn cc 2000000000 n) j = -1
                  · rw [if_pos y2] at hm; omega
                  · rw [if_neg y2] at hm
                    by_cases y3 : mf cc fl (mn cc 2000000000 n) j ≤ (fl j : Int)
                    · rw [if_pos y3] at hm; exact y2 hm
                    · rw [if_neg y3] at hm; omega
                · rw [if_neg z] at hm
                  by_cases e : k = j
                  · subst e; exact z
                  · exact ih (by omega) hm k (by omega)
            rcases this n (Nat.le_refl _) with ⟨k, e1, e2⟩ | e0
            · exact mono n (Nat.le_refl _) hno k e1 e2
            · exact zn e0
          rw [if_neg zb, if_neg zb, G8_firstFlag, least, x_b2s, w23, x_b1s, x_b2s, x_b2s, x_b1s, emn, if_neg hmf]
          exact ⟨_, _, _, _, _, rfl, rfl, ⟨s200, rfl⟩, fun E hE => (nomatch hE), trn S2 s208, kz2⟩
    · rw [if_neg y] at k2
      subst k2
      rw [decide_eq_false y, if_pos (show (0 : Int) = 0 from rfl), if_pos (show bI false = 0 from rfl), x_b1s, if_neg (by decide)]
      exact ⟨_, _, _, _, _, rfl, rfl, up_s, fun E hE => by cases hE; exact .inr rfl, tr_0, kz 2⟩
  · rw [if_neg h0, if_neg h0]
    simp only [x_b1s, x_b2s, x_tvn, x_tvs, up_s, Int.reduceEq, Int.reduceLE, reduceIte]
    exact ⟨_, _, _, _, _, rfl, rfl, up_s, fun E hE => by cases hE; exact .inl rfl, tr_0, kz 1⟩
end RD3
