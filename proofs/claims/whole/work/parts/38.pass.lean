/-! An hour: the office, the draws, the harvest, the clock. -/
theorem g1_ofR5 {C S : xU} {p : Nat} (h : CR C (S 1)) (hi : Iv (S 1)) (hp : (p : Int) < S 1 3) : G1_of 5 (p : Int) C = some (S 1 (21 + 8 * p)) := g1_of5 h hi hp
/-- how many of a set below n -/
def cn (q : Nat → Bool) (n : Nat) : Int := sm (fun p => if q p then 1 else 0) n
theorem cn_bd {q : Nat → Bool} {n : Nat} (hn : n ≤ 128) : 0 ≤ cn q n ∧ cn q n ≤ 128 := by
  have h1 := sm_bd (q := fun p => if q p then 1 else 0) (n := n) (B := 1) (fun s _ => c01)
  unfold cn
  omega
section Q7
variable {C S La : xU}
/-- who isn't in choir -/
def lt (m : Nat → Int) (p : Nat) : Bool := !(decide (m (20 + 8 * p) = 0 ∧ m (16 + 8 * p) = m 6))
theorem s_office {n : Nat} (h : CR C (S 1)) (hi : Iv (S 1)) (e : S 1 3 = (n : Int)) :
    ∃ C' S', G1_holdOffice C = some (((bs (lt (S 1)) n : Nat) : Int), C') ∧ G12_office S = some (cn (lt (S 1)) n, S') ∧ Nx La S C' La S' ∧ S' 1 4 = S 1 4 ∧ ∀ i, S' 7 i = if i < n ∧ lt (S 1) i = true then x_add (S 7 i) 1 else S 7 i := by
  have h7 := hi.many
  have key := w_sim (f1 := G1_holdOffice_L4) (f2 := G12_office_L4)
    (fun j s1 s2 => ∃ C3 S3, s1 = (((bs (lt (S 1)) j : Nat) : Int), (j : Int), C3) ∧ s2 = (cn (lt (S 1)) j, (j : Int), S3) ∧ Nx La S C3 La S3 ∧ (∀ i, i < 72 → i ≠ 10 → (∀ p, i ≠ 21 + 8 * p) → S3 1 i = S 1 i) ∧ ∀ i, S3 7 i = if i < j ∧ lt (S 1) i = true then x_add (S 7 i) 1 else S 7 i)
    (fun r1 r2 => ∃ C' S', r1 = (((bs (lt (S 1)) n : Nat) : Int), C') ∧ r2 = (cn (lt (S 1)) n, S') ∧ Nx La S C' La S' ∧ S' 1 4 = S 1 4 ∧ ∀ i, S' 7 i = if i < n ∧ lt (S 1) i = true then x_add (S 7 i) 1 else S 7 i)
    n (by unfold xFU; omega) ?_ ?_ (s1 := (0, 0, C)) (s2 := (0, 0, S)) ⟨C, S, rfl, rfl, ⟨h, hi, rfl, Kq.rf, Lw.rf, LaEq.rf⟩, fun _ _ _ _ => rfl, fun i => by rw [if_neg (by omega)]⟩
  · obtain ⟨r1, r2, k1, k2, C', S', rfl, rfl, k3, k4⟩ := key
    refine ⟨C', S', ?_, ?_, k3, k4⟩
    · rw [G1_holdOffice, k1]; rfl
    · rw [G12_office, k2]; rfl
  · rintro j s1 s2 hj ⟨C3, S3, rfl, rfl, hN, hk, h77⟩
    have hp3 : (j : Int) < S3 1 3 := by rw [hN.2.2.1, e]; omega
    have e20 : S3 1 (20 + 8 * j) = S 1 (20 + 8 * j) := hk _ (by omega) (by omega) (by omega)
    have e16 : S3 1 (16 + 8 * j) = S 1 (16 + 8 * j) := hk _ (by omega) (by omega) (by omega)
    have e6 : S3 1 6 = S 1 6 := hk _ (by omega) (by omega) (by omega)
    have hbl := bs_lt (lt (S 1)) j
    have hp31 := p31 (show j ≤ 30 by omega)
    have hcn := cn_bd (q := lt (S 1)) (show j ≤ 128 by omega)
    have eb : bs (lt (S 1)) (j + 1) = if lt (S 1) j then bs (lt (S 1)) j ||| 2 ^ j else bs (lt (S 1)) j := rfl
    have ec : cn (lt (S 1)) (j + 1) = cn (lt (S 1)) j + if lt (S 1) j then 1 else 0 := rfl
    have hA : G1_isAt (j : Int) (C3 0 7) C3 = some (if decide (S 1 (20 + 8 * j) = 0 ∧ S 1 (16 + 8 * j) = S 1 6) then 1 else 0) := by
      have := g1_isAt (f := C3 0 7) hN.1 hN.2.1 hp3
      rw [hN.1.1.2.2.2.2.1, e20, e16, e6] at this
      rw [hN.1.1.2.2.2.2.1, e6]
      exact this
    have hB : G12_inChoir (j : Int) S3 = some (if decide (S 1 (20 + 8 * j) = 0 ∧ S 1 (16 + 8 * j) = S 1 6) then 1 else 0) := by
      have := g12_inChoir hN.2.1 hp3
      rw [e20, e16, e6] at this
      exact this
    by_cases q : decide (S 1 (20 + 8 * j) = 0 ∧ S 1 (16 + 8 * j) = S 1 6) = true
    · have ql : lt (S 1) j = false := by rw [lt, q]; rfl
      refine ⟨(((bs (lt (S 1)) (j + 1) : Nat) : Int), ((j + 1 : Nat) : Int), C3), (cn (lt (S 1)) (j + 1), ((j + 1 : Nat) : Int), S3), ?_, ?_, C3, S3, rfl, rfl, hN, hk, ?_⟩
      · show (if C3 0 3 ≤ (j : Int) then _ else _) = _
        rw [hN.1.1.1, if_neg (by omega), hA, if_pos q, n_inc (by omega), eb, ql]
        rfl
      · show (if S3 1 3 ≤ (j : Int) then _ else _) = _
        rw [if_neg (by omega), hB, if_pos q, n_inc (by omega), ec, ql]
        show some (Sum.inl (cn (lt (S 1)) j, _, _)) = some (Sum.inl (cn (lt (S 1)) j + 0, _, _))
        rw [Int.add_zero]
      · intro i
        rw [h77 i]
        by_cases hij : i = j
        · subst hij; rw [if_neg (by omega), if_neg (by rw [ql]; simp)]
        · by_cases h1 : i < j ∧ lt (S 1) i = true
          · rw [if_pos h1, if_pos ⟨by omega, h1.2⟩]
          · rw [if_neg h1, if_neg (fun z => h1 ⟨by omega, z.2⟩)]
    · have ql : lt (S 1) j = true := by
        rw [lt]
        revert q
        cases decide (S 1 (20 + 8 * j) = 0 ∧ S 1 (16 + 8 * j) = S 1 6) <;> simp
      have hl5 := mk_5 hN.2.1 hp3
      have hN1 := s_put5 (La := La) (v := min 999 (S3 1 (21 + 8 * j) + 1)) hN.1 hN.2.1 hp3 ⟨by omega, by omega⟩
      have hpa : (j : Int) < x_up S3 1 (16 + 8 * j + 5) (min 999 (S3 1 (21 + 8 * j) + 1)) 1 3 := by rw [hN1.2.2.1]; exact hp3
      have ez : ∀ o, o ≠ 7 → x_up (x_up S3 1 (16 + 8 * j + 5) (min 999 (S3 1 (21 + 8 * j) + 1))) 7 j (x_add (S3 7 j) 1) o = x_up S3 1 (16 + 8 * j + 5) (min 999 (S3 1 (21 + 8 * j) + 1)) o := fun o ho => up_o ho
      have ez1 := ez 1 (by decide)
      have hC4 : CR (x_up C3 1 (7 * 5 + j) (min 999 (S3 1 (21 + 8 * j) + 1))) (x_up (x_up S3 1 (16 + 8 * j + 5) (min 999 (S3 1 (21 + 8 * j) + 1))) 7 j (x_add (S3 7 j) 1) 1) := by rw [ez1]; exact hN1.1
      have hI4 : Iv (x_up (x_up S3 1 (16 + 8 * j + 5) (min 999 (S3 1 (21 + 8 * j) + 1))) 7 j (x_add (S3 7 j) 1) 1) := by rw [ez1]; exact hN1.2.1
      have hp4 : (j : Int) < x_up (x_up S3 1 (16 + 8 * j + 5) (min 999 (S3 1 (21 + 8 * j) + 1))) 7 j (x_add (S3 7 j) 1) 1 3 := by rw [ez1]; exact hpa
      obtain ⟨C', S', eA, eB, c1, c2, c3, c4, c5, c6, c7⟩ := s_log (c := 0) hC4 hI4 hp4 ⟨by decide, by decide⟩
      have ef : x_up (x_up S3 1 (16 + 8 * j + 5) (min 999 (S3 1 (21 + 8 * j) + 1))) 7 j (x_add (S3 7 j) 1) 1 (16 + 8 * j) = S 1 (16 + 8 * j) := by
        rw [ez1, up_i (by omega), e16]
      rw [ef] at eA
      have hNz : Nx La (x_up S3 1 (16 + 8 * j + 5) (min 999 (S3 1 (21 + 8 * j) + 1))) (x_up C3 1 (7 * 5 + j) (min 999 (S3 1 (21 + 8 * j) + 1))) La (x_up (x_up S3 1 (16 + 8 * j + 5) (min 999 (S3 1 (21 + 8 * j) + 1))) 7 j (x_add (S3 7 j) 1)) := ⟨hC4, hI4, by rw [ez1], Kq.c (by decide), by rw [ez1]; exact Lw.rf, LaEq.rf⟩
      refine ⟨(((bs (lt (S 1)) (j + 1) : Nat) : Int), ((j + 1 : Nat) : Int), C'), (cn (lt (S 1)) (j + 1), ((j + 1 : Nat) : Int), S'), ?_, ?_, C', S', rfl, rfl, ((hN.tr hN1).tr hNz).tr ⟨c1, c2, c3, c4, c5, LaEq.rf⟩, ?_, ?_⟩
      · show (if C3 0 3 ≤ (j : Int) then _ else _) = _
        have e35 : G1_of 0 (j : Int) (x_up C3 1 (7 * 5 + j) (min 999 (S3 1 (21 + 8 * j) + 1))) = some (S 1 (16 + 8 * j)) := by
          rw [g1_of0 hC4 hI4 hp4, ef]
        rw [hN.1.1.1, if_neg (by omega), hA, if_neg q, x_b1, Option.bind_some, if_pos rfl, g1_of5 hN.1 hN.2.1 hp3]
        show x_b2 (x_b1 (G1_put 5 (j : Int) (min 999 (x_add (S3 1 (21 + 8 * j)) 1)) C3) _) _ = _
        rw [x_add_of ⟨by omega, by omega⟩, g1_put5 (by omega)]
        show x_b2 (x_b1 (G1_of 0 (j : Int) (x_up C3 1 (7 * 5 + j) (min 999 (S3 1 (21 + 8 * j) + 1)))) _) _ = _
        rw [e35]
        show x_b2 (x_b1 (G6_add _ _ 0 (j : Int) (S 1 (16 + 8 * j)) (x_up C3 1 (7 * 5 + j) (min 999 (S3 1 (21 + 8 * j) + 1)))) _) _ = _
        rw [eA, eb, ql, n_inc (by omega), n_set (by omega) (by omega)]
        rfl
      · show (if S3 1 3 ≤ (j : Int) then _ else _) = _
        rw [if_neg (by omega), hB, if_neg q, x_b1, Option.bind_some, if_pos rfl, g12_of5 (by omega)]
        show x_b2 (x_b1 (G12_lesser 999 (x_add (S3 1 (21 + 8 * j)) 1)) _) _ = _
        rw [x_add_of ⟨by omega, by omega⟩, g12_lesser]
        show x_b2 (x_b1 (G12_lays (j : Int) 5 (min 999 (S3 1 (21 + 8 * j) + 1)) S3) _) _ = _
        rw [g12_lays5 (by omega), x_b1, Option.bind_some, x_gd_t ⟨by omega, by omega⟩, x_gd_t ⟨by omega, by omega⟩, Int.toNat_natCast, show x_up S3 1 (16 + 8 * j + 5) (min 999 (S3 1 (21 + 8 * j) + 1)) 7 j = S3 7 j from congrFun (up_o (by decide)) _, eB, ec, ql, n_inc (by omega), x_add_of ⟨by omega, by omega⟩]
        rfl
      · intro i h1 h2 h3
        rw [c7 i h1 h2, ez1, up_i (by have := h3 j; omega), hk i h1 h2 h3]
      · intro i
        rw [c6]
        by_cases hij : i = j
        · subst hij
          rw [up_s, if_pos ⟨by omega, ql⟩, h77 i, if_neg (by omega)]
        · rw [up_i hij, up_o (by decide), h77 i]
          by_cases h1 : i < j ∧ lt (S 1) i = true
          · rw [if_pos h1, if_pos ⟨by omega, h1.2⟩]
          · rw [if_neg h1, if_neg (fun z => h1 ⟨by omega, z.2⟩)]
  · rintro s1 s2 ⟨C3, S3, rfl, rfl, hN, hk, h77⟩
    refine ⟨(((bs (lt (S 1)) n : Nat) : Int), C3), (cn (lt (S 1)) n, S3), ?_, ?_, C3, S3, rfl, rfl, hN, hk 4 (by decide) (by decide) (by omega), h77⟩
    · show (if C3 0 3 ≤ (n : Int) then _ else _) = _
      rw [hN.1.1.1, hN.2.2.1, if_pos (by omega)]
    · show (if S3 1 3 ≤ (n : Int) then _ else _) = _
      rw [hN.2.2.1, if_pos (by omega)]
theorem s_harvest (h : CR C (S 1)) (hi : Iv (S 1)) : ∃ C' S', G1_harvest C = some C' ∧ whl xFU G12_passes_L100 (0, S) = some S' ∧ Nx La S C' La S' ∧ H7 S S' := by
  have key := w_sim (f1 := G1_harvest_L2) (f2 := G12_passes_L100)
    (fun j s1 s2 => ∃ C3 S3, s1 = ((j : Int), C3) ∧ s2 = ((j : Int), S3) ∧ Nx La S C3 La S3 ∧ H7 S S3) (fun C' S' => Nx La S C' La S' ∧ H7 S S')
    4 (by decide) ?_ ?_ (s1 := (0, C)) (s2 := (0, S)) ⟨C, S, rfl, rfl, ⟨h, hi, rfl, Kq.rf, Lw.rf, LaEq.rf⟩, H7.rf⟩
  · obtain ⟨C', S', k1, k2, k3, k4⟩ := key
    refine ⟨C', S', ?_, k2, k3, k4⟩
    rw [G1_harvest, k1]; rfl
  · rintro j s1 s2 hj ⟨C3, S3, rfl, rfl, hN, h77⟩
    have hs := hN.2.1.st hj
    have em : x_mul (j : Int) 4 = ((4 * j : Nat) : Int) := by rw [x_mul_of ⟨by omega, by omega⟩]; omega
    have em2 : x_mul 4 (j : Int) = ((4 * j : Nat) : Int) := by rw [x_mul_of ⟨by omega, by omega⟩]; omega
    have ew : x_add 12 (j : Int) = ((12 + j : Nat) : Int) := n_add (a := 12) (by omega)
    have hN1 := s_st (La := La) (v := min 999 (S3 1 (12 + j) + 2)) hN.1 hN.2.1 hj ⟨by omega, by omega⟩
    by_cases q : (if S3 1 7 = 4 then ((4 * j : Nat) : Int) / 4 else S3 1 7) = 1
    · refine ⟨(((j + 1 : Nat) : Int), x_up C3 2 j (min 999 (S3 1 (12 + j) + 2))), (((j + 1 : Nat) : Int), x_up S3 1 (12 + j) (min 999 (S3 1 (12 + j) + 2))), ?_, ?_, _, _, rfl, rfl, hN.tr hN1, h77.tr (H7.up (by omega))⟩
      · show (if (4 : Int) ≤ (j : Int) then _ else _) = _
        rw [if_neg (by omega), em, g1_seasonOf hN.1 hN.2.1 (by omega), x_b1, Option.bind_some, if_pos q, g1_addStore hN.1 hN.2.1 hj ⟨by decide, by decide⟩, n_inc (by omega)]
        rfl
      · show (if (4 : Int) ≤ (j : Int) then _ else _) = _
        rw [if_neg (by omega), em2, g12_seasonOf hN.2.1 (by omega), x_b1, Option.bind_some, if_pos q, ew, x_gd_t ⟨by omega, by omega⟩, Int.toNat_natCast, x_add_of ⟨by omega, by omega⟩, g12_lesser, n_inc (by omega)]
        rw [x_b1, x_b1, Option.bind_some, x_gd_t ⟨by omega, by omega⟩]
        rfl
    · refine ⟨(((j + 1 : Nat) : Int), C3), (((j + 1 : Nat) : Int), S3), ?_, ?_, _, _, rfl, rfl, hN, h77⟩
      · show (if (4 : Int) ≤ (j : Int) then _ else _) = _
        rw [if_neg (by omega), em, g1_seasonOf hN.1 hN.2.1 (by omega), x_b1, Option.bind_some, if_neg q, n_inc (by omega)]
        rfl
      · show (if (4 : Int) ≤ (j : Int) then _ else _) = _
        rw [if_neg (by omega), em2, g12_seasonOf hN.2.1 (by omega), x_b1, Option.bind_some, if_neg q, n_inc (by omega)]
        rfl
  · rintro s1 s2 ⟨C3, S3, rfl, rfl, hN, h77⟩
    exact ⟨C3, S3, rfl, rfl, hN, h77⟩
/-- what is drawn -/
def dw (s : Int) : Int := x_and (x_ush (x_add (x_mul 1103515245 s) 12345) 16) 32767
theorem z_and15 (z : Int) : 0 ≤ x_and z 32767 ∧ x_and z 32767 ≤ 32767 := by
  have h : (Int32.ofInt z &&& Int32.ofInt 32767).toBitVec = BitVec.ofNat 32 ((z % 32768).toNat) := by
    rw [Int32.toBitVec_and]
    apply BitVec.eq_of_toNat_eq
    rw [BitVec.toNat_and]
    show (BitVec.ofInt 32 z).toNat &&& (2 ^ 15 - 1) = _
    rw [BitVec.toNat_ofInt, Nat.and_two_pow_sub_one_eq_mod, BitVec.toNat_ofNat]
    omega
  have e := n_eq (a := (z % 32768).toNat) (by omega) h
  show 0 ≤ (Int32.ofInt z &&& Int32.ofInt 32767).toInt ∧ (Int32.ofInt z &&& Int32.ofInt 32767).toInt ≤ 32767
  rw [e]
  omega
theorem dw_bd (s : Int) : 0 ≤ dw s ∧ dw s ≤ 32767 := z_and15 _
theorem s_seed {v : Int} (h : CR C (S 1)) (hi : Iv (S 1)) (hv : R32 v) : Nx La S (x_up C 0 11 v) La (x_up S 1 11 v) :=
  ⟨h.sc (by omega), hi.sc (by simp [hv]), up_i (by decide), Kq.m, Lw.up (by omega), LaEq.rf⟩
theorem s_mood {v : Int} (h : CR C (S 1)) (hi : Iv (S 1)) (hv : 0 ≤ v ∧ v < 5) : Nx La S (x_up C 0 8 v) La (x_up S 1 7 v) :=
  ⟨h.sc (by omega), hi.sc (by simp [hv]), up_i (by decide), Kq.m, Lw.up (by omega), LaEq.rf⟩
theorem g1_draw : G1_draw C = some (dw (C 0 11), x_up C 0 11 (x_add (x_mul 1103515245 (C 0 11)) 12345)) := by
  rw [G1_draw, up_s]; rfl
theorem g12_draw {n : Int} (hn : 0 < n ∧ n < 1000) : G12_draw n S = some (dw (S 1 11) % n, x_up S 1 11 (x_add (x_mul 1103515245 (S 1 11)) 12345)) := by
  have hd := dw_bd (S 1 11)
  rw [G12_draw, x_gd_t (by omega), up_s]
  show some (x_rem (dw (S 1 11)) n, _) = _
  rw [x_rem_pos ⟨by omega, by omega⟩ ⟨by omega, by omega⟩ hn.1 hd.1]
theorem s_draws (h : CR C (S 1)) (hi : Iv (S 1)) : ∃ C' S', (x_b2 (G1_draw C) fun (v26 : Int) (C27 : xU) => (if (C27 0 9) ≤ (x_rem v26 100) then (some C27) else (x_b2 (G1_draw C27) fun (v29 : Int) (C30 : xU) => (some (x_up C30 0 8 (x_rem v29 5)))))) = some C' ∧
    (x_b2 (G12_draw 100 S) fun (v23 : Int) (S24 : xU) => (if (S24 1 8) ≤ v23 then (some S24) else (x_b2 (G12_draw 5 S24) fun (v26 : Int) (S27 : xU) => (some (x_up S27 1 7 v26))))) = some S' ∧ Nx La S C' La S' ∧ H7 S S' := by
  have hs : C 0 11 = S 1 11 := h.1.2.2.2.2.2.2.2.2
  have hd := dw_bd (S 1 11)
  have hN1 := s_seed (La := La) (v := x_add (x_mul 1103515245 (S 1 11)) 12345) h hi (x_r32 _)
  have e9 := hN1.1.1.2.2.2.2.2.2.1
  rw [g1_draw, hs, g12_draw ⟨by decide, by decide⟩]
  simp only [x_b2, Option.bind_some]
  rw [x_rem_pos (a := dw (S 1 11)) ⟨by omega, by omega⟩ ⟨by decide, by decide⟩ (by decide) hd.1, e9]
  by_cases q : x_up S 1 11 (x_add (x_mul 1103515245 (S 1 11)) 12345) 1 8 ≤ dw (S 1 11) % 100
  · rw [if_pos q, if_pos q]
    exact ⟨_, _, rfl, rfl, hN1, H7.up (by decide)⟩
  · rw [if_neg q, if_neg q, g1_draw, g12_draw ⟨by decide, by decide⟩, up_s, up_s]
    simp only [Option.bind_some]
    have hd2 := dw_bd (x_add (x_mul 1103515245 (S 1 11)) 12345)
    have hN2 := s_seed (La := La) (v := x_add (x_mul 1103515245 (x_add (x_mul 1103515245 (S 1 11)) 12345)) 12345) hN1.1 hN1.2.1 (x_r32 _)
    have hN3 := s_mood (La := La) (v := dw (x_add (x_mul 1103515245 (S 1 11)) 12345) % 5) hN2.1 hN2.2.1 ⟨by omega, by omega⟩
    rw [x_rem_pos ⟨by omega, by omega⟩ ⟨by decide, by decide⟩ (by decide) hd2.1]
    exact ⟨_, _, rfl, rfl, (hN1.tr hN2).tr hN3, ((H7.up (by decide)).tr (H7.up (by decide))).tr (H7.up (by decide))⟩
theorem s_clock (h : CR C (S 1)) (hi : Iv (S 1)) : ∃ C' S', G1_turnClock C = some C' ∧ (if ((x_up S 1 4 (x_add (S 1 4) 1)) 1 4) = 24 then (x_b1 (G12_lesser 9999 (x_add ((x_up (x_up S 1 4 (x_add (S 1 4) 1)) 1 4 0) 1 5) 1)) fun (v42 : Int) => (some (x_up (x_up (x_up S 1 4 (x_add (S 1 4) 1)) 1 4 0) 1 5 v42))) else (some (x_up S 1 4 (x_add (S 1 4) 1)))) = some S' ∧ Nx La S C' La S' ∧ S' 7 = S 7 ∧ S' 1 4 = (S 1 4 + 1) % 24 := by
  have hh : C 0 5 = S 1 4 := h.1.2.2.1
  have hd : C 0 6 = S 1 5 := h.1.2.2.2.1
  have b4 := hi.1.2.2.1
  have b5 := hi.1.2.2.2.1
  rw [G1_turnClock, up_s, up_s, hh, x_add_of (a := S 1 4) ⟨by omega, by omega⟩]
  by_cases q : S 1 4 + 1 < 24
  · rw [if_pos q, if_neg (by omega)]
    exact ⟨_, _, rfl, rfl, ⟨h.sc (by omega), hi.sc (by omega), up_i (by decide), Kq.m, Lw.up (by omega), LaEq.rf⟩, up_o (by decide), by rw [up_s]; omega⟩
  · rw [if_neg q, if_pos (by omega)]
    have e1 : ∀ (Z : xU) (o : Nat) (x : Int), x_up (x_up Z o 5 x) o 5 0 = x_up Z o 5 0 := by
      intro Z o x
      funext o2 k
      by_cases h1 : o2 = o
      · subst h1
        by_cases h2 : k = 5
        · subst h2; rw [up_s, up_s]
        · rw [up_i h2, up_i h2, up_i h2]
      · rw [up_o h1, up_o h1, up_o h1]
    have e2 : ∀ (Z : xU) (x : Int), x_up (x_up Z 1 4 x) 1 4 0 = x_up Z 1 4 0 := by
      intro Z x
      funext o2 k
      by_cases h1 : o2 = 1
      · subst h1
        by_cases h2 : k = 4
        · subst h2; rw [up_s, up_s]
        · rw [up_i h2, up_i h2, up_i h2]
      · rw [up_o h1, up_o h1, up_o h1]
    have hN1 : Nx La S (x_up C 0 5 0) La (x_up S 1 4 0) := ⟨h.sc (by omega), hi.sc (by omega), up_i (by decide), Kq.m, Lw.up (by omega), LaEq.rf⟩
    have hN2 : Nx La (x_up S 1 4 0) (x_up (x_up C 0 5 0) 0 6 (min 9999 (S 1 5 + 1))) La (x_up (x_up S 1 4 0) 1 5 (min 9999 (S 1 5 + 1))) := ⟨hN1.1.sc (by omega), hN1.2.1.sc (by omega), up_i (by decide), Kq.m, Lw.up (by omega), LaEq.rf⟩
    rw [e1, e2, up_i (by decide), up_i (by decide), hd, x_add_of (a := S 1 5) ⟨by omega, by omega⟩, g12_lesser]
    exact ⟨_, _, rfl, rfl, hN1.tr hN2, (up_o (by decide)).trans (up_o (by decide)), by rw [up_i (by decide), up_s]; omega⟩
/-- how the bits of a set are counted by the library -/
theorem bc_cn : ∀ b : Nat, b < 128 → x_bc (b : Int) = cn (fun p => b.testBit p) 7 := by decide +kernel
theorem cn_more {q : Nat → Bool} {n : Nat} : ∀ d, (∀ i, n ≤ i → q i = false) → cn q (n + d) = cn q n := by
  intro d h
  induction d with
  | zero => rfl
  | succ d ih =>
    show cn q (n + d) + (if q (n + d) then 1 else 0) = _
    rw [ih, h (n + d) (by omega)]
    simp
theorem cn_bs {q : Nat → Bool} {n : Nat} (hn : n ≤ 7) : x_bc ((bs q n : Nat) : Int) = cn q n := by
  have h1 := bs_lt q n
  have h2 := pw7 hn
  rw [bc_cn _ (by omega)]
  have h3 : cn (fun p => (bs q n).testBit p) n = cn q n := sm_congr (fun p hp => by
    show (if (bs q n).testBit p = true then (1 : Int) else 0) = _
    rw [bs_bit]; simp [hp])
  rw [← h3]
  have := cn_more (q := fun p => (bs q n).testBit p) (n := n) (7 - n) (fun i hi => by
    show (bs q n).testBit i = false
    rw [bs_bit]; simp; omega)
  rw [← this, show n + (7 - n) = 7 by omega]
/-- an hour more -/
theorem s_pass {d : Int} (h : CR C (S 1)) (hi : Iv (S 1)) (hL : LR La (S 1)) :
    ∃ (b : Nat) (C' La' S' : xU), G1_passHour d C La = some ((b : Int), C', La') ∧ G12_passes d S = some (x_bc (b : Int), S') ∧ b < 128 ∧ Nx La S C' La' S' ∧ (∀ i, S' 7 i = if b.testBit i = true then x_add (S 7 i) 1 else S 7 i) ∧ (∀ i : Nat, S 1 3 ≤ (i : Int) → b.testBit i = false) ∧ S' 1 4 = (S 1 4 + 1) % 24 := by
  obtain ⟨n, hn, e⟩ := hi.nn
  -- they walk
  have k1 := w_sim (f1 := G1_passHour_L2) (f2 := G12_passes_L2)
    (fun j s1 s2 => ∃ C3 La3 S3, s1 = ((j : Int), C3, La3) ∧ s2 = ((j : Int), S3) ∧ Nx La S C3 La3 S3 ∧ H7 S S3) (fun r1 S' => ∃ C' La', r1 = (C', La') ∧ Nx La S C' La' S' ∧ H7 S S')
    n (by unfold xFU; omega) (by
      rintro j s1 s2 hj ⟨C3, La3, S3, rfl, rfl, hN, h77⟩
      have hp3 : (j : Int) < S3 1 3 := by rw [hN.2.2.1, e]; omega
      obtain ⟨C4, La4, S4, g1, g2, g3, g4⟩ := s_go hN.1 hN.2.1 (hL.mv hN.2.2.2.2.2 hN.2.2.2.2.1) hp3
      refine ⟨(((j + 1 : Nat) : Int), C4, La4), (((j + 1 : Nat) : Int), S4), ?_, ?_, C4, La4, S4, rfl, rfl, hN.tr g3, h77.tr g4⟩
      · show (if C3 0 3 ≤ (j : Int) then _ else _) = _
        rw [hN.1.1.1, if_neg (by omega), g1, n_inc (by omega)]; rfl
      · show (if S3 1 3 ≤ (j : Int) then _ else _) = _
        rw [if_neg (by omega), g2, n_inc (by omega)]; rfl) (by
      rintro s1 s2 ⟨C3, La3, S3, rfl, rfl, hN, h77⟩
      refine ⟨(C3, La3), S3, ?_, ?_, C3, La3, rfl, hN, h77⟩
      · show (if C3 0 3 ≤ (n : Int) then _ else _) = _
        rw [hN.1.1.1, hN.2.2.1, if_pos (by omega)]
      · show (if S3 1 3 ≤ (n : Int) then _ else _) = _
        rw [hN.2.2.1, if_pos (by omega)]) (s1 := (0, C, La)) (s2 := (0, S)) ⟨C, La, S, rfl, rfl, ⟨h, hi, rfl, Kq.rf, Lw.rf, LaEq.rf⟩, H7.rf⟩
  obtain ⟨r1, S1, w1, w2, C1, La1, rfl, hN1, h71⟩ := k1
  -- they eat
  have k2 := w_sim (f1 := G1_passHour_L24) (f2 := G12_passes_L25)
    (fun j s1 s2 => ∃ C3 S3, s1 = ((j : Int), C3) ∧ s2 = ((j : Int), S3) ∧ Nx La S C3 La1 S3 ∧ H7 S S3) (fun C' S' => Nx La S C' La1 S' ∧ H7 S S')
    n (by unfold xFU; omega) (by
      rintro j s1 s2 hj ⟨C3, S3, rfl, rfl, hN, h77⟩
      have hp3 : (j : Int) < S3 1 3 := by rw [hN.2.2.1, e]; omega
      obtain ⟨C4, S4, g1, g2, g3, g4⟩ := s_eat (La := La1) hN.1 hN.2.1 hp3
      refine ⟨(((j + 1 : Nat) : Int), C4), (((j + 1 : Nat) : Int), S4), ?_, ?_, C4, S4, rfl, rfl, hN.tr g3, h77.tr g4⟩
      · show (if C3 0 3 ≤ (j : Int) then _ else _) = _
        rw [hN.1.1.1, if_neg (by omega), g1, n_inc (by omega)]; rfl
      · show (if S3 1 3 ≤ (j : Int) then _ else _) = _
        rw [if_neg (by omega), g2, n_inc (by omega)]; rfl) (by
      rintro s1 s2 ⟨C3, S3, rfl, rfl, hN, h77⟩
      refine ⟨C3, S3, ?_, ?_, hN, h77⟩
      · show (if C3 0 3 ≤ (n : Int) then _ else _) = _
        rw [hN.1.1.1, hN.2.2.1, if_pos (by omega)]
      · show (if S3 1 3 ≤ (n : Int) then _ else _) = _
        rw [hN.2.2.1, if_pos (by omega)]) (s1 := (0, C1)) (s2 := (0, S1)) ⟨C1, S1, rfl, rfl, hN1, h71⟩
  obtain ⟨C2, S2, v1, v2, hN2, h72⟩ := k2
  have e2 : S2 1 3 = (n : Int) := hN2.2.2.1.trans e
  -- the office
  have k3 : ∃ (b : Nat) (C3 S3 : xU), (if (x_rem (C2 0 5) 3) = 0 then (x_b2 (G1_holdOffice C2) fun (v21 : Int) (C22 : xU) => (some (v21, C22))) else (some (0, C2))) = some ((b : Int), C3) ∧
      (if (x_rem (S2 1 4) 3) = 0 then (x_b2 (G12_office S2) fun (v18 : Int) (S19 : xU) => (some (v18, S19))) else (some (0, S2))) = some (x_bc (b : Int), S3) ∧ b < 128 ∧ Nx La S C3 La1 S3 ∧ (∀ i, S3 7 i = if b.testBit i = true then x_add (S 7 i) 1 else S 7 i) ∧ (∀ i, n ≤ i → b.testBit i = false) ∧ S3 1 4 = S 1 4 := by
    rw [hN2.1.1.2.2.1]
    by_cases q : x_rem (S2 1 4) 3 = 0
    · obtain ⟨C3, S3, g1, g2, g3, g6, g4⟩ := s_office (La := La1) hN2.1 hN2.2.1 e2
      have hb := bs_lt (lt (S2 1)) n
      have h2 := pw7 hn
      refine ⟨bs (lt (S2 1)) n, C3, S3, ?_, ?_, by omega, hN2.tr g3, ?_, ?_, g6.trans h72.2⟩
      · rw [if_pos q, g1]; rfl
      · rw [if_pos q, g2, cn_bs hn]; rfl
      · intro i
        rw [g4 i, h72.1, bs_bit]
        by_cases h1 : i < n ∧ lt (S2 1) i = true
        · rw [if_pos h1, if_pos (by simp [h1])]
        · rw [if_neg h1, if_neg (by simpa using h1)]
      · intro i hni
        rw [bs_bit]; simp; omega
    · refine ⟨0, C2, S2, ?_, ?_, by decide, hN2, ?_, ?_, h72.2⟩
      · rw [if_neg q]; rfl
      · rw [if_neg q]
        have : x_bc ((0 : Nat) : Int) = 0 := by decide +kernel
        rw [this]
      · intro i
        rw [if_neg (by simp), h72.1]
      · intro i _
        simp
  obtain ⟨b, C3, S3, o1, o2, hb, hN3, h73, hbn, h43⟩ := k3
  -- the draws
  have k4 : ∃ C4 S4, (if d = 0 then (some C3) else (x_b2 (G1_draw C3) fun (v26 : Int) (C27 : xU) => (if (C27 0 9) ≤ (x_rem v26 100) then (some C27) else (x_b2 (G1_draw C27) fun (v29 : Int) (C30 : xU) => (some (x_up C30 0 8 (x_rem v29 5))))))) = some C4 ∧
      (if d = 0 then (some S3) else (x_b2 (G12_draw 100 S3) fun (v23 : Int) (S24 : xU) => (if (S24 1 8) ≤ v23 then (some S24) else (x_b2 (G12_draw 5 S24) fun (v26 : Int) (S27 : xU) => (some (x_up S27 1 7 v26)))))) = some S4 ∧ Nx La S C4 La1 S4 ∧ H7 S3 S4 := by
    by_cases q : d = 0
    · exact ⟨C3, S3, by rw [if_pos q], by rw [if_pos q], hN3, H7.rf⟩
    · obtain ⟨C4, S4, g1, g2, g3, g4⟩ := s_draws (La := La1) hN3.1 hN3.2.1
      exact ⟨C4, S4, by rw [if_neg q]; exact g1, by rw [if_neg q]; exact g2, hN3.tr g3, g4⟩
  obtain ⟨C4, S4, d1, d2, hN4, h74⟩ := k4
  obtain ⟨C5, S5, f1, f2, hN5, h75⟩ := s_harvest (La := La1) hN4.1 hN4.2.1
  obtain ⟨C6, S6, c1, c2, hN6, h76, h46⟩ := s_clock (La := La1) hN5.1 hN5.2.1
  refine ⟨b, C6, La1, S6, ?_, ?_, hb, (hN4.tr hN5).tr hN6, ?_, fun i hi3 => hbn i (by omega), by rw [h46, h75.2, h74.2, h43]⟩
  · rw [G1_passHour, w1, x_b2, Option.bind_some, v1, x_b1, Option.bind_some, o1, x_b2, Option.bind_some, d1, x_b1, Option.bind_some, f1, x_b1, Option.bind_some, c1]
    rfl
  · rw [G12_passes, w2, x_b1, Option.bind_some, v2, x_b1, Option.bind_some, o2, x_b2, Option.bind_some, d2, x_b1, Option.bind_some, f2, x_b1, Option.bind_some, c2]
    rfl
  · intro i
    rw [h76, h75.1, h74.1]
    exact h73 i
end Q7
