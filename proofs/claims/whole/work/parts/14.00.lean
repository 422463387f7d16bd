def G6_copyFrom (C : xU) (V : xU) : Option xU :=
  (some (x_up (x_up (x_cp C 4 V 4 60) 3 1 (V 3 1)) 3 2 (V 3 2)))
def G1_copyFrom (C : xU) (V : xU) : Option xU :=
  (x_b1 (G6_copyFrom (x_cp (x_cp C 1 V 1 56) 2 V 2 4) V) fun (C1 : xU) => (some (x_up (x_up (x_up (x_up (x_up (x_up (x_up (x_up (x_up C1 0 3 (V 0 3)) 0 4 (V 0 4)) 0 5 (V 0 5)) 0 6 (V 0 6)) 0 7 (V 0 7)) 0 8 (V 0 8)) 0 9 (V 0 9)) 0 10 (V 0 10)) 0 11 (V 0 11))))
/-- all of a cloister out of another one -/
def x_cf (C V : xU) : xU := (G1_copyFrom C V).getD C
def G11_remember (X N : xU) (A : xA) : Option (xU × xA) :=
  (x_b1 (if (X 0 15) < 12 then (some X) else (some (x_up (x_up X 0 14 (x_rem (x_add (X 0 14) 1) 12)) 0 15 11))) fun (X1 : xU) => (some (x_up X1 0 15 (x_add (X1 0 15) 1), x_aw A (6 + ((x_mod (x_add (X1 0 14) (X1 0 15)) 12).toNat)) (x_cf (A (6 + ((x_mod (x_add (X1 0 14) (X1 0 15)) 12).toNat))) N))))
def G11_undo (X N : xU) (A : xA) : Option (Int × xU × xU) :=
  (if 0 < (X 0 15) then (some (1, x_up X 0 15 (x_sub (X 0 15) 1), x_cf N (A (6 + ((x_mod (x_add (X 0 14) (x_sub (X 0 15) 1)) 12).toNat))))) else (some (0, X, N)))
def G12_letter (a : Int) (S : xU) : Option Int :=
  (x_b1 (if (S 0 9) = (-1) then (x_gd ((0 : Int) ≤ a ∧ a < 400) (some (S 5 (a).toNat))) else (x_gd ((0 : Int) ≤ (x_add (S 0 9) a) ∧ (x_add (S 0 9) a) < 772) (some (S 1 ((x_add (S 0 9) a)).toNat)))) fun (v1 : Int) => (some v1))
def G12_skip_L0  : xU → Option (xU ⊕ xU)
  | S1 => (if (S1 0 10) ≤ (S1 0 11) then (some (.inr S1)) else (x_b1 (G12_letter (S1 0 11) S1) fun (v5 : Int) => (if v5 = 32 then (some (.inl (x_up S1 0 11 (x_add (S1 0 11) 1)))) else (some (.inr S1)))))
def G12_skip (S : xU) : Option xU :=
  (x_b1 (whl xFU G12_skip_L0 S) fun (S2 : xU) => (some S2))
def G12_here (S : xU) : Option (Int × xU) :=
  (x_b1 (G12_skip S) fun (S1 : xU) => (some ((S1 0 11), S1)))
def G12_isIn (a : Int) (b : Int) (c : Int) : Option Int :=
  (x_b1 (if a < b then (some 0) else (if c < a then (some 0) else (some 1))) fun (v1 : Int) => (x_gd (v1 = 0 ∨ v1 = 1) (some v1)))
def G12_has_L9 (S1 : xU) : Int → Option (Int ⊕ Int)
  | v3 => (if (S1 0 10) ≤ v3 then (some (.inr v3)) else (x_b1 (G12_letter v3 S1) fun (v7 : Int) => (x_b1 (G12_isIn v7 97 122) fun (v9 : Int) => (if v9 = 0 then (some (.inr v3)) else (some (.inl (x_add v3 1)))))))
def G12_has_L55 (w : Nat) (S1 : xU) : Int → Option (Int ⊕ (Unit ⊕ (Int × xU)))
  | v11 => (if ((x_sl.getD w 0 : Nat) : Int) ≤ v11 then (some (.inr (.inl ()))) else (x_b1 (G12_letter (x_add (S1 0 11) v11) S1) fun (v14 : Int) => (x_gd ((0 : Int) ≤ v11 ∧ v11 < (x_sl.getD w 0 : Nat)) (if v14 = (x_ch w v11) then (some (.inl (x_add v11 1))) else (some (.inr (.inr (0, S1))))))))
def G12_has (w : Nat) (S : xU) : Option (Int × xU) :=
  (x_b1 (G12_skip S) fun (S1 : xU) => (x_b1 (whl xFU (G12_has_L9 S1) (S1 0 11)) fun (v4 : Int) => (if (x_sub v4 (S1 0 11)) = ((x_sl.getD w 0 : Nat) : Int) then (x_lr (whl xFU (G12_has_L55 w S1) 0) (fun (q : Unit) => x_e1 q fun (_q : Unit) => (some (1, (x_up S1 0 11 v4)))) (fun (q : (Int × xU)) => some q)) else (some (0, S1)))))
def G12_isSign (a : Int) (S : xU) : Option (Int × xU) :=
  (x_b1 (G12_skip S) fun (S1 : xU) => (x_b1 (if (S1 0 10) ≤ (S1 0 11) then (some 0) else (x_b1 (G12_letter (S1 0 11) S1) fun (v5 : Int) => (if v5 = a then (some 1) else (some 0)))) fun (v3 : Int) => (x_gd (v3 = 0 ∨ v3 = 1) (some (v3, S1)))))
def G12_wrong (a : Int) (S : xU) : Option xU :=
  (x_b1 (if (S 0 12) = (-1) then (some (x_up S 0 12 a)) else (some S)) fun (S1 : xU) => (some S1))
def G12_figures_L18 (v1 : Int) : (Int × xU) → Option ((Int × xU) ⊕ (Int × xU))
  | (v4, S5) => (if (S5 0 10) ≤ (S5 0 11) then (some (.inr (v4, S5))) else (x_b1 (G12_letter (S5 0 11) S5) fun (v10 : Int) => (x_b1 (G12_isIn v10 48 57) fun (v12 : Int) => (if v12 = 0 then (some (.inr (v4, S5))) else (if 3 < (x_sub (S5 0 11) v1) then (some (.inr (v4, S5))) else (x_b1 (G12_letter (S5 0 11) S5) fun (v14 : Int) => (some (.inl ((x_sub (x_add (x_mul 10 v4) v14) 48), (x_up S5 0 11 (x_add (S5 0 11) 1)))))))))))
def G12_figures (a : Int) (b : Int) (S : xU) : Option (Int × xU) :=
  (if (S 0 12) = (-1) then (x_b2 (G12_here S) fun (v1 : Int) (S2 : xU) => (x_b2 (whl xFU (G12_figures_L18 v1) (0, S2)) fun (v6 : Int) (S7 : xU) => (x_b1 (if (S7 0 11) = v1 then (x_b1 (G12_wrong v1 S7) fun (S18 : xU) => (some S18)) else (if 3 < (x_sub (S7 0 11) v1) then (x_b1 (G12_wrong v1 S7) fun (S20 : xU) => (some S20)) else (if v6 < a then (x_b1 (G12_wrong v1 S7) fun (S22 : xU) => (some S22)) else (if v6 ≤ b then (some S7) else (x_b1 (G12_wrong v1 S7) fun (S24 : xU) => (some S24)))))) fun (S16 : xU) => (some (v6, S16))))) else (some (0, S)))
def G12_part (S : xU) : Option (Int × xU) :=
  (if (S 0 12) = (-1) then (x_b1 (G12_skip S) fun (S1 : xU) => (if (S1 0 10) ≤ (S1 0 11) then (x_b2 (G12_has 0 S1) fun (v3 : Int) (S4 : xU) => (x_b2 (if v3 = 0 then (x_b2 (G12_has 26 S4) fun (v9 : Int) (S10 : xU) => (if v9 = 0 then (x_b2 (G12_has 3 S10) fun (v12 : Int) (S13 : xU) => (if v12 = 0 then (x_b2 (G12_has 27 S13) fun (v15 : Int) (S16 : xU) => (if v15 = 0 then (x_b2 (G12_has 28 S16) fun (v18 : Int) (S19 : xU) => (if v18 = 0 then (x_b2 (G12_has 15 S19) fun (v21 : Int) (S22 : xU) => (if v21 = 0 then (x_b2 (G12_has 2 S22) fun (v24 : Int) (S25 : xU) => (if v24 = 0 then (some ((-1), S25)) else (some (6, S25)))) else (some (5, S22)))) else (some (4, S19)))) else (some (3, S16)))) else (some (2, S13)))) else (some (1, S10)))) else (some (0, S4))) fun (v6 : Int) (S7 : xU) => (if v6 = (-1) then (x_b1 (G12_wrong (S7 0 11) S7) fun (S27 : xU) => (some (0, S27))) else (x_gd ((0 : Int) ≤ v6 ∧ v6 < 7) (some ((S7 6 (v6).toNat), S7)))))) else (x_b1 (G12_letter (S1 0 11) S1) fun (v29 : Int) => (x_b1 (G12_isIn v29 48 57) fun (v31 : Int) => (if v31 = 0 then (x_b2 (G12_has 0 S1) fun (v33 : Int) (S34 : xU) => (x_b2 (if v33 = 0 then (x_b2 (G12_has 26 S34) fun (v39 : Int) (S40 : xU) => (if v39 = 0 then (x_b2 (G12_has 3 S40) fun (v42 : Int) (S43 : xU) => (if v42 = 0 then (x_b2 (G12_has 27 S43) fun (v45 : Int) (S46 : xU) => (if v45 = 0 then (x_b2 (G12_has 28 S46) fun (v48 : Int) (S49 : xU) => (if v48 = 0 then (x_b2 (G12_has 15 S49) fun (v51 : Int) (S52 : xU) => (if v51 = 0 then (x_b2 (G12_has 2 S52) fun (v54 : Int) (S55 : xU) => (if v54 = 0 then (some ((-1), S55)) else (some (6, S55)))) else (some (5, S52)))) else (some (4, S49)))) else (some (3, S46)))) else (some (2, S43)))) else (some (1, S40)))) else (some (0, S34))) fun (v36 : Int) (S37 : xU) => (if v36 = (-1) then (x_b1 (G12_wrong (S37 0 11) S37) fun (S57 : xU) => (some (0, S57))) else (x_gd ((0 : Int) ≤ v36 ∧ v36 < 7) (some ((S37 6 (v36).toNat), S37)))))) else (x_b2 (G12_figures 0 999 S1) fun (v59 : Int) (S60 : xU) => (some (v59, S60)))))))) else (some (0, S)))
def G12_sum_L5  : (Int × xU) → Option ((Int × xU) ⊕ (Int × xU))
  | (v4, S5) => (if (S5 0 12) = (-1) then (x_b2 (G12_isSign 43 S5) fun (v10 : Int) (S11 : xU) => (if v10 = 0 then (some (.inr (v4, S11))) else (x_b2 (G12_part (x_up S11 0 11 (x_add (S11 0 11) 1))) fun (v13 : Int) (S14 : xU) => (some (.inl ((x_add v4 v13), S14)))))) else (some (.inr (v4, S5))))
def G12_sum (S : xU) : Option (Int × xU) :=
  (x_b2 (G12_part S) fun (v1 : Int) (S2 : xU) => (x_b2 (whl xFU G12_sum_L5 (v1, S2)) fun (v6 : Int) (S7 : xU) => (some (v6, S7))))
def G12_plain (S : xU) : Option (Int × xU) :=
  (x_b2 (G12_has 24 S) fun (v1 : Int) (S2 : xU) => (if v1 = 0 then (x_b2 (G12_has 25 S2) fun (v4 : Int) (S5 : xU) => (if v4 = 0 then (x_b2 (G12_sum S5) fun (v7 : Int) (S8 : xU) => (if (S8 0 12) = (-1) then (x_b2 (G12_isSign 60 S8) fun (v10 : Int) (S11 : xU) => (if v10 = 0 then (x_b2 (G12_isSign 62 S11) fun (v18 : Int) (S19 : xU) => (if v18 = 0 then (x_b1 (G12_wrong (S19 0 11) S19) fun (S26 : xU) => (some (0, S26))) else (x_b2 (G12_sum (x_up S19 0 11 (x_add (S19 0 11) 1))) fun (v21 : Int) (S22 : xU) => (x_b1 (if v10 = 0 then (if v7 ≤ v21 then (some 0) else (some 1)) else (if v21 ≤ v7 then (some 0) else (some 1))) fun (v24 : Int) => (x_gd (v24 = 0 ∨ v24 = 1) (some (v24, S22))))))) else (x_b2 (G12_sum (x_up S11 0 11 (x_add (S11 0 11) 1))) fun (v13 : Int) (S14 : xU) => (x_b1 (if v10 = 0 then (if v7 ≤ v13 then (some 0) else (some 1)) else (if v13 ≤ v7 then (some 0) else (some 1))) fun (v16 : Int) => (x_gd (v16 = 0 ∨ v16 = 1) (some (v16, S14))))))) else (some (0, S8)))) else (x_gd ((S5 0 16) = 0 ∨ (S5 0 16) = 1) (some ((S5 0 16), S5))))) else (x_gd ((S2 0 15) = 0 ∨ (S2 0 15) = 1) (some ((S2 0 15), S2)))))
def G12_atom_b (R0 : xU → Option (Int × xU)) (R1 : xU → Option (Int × xU)) (R2 : xU → Option (Int × xU)) (S : xU) : Option (Int × xU) :=
  (if (S 0 12) = (-1) then (x_b2 (G12_here S) fun (v1 : Int) (S2 : xU) => (x_b2 (G12_has 23 S2) fun (v4 : Int) (S5 : xU) => (if v4 = 0 then (x_b2 (G12_isSign 40 S5) fun (v27 : Int) (S28 : xU) => (if v27 = 0 then (x_b2 (G12_plain S28) fun (v50 : Int) (S51 : xU) => (x_gd (v50 = 0 ∨ v50 = 1) (some (v50, S51)))) else (if (S28 0 13) = 6 then (x_b1 (G12_wrong v1 S28) fun (S48 : xU) => (some (0, S48))) else (x_b2 (if v4 = 0 then (x_b2 (R2 (x_up (x_up S28 0 13 (x_add (S28 0 13) 1)) 0 11 (x_add ((x_up S28 0 13 (x_add (S28 0 13) 1)) 0 11) 1))) fun (v33 : Int) (S34 : xU) => (x_b1 (if (S34 0 12) = (-1) then (x_b2 (G12_isSign 41 S34) fun (v38 : Int) (S39 : xU) => (if v38 = 0 then (x_b1 (G12_wrong (S39 0 11) S39) fun (S41 : xU) => (some S41)) else (some S39))) else (some S34)) fun (S36 : xU) => (some (v33, (x_up S36 0 11 (x_add (S36 0 11) 1)))))) else (x_b2 (R0 (x_up S28 0 13 (x_add (S28 0 13) 1))) fun (v43 : Int) (S44 : xU) => (x_b1 (if v43 = 0 then (some 1) else (some 0)) fun (v46 : Int) => (some (v46, S44))))) fun (v30 : Int) (S31 : xU) => (x_gd (v30 = 0 ∨ v30 = 1) (some (v30, (x_up S31 0 13 (x_sub (S31 0 13) 1))))))))) else (if (S5 0 13) = 6 then (x_b1 (G12_wrong v1 S5) fun (S25 : xU) => (some (0, S25))) else (x_b2 (if v4 = 0 then (x_b2 (R2 (x_up (x_up S5 0 13 (x_add (S5 0 13) 1)) 0 11 (x_add ((x_up S5 0 13 (x_add (S5 0 13) 1)) 0 11) 1))) fun (v10 : Int) (S11 : xU) => (x_b1 (if (S11 0 12) = (-1) then (x_b2 (G12_isSign 41 S11) fun (v15 : Int) (S16 : xU) => (if v15 = 0 then (x_b1 (G12_wrong (S16 0 11) S16) fun (S18 : xU) => (some S18)) else (some S16))) else (some S11)) fun (S13 : xU) => (some (v10, (x_up S13 0 11 (x_add (S13 0 11) 1)))))) else (x_b2 (R0 (x_up S5 0 13 (x_add (S5 0 13) 1))) fun (v20 : Int) (S21 : xU) => (x_b1 (if v20 = 0 then (some 1) else (some 0)) fun (v23 : Int) => (some (v23, S21))))) fun (v7 : Int) (S8 : xU) => (x_gd (v7 = 0 ∨ v7 = 1) (some (v7, (x_up S8 0 13 (x_sub (S8 0 13) 1)))))))))) else (some (0, S)))
def G12_every_b_L5 (R0 : xU → Option (Int × xU)) : (Int × xU) → Option ((Int × xU) ⊕ (Int × xU))
  | (v4, S5) => (if (S5 0 12) = (-1) then (x_b2 (G12_has 22 S5) fun (v10 : Int) (S11 : xU) => (if v10 = 0 then (some (.inr (v4, S11))) else (x_b2 (R0 S11) fun (v13 : Int) (S14 : xU) => (x_b1 (if v4 = 0 then (some 0) else (if v13 = 0 then (some 0) else (some 1))) fun (v16 : Int) => (some (.inl (v16, S14))))))) else (some (.inr (v4, S5))))
def G12_every_b (R0 : xU → Option (Int × xU)) (R1 : xU → Option (Int × xU)) (R2 : xU → Option (Int × xU)) (S : xU) : Option (Int × xU) :=
  (x_b2 (R0 S) fun (v1 : Int) (S2 : xU) => (x_b2 (whl xFU (G12_every_b_L5 R0) (v1, S2)) fun (v6 : Int) (S7 : xU) => (x_gd (v6 = 0 ∨ v6 = 1) (some (v6, S7)))))
def G12_some_b_L5 (R1 : xU → Option (Int × xU)) : (Int × xU) → Option ((Int × xU) ⊕ (Int × xU))
  | (v4, S5) => (if (S5 0 12) = (-1) then (x_b2 (G12_has 21 S5) fun (v10 : Int) (S11 : xU) => (if v10 = 0 then (some (.inr (v4, S11))) else (x_b2 (R1 S11) fun (v13 : Int) (S14 : xU) => (x_b1 (if v4 = 0 then (if v13 = 0 then (some 0) else (some 1)) else (some 1)) fun (v16 : Int) => (some (.inl (v16, S14))))))) else (some (.inr (v4, S5))))
def G12_some_b (R0 : xU → Option (Int × xU)) (R1 : xU → Option (Int × xU)) (R2 : xU → Option (Int × xU)) (S : xU) : Option (Int × xU) :=
  (x_b2 (R1 S) fun (v1 : Int) (S2 : xU) => (x_b2 (whl xFU (G12_some_b_L5 R1) (v1, S2)) fun (v6 : Int) (S7 : xU) => (x_gd (v6 = 0 ∨ v6 = 1) (some (v6, S7)))))
def G12_rec : Nat → Nat → xU → Option (Int × xU)
  | 0, _, _ => none
  | n + 1, 0, S => G12_atom_b (G12_rec n 0) (G12_rec n 1) (G12_rec n 2) S
  | n + 1, 1, S => G12_every_b (G12_rec n 0) (G12_rec n 1) (G12_rec n 2) S
  | n + 1, _, S => G12_some_b (G12_rec n 0) (G12_rec n 1) (G12_rec n 2) S
def G12_atom  (S : xU) : Option (Int × xU) := G12_rec 30 0 S
def G12_every  (S : xU) : Option (Int × xU) := G12_rec 30 1 S
def G12_some  (S : xU) : Option (Int × xU) := G12_rec 30 2 S
def G10_isRight (T : xU) : Option Int :=
  (x_b1 (if (T 0 7) = (-1) then (some 1) else (some 0)) fun (v1 : Int) => (x_gd (v1 = 0 ∨ v1 = 1) (some v1)))
def G10_isWord_L28 (w : Nat) (T : xU) : Int → Option (Int ⊕ (Unit ⊕ Int))
  | v1 => (if ((x_sl.getD w 0 : Nat) : Int) ≤ v1 then (some (.inr (.inl ()))) else (if (x_add (T 0 3) v1) < 0 then (some (.inr (.inr 0))) else (if 400 ≤ (x_add (T 0 3) v1) then (some (.inr (.inr 0))) else (x_gd ((0 : Int) ≤ v1 ∧ v1 < (x_sl.getD w 0 : Nat)) (x_gd ((0 : Int) ≤ (x_add (T 0 3) v1) ∧ (x_add (T 0 3) v1) < 400) (if (x_ch w v1) = (T 1 ((x_add (T 0 3) v1)).toNat) then (some (.inl (x_add v1 1))) else (some (.inr (.inr 0)))))))))
def G10_isWord (w : Nat) (T : xU) : Option Int :=
  (if (T 0 5) = 2 then (if ((x_sl.getD w 0 : Nat) : Int) = (x_sub (T 0 4) (T 0 3)) then (x_lr (whl xFU (G10_isWord_L28 w T) 0) (fun (q : Unit) => x_e1 q fun (_q : Unit) => (some 1)) (fun (q : Int) => some q)) else (some 0)) else (some 0))
def G10_readNext_L8  : xU → Option (xU ⊕ xU)
  | T1 => (if (T1 0 3) < 0 then (some (.inr T1)) else (if (T1 0 2) ≤ (T1 0 3) then (some (.inr T1)) else (if 400 ≤ (T1 0 3) then (some (.inr T1)) else (x_gd ((0 : Int) ≤ (T1 0 3) ∧ (T1 0 3) < 400) (if (T1 2 ((T1 0 3)).toNat) = 1 then (some (.inl (x_up T1 0 3 (x_add (T1 0 3) 1)))) else (some (.inr T1)))))))
def G10_readNext_L174  : xU → Option (xU ⊕ xU)
  | T11 => (if (T11 0 2) ≤ (T11 0 4) then (some (.inr T11)) else (if 400 ≤ (T11 0 4) then (some (.inr T11)) else (x_gd ((0 : Int) ≤ (T11 0 4) ∧ (T11 0 4) < 400) (if (T11 2 ((T11 0 4)).toNat) = (T11 0 5) then (some (.inl (x_up T11 0 4 (x_add (T11 0 4) 1)))) else (some (.inr T11))))))
def G10_readNext (T : xU) : Option xU :=
  (x_b1 (whl xFU G10_readNext_L8 (x_up T 0 3 (T 0 4))) fun (T2 : xU) => (x_b1 (if ((x_up (x_up (x_up T2 0 4 (T2 0 3)) 0 5 0) 0 6 (-1)) 0 3) < 0 then (some (x_up (x_up (x_up T2 0 4 (T2 0 3)) 0 5 0) 0 6 (-1))) else (if ((x_up (x_up (x_up T2 0 4 (T2 0 3)) 0 5 0) 0 6 (-1)) 0 2) ≤ ((x_up (x_up (x_up T2 0 4 (T2 0 3)) 0 5 0) 0 6 (-1)) 0 3) then (some (x_up (x_up (x_up T2 0 4 (T2 0 3)) 0 5 0) 0 6 (-1))) else (if 400 ≤ ((x_up (x_up (x_up T2 0 4 (T2 0 3)) 0 5 0) 0 6 (-1)) 0 3) then (some (x_up (x_up (x_up T2 0 4 (T2 0 3)) 0 5 0) 0 6 (-1))) else (x_gd ((0 : Int) ≤ ((x_up (x_up (x_up T2 0 4 (T2 0 3)) 0 5 0) 0 6 (-1)) 0 3) ∧ ((x_up (x_up (x_up T2 0 4 (T2 0 3)) 0 5 0) 0 6 (-1)) 0 3) < 400) (x_b1 (if ((x_up (x_up (x_up (x_up T2 0 4 (T2 0 3)) 0 5 0) 0 6 (-1)) 0 5 ((x_up (x_up (x_up T2 0 4 (T2 0 3)) 0 5 0) 0 6 (-1)) 2 (((x_up (x_up (x_up T2 0 4 (T2 0 3)) 0 5 0) 0 6 (-1)) 0 3)).toNat)) 0 5) = 4 then (x_gd ((0 : Int) ≤ ((x_up (x_up (x_up (x_up T2 0 4 (T2 0 3)) 0 5 0) 0 6 (-1)) 0 5 ((x_up (x_up (x_up T2 0 4 (T2 0 3)) 0 5 0) 0 6 (-1)) 2 (((x_up (x_up (x_up T2 0 4 (T2 0 3)) 0 5 0) 0 6 (-1)) 0 3)).toNat)) 0 3) ∧ ((x_up (x_up (x_up (x_up T2 0 4 (T2 0 3)) 0 5 0) 0 6 (-1)) 0 5 ((x_up (x_up (x_up T2 0 4 (T2 0 3)) 0 5 0) 0 6 (-1)) 2 (((x_up (x_up (x_up T2 0 4 (T2 0 3)) 0 5 0) 0 6 (-1)) 0 3)).toNat)) 0 3) < 400) (some ((x_up (x_up (x_up (x_up T2 0 4 (T2 0 3)) 0 5 0) 0 6 (-1)) 0 5 ((x_up (x_up (x_up T2 0 4 (T2 0 3)) 0 5 0) 0 6 (-1)) 2 (((x_up (x_up (x_up T2 0 4 (T2 0 3)) 0 5 0) 0 6 (-1)) 0 3)).toNat)) 1 (((x_up (x_up (x_up (x_up T2 0 4 (T2 0 3)) 0 5 0) 0 6 (-1)) 0 5 ((x_up (x_up (x_up T2 0 4 (T2 0 3)) 0 5 0) 0 6 (-1)) 2 (((x_up (x_up (x_up T2 0 4 (T2 0 3)) 0 5 0) 0 6 (-1)) 0 3)).toNat)) 0 3)).toNat))) else (some (-1))) fun (v7 : Int) => (some (x_up (x_up (x_up (x_up (x_up T2 0 4 (T2 0 3)) 0 5 0) 0 6 (-1)) 0 5 ((x_up (x_up (x_up T2 0 4 (T2 0 3)) 0 5 0) 0 6 (-1)) 2 (((x_up (x_up (x_up T2 0 4 (T2 0 3)) 0 5 0) 0 6 (-1)) 0 3)).toNat)) 0 6 v7))))))) fun (T5 : xU) => (x_b1 (if (T5 0 5) = 4 then (some (x_up T5 0 4 (x_add (T5 0 4) 1))) else (if (T5 0 5) = 0 then (some T5) else (x_b1 (whl xFU G10_readNext_L174 T5) fun (T12 : xU) => (some T12)))) fun (T9 : xU) => (some T9))))
def G10_takeWord (w : Nat) (T : xU) : Option (Int × xU) :=
  (x_b1 (G10_isWord w T) fun (v1 : Int) => (x_b1 (if v1 = 0 then (some T) else (x_b1 (G10_readNext T) fun (T5 : xU) => (some T5))) fun (T3 : xU) => (x_gd (v1 = 0 ∨ v1 = 1) (some (v1, T3)))))
def G4_addStep (a : Int) (b : Int) (Lb : xU) : Option xU :=
  (x_b1 (if (Lb 0 5) < 0 then (some Lb) else (if 400 ≤ (Lb 0 5) then (some Lb) else (x_gd ((0 : Int) ≤ (Lb 0 5) ∧ (Lb 0 5) < 400) (some (x_up (x_up Lb 4 ((Lb 0 5)).toNat (x_or (x_shl b 4) a)) 0 5 (x_add ((x_up Lb 4 ((Lb 0 5)).toNat (x_or (x_shl b 4) a)) 0 5) 1)))))) fun (Lb1 : xU) => (some Lb1))
def G10_isSign (a : Int) (T : xU) : Option Int :=
  (x_b1 (if (T 0 6) = a then (some 1) else (some 0)) fun (v1 : Int) => (x_gd (v1 = 0 ∨ v1 = 1) (some v1)))
def G10_refuse (T : xU) : Option xU :=
  (x_b1 (if (T 0 7) = (-1) then (some (x_up T 0 7 (T 0 3))) else (some T)) fun (T1 : xU) => (some T1))
def G5_partHere (T : xU) : Option Int :=
  (x_b1 (G10_isWord 0 T) fun (v1 : Int) => (if v1 = 0 then (x_b1 (G10_isWord 26 T) fun (v3 : Int) => (if v3 = 0 then (x_b1 (G10_isWord 3 T) fun (v5 : Int) => (if v5 = 0 then (x_b1 (G10_isWord 27 T) fun (v7 : Int) => (if v7 = 0 then (x_b1 (G10_isWord 28 T) fun (v9 : Int) => (if v9 = 0 then (x_b1 (G10_isWord 15 T) fun (v11 : Int) => (if v11 = 0 then (x_b1 (G10_isWord 2 T) fun (v13 : Int) => (x_b1 (if v13 = 0 then (some (-1)) else (some 6)) fun (v15 : Int) => (some v15))) else (some 5))) else (some 4))) else (some 3))) else (some 2))) else (some 1))) else (some 0)))
def G10_takeSign (a : Int) (T : xU) : Option (Int × xU) :=
  (x_b1 (G10_isSign a T) fun (v1 : Int) => (x_b1 (if v1 = 0 then (some T) else (x_b1 (G10_readNext T) fun (T5 : xU) => (some T5))) fun (T3 : xU) => (x_gd (v1 = 0 ∨ v1 = 1) (some (v1, T3)))))
def G10_isNumber (T : xU) : Option Int :=
  (x_b1 (if (T 0 5) = 3 then (some 1) else (some 0)) fun (v1 : Int) => (x_gd (v1 = 0 ∨ v1 = 1) (some v1)))
def G10_numberHere_L30 (T : xU) : (Int × Int) → Option ((Int × Int) ⊕ Int)
  | (v1, v2) => (if v2 < 0 then (some (.inr v1)) else (if (T 0 4) ≤ v2 then (some (.inr v1)) else (if 400 ≤ v2 then (some (.inr v1)) else (x_gd ((0 : Int) ≤ v2 ∧ v2 < 400) (some (.inl ((x_sub (x_add (x_mul 10 v1) (T 1 (v2).toNat)) 48), (x_add v2 1))))))))
def G10_numberHere (T : xU) : Option Int :=
  (if (T 0 5) = 3 then (if (x_sub (T 0 4) (T 0 3)) ≤ 3 then (x_b1 (whl xFU (G10_numberHere_L30 T) (0, (T 0 3))) fun (v3 : Int) => (some v3)) else (some (-1))) else (some (-1)))
def G10_takeNumber (a : Int) (T : xU) : Option (Int × xU) :=
  (x_b1 (G10_numberHere T) fun (v1 : Int) => (if v1 = (-1) then (x_b1 (G10_refuse T) fun (T3 : xU) => (some ((-1), T3))) else (if v1 ≤ a then (x_b1 (G10_readNext T) fun (T5 : xU) => (some (v1, T5))) else (x_b1 (G10_refuse T) fun (T7 : xU) => (some ((-1), T7))))))
def G5_readSum_L2  : (Int × xU × xU) → Option ((Int × xU × xU) ⊕ (xU × xU))
  | (v1, T2, Lb3) => (if 400 ≤ v1 then (some (.inr (T2, Lb3))) else (x_b1 (G10_isRight T2) fun (v8 : Int) => (if v8 = 0 then (some (.inr (T2, Lb3))) else (if v1 = 0 then (x_b1 (G5_partHere T2) fun (v10 : Int) => (x_b1 (G10_isNumber T2) fun (v12 : Int) => (x_b2 (if v12 = 0 then (if v10 = (-1) then (x_b1 (G10_refuse T2) fun (T17 : xU) => (some (T17, Lb3))) else (x_b1 (G4_addStep 1 v10 Lb3) fun (Lb19 : xU) => (x_b1 (G10_readNext T2) fun (T21 : xU) => (some (T21, Lb19))))) else (x_b2 (G10_takeNumber 999 T2) fun (v23 : Int) (T24 : xU) => (x_b1 (G4_addStep 0 v23 Lb3) fun (Lb26 : xU) => (some (T24, Lb26))))) fun (T14 : xU) (Lb15 : xU) => (some (.inl ((x_add v1 1), T14, Lb15)))))) else (x_b2 (G10_takeSign 43 T2) fun (v28 : Int) (T29 : xU) => (if v28 = 0 then (some (.inr (T29, Lb3))) else (x_b1 (G5_partHere T29) fun (v31 : Int) => (x_b1 (G10_isNumber T29) fun (v33 : Int) => (x_b2 (if v33 = 0 then (if v31 = (-1) then (x_b1 (G10_refuse T29) fun (T38 : xU) => (some (T38, Lb3))) else (x_b1 (G4_addStep 1 v31 Lb3) fun (Lb40 : xU) => (x_b1 (G10_readNext T29) fun (T42 : xU) => (some (T42, Lb40))))) else (x_b2 (G10_takeNumber 999 T29) fun (v44 : Int) (T45 : xU) => (x_b1 (G4_addStep 0 v44 Lb3) fun (Lb47 : xU) => (some (T45, Lb47))))) fun (T35 : xU) (Lb36 : xU) => (some (.inl ((x_add v1 1), T35, Lb36))))))))))))
def G5_readSum (T : xU) (Lb : xU) : Option (xU × xU) :=
  (x_b2 (whl xFU G5_readSum_L2 (0, T, Lb)) fun (T4 : xU) (Lb5 : xU) => (some (T4, Lb5)))
def G10_expectSign (a : Int) (T : xU) : Option xU :=
  (x_b2 (G10_takeSign a T) fun (v1 : Int) (T2 : xU) => (x_b1 (if v1 = 0 then (x_b1 (G10_refuse T2) fun (T6 : xU) => (some T6)) else (some T2)) fun (T4 : xU) => (some T4)))
def G5_readAny_b_L32 (a : Int) (R1 : Int → xU → xU → Option (xU × xU)) : (Int × xU × xU) → Option ((Int × xU × xU) ⊕ (xU × xU))
  | (v10, T11, Lb12) => (if 400 ≤ v10 then (some (.inr (T11, Lb12))) else (x_b1 (G10_isRight T11) fun (v17 : Int) => (if v17 = 0 then (some (.inr (T11, Lb12))) else (if v10 = 0 then (x_b2 (R1 a T11 Lb12) fun (T19 : xU) (Lb20 : xU) => (x_b1 (if v10 ≤ 0 then (some Lb20) else (x_b1 (G4_addStep 8 0 Lb20) fun (Lb24 : xU) => (some Lb24))) fun (Lb22 : xU) => (some (.inl ((x_add v10 1), T19, Lb22))))) else (x_b2 (G10_takeWord 22 T11) fun (v26 : Int) (T27 : xU) => (if v26 = 0 then (some (.inr (T27, Lb12))) else (x_b2 (R1 a T27 Lb12) fun (T29 : xU) (Lb30 : xU) => (x_b1 (if v10 ≤ 0 then (some Lb30) else (x_b1 (G4_addStep 8 0 Lb30) fun (Lb34 : xU) => (some Lb34))) fun (Lb32 : xU) => (some (.inl ((x_add v10 1), T29, Lb32)))))))))))
def G5_readAny_b_L32x (a : Int) (R1 : Int → xU → xU → Option (xU × xU)) : (Int × xU × xU) → Option ((Int × xU × xU) ⊕ (xU × xU))
  | (v43, T44, Lb45) => (if 400 ≤ v43 then (some (.inr (T44, Lb45))) else (x_b1 (G10_isRight T44) fun (v50 : Int) => (if v50 = 0 then (some (.inr (T44, Lb45))) else (if v43 = 0 then (x_b2 (R1 a T44 Lb45) fun (T52 : xU) (Lb53 : xU) => (x_b1 (if v43 ≤ 0 then (some Lb53) else (x_b1 (G4_addStep 8 0 Lb53) fun (Lb57 : xU) => (some Lb57))) fun (Lb55 : xU) => (some (.inl ((x_add v43 1), T52, Lb55))))) else (x_b2 (G10_takeWord 22 T44) fun (v59 : Int) (T60 : xU) => (if v59 = 0 then (some (.inr (T60, Lb45))) else (x_b2 (R1 a T60 Lb45) fun (T62 : xU) (Lb63 : xU) => (x_b1 (if v43 ≤ 0 then (some Lb63) else (x_b1 (G4_addStep 8 0 Lb63) fun (Lb67 : xU) => (some Lb67))) fun (Lb65 : xU) => (some (.inl ((x_add v43 1), T62, Lb65)))))))))))
def G5_readAny_b_L2 (a : Int) (R1 : Int → xU → xU → Option (xU × xU)) : (Int × xU × xU) → Option ((Int × xU × xU) ⊕ (xU × xU))
  | (v1, T2, Lb3) => (if 400 ≤ v1 then (some (.inr (T2, Lb3))) else (x_b1 (G10_isRight T2) fun (v8 : Int) => (if v8 = 0 then (some (.inr (T2, Lb3))) else (if v1 = 0 then (x_b2 (whl xFU (G5_readAny_b_L32 a R1) (0, T2, Lb3)) fun (T13 : xU) (Lb14 : xU) => (x_b1 (if v1 ≤ 0 then (some Lb14) else (x_b1 (G4_addStep 9 0 Lb14) fun (Lb38 : xU) => (some Lb38))) fun (Lb36 : xU) => (some (.inl ((x_add v1 1), T13, Lb36))))) else (x_b2 (G10_takeWord 21 T2) fun (v40 : Int) (T41 : xU) => (if v40 = 0 then (some (.inr (T41, Lb3))) else (x_b2 (whl xFU (G5_readAny_b_L32x a R1) (0, T41, Lb3)) fun (T46 : xU) (Lb47 : xU) => (x_b1 (if v1 ≤ 0 then (some Lb47) else (x_b1 (G4_addStep 9 0 Lb47) fun (Lb71 : xU) => (some Lb71))) fun (Lb69 : xU) => (some (.inl ((x_add v1 1), T46, Lb69)))))))))))
def G5_readAny_b (R0 : Int → xU → xU → Option (xU × xU)) (R1 : Int → xU → xU → Option (xU × xU)) (a : Int) (T : xU) (Lb : xU) : Option (xU × xU) :=
  (x_b2 (whl xFU (G5_readAny_b_L2 a R1) (0, T, Lb)) fun (T4 : xU) (Lb5 : xU) => (some (T4, Lb5)))
def G5_readAtom_b (R0 : Int → xU → xU → Option (xU × xU)) (R1 : Int → xU → xU → Option (xU × xU)) (a : Int) (T : xU) (Lb : xU) : Option (xU × xU) :=
  (x_b1 (G10_isSign 40 T) fun (v1 : Int) => (if v1 = 0 then (x_b1 (G10_isWord 23 T) fun (v20 : Int) => (if v20 = 0 then (x_b2 (G10_takeWord 24 T) fun (v22 : Int) (T23 : xU) => (x_b2 (if v22 = 0 then (x_b2 (G10_takeWord 25 T23) fun (v28 : Int) (T29 : xU) => (if v28 = 0 then (x_b2 (G5_readSum T29 Lb) fun (T31 : xU) (Lb32 : xU) => (x_b1 (G10_isSign 60 T31) fun (v34 : Int) => (x_b1 (if v34 = 0 then (some 62) else (some 60)) fun (v36 : Int) => (x_b1 (G10_expectSign v36 T31) fun (T38 : xU) => (x_b1 (G4_addStep 2 0 Lb32) fun (Lb40 : xU) => (x_b2 (G5_readSum T38 Lb40) fun (T42 : xU) (Lb43 : xU) => (x_b1 (if v34 = 0 then (some 4) else (some 3)) fun (v45 : Int) => (x_b1 (G4_addStep v45 0 Lb43) fun (Lb47 : xU) => (some (T42, Lb47)))))))))) else (x_b1 (G4_addStep 6 0 Lb) fun (Lb49 : xU) => (some (T29, Lb49))))) else (x_b1 (G4_addStep 5 0 Lb) fun (Lb51 : xU) => (some (T23, Lb51)))) fun (T25 : xU) (Lb26 : xU) => (some (T25, Lb26)))) else (if a < 6 then (x_b1 (G10_readNext T) fun (T53 : xU) => (x_b2 (if v1 = 0 then (x_b2 (R1 (x_add a 1) T53 Lb) fun (T58 : xU) (Lb59 : xU) => (x_b1 (G4_addStep 7 0 Lb59) fun (Lb61 : xU) => (some (T58, Lb61)))) else (x_b2 (R0 (x_add a 1) T53 Lb) fun (T63 : xU) (Lb64 : xU) => (x_b1 (G10_expectSign 41 T63) fun (T66 : xU) => (some (T66, Lb64))))) fun (T55 : xU) (Lb56 : xU) => (some (T55, Lb56)))) else (x_b1 (G10_refuse T) fun (T68 : xU) => (some (T68, Lb)))))) else (if a < 6 then (x_b1 (G10_readNext T) fun (T3 : xU) => (x_b2 (if v1 = 0 then (x_b2 (R1 (x_add a 1) T3 Lb) fun (T8 : xU) (Lb9 : xU) => (x_b1 (G4_addStep 7 0 Lb9) fun (Lb11 : xU) => (some (T8, Lb11)))) else (x_b2 (R0 (x_add a 1) T3 Lb) fun (T13 : xU) (Lb14 : xU) => (x_b1 (G10_expectSign 41 T13) fun (T16 : xU) => (some (T16, Lb14))))) fun (T5 : xU) (Lb6 : xU) => (some (T5, Lb6)))) else (x_b1 (G10_refuse T) fun (T18 : xU) => (some (T18, Lb))))))
def G5_rec : Nat → Nat → Int → xU → xU → Option (xU × xU)
  | 0, _, _, _, _ => none
  | n + 1, 0, a, T, Lb => G5_readAny_b (G5_rec n 0) (G5_rec n 1) a T Lb
  | n + 1, _, a, T, Lb => G5_readAtom_b (G5_rec n 0) (G5_rec n 1) a T Lb
def G5_readAny (a : Int) (T : xU) (Lb : xU) : Option (xU × xU) := G5_rec 20 0 a T Lb
def G5_readAtom (a : Int) (T : xU) (Lb : xU) : Option (xU × xU) := G5_rec 20 1 a T Lb
def G0_sharedOf (a : Int) (Br : xU) : Option Int :=
  (x_b1 (if a ≤ 0 then (some 0) else (if 128 ≤ a then (some 0) else (x_gd ((0 : Int) ≤ a ∧ a < 128) (some (Br 1 (a).toNat))))) fun (v1 : Int) => (some v1))
def G11_holdsBit (a : Int) (b : Int) : Option Int :=
  (x_b1 (if (x_and (x_shr a b) 1) = 0 then (some 0) else (some 1)) fun (v1 : Int) => (x_gd (v1 = 0 ∨ v1 = 1) (some v1)))
def G1_of (a : Int) (b : Int) (C : xU) : Option Int :=
  (x_b1 (if (x_add (x_mul a 7) b) < 0 then (some 0) else (if 56 ≤ (x_add (x_mul a 7) b) then (some 0) else (x_gd ((0 : Int) ≤ (x_add (x_mul a 7) b) ∧ (x_add (x_mul a 7) b) < 56) (some (C 1 ((x_add (x_mul a 7) b)).toNat))))) fun (v1 : Int) => (some v1))
def G0_sharedWith (a : Int) (b : Int) (c : Int) (N : xU) (Br : xU) : Option Int :=
  (x_b1 (G1_of 3 b N) fun (v1 : Int) => (x_b1 (G1_of 3 c N) fun (v3 : Int) => (x_b1 (G0_sharedOf (x_and (x_and a (x_xor (x_shl 1 b) (-1))) (x_xor (x_shl 1 c) (-1))) Br) fun (v5 : Int) => (some (x_add (x_bc (x_and v1 v3)) v5)))))
def G0_mostShared_L26 (N : xU) (v1 : Int) : Int → Option (Int ⊕ Int)
  | v6 => (if (N 0 3) ≤ v6 then (some (.inr v6)) else (x_b1 (G11_holdsBit v1 v6) fun (v10 : Int) => (if v10 = 0 then (some (.inl (x_add v6 1))) else (some (.inr v6)))))
def G0_mostShared_L70 (N : xU) (v1 : Int) (Br2 : xU) (v7 : Int) : (Int × Int) → Option ((Int × Int) ⊕ Int)
  | (v14, v15) => (if (N 0 3) ≤ v15 then (some (.inr v14)) else (x_b1 (G11_holdsBit v1 v15) fun (v19 : Int) => (x_b1 (if v19 = 0 then (some v14) else (x_b1 (G0_sharedWith v1 v7 v15 N Br2) fun (v23 : Int) => (some (max v14 v23)))) fun (v21 : Int) => (some (.inl (v21, (x_add v15 1)))))))
def G0_mostShared_L11 (N : xU) : (Int × xU) → Option ((Int × xU) ⊕ xU)
  | (v1, Br2) => (if (x_sub (x_shl 1 (N 0 3)) 1) < v1 then (some (.inr Br2)) else (if 128 ≤ v1 then (some (.inr Br2)) else (x_b1 (whl xFU (G0_mostShared_L26 N v1) 0) fun (v7 : Int) => (x_b1 (G0_sharedOf (x_and v1 (x_xor (x_shl 1 v7) (-1))) Br2) fun (v12 : Int) => (x_b1 (whl xFU (G0_mostShared_L70 N v1 Br2 v7) (v12, (x_add v7 1))) fun (v16 : Int) => (x_gd ((0 : Int) ≤ v1 ∧ v1 < 128) (some (.inl ((x_add v1 1), (x_up Br2 1 (v1).toNat v16))))))))))
def G0_mostShared (N : xU) (Br : xU) : Option (Int × xU) :=
  (x_b1 (whl xFU (G0_mostShared_L11 N) (0, Br)) fun (Br3 : xU) => (x_b1 (G0_sharedOf (x_sub (x_shl 1 (N 0 3)) 1) Br3) fun (v25 : Int) => (some (v25, Br3))))
def G0_firstPartner_L26 (a : Int) (b : Int) (N : xU) (Br : xU) : Int → Option (Int ⊕ (Unit ⊕ Int))
  | v5 => (if (N 0 3) ≤ v5 then (some (.inr (.inl ()))) else (x_b1 (G11_holdsBit a v5) fun (v8 : Int) => (if v8 = 0 then (some (.inl (x_add v5 1))) else (x_b1 (G0_sharedWith a b v5 N Br) fun (v10 : Int) => (x_b1 (G0_sharedOf a Br) fun (v12 : Int) => (if v10 = v12 then (some (.inr (.inr v5))) else (some (.inl (x_add v5 1)))))))))
def G0_firstPartner (a : Int) (b : Int) (N : xU) (Br : xU) : Option Int :=
  (x_b1 (G0_sharedOf (x_and a (x_xor (x_shl 1 b) (-1))) Br) fun (v1 : Int) => (x_b1 (G0_sharedOf a Br) fun (v3 : Int) => (if v1 = v3 then (some (-1)) else (x_lr (whl xFU (G0_firstPartner_L26 a b N Br) (x_add b 1)) (fun (q : Unit) => x_e1 q fun (_q : Unit) => (some (-1))) (fun (q : Int) => some q)))))
def G0_partnerOf_L18 (a : Int) (N : xU) (Br2 : xU) : (Int × Int) → Option ((Int × Int) ⊕ (Unit ⊕ (Int × xU)))
  | (v4, v5) => (if (N 0 3) ≤ v5 then (some (.inr (.inl ()))) else (x_b1 (G11_holdsBit v4 v5) fun (v8 : Int) => (if v8 = 0 then (some (.inl (v4, (x_add v5 1)))) else (x_b1 (G0_firstPartner v4 v5 N Br2) fun (v10 : Int) => (if v5 = a then (some (.inr (.inr (v10, Br2)))) else (if v10 = a then (some (.inr (.inr (v5, Br2)))) else (x_b1 (if v10 = (-1) then (some (x_and v4 (x_xor (x_shl 1 v5) (-1)))) else (some (x_and (x_and v4 (x_xor (x_shl 1 v5) (-1))) (x_xor (x_shl 1 v10) (-1))))) fun (v12 : Int) => (some (.inl (v12, (x_add v5 1)))))))))))
def G0_partnerOf (a : Int) (N : xU) (Br : xU) : Option (Int × xU) :=
  (x_b2 (G0_mostShared N Br) fun (v1 : Int) (Br2 : xU) => (x_lr (whl xFU (G0_partnerOf_L18 a N Br2) ((x_sub (x_shl 1 (N 0 3)) 1), 0)) (fun (q : Unit) => x_e1 q fun (_q : Unit) => (some ((-1), Br2))) (fun (q : (Int × xU)) => some q)))
def G1_isLost (a : Int) (C : xU) : Option Int :=
  (x_b1 (G1_of 4 a C) fun (v1 : Int) => (x_b1 (if v1 ≤ 0 then (some 0) else (some 1)) fun (v3 : Int) => (x_gd (v3 = 0 ∨ v3 = 1) (some v3))))
def G11_stepsApart (a : Int) (b : Int) : Option Int :=
  (some (min (x_mod (x_sub b a) 16) (x_sub 16 (x_mod (x_sub b a) 16))))
def G0_isWatched_L3 (a : Int) (b : Int) (N : xU) : Int → Option (Int ⊕ (Unit ⊕ Int))
  | v1 => (if (N 0 3) ≤ v1 then (some (.inr (.inl ()))) else (x_b1 (G11_holdsBit b v1) fun (v4 : Int) => (if v4 = 0 then (some (.inl (x_add v1 1))) else (x_b1 (G1_of 0 v1 N) fun (v6 : Int) => (x_b1 (G11_stepsApart v6 a) fun (v8 : Int) => (if 2 < v8 then (some (.inl (x_add v1 1))) else (some (.inr (.inr 1)))))))))
def G0_isWatched (a : Int) (b : Int) (N : xU) : Option Int :=
  (x_lr (whl xFU (G0_isWatched_L3 a b N) 0) (fun (q : Unit) => x_e1 q fun (_q : Unit) => (some 0)) (fun (q : Int) => some q))
def G0_watchesAll_L2 (a : Int) (N : xU) : Int → Option (Int ⊕ (Unit ⊕ Int))
  | v1 => (if (N 0 3) ≤ v1 then (some (.inr (.inl ()))) else (x_b1 (G11_holdsBit a v1) fun (v4 : Int) => (if v4 = 0 then (x_b1 (G1_of 0 v1 N) fun (v6 : Int) => (x_b1 (G0_isWatched v6 a N) fun (v8 : Int) => (if v8 = 0 then (some (.inr (.inr 0))) else (some (.inl (x_add v1 1)))))) else (x_b1 (G1_isLost v1 N) fun (v10 : Int) => (if v10 = 0 then (x_b1 (G1_of 0 v1 N) fun (v12 : Int) => (x_b1 (G0_isWatched v12 a N) fun (v14 : Int) => (if v14 = 0 then (some (.inr (.inr 0))) else (some (.inl (x_add v1 1)))))) else (some (.inr (.inr 0))))))))
def G0_watchesAll (a : Int) (N : xU) : Option Int :=
  (x_lr (whl xFU (G0_watchesAll_L2 a N) 0) (fun (q : Unit) => x_e1 q fun (_q : Unit) => (some 1)) (fun (q : Int) => some q))
def G0_fewestWatching_L8 (N : xU) : (Int × Int × Int) → Option ((Int × Int × Int) ⊕ Int)
  | (v1, v2, v3) => (if (x_shl 1 (N 0 3)) ≤ v3 then (some (.inr v1)) else (if 128 ≤ v3 then (some (.inr v1)) else (x_b2 (if v2 ≤ (x_bc v3) then (some (v1, v2)) else (x_b1 (G0_watchesAll v3 N) fun (v10 : Int) => (if v10 = 0 then (some (v1, v2)) else (some (v3, (x_bc v3)))))) fun (v7 : Int) (v8 : Int) => (some (.inl (v7, v8, (x_add v3 1)))))))
def G0_fewestWatching (N : xU) : Option Int :=
  (x_b1 (whl xFU (G0_fewestWatching_L8 N) ((-1), 8, 0)) fun (v4 : Int) => (some v4))
def G1_sumOf_L4 (a : Int) (C : xU) : (Int × Int) → Option ((Int × Int) ⊕ Int)
  | (v1, v2) => (if (C 0 3) ≤ v2 then (some (.inr v1)) else (x_b1 (G1_of a v2 C) fun (v6 : Int) => (some (.inl ((x_add v1 v6), (x_add v2 1))))))
def G1_sumOf (a : Int) (C : xU) : Option Int :=
  (x_b1 (whl xFU (G1_sumOf_L4 a C) (0, 0)) fun (v3 : Int) => (some v3))
def G0_carries_L5 (a : Int) (N : xU) : (Int × Int) → Option ((Int × Int) ⊕ Int)
  | (v1, v2) => (if (N 0 3) ≤ v2 then (some (.inr v1)) else (x_b1 (G11_holdsBit a v2) fun (v6 : Int) => (x_b1 (if v6 = 0 then (some v1) else (x_b1 (G1_of 7 v2 N) fun (v10 : Int) => (some (x_add v1 v10)))) fun (v8 : Int) => (some (.inl (v8, (x_add v2 1)))))))
def G0_carries (a : Int) (N : xU) : Option Int :=
  (x_b1 (whl xFU (G0_carries_L5 a N) (0, 0)) fun (v3 : Int) => (x_b1 (G1_sumOf 7 N) fun (v12 : Int) => (x_b1 (if v3 ≤ (x_sub v12 v3) then (some 0) else (some 1)) fun (v14 : Int) => (x_gd (v14 = 0 ∨ v14 = 1) (some v14)))))
def G0_swingsOf_L5 (a : Int) (N : xU) : (Int × Int) → Option ((Int × Int) ⊕ Int)
  | (v1, v2) => (if (x_shl 1 (N 0 3)) ≤ v2 then (some (.inr v1)) else (x_b1 (G11_holdsBit v2 a) fun (v6 : Int) => (x_b1 (if v6 = 0 then (some v1) else (x_b1 (G0_carries v2 N) fun (v10 : Int) => (if v10 = 0 then (some v1) else (x_b1 (G0_carries (x_and v2 (x_xor (x_shl 1 a) (-1))) N) fun (v12 : Int) => (if v12 = 0 then (some (x_add v1 1)) else (some v1)))))) fun (v8 : Int) => (some (.inl (v8, (x_add v2 1)))))))
def G0_swingsOf (a : Int) (N : xU) : Option Int :=
  (x_b1 (whl xFU (G0_swingsOf_L5 a N) (0, 0)) fun (v3 : Int) => (some v3))
def G0_mostSwinging_L7 (N : xU) : (Int × Int × Int) → Option ((Int × Int × Int) ⊕ Int)
  | (v1, v2, v3) => (if (N 0 3) ≤ v3 then (some (.inr v1)) else (x_b1 (G0_swingsOf v3 N) fun (v7 : Int) => (x_b2 (if v7 ≤ v2 then (some (v1, v2)) else (some (v3, v7))) fun (v9 : Int) (v10 : Int) => (some (.inl (v9, v10, (x_add v3 1)))))))
def G0_mostSwinging (N : xU) : Option Int :=
  (x_b1 (whl xFU (G0_mostSwinging_L7 N) ((-1), 0, 0)) fun (v4 : Int) => (some v4))
def G0_gainOfMonk (a : Int) (b : Int) (N : xU) : Option Int :=
  (if b = 0 then (some (x_neg (N 0 10))) else (x_b1 (if b = 1 then (x_b1 (G1_of 0 a N) fun (v3 : Int) => (x_b1 (G11_stepsApart v3 (N 0 7)) fun (v5 : Int) => (some v5))) else (some 0)) fun (v1 : Int) => (some v1)))
def G0_gainOfGardener (a : Int) : Option Int :=
  (if a = 0 then (some 3) else (if a = 1 then (some (-2)) else (if a = 2 then (some (-1)) else (some 0))))
def G0_restsOf_L5 (a : Int) (N : xU) : (Int × Int) → Option ((Int × Int) ⊕ Int)
  | (v1, v2) => (if 4 ≤ v2 then (some (.inr v1)) else (x_b1 (G0_gainOfMonk a v2 N) fun (v6 : Int) => (x_b1 (G0_gainOfMonk a (x_xor v2 2) N) fun (v8 : Int) => (x_b1 (if v6 < v8 then (some 0) else (some 1)) fun (v10 : Int) => (x_b1 (if v10 = 0 then (some v1) else (x_b1 (G0_gainOfGardener v2) fun (v14 : Int) => (x_b1 (G0_gainOfGardener (x_xor v2 1)) fun (v16 : Int) => (if v14 < v16 then (some v1) else (some (x_or v1 (x_shl 1 v2))))))) fun (v12 : Int) => (some (.inl (v12, (x_add v2 1)))))))))
def G0_restsOf (a : Int) (N : xU) : Option Int :=
  (x_b1 (whl xFU (G0_restsOf_L5 a N) (0, 0)) fun (v3 : Int) => (some v3))
def G1_put (a : Int) (b : Int) (c : Int) (C : xU) : Option xU :=
  (x_b1 (if (x_add (x_mul a 7) b) < 0 then (some C) else (if 56 ≤ (x_add (x_mul a 7) b) then (some C) else (x_gd ((0 : Int) ≤ (x_add (x_mul a 7) b) ∧ (x_add (x_mul a 7) b) < 56) (some (x_up C 1 ((x_add (x_mul a 7) b)).toNat c))))) fun (C1 : xU) => (some C1))
def G1_storeOf (a : Int) (C : xU) : Option Int :=
  (x_b1 (if a < 0 then (some 0) else (if 4 ≤ a then (some 0) else (x_gd ((0 : Int) ≤ a ∧ a < 4) (some (C 2 (a).toNat))))) fun (v1 : Int) => (some v1))
def G1_putStore (a : Int) (b : Int) (C : xU) : Option xU :=
  (x_b1 (if a < 0 then (some C) else (if 4 ≤ a then (some C) else (x_gd ((0 : Int) ≤ a ∧ a < 4) (some (x_up C 2 (a).toNat b))))) fun (C1 : xU) => (some C1))
def G1_addStore (a : Int) (b : Int) (C : xU) : Option xU :=
  (x_b1 (G1_storeOf a C) fun (v1 : Int) => (x_b1 (G1_putStore a (min 999 (x_add v1 b)) C) fun (C3 : xU) => (some C3)))
def G1_storeOfAll_L13 (C : xU) : (Int × Int) → Option ((Int × Int) ⊕ Int)
  | (v1, v2) => (if 4 ≤ v2 then (some (.inr v1)) else (x_gd ((0 : Int) ≤ v2 ∧ v2 < 4) (some (.inl ((x_add v1 (C 2 (v2).toNat)), (x_add v2 1))))))
def G1_storeOfAll (C : xU) : Option Int :=
  (x_b1 (whl xFU (G1_storeOfAll_L13 C) (0, 0)) fun (v3 : Int) => (some v3))
def G1_addMonk (a : Int) (b : Int) (c : Int) (d : Int) (C : xU) : Option xU :=
  (x_b1 (if 7 ≤ (C 0 3) then (some C) else (x_b1 (G1_put 0 (C 0 3) a C) fun (C3 : xU) => (x_b1 (G1_put 2 (C3 0 3) b C3) fun (C5 : xU) => (x_b1 (G1_put 1 (C5 0 3) c C5) fun (C7 : xU) => (x_b1 (G1_put 3 (C7 0 3) d C7) fun (C9 : xU) => (some (x_up C9 0 3 (x_add (C9 0 3) 1)))))))) fun (C1 : xU) => (some C1))
def G1_hasStall_L2 (a : Int) (C : xU) : Int → Option (Int ⊕ (Unit ⊕ Int))
  | v1 => (if (C 0 3) ≤ v1 then (some (.inr (.inl ()))) else (x_b1 (G1_of 2 v1 C) fun (v4 : Int) => (if v4 = a then (some (.inr (.inr 1))) else (some (.inl (x_add v1 1))))))
def G1_hasStall (a : Int) (C : xU) : Option Int :=
  (x_lr (whl xFU (G1_hasStall_L2 a C) 0) (fun (q : Unit) => x_e1 q fun (_q : Unit) => (some 0)) (fun (q : Int) => some q))
def G1_isAt (a : Int) (b : Int) (C : xU) : Option Int :=
  (x_b1 (G1_of 4 a C) fun (v1 : Int) => (x_b1 (if v1 = 0 then (x_b1 (G1_of 0 a C) fun (v5 : Int) => (if v5 = b then (some 1) else (some 0))) else (some 0)) fun (v3 : Int) => (x_gd (v3 = 0 ∨ v3 = 1) (some v3))))
def G1_doesLike (a : Int) (b : Int) (C : xU) : Option Int :=
  (x_b1 (G1_of 3 a C) fun (v1 : Int) => (x_b1 (G11_holdsBit v1 b) fun (v3 : Int) => (x_gd (v3 = 0 ∨ v3 = 1) (some v3))))
def G1_walkOf (a : Int) (C : xU) : Option Int :=
  (x_b1 (G1_of 0 a C) fun (v1 : Int) => (some (x_div v1 4)))
def G1_monksIn_L4 (a : Int) (C : xU) : (Int × Int) → Option ((Int × Int) ⊕ Int)
  | (v1, v2) => (if (C 0 3) ≤ v2 then (some (.inr v1)) else (x_b1 (G1_walkOf v2 C) fun (v6 : Int) => (x_b1 (if v6 = a then (some (x_add v1 1)) else (some v1)) fun (v8 : Int) => (some (.inl (v8, (x_add v2 1)))))))
def G1_monksIn (a : Int) (C : xU) : Option Int :=
  (x_b1 (whl xFU (G1_monksIn_L4 a C) (0, 0)) fun (v3 : Int) => (some v3))
def G1_seasonOf (a : Int) (C : xU) : Option Int :=
  (x_b1 (if (C 0 8) = 4 then (some (x_div a 4)) else (some (C 0 8))) fun (v1 : Int) => (some v1))
def G1_lagOf (a : Int) (C : xU) : Option Int :=
  (x_b1 (G1_sumOf 5 C) fun (v1 : Int) => (x_b1 (if v1 = 0 then (some 0) else (x_b1 (G1_of 5 a C) fun (v5 : Int) => (x_gd (v1 ≠ 0) (some (x_div (x_mul 100 v5) v1))))) fun (v3 : Int) => (some v3)))
def G1_farOf (a : Int) (b : Int) (C : xU) : Option Int :=
  (x_b1 (G11_stepsApart a b) fun (v1 : Int) => (some (min v1 (x_sub (x_add (max 1 (C 0 10)) 8) v1))))
def G1_shareOut_L12 (C2 : xU) : (Int × Int) → Option ((Int × Int) ⊕ Int)
  | (v6, v7) => (if 4 ≤ v7 then (some (.inr v6)) else (x_b1 (G1_storeOf v7 C2) fun (v11 : Int) => (x_b1 (G1_storeOf v6 C2) fun (v13 : Int) => (x_b1 (if v13 ≤ v11 then (some v6) else (some v7)) fun (v15 : Int) => (some (.inl (v15, (x_add v7 1))))))))
def G1_shareOut_L2 (a : Int) : (Int × xU) → Option ((Int × xU) ⊕ xU)
  | (v1, C2) => (if a ≤ v1 then (some (.inr C2)) else (x_b1 (whl xFU (G1_shareOut_L12 C2) (0, 1)) fun (v8 : Int) => (x_b1 (G1_addStore v8 1 C2) fun (C17 : xU) => (some (.inl ((x_add v1 1), C17))))))
def G1_shareOut (a : Int) (C : xU) : Option xU :=
  (x_b1 (whl xFU (G1_shareOut_L2 a) (0, C)) fun (C3 : xU) => (some C3))
def G4_lookAt (a : Int) (C : xU) (La : xU) : Option xU :=
  (x_b1 (G1_of 0 a C) fun (v1 : Int) => (x_b1 (G1_of 1 a C) fun (v3 : Int) => (x_b1 (G1_of 0 a C) fun (v5 : Int) => (x_b1 (G1_seasonOf v5 C) fun (v7 : Int) => (x_b1 (G1_of 5 a C) fun (v9 : Int) => (x_b1 (G1_of 2 a C) fun (v11 : Int) => (x_b1 (G1_of 6 a C) fun (v13 : Int) => (some (x_up (x_up (x_up (x_up (x_up (x_up (x_up (x_up La 5 0 a) 5 1 v1) 5 2 v3) 5 3 v7) 5 4 v9) 5 5 (C 0 5)) 5 6 v11) 5 7 v13)))))))))
def G4_holds_L11 (b : Int) (La : xU) : (Int × Int × Int × Int) → Option ((Int × Int × Int × Int) ⊕ Int)
  | (v1, v2, v3, v4) => (if v4 < 0 then (some (.inr v1)) else (if b ≤ v4 then (some (.inr v1)) else (if 400 ≤ v4 then (some (.inr v1)) else (x_gd ((0 : Int) ≤ v4 ∧ v4 < 400) (x_gd ((0 : Int) ≤ v4 ∧ v4 < 400) (x_b3 (if (x_and (La 4 (v4).toNat) 15) = 0 then (some (v1, (x_add v2 (x_shr (La 4 (v4).toNat) 4)), v3)) else (if (x_and (La 4 (v4).toNat) 15) = 1 then (x_b1 (if (x_shr (La 4 (v4).toNat) 4) < 0 then (some 0) else (if 8 ≤ (x_shr (La 4 (v4).toNat) 4) then (some 0) else (x_gd ((0 : Int) ≤ (x_shr (La 4 (v4).toNat) 4) ∧ (x_shr (La 4 (v4).toNat) 4) < 8) (some (La 5 ((x_shr (La 4 (v4).toNat) 4)).toNat))))) fun (v12 : Int) => (some (v1, (x_add v2 v12), v3))) else (if (x_and (La 4 (v4).toNat) 15) = 2 then (some (v1, 0, v2)) else (if (x_and (La 4 (v4).toNat) 15) = 3 then (x_b1 (if v2 ≤ v3 then (some 0) else (some 1)) fun (v14 : Int) => (some ((x_or (x_shl v1 1) v14), 0, v3))) else (if (x_and (La 4 (v4).toNat) 15) = 4 then (x_b1 (if v3 ≤ v2 then (some 0) else (some 1)) fun (v16 : Int) => (some ((x_or (x_shl v1 1) v16), 0, v3))) else (if (x_and (La 4 (v4).toNat) 15) = 5 then (x_b1 (if (x_rem (La 5 1) 4) = 0 then (some 1) else (some 0)) fun (v18 : Int) => (some ((x_or (x_shl v1 1) v18), v2, v3))) else (if (x_and (La 4 (v4).toNat) 15) = 6 then (x_b1 (if (La 5 7) ≤ 0 then (some 0) else (some 1)) fun (v20 : Int) => (some ((x_or (x_shl v1 1) v20), v2, v3))) else (if (x_and (La 4 (v4).toNat) 15) = 7 then (some ((x_xor v1 1), v2, v3)) else (if (x_and (La 4 (v4).toNat) 15) = 8 then (some ((x_and (x_shr v1 1) (x_or v1 (-2))), v2, v3)) else (some ((x_or (x_shr v1 1) (x_and v1 1)), v2, v3))))))))))) fun (v8 : Int) (v9 : Int) (v10 : Int) => (some (.inl (v8, v9, v10, (x_add v4 1))))))))))
def G4_holds (a : Int) (b : Int) (La : xU) : Option Int :=
  (x_b1 (whl xFU (G4_holds_L11 b La) (1, 0, 0, a)) fun (v5 : Int) => (x_b1 (if (x_and v5 1) = 0 then (some 0) else (some 1)) fun (v22 : Int) => (x_gd (v22 = 0 ∨ v22 = 1) (some v22))))
def G4_strideOf_L65 (La3 : xU) : (Int × Int × Int) → Option ((Int × Int × Int) ⊕ (Int ⊕ (Int × xU)))
  | (v5, v6, v7) => (if (La3 0 6) ≤ v7 then (some (.inr (.inl v5))) else (if 12 ≤ v7 then (some (.inr (.inl v5))) else (x_gd ((0 : Int) ≤ v7 ∧ v7 < 12) (x_b1 (G4_holds v6 (La3 3 (v7).toNat) La3) fun (v11 : Int) => (if v11 = 0 then (x_gd ((0 : Int) ≤ v7 ∧ v7 < 12) (some (.inl (v5, (La3 3 (v7).toNat), (x_add v7 1))))) else (x_gd ((0 : Int) ≤ v7 ∧ v7 < 12) (if (La3 1 (v7).toNat) = 2 then (some (.inr (.inr (0, La3)))) else (x_gd ((0 : Int) ≤ v7 ∧ v7 < 12) (x_b1 (if (La3 1 (v7).toNat) = 1 then (x_gd ((0 : Int) ≤ v7 ∧ v7 < 12) (some (La3 2 (v7).toNat))) else (x_gd ((0 : Int) ≤ v7 ∧ v7 < 12) (some (x_neg (La3 2 (v7).toNat))))) fun (v13 : Int) => (x_gd ((0 : Int) ≤ v7 ∧ v7 < 12) (some (.inl ((x_add v5 v13), (La3 3 (v7).toNat), (x_add v7 1))))))))))))))
def G4_strideOf (a : Int) (C : xU) (La : xU) : Option (Int × xU) :=
  (x_b1 (G1_of 1 a C) fun (v1 : Int) => (if (La 0 6) = (-1) then (x_b1 (G1_of 0 a C) fun (v15 : Int) => (x_b1 (G1_seasonOf v15 C) fun (v17 : Int) => (x_b1 (if v17 = 3 then (some 1) else (some 0)) fun (v19 : Int) => (x_b1 (if v19 = 0 then (some v1) else (some (max 0 (x_sub v1 1)))) fun (v21 : Int) => (some (v21, La)))))) else (x_b1 (G4_lookAt a C La) fun (La3 : xU) => (x_lr (whl xFU (G4_strideOf_L65 La3) (v1, 0, 0)) (fun (q : Int) => x_e1 q fun (v8 : Int) => (some ((min 15 (max 0 v8)), La3))) (fun (q : (Int × xU)) => some q)))))
def G6_add (a : Int) (b : Int) (c : Int) (d : Int) (e : Int) (C : xU) : Option xU :=
  (x_b1 (if (C 3 2) < 0 then (some C) else (if 60 ≤ (C 3 2) then (some C) else (x_gd ((0 : Int) ≤ (C 3 2) ∧ (C 3 2) < 60) (some (x_up (x_up (x_up C 4 ((C 3 2)).toNat (x_or (x_or (x_or (x_or (x_shl a 13) (x_shl b 8)) (x_shl c 7)) (x_shl d 4)) e)) 3 2 (x_rem (x_add ((x_up C 4 ((C 3 2)).toNat (x_or (x_or (x_or (x_or (x_shl a 13) (x_shl b 8)) (x_shl c 7)) (x_shl d 4)) e)) 3 2) 1) 60)) 3 1 (min 60 (x_add ((x_up (x_up C 4 ((C 3 2)).toNat (x_or (x_or (x_or (x_or (x_shl a 13) (x_shl b 8)) (x_shl c 7)) (x_shl d 4)) e)) 3 2 (x_rem (x_add ((x_up C 4 ((C 3 2)).toNat (x_or (x_or (x_or (x_or (x_shl a 13) (x_shl b 8)) (x_shl c 7)) (x_shl d 4)) e)) 3 2) 1) 60)) 3 1) 1))))))) fun (C1 : xU) => (some C1))
def G1_goOn (a : Int) (C : xU) (La : xU) : Option (xU × xU) :=
  (x_b1 (G1_isLost a C) fun (v1 : Int) => (if v1 = 0 then (x_b1 (G1_of 0 a C) fun (v3 : Int) => (x_b2 (G4_strideOf a C La) fun (v5 : Int) (La6 : xU) => (x_b1 (G1_put 0 a (x_rem (x_add v3 v5) 16) C) fun (C8 : xU) => (x_b1 (if (x_add v3 v5) < 16 then (some C8) else (x_b1 (G1_of 7 a C8) fun (v12 : Int) => (x_b1 (G1_put 7 a (min 999 (x_add v12 1)) C8) fun (C14 : xU) => (x_b1 (G6_add (C14 0 6) (C14 0 5) 1 a (x_rem (x_add v3 v5) 16) C14) fun (C16 : xU) => (some C16))))) fun (C10 : xU) => (some (C10, La6)))))) else (x_b1 (G1_of 4 a C) fun (v18 : Int) => (x_b1 (G1_put 4 a (x_sub v18 1) C) fun (C20 : xU) => (some (C20, La))))))
def G1_eat (a : Int) (C : xU) : Option xU :=
  (x_b1 (G1_isLost a C) fun (v1 : Int) => (if v1 = 0 then (x_b1 (G1_walkOf a C) fun (v3 : Int) => (x_b1 (G1_storeOf v3 C) fun (v5 : Int) => (x_b1 (if v5 ≤ 0 then (x_b1 (G1_of 6 a C) fun (v9 : Int) => (x_b1 (G1_put 6 a (min 99 (x_add v9 1)) C) fun (C11 : xU) => (some C11))) else (x_b1 (G1_addStore v3 (-1) C) fun (C13 : xU) => (x_b1 (G1_put 6 a 0 C13) fun (C15 : xU) => (some C15)))) fun (C7 : xU) => (some C7)))) else (some C)))
def G1_holdOffice_L4  : (Int × Int × xU) → Option ((Int × Int × xU) ⊕ (Int × xU))
  | (v1, v2, C3) => (if (C3 0 3) ≤ v2 then (some (.inr (v1, C3))) else (x_b1 (G1_isAt v2 (C3 0 7) C3) fun (v8 : Int) => (x_b2 (if v8 = 0 then (x_b1 (G1_of 5 v2 C3) fun (v13 : Int) => (x_b1 (G1_put 5 v2 (min 999 (x_add v13 1)) C3) fun (C15 : xU) => (x_b1 (G1_of 0 v2 C15) fun (v17 : Int) => (x_b1 (G6_add (C15 0 6) (C15 0 5) 0 v2 v17 C15) fun (C19 : xU) => (some ((x_or v1 (x_shl 1 v2)), C19)))))) else (some (v1, C3))) fun (v10 : Int) (C11 : xU) => (some (.inl (v10, (x_add v2 1), C11))))))
def G1_holdOffice (C : xU) : Option (Int × xU) :=
  (x_b2 (whl xFU G1_holdOffice_L4 (0, 0, C)) fun (v4 : Int) (C5 : xU) => (some (v4, C5)))
def G1_harvest_L2  : (Int × xU) → Option ((Int × xU) ⊕ xU)
  | (v1, C2) => (if 4 ≤ v1 then (some (.inr C2)) else (x_b1 (G1_seasonOf (x_mul v1 4) C2) fun (v6 : Int) => (x_b1 (if v6 = 1 then (x_b1 (G1_addStore v1 2 C2) fun (C10 : xU) => (some C10)) else (some C2)) fun (C8 : xU) => (some (.inl ((x_add v1 1), C8))))))
def G1_harvest (C : xU) : Option xU :=
  (x_b1 (whl xFU G1_harvest_L2 (0, C)) fun (C3 : xU) => (some C3))
def G1_draw (C : xU) : Option (Int × xU) :=
  (some ((x_and (x_ush ((x_up C 0 11 (x_add (x_mul 1103515245 (C 0 11)) 12345)) 0 11) 16) 32767), (x_up C 0 11 (x_add (x_mul 1103515245 (C 0 11)) 12345))))
def G1_turnClock (C : xU) : Option xU :=
  (x_b1 (if ((x_up C 0 5 (x_add (C 0 5) 1)) 0 5) < 24 then (some (x_up C 0 5 (x_add (C 0 5) 1))) else (some (x_up (x_up (x_up C 0 5 (x_add (C 0 5) 1)) 0 5 0) 0 6 (min 9999 (x_add ((x_up (x_up C 0 5 (x_add (C 0 5) 1)) 0 5 0) 0 6) 1))))) fun (C1 : xU) => (some C1))
def G1_passHour_L2  : (Int × xU × xU) → Option ((Int × xU × xU) ⊕ (xU × xU))
  | (v1, C2, La3) => (if (C2 0 3) ≤ v1 then (some (.inr (C2, La3))) else (x_b2 (G1_goOn v1 C2 La3) fun (C8 : xU) (La9 : xU) => (some (.inl ((x_add v1 1), C8, La9)))))
def G1_passHour_L24  : (Int × xU) → Option ((Int × xU) ⊕ xU)
  | (v11, C12) => (if (C12 0 3) ≤ v11 then (some (.inr C12)) else (x_b1 (G1_eat v11 C12) fun (C16 : xU) => (some (.inl ((x_add v11 1), C16)))))
def G1_passHour (a : Int) (C : xU) (La : xU) : Option (Int × xU × xU) :=
  (x_b2 (whl xFU G1_passHour_L2 (0, C, La)) fun (C4 : xU) (La5 : xU) => (x_b1 (whl xFU G1_passHour_L24 (0, C4)) fun (C13 : xU) => (x_b2 (if (x_rem (C13 0 5) 3) = 0 then (x_b2 (G1_holdOffice C13) fun (v21 : Int) (C22 : xU) => (some (v21, C22))) else (some (0, C13))) fun (v18 : Int) (C19 : xU) => (x_b1 (if a = 0 then (some C19) else (x_b2 (G1_draw C19) fun (v26 : Int) (C27 : xU) => (if (C27 0 9) ≤ (x_rem v26 100) then (some C27) else (x_b2 (G1_draw C27) fun (v29 : Int) (C30 : xU) => (some (x_up C30 0 8 (x_rem v29 5))))))) fun (C24 : xU) => (x_b1 (G1_harvest C24) fun (C32 : xU) => (x_b1 (G1_turnClock C32) fun (C34 : xU) => (some (v18, C34, La5))))))))
def G10_isEnd (T : xU) : Option Int :=
  (x_b1 (if (T 0 5) = 0 then (some 1) else (some 0)) fun (v1 : Int) => (x_gd (v1 = 0 ∨ v1 = 1) (some v1)))
def G10_startsLine (a : Int) (b : Int) (T : xU) : Option (Int × xU) :=
  (if a = 0 then (x_b1 (G10_readNext (x_up (x_up T 0 4 0) 0 7 (-1))) fun (T11 : xU) => (x_b1 (G10_isEnd T11) fun (v13 : Int) => (x_b1 (if v13 = 0 then (some 1) else (some 0)) fun (v15 : Int) => (x_gd (v15 = 0 ∨ v15 = 1) (some (v15, T11)))))) else (x_b1 (G10_isEnd T) fun (v1 : Int) => (if v1 = 0 then (x_b1 (G10_expectSign 59 T) fun (T3 : xU) => (x_b1 (if a < b then (some T3) else (x_b1 (G10_refuse T3) fun (T7 : xU) => (some T7))) fun (T5 : xU) => (x_b1 (G10_isRight T5) fun (v9 : Int) => (x_gd (v9 = 0 ∨ v9 = 1) (some (v9, T5)))))) else (some (0, T)))))
def G10_expectWord (w : Nat) (T : xU) : Option xU :=
  (x_b2 (G10_takeWord w T) fun (v1 : Int) (T2 : xU) => (x_b1 (if v1 = 0 then (x_b1 (G10_refuse T2) fun (T6 : xU) => (some T6)) else (some T2)) fun (T4 : xU) => (some T4)))
def G10_byteAt (a : Int) (T : xU) : Option Int :=
  (x_b1 (if a < 0 then (some (-1)) else (if (T 0 2) ≤ a then (some (-1)) else (if 400 ≤ a then (some (-1)) else (x_gd ((0 : Int) ≤ a ∧ a < 400) (some (T 1 (a).toNat)))))) fun (v1 : Int) => (some v1))
def G10_takeMonths_L19 (T1 : xU) : (Int × Int) → Option ((Int × Int) ⊕ (Int ⊕ (Int × xU)))
  | (v5, v6) => (if (T1 0 4) ≤ v6 then (some (.inr (.inl v5))) else (x_b1 (G10_byteAt v6 T1) fun (v10 : Int) => (if (x_sub v10 97) < 0 then (x_b1 (G10_refuse T1) fun (T12 : xU) => (some (.inr (.inr (0, T12))))) else (if 12 ≤ (x_sub v10 97) then (x_b1 (G10_refuse T1) fun (T14 : xU) => (some (.inr (.inr (0, T14))))) else (x_b1 (G11_holdsBit v5 (x_sub v10 97)) fun (v16 : Int) => (if v16 = 0 then (some (.inl ((x_or v5 (x_shl 1 (x_sub v10 97))), (x_add v6 1)))) else (x_b1 (G10_refuse T1) fun (T18 : xU) => (some (.inr (.inr (0, T18)))))))))))
def G10_takeMonths (T : xU) : Option (Int × xU) :=
  (x_b1 (if (T 0 5) = 2 then (some T) else (x_b1 (G10_refuse T) fun (T3 : xU) => (some T3))) fun (T1 : xU) => (x_lr (whl xFU (G10_takeMonths_L19 T1) (0, (T1 0 3))) (fun (q : Int) => x_e1 q fun (v7 : Int) => (x_b1 (G10_readNext T1) fun (T20 : xU) => (some (v7, T20)))) (fun (q : (Int × xU)) => some q)))
def G2_readMonk (T : xU) (Dr : xU) : Option (xU × xU) :=
  (if (Dr 0 3) < 7 then (x_b1 (G10_expectWord 0 T) fun (T1 : xU) => (x_b1 (G10_expectWord 1 T1) fun (T3 : xU) => (x_b2 (G10_takeNumber 15 T3) fun (v5 : Int) (T6 : xU) => (x_b1 (G10_expectWord 2 T6) fun (T8 : xU) => (x_b1 (G10_numberHere T8) fun (v10 : Int) => (x_b1 (G1_hasStall v10 Dr) fun (v12 : Int) => (x_b1 (if v12 = 0 then (some T8) else (x_b1 (G10_refuse T8) fun (T16 : xU) => (some T16))) fun (T14 : xU) => (x_b2 (G10_takeNumber 11 T14) fun (v18 : Int) (T19 : xU) => (x_b2 (G10_takeWord 3 T19) fun (v21 : Int) (T22 : xU) => (x_b2 (if v21 = 0 then (some (2, T22)) else (x_b2 (G10_takeNumber 8 T22) fun (v27 : Int) (T28 : xU) => (some (v27, T28)))) fun (v24 : Int) (T25 : xU) => (x_b2 (G10_takeWord 4 T25) fun (v30 : Int) (T31 : xU) => (x_b2 (if v30 = 0 then (some (0, T31)) else (x_b2 (G10_takeMonths T31) fun (v36 : Int) (T37 : xU) => (some (v36, T37)))) fun (v33 : Int) (T34 : xU) => (x_b1 (G1_addMonk v5 v18 v24 v33 Dr) fun (Dr39 : xU) => (some (T34, Dr39))))))))))))))) else (x_b1 (G10_refuse T) fun (T41 : xU) => (some (T41, Dr))))
def G10_takeSeason (T : xU) : Option (Int × xU) :=
  (x_b1 (G10_isWord 8 T) fun (v1 : Int) => (x_b1 (if v1 = 0 then (x_b1 (G10_isWord 9 T) fun (v5 : Int) => (if v5 = 0 then (x_b1 (G10_isWord 10 T) fun (v7 : Int) => (if v7 = 0 then (x_b1 (G10_isWord 11 T) fun (v9 : Int) => (if v9 = 0 then (some (-1)) else (some 3))) else (some 2))) else (some 1))) else (some 0)) fun (v3 : Int) => (x_b1 (if v3 = (-1) then (x_b1 (G10_refuse T) fun (T15 : xU) => (some T15)) else (x_b1 (G10_readNext T) fun (T13 : xU) => (some T13))) fun (T11 : xU) => (some (v3, T11)))))
def G10_takeMood (T : xU) : Option (Int × xU) :=
  (x_b2 (G10_takeWord 7 T) fun (v1 : Int) (T2 : xU) => (x_b2 (if v1 = 0 then (x_b2 (G10_takeSeason T2) fun (v7 : Int) (T8 : xU) => (some (v7, T8))) else (some (4, T2))) fun (v4 : Int) (T5 : xU) => (some (v4, T5))))
def G2_readLine (T : xU) (Dr : xU) : Option (xU × xU) :=
  (x_b1 (G10_isWord 0 T) fun (v1 : Int) => (x_b2 (if v1 = 0 then (x_b2 (G10_takeWord 5 T) fun (v6 : Int) (T7 : xU) => (if v6 = 0 then (x_b2 (G10_takeWord 6 T7) fun (v9 : Int) (T10 : xU) => (if v9 = 0 then (x_b2 (G10_takeWord 12 T10) fun (v12 : Int) (T13 : xU) => (if v12 = 0 then (x_b2 (G10_takeWord 13 T13) fun (v15 : Int) (T16 : xU) => (if v15 = 0 then (x_b2 (G10_takeWord 14 T16) fun (v18 : Int) (T19 : xU) => (if v18 = 0 then (x_b2 (G10_takeWord 15 T19) fun (v21 : Int) (T22 : xU) => (if v21 = 0 then (x_b2 (G10_takeWord 16 T22) fun (v24 : Int) (T25 : xU) => (if v24 = 0 then (x_b1 (G10_refuse T25) fun (T27 : xU) => (some (T27, Dr))) else (x_b2 (G10_takeNumber 999 T25) fun (v29 : Int) (T30 : xU) => (some (T30, (x_up Dr 0 6 v29)))))) else (x_b2 (G10_takeNumber 23 T22) fun (v32 : Int) (T33 : xU) => (some (T33, (x_up Dr 0 5 v32)))))) else (x_b2 (G10_takeSeason T19) fun (v35 : Int) (T36 : xU) => (x_b2 (G10_takeNumber 999 T36) fun (v38 : Int) (T39 : xU) => (x_b1 (G1_putStore v35 v38 Dr) fun (Dr41 : xU) => (some (T39, Dr41))))))) else (x_b2 (G10_takeNumber 20 T16) fun (v43 : Int) (T44 : xU) => (some (T44, (x_up Dr 0 10 v43)))))) else (x_b2 (G10_takeNumber 100 T13) fun (v46 : Int) (T47 : xU) => (some (T47, (x_up Dr 0 9 v46)))))) else (x_b2 (G10_takeMood T10) fun (v49 : Int) (T50 : xU) => (some (T50, (x_up Dr 0 8 v49)))))) else (x_b2 (G10_takeNumber 15 T7) fun (v52 : Int) (T53 : xU) => (some (T53, (x_up Dr 0 7 v52)))))) else (x_b2 (G2_readMonk T Dr) fun (T55 : xU) (Dr56 : xU) => (some (T55, Dr56)))) fun (T3 : xU) (Dr4 : xU) => (some (T3, Dr4))))
def G2_readInto_L2  : (Int × xU × xU) → Option ((Int × xU × xU) ⊕ (xU × xU))
  | (v1, T2, Dr3) => (if 14 < v1 then (some (.inr (T2, Dr3))) else (x_b2 (G10_startsLine v1 14 T2) fun (v8 : Int) (T9 : xU) => (if v8 = 0 then (some (.inr (T9, Dr3))) else (x_b2 (G2_readLine T9 Dr3) fun (T11 : xU) (Dr12 : xU) => (some (.inl ((x_add v1 1), T11, Dr12)))))))
def G2_readInto (T : xU) (Dr : xU) : Option (Int × xU × xU) :=
  (x_b2 (whl xFU G2_readInto_L2 (0, T, Dr)) fun (T4 : xU) (Dr5 : xU) => (some ((T4 0 7), T4, Dr5)))
def G3_look (N : xU) (Th : xU) : Option xU :=
  (x_b1 (G1_copyFrom Th N) fun (Th1 : xU) => (some Th1))
def G3_passHours_L3 (a : Int) (b : Int) : (Int × xU × xU) → Option ((Int × xU × xU) ⊕ (xU × xU))
  | (v1, Th2, La3) => (if a ≤ v1 then (some (.inr (Th2, La3))) else (x_b3 (G1_passHour b Th2 La3) fun (v8 : Int) (Th9 : xU) (La10 : xU) => (some (.inl ((x_add v1 1), Th9, La10)))))
def G3_passHours (a : Int) (b : Int) (Th : xU) (La : xU) : Option (xU × xU) :=
  (x_b2 (whl xFU (G3_passHours_L3 a b) (0, Th, La)) fun (Th4 : xU) (La5 : xU) => (some (Th4, La5)))
def G3_firstAt_L8 (a : Int) (b : Int) : (Int × xU × xU) → Option ((Int × xU × xU) ⊕ ((xU × xU) ⊕ (Int × xU × xU)))
  | (v3, Th4, La5) => (if 72 < v3 then (some (.inr (.inl (Th4, La5)))) else (x_b1 (G1_isAt a b Th4) fun (v10 : Int) => (if v10 = 0 then (x_b3 (G1_passHour 0 Th4 La5) fun (v12 : Int) (Th13 : xU) (La14 : xU) => (some (.inl ((x_add v3 1), Th13, La14)))) else (some (.inr (.inr (v3, Th4, La5)))))))
def G3_firstAt (a : Int) (b : Int) (N : xU) (Th : xU) (La : xU) : Option (Int × xU × xU) :=
  (x_b1 (G3_look N Th) fun (Th1 : xU) => (x_lr (whl xFU (G3_firstAt_L8 a b) (0, Th1, La)) (fun (q : (xU × xU)) => x_e2 q fun (Th6 : xU) (La7 : xU) => (some ((-1), Th6, La7))) (fun (q : (Int × xU × xU)) => some q)))
def G3_firstTogether_L8 (a : Int) (b : Int) : (Int × xU × xU) → Option ((Int × xU × xU) ⊕ ((xU × xU) ⊕ (Int × xU × xU)))
  | (v3, Th4, La5) => (if 72 < v3 then (some (.inr (.inl (Th4, La5)))) else (x_b1 (G1_isLost a Th4) fun (v10 : Int) => (if v10 = 0 then (x_b1 (G1_of 0 a Th4) fun (v16 : Int) => (x_b1 (G1_isAt b v16 Th4) fun (v18 : Int) => (if v18 = 0 then (x_b3 (G1_passHour 0 Th4 La5) fun (v20 : Int) (Th21 : xU) (La22 : xU) => (some (.inl ((x_add v3 1), Th21, La22)))) else (some (.inr (.inr (v3, Th4, La5))))))) else (x_b3 (G1_passHour 0 Th4 La5) fun (v12 : Int) (Th13 : xU) (La14 : xU) => (some (.inl ((x_add v3 1), Th13, La14)))))))
def G3_firstTogether (a : Int) (b : Int) (N : xU) (Th : xU) (La : xU) : Option (Int × xU × xU) :=
  (x_b1 (G3_look N Th) fun (Th1 : xU) => (x_lr (whl xFU (G3_firstTogether_L8 a b) (0, Th1, La)) (fun (q : (xU × xU)) => x_e2 q fun (Th6 : xU) (La7 : xU) => (some ((-1), Th6, La7))) (fun (q : (Int × xU × xU)) => some q)))
def G3_firstHunger_L7  : (Int × xU × xU) → Option ((Int × xU × xU) ⊕ ((xU × xU) ⊕ (Int × xU × xU)))
  | (v3, Th4, La5) => (if 72 < v3 then (some (.inr (.inl (Th4, La5)))) else (x_b1 (G1_sumOf 6 Th4) fun (v10 : Int) => (if v10 ≤ 0 then (x_b3 (G1_passHour 0 Th4 La5) fun (v12 : Int) (Th13 : xU) (La14 : xU) => (some (.inl ((x_add v3 1), Th13, La14)))) else (some (.inr (.inr (v3, Th4, La5)))))))
def G3_firstHunger (N : xU) (Th : xU) (La : xU) : Option (Int × xU × xU) :=
  (x_b1 (G3_look N Th) fun (Th1 : xU) => (x_lr (whl xFU G3_firstHunger_L7 (0, Th1, La)) (fun (q : (xU × xU)) => x_e2 q fun (Th6 : xU) (La7 : xU) => (some ((-1), Th6, La7))) (fun (q : (Int × xU × xU)) => some q)))
def G3_countLate_L2 (a : Int) : (Int × xU) → Option ((Int × xU) ⊕ xU)
  | (v1, Fo2) => (if 7 ≤ v1 then (some (.inr Fo2)) else (x_b1 (G11_holdsBit a v1) fun (v6 : Int) => (x_b1 (if v6 = 0 then (some Fo2) else (x_gd ((0 : Int) ≤ v1 ∧ v1 < 7) (x_gd ((0 : Int) ≤ v1 ∧ v1 < 7) (some (x_up Fo2 1 (v1).toNat (x_add (Fo2 1 (v1).toNat) 1)))))) fun (Fo8 : xU) => (some (.inl ((x_add v1 1), Fo8))))))
def G3_countLate (a : Int) (Fo : xU) : Option (Int × xU) :=
  (x_b1 (whl xFU (G3_countLate_L2 a) (0, Fo)) fun (Fo3 : xU) => (some ((x_bc a), Fo3)))
def G3_passOffices_L2  : (Int × xU) → Option ((Int × xU) ⊕ xU)
  | (v1, Fo2) => (if 7 ≤ v1 then (some (.inr Fo2)) else (x_gd ((0 : Int) ≤ v1 ∧ v1 < 7) (some (.inl ((x_add v1 1), (x_up Fo2 1 (v1).toNat 0))))))
def G3_passOffices_L29 (a : Int) : (Int × Int × Int × xU × xU × xU) → Option ((Int × Int × Int × xU × xU × xU) ⊕ (Int × xU × xU × xU))
  | (v6, v7, v8, Th9, La10, Fo11) => (if 27 ≤ v8 then (some (.inr (v7, Th9, La10, Fo11))) else (if a ≤ v6 then (some (.inr (v7, Th9, La10, Fo11))) else (x_b1 (if (x_rem (Th9 0 5) 3) = 0 then (some (x_add v6 1)) else (some v6)) fun (v18 : Int) => (x_b3 (G1_passHour 0 Th9 La10) fun (v20 : Int) (Th21 : xU) (La22 : xU) => (x_b2 (G3_countLate v20 Fo11) fun (v24 : Int) (Fo25 : xU) => (some (.inl (v18, (x_add v7 v24), (x_add v8 1), Th21, La22, Fo25))))))))
def G3_passOffices (a : Int) (Th : xU) (La : xU) (Fo : xU) : Option (Int × xU × xU × xU) :=
  (x_b1 (whl xFU G3_passOffices_L2 (0, Fo)) fun (Fo3 : xU) => (x_b4 (whl xFU (G3_passOffices_L29 a) (0, 0, 0, Th, La, Fo3)) fun (v12 : Int) (Th13 : xU) (La14 : xU) (Fo15 : xU) => (some (v12, Th13, La14, Fo15))))
def G3_mostLate_L6 (Fo : xU) : (Int × Int × Int) → Option ((Int × Int × Int) ⊕ Int)
  | (v1, v2, v3) => (if 7 ≤ v3 then (some (.inr v1)) else (x_gd ((0 : Int) ≤ v3 ∧ v3 < 7) (x_b2 (if (Fo 1 (v3).toNat) ≤ v2 then (some (v1, v2)) else (x_gd ((0 : Int) ≤ v3 ∧ v3 < 7) (some (v3, (Fo 1 (v3).toNat))))) fun (v7 : Int) (v8 : Int) => (some (.inl (v7, v8, (x_add v3 1)))))))
def G3_mostLate (Fo : xU) : Option Int :=
  (x_b1 (whl xFU (G3_mostLate_L6 Fo) ((-1), 0, 0)) fun (v4 : Int) => (some v4))
def G3_bestChoice_L10 (a : Int) (N : xU) : (Int × Int × Int × xU × xU × xU) → Option ((Int × Int × Int × xU × xU × xU) ⊕ (Int × xU × xU × xU))
  | (v1, v2, v3, Th4, La5, Fo6) => (x_b1 (if a = 0 then (some 16) else (some 5)) fun (v13 : Int) => (if v13 ≤ v3 then (some (.inr (v1, Th4, La5, Fo6))) else (x_b1 (G3_look N Th4) fun (Th15 : xU) => (x_b1 (if a = 0 then (some (x_up Th15 0 7 v3)) else (some (x_up Th15 0 8 v3))) fun (Th17 : xU) => (x_b4 (G3_passOffices 8 Th17 La5 Fo6) fun (v19 : Int) (Th20 : xU) (La21 : xU) (Fo22 : xU) => (x_b2 (if v2 ≤ v19 then (some (v1, v2)) else (some (v3, v19))) fun (v24 : Int) (v25 : Int) => (some (.inl (v24, v25, (x_add v3 1), Th20, La21, Fo22)))))))))
def G3_bestChoice (a : Int) (N : xU) (Th : xU) (La : xU) (Fo : xU) : Option (Int × xU × xU × xU) :=
  (x_b4 (whl xFU (G3_bestChoice_L10 a N) (0, 1000000, 0, Th, La, Fo)) fun (v7 : Int) (Th8 : xU) (La9 : xU) (Fo10 : xU) => (some (v7, Th8, La9, Fo10)))
def G3_spanOf_L10 (a : Int) (N : xU) : (Int × Int × Int × xU × xU) → Option ((Int × Int × Int × xU × xU) ⊕ (Int × Int × xU × xU))
  | (v1, v2, v3, Th4, La5) => (if 6 < v3 then (some (.inr (v1, v2, Th4, La5))) else (x_b1 (G3_look N Th4) fun (Th12 : xU) => (x_b2 (G3_passHours a 1 (x_up Th12 0 11 v3) La5) fun (Th14 : xU) (La15 : xU) => (x_b1 (G1_sumOf 5 Th14) fun (v17 : Int) => (some (.inl ((min v1 v17), (max v2 v17), (x_add v3 1), Th14, La15)))))))
def G3_spanOf (a : Int) (b : Int) (N : xU) (Th : xU) (La : xU) : Option (Int × xU × xU) :=
  (x_b4 (whl xFU (G3_spanOf_L10 a N) (1000000, 0, 1, Th, La)) fun (v6 : Int) (v7 : Int) (Th8 : xU) (La9 : xU) => (x_b1 (if b = 0 then (some v6) else (some v7)) fun (v19 : Int) => (some (v19, Th8, La9))))
def G3_oddsOf_L3  : (Int × xU) → Option ((Int × xU) ⊕ xU)
  | (v1, Fo2) => (if 6 < v1 then (some (.inr Fo2)) else (x_b1 (if v1 = 0 then (some 1) else (some 0)) fun (v6 : Int) => (x_gd ((0 : Int) ≤ v1 ∧ v1 < 7) (some (.inl ((x_add v1 1), (x_up Fo2 2 (v1).toNat v6)))))))
def G3_oddsOf_L46 (N : xU) : (Int × xU) → Option ((Int × xU) ⊕ xU)
  | (v13, Fo14) => (if v13 < 0 then (some (.inr Fo14)) else (x_b1 (if v13 ≤ 0 then (some 0) else (x_gd ((0 : Int) ≤ (x_sub v13 1) ∧ (x_sub v13 1) < 7) (some (Fo14 2 ((x_sub v13 1)).toNat)))) fun (v18 : Int) => (x_gd ((0 : Int) ≤ v13 ∧ v13 < 7) (x_gd ((0 : Int) ≤ v13 ∧ v13 < 7) (some (.inl ((x_add v13 (-1)), (x_up Fo14 2 (v13).toNat (x_ladd (x_lmul (Fo14 2 (v13).toNat) (x_i2l (x_sub 100 (N 0 9)))) (x_lmul v18 (x_i2l (N 0 9))))))))))))
def G3_oddsOf_L36 (a : Int) (N : xU) : (Int × xU) → Option ((Int × xU) ⊕ xU)
  | (v8, Fo9) => (if a ≤ v8 then (some (.inr Fo9)) else (x_b1 (whl xFU (G3_oddsOf_L46 N) (6, Fo9)) fun (Fo15 : xU) => (some (.inl ((x_add v8 1), Fo15)))))
def G3_oddsOf_L122 (b : Int) (Fo10 : xU) : (Int × Int) → Option ((Int × Int) ⊕ Int)
  | (v20, v21) => (if v21 < b then (some (.inr v20)) else (if v21 < 0 then (some (.inr v20)) else (x_gd ((0 : Int) ≤ v21 ∧ v21 < 7) (some (.inl ((x_ladd v20 (x_lmul 10000 (Fo10 2 (v21).toNat))), (x_add v21 (-1))))))))
def G3_oddsOf_L158 (a : Int) : (Int × Int) → Option ((Int × Int) ⊕ Int)
  | (v25, v26) => (if a ≤ v26 then (some (.inr v25)) else (some (.inl ((x_ldiv v25 100), (x_add v26 1)))))
def G3_oddsOf (a : Int) (b : Int) (N : xU) (Fo : xU) : Option (Int × xU) :=
  (x_b1 (whl xFU G3_oddsOf_L3 (0, Fo)) fun (Fo3 : xU) => (x_b1 (whl xFU (G3_oddsOf_L36 a N) (0, Fo3)) fun (Fo10 : xU) => (x_b1 (whl xFU (G3_oddsOf_L122 b Fo10) (0, 6)) fun (v22 : Int) => (x_b1 (whl xFU (G3_oddsOf_L158 a) (v22, 0)) fun (v27 : Int) => (some ((x_l2i v27), Fo10))))))
def G4_clear (Lb : xU) : Option xU :=
  (some (x_up (x_up Lb 0 6 0) 0 5 0))
def G4_copyFrom (P : xU) (Q : xU) : Option xU :=
  (some (x_up (x_up (x_cp (x_cp (x_cp (x_cp P 1 Q 1 12) 2 Q 2 12) 3 Q 3 12) 4 Q 4 400) 0 5 (Q 0 5)) 0 6 (Q 0 6)))
def G4_addLine (a : Int) (b : Int) (Lb : xU) : Option xU :=
  (x_b1 (if (Lb 0 6) < 0 then (some Lb) else (if 12 ≤ (Lb 0 6) then (some Lb) else (x_gd ((0 : Int) ≤ (Lb 0 6) ∧ (Lb 0 6) < 12) (x_gd ((0 : Int) ≤ ((x_up Lb 1 ((Lb 0 6)).toNat a) 0 6) ∧ ((x_up Lb 1 ((Lb 0 6)).toNat a) 0 6) < 12) (x_gd ((0 : Int) ≤ ((x_up (x_up Lb 1 ((Lb 0 6)).toNat a) 2 (((x_up Lb 1 ((Lb 0 6)).toNat a) 0 6)).toNat b) 0 6) ∧ ((x_up (x_up Lb 1 ((Lb 0 6)).toNat a) 2 (((x_up Lb 1 ((Lb 0 6)).toNat a) 0 6)).toNat b) 0 6) < 12) (some (x_up (x_up (x_up (x_up Lb 1 ((Lb 0 6)).toNat a) 2 (((x_up Lb 1 ((Lb 0 6)).toNat a) 0 6)).toNat b) 3 (((x_up (x_up Lb 1 ((Lb 0 6)).toNat a) 2 (((x_up Lb 1 ((Lb 0 6)).toNat a) 0 6)).toNat b) 0 6)).toNat ((x_up (x_up Lb 1 ((Lb 0 6)).toNat a) 2 (((x_up Lb 1 ((Lb 0 6)).toNat a) 0 6)).toNat b) 0 5)) 0 6 (x_add ((x_up (x_up (x_up Lb 1 ((Lb 0 6)).toNat a) 2 (((x_up Lb 1 ((Lb 0 6)).toNat a) 0 6)).toNat b) 3 (((x_up (x_up Lb 1 ((Lb 0 6)).toNat a) 2 (((x_up Lb 1 ((Lb 0 6)).toNat a) 0 6)).toNat b) 0 6)).toNat ((x_up (x_up Lb 1 ((Lb 0 6)).toNat a) 2 (((x_up Lb 1 ((Lb 0 6)).toNat a) 0 6)).toNat b) 0 5)) 0 6) 1)))))))) fun (Lb1 : xU) => (some Lb1))
def G5_readLine (T : xU) (Lb : xU) : Option (xU × xU) :=
  (x_b2 (G10_takeWord 17 T) fun (v1 : Int) (T2 : xU) => (x_b3 (if v1 = 0 then (x_b2 (G10_takeWord 18 T2) fun (v8 : Int) (T9 : xU) => (if v8 = 0 then (x_b1 (G10_expectWord 19 T9) fun (T11 : xU) => (some (2, 0, T11))) else (x_b2 (G10_takeNumber 20 T9) fun (v13 : Int) (T14 : xU) => (some (1, v13, T14))))) else (x_b2 (G10_takeNumber 20 T2) fun (v16 : Int) (T17 : xU) => (some (0, v16, T17)))) fun (v4 : Int) (v5 : Int) (T6 : xU) => (x_b1 (G10_isRight T6) fun (v19 : Int) => (x_b2 (if v19 = 0 then (some (T6, Lb)) else (x_b2 (G10_takeWord 20 T6) fun (v24 : Int) (T25 : xU) => (if v24 = 0 then (some (T25, Lb)) else (x_b2 (G5_readAny 0 T25 Lb) fun (T27 : xU) (Lb28 : xU) => (some (T27, Lb28)))))) fun (T21 : xU) (Lb22 : xU) => (x_b1 (G4_addLine v4 v5 Lb22) fun (Lb30 : xU) => (some (T21, Lb30)))))))
def G5_readInto_L6  : (Int × xU × xU) → Option ((Int × xU × xU) ⊕ (xU × xU))
  | (v3, T4, Lb5) => (if 12 < v3 then (some (.inr (T4, Lb5))) else (x_b2 (G10_startsLine v3 12 T4) fun (v10 : Int) (T11 : xU) => (if v10 = 0 then (some (.inr (T11, Lb5))) else (x_b2 (G5_readLine T11 Lb5) fun (T13 : xU) (Lb14 : xU) => (some (.inl ((x_add v3 1), T13, Lb14)))))))
def G5_readInto (T : xU) (Lb : xU) : Option (Int × xU × xU) :=
  (x_b1 (G4_clear Lb) fun (Lb1 : xU) => (x_b2 (whl xFU G5_readInto_L6 (0, T, Lb1)) fun (T6 : xU) (Lb7 : xU) => (some ((T6 0 7), T6, Lb7))))
def G6_told (a : Int) (b : Int) (C : xU) : Option Int :=
  (if a < 0 then (some (-1)) else (if a < (C 3 1) then (x_gd ((0 : Int) ≤ (x_mod (x_sub (x_sub (C 3 2) 1) a) 60) ∧ (x_mod (x_sub (x_sub (C 3 2) 1) a) 60) < 60) (if b = 0 then (some (x_shr (C 4 ((x_mod (x_sub (x_sub (C 3 2) 1) a) 60)).toNat) 13)) else (if b = 1 then (some (x_and (x_shr (C 4 ((x_mod (x_sub (x_sub (C 3 2) 1) a) 60)).toNat) 8) 31)) else (if b = 2 then (some (x_and (x_shr (C 4 ((x_mod (x_sub (x_sub (C 3 2) 1) a) 60)).toNat) 7) 1)) else (if b = 3 then (some (x_and (x_shr (C 4 ((x_mod (x_sub (x_sub (C 3 2) 1) a) 60)).toNat) 4) 7)) else (some (x_and (C 4 ((x_mod (x_sub (x_sub (C 3 2) 1) a) 60)).toNat) 15))))))) else (some (-1))))
def G6_rowsOf_L4 (a : Int) (C : xU) : (Int × Int) → Option ((Int × Int) ⊕ Int)
  | (v1, v2) => (if (C 3 1) ≤ v2 then (some (.inr v1)) else (x_b1 (G6_told v2 3 C) fun (v6 : Int) => (x_b1 (if v6 = a then (some (x_add v1 1)) else (some v1)) fun (v8 : Int) => (some (.inl (v8, (x_add v2 1)))))))
def G6_rowsOf (a : Int) (C : xU) : Option Int :=
  (x_b1 (whl xFU (G6_rowsOf_L4 a C) (0, 0)) fun (v3 : Int) => (some v3))
def G6_latestFlagOf_L2 (a : Int) (C : xU) : Int → Option (Int ⊕ (Unit ⊕ Int))
  | v1 => (if (C 3 1) ≤ v1 then (some (.inr (.inl ()))) else (x_b1 (G6_told v1 3 C) fun (v4 : Int) => (if v4 = a then (x_b1 (G6_told v1 4 C) fun (v6 : Int) => (some (.inr (.inr v6)))) else (some (.inl (x_add v1 1))))))
def G6_latestFlagOf (a : Int) (C : xU) : Option Int :=
  (x_lr (whl xFU (G6_latestFlagOf_L2 a C) 0) (fun (q : Unit) => x_e1 q fun (_q : Unit) => (some (-1))) (fun (q : Int) => some q))
def G7_answerOf (a : Int) (b : Int) (Ri : xU) : Option Int :=
  (if (Ri 0 4) = 0 then (some (x_rem (x_add (x_mul (x_div a 5) b) (x_rem a 5)) 5)) else (x_b1 (if (x_rem (x_add (x_div a 9) (x_mul b (x_rem a 9))) 16) = (Ri 0 5) then (some 1) else (some 0)) fun (v1 : Int) => (some v1)))
def G7_doesFit_L2 (a : Int) (Ri : xU) : Int → Option (Int ⊕ (Unit ⊕ Int))
  | v1 => (if (Ri 0 3) ≤ (x_add v1 1) then (some (.inr (.inl ()))) else (if 40 ≤ (x_add v1 1) then (some (.inr (.inl ()))) else (x_gd ((0 : Int) ≤ v1 ∧ v1 < 40) (x_b1 (G7_answerOf a (Ri 1 (v1).toNat) Ri) fun (v4 : Int) => (x_gd ((0 : Int) ≤ (x_add v1 1) ∧ (x_add v1 1) < 40) (if v4 = (Ri 1 ((x_add v1 1)).toNat) then (some (.inl (x_add v1 2))) else (some (.inr (.inr 0)))))))))
def G7_doesFit (a : Int) (Ri : xU) : Option Int :=
  (x_lr (whl xFU (G7_doesFit_L2 a Ri) 0) (fun (q : Unit) => x_e1 q fun (_q : Unit) => (some 1)) (fun (q : Int) => some q))
def G7_findFitting_L7  : (Int × xU) → Option ((Int × xU) ⊕ xU)
  | (v1, Ri2) => (if (Ri2 0 6) ≤ v1 then (some (.inr Ri2)) else (if 144 ≤ v1 then (some (.inr Ri2)) else (x_b1 (G7_doesFit v1 Ri2) fun (v6 : Int) => (x_gd ((0 : Int) ≤ v1 ∧ v1 < 144) (x_gd (v6 = 0 ∨ v6 = 1) (x_gd ((0 : Int) ≤ v1 ∧ v1 < 144) (x_b1 (if ((x_up Ri2 2 (v1).toNat v6) 2 (v1).toNat) = 0 then (some (x_up Ri2 2 (v1).toNat v6)) else (some (x_up (x_up Ri2 2 (v1).toNat v6) 0 7 (x_add ((x_up Ri2 2 (v1).toNat v6) 0 7) 1)))) fun (Ri8 : xU) => (some (.inl ((x_add v1 1), Ri8))))))))))
def G7_findFitting (Ri : xU) : Option xU :=
  (x_b1 (whl xFU G7_findFitting_L7 (0, (x_up Ri 0 7 0))) fun (Ri3 : xU) => (some Ri3))
def G7_readRows_L27 (a : Int) (T : xU) : (Int × xU) → Option ((Int × xU) ⊕ (xU ⊕ (Int × xU)))
  | (v1, Ri2) => (if (T 0 2) ≤ v1 then (some (.inr (.inl Ri2))) else (if 40 ≤ v1 then (some (.inr (.inl Ri2))) else (x_b1 (G10_byteAt v1 T) fun (v6 : Int) => (x_gd ((0 : Int) ≤ v1 ∧ v1 < 40) (x_gd ((0 : Int) ≤ v1 ∧ v1 < 40) (if ((x_up Ri2 1 (v1).toNat v6) 1 (v1).toNat) < 0 then (some (.inr (.inr (0, (x_up Ri2 1 (v1).toNat v6))))) else (x_gd ((0 : Int) ≤ v1 ∧ v1 < 40) (x_b1 (if (x_rem v1 2) = 0 then (some 23) else (some a)) fun (v8 : Int) => (if ((x_up Ri2 1 (v1).toNat v6) 1 (v1).toNat) ≤ v8 then (some (.inl ((x_add v1 1), (x_up (x_up Ri2 1 (v1).toNat v6) 0 3 (x_add ((x_up Ri2 1 (v1).toNat v6) 0 3) 1))))) else (some (.inr (.inr (0, (x_up Ri2 1 (v1).toNat v6))))))))))))))
def G7_readRows (a : Int) (T : xU) (Ri : xU) : Option (Int × xU) :=
  (if 40 < (T 0 2) then (some (0, (x_up Ri 0 3 0))) else (if (x_rem (T 0 2) 2) = 0 then (x_lr (whl xFU (G7_readRows_L27 a T) (0, (x_up Ri 0 3 0))) (fun (q : xU) => x_e1 q fun (Ri3 : xU) => (x_b1 (G7_findFitting Ri3) fun (Ri10 : xU) => (some (1, Ri10)))) (fun (q : (Int × xU)) => some q)) else (some (0, (x_up Ri 0 3 0)))))
def G7_readWalk (a : Int) (T : xU) (Ri : xU) : Option (Int × xU) :=
  (x_b2 (G7_readRows 1 T (x_up (x_up (x_up Ri 0 4 1) 0 5 a) 0 6 144)) fun (v1 : Int) (Ri2 : xU) => (x_gd (v1 = 0 ∨ v1 = 1) (some (v1, Ri2))))
def G7_readRule (T : xU) (Ri : xU) : Option (Int × xU) :=
  (x_b2 (G7_readRows 4 T (x_up (x_up Ri 0 4 0) 0 6 25)) fun (v1 : Int) (Ri2 : xU) => (x_gd (v1 = 0 ∨ v1 = 1) (some (v1, Ri2))))
def G7_beginnings_L4 (Ri : xU) : (Int × Int) → Option ((Int × Int) ⊕ Int)
  | (v1, v2) => (if 144 ≤ v2 then (some (.inr v1)) else (x_gd ((0 : Int) ≤ v2 ∧ v2 < 144) (x_b1 (if (Ri 2 (v2).toNat) = 0 then (some v1) else (some (x_or v1 (x_shl 1 (x_div v2 9))))) fun (v6 : Int) => (some (.inl (v6, (x_add v2 1)))))))
def G7_beginnings (Ri : xU) : Option Int :=
  (x_b1 (whl xFU (G7_beginnings_L4 Ri) (0, 0)) fun (v3 : Int) => (some v3))
def G7_firstFitting_L2 (Ri : xU) : Int → Option (Int ⊕ (Unit ⊕ Int))
  | v1 => (if (Ri 0 6) ≤ v1 then (some (.inr (.inl ()))) else (if 144 ≤ v1 then (some (.inr (.inl ()))) else (x_gd ((0 : Int) ≤ v1 ∧ v1 < 144) (if (Ri 2 (v1).toNat) = 0 then (some (.inl (x_add v1 1))) else (some (.inr (.inr v1)))))))
def G7_firstFitting (Ri : xU) : Option Int :=
  (x_lr (whl xFU (G7_firstFitting_L2 Ri) 0) (fun (q : Unit) => x_e1 q fun (_q : Unit) => (some (-1))) (fun (q : Int) => some q))
def G7_greatestPart_L2  : (Int × xU) → Option ((Int × xU) ⊕ xU)
  | (v1, Ri2) => (if 5 ≤ v1 then (some (.inr Ri2)) else (x_gd ((0 : Int) ≤ v1 ∧ v1 < 5) (some (.inl ((x_add v1 1), (x_up Ri2 3 (v1).toNat 0))))))
def G7_greatestPart_L24 (a : Int) : (Int × Int × xU) → Option ((Int × Int × xU) ⊕ (Int × xU))
  | (v6, v7, Ri8) => (if (Ri8 0 6) ≤ v7 then (some (.inr (v6, Ri8))) else (if 144 ≤ v7 then (some (.inr (v6, Ri8))) else (x_b1 (G7_answerOf v7 a Ri8) fun (v13 : Int) => (x_gd ((0 : Int) ≤ v7 ∧ v7 < 144) (x_b2 (if (Ri8 2 (v7).toNat) = 0 then (some (v6, Ri8)) else (if v13 < 0 then (some (v6, Ri8)) else (if 5 ≤ v13 then (some (v6, Ri8)) else (x_gd ((0 : Int) ≤ v13 ∧ v13 < 5) (x_gd ((0 : Int) ≤ v13 ∧ v13 < 5) (x_gd ((0 : Int) ≤ v13 ∧ v13 < 5) (some ((max v6 ((x_up Ri8 3 (v13).toNat (x_add (Ri8 3 (v13).toNat) 1)) 3 (v13).toNat)), (x_up Ri8 3 (v13).toNat (x_add (Ri8 3 (v13).toNat) 1)))))))))) fun (v15 : Int) (Ri16 : xU) => (some (.inl (v15, (x_add v7 1), Ri16))))))))
def G7_greatestPart (a : Int) (Ri : xU) : Option (Int × xU) :=
  (x_b1 (whl xFU G7_greatestPart_L2 (0, Ri)) fun (Ri3 : xU) => (x_b2 (whl xFU (G7_greatestPart_L24 a) (0, 0, Ri3)) fun (v9 : Int) (Ri10 : xU) => (some (v9, Ri10))))
def G7_bestHour_L17  : (Int × Int × Int × xU) → Option ((Int × Int × Int × xU) ⊕ (Int × xU))
  | (v1, v2, v3, Ri4) => (if 24 ≤ v3 then (some (.inr (v1, Ri4))) else (x_b2 (G7_greatestPart v3 Ri4) fun (v9 : Int) (Ri10 : xU) => (x_b2 (if v2 ≤ v9 then (some (v1, v2)) else (some (v3, v9))) fun (v12 : Int) (v13 : Int) => (some (.inl (v12, v13, (x_add v3 1), Ri10))))))
def G7_bestHour (Ri : xU) : Option (Int × xU) :=
  (if 2 ≤ (Ri 0 7) then (x_b2 (whl xFU G7_bestHour_L17 (0, 1000000, 0, Ri)) fun (v5 : Int) (Ri6 : xU) => (some (v5, Ri6))) else (some ((-1), Ri)))
def G8_readFlags_L20 (T : xU) : (Int × Int × xU) → Option ((Int × Int × xU) ⊕ (xU ⊕ (Int × xU)))
  | (v1, v2, Ro3) => (if (T 0 2) ≤ v2 then (some (.inr (.inl Ro3))) else (if 7 ≤ v2 then (some (.inr (.inl Ro3))) else (x_b1 (G10_byteAt v2 T) fun (v7 : Int) => (if v7 < 0 then (some (.inr (.inr (0, Ro3)))) else (if 16 ≤ v7 then (some (.inr (.inr (0, Ro3)))) else (x_b1 (G11_holdsBit v1 v7) fun (v9 : Int) => (if v9 = 0 then (x_gd ((0 : Int) ≤ v2 ∧ v2 < 7) (some (.inl ((x_or v1 (x_shl 1 v7)), (x_add v2 1), (x_up (x_up Ro3 1 (v2).toNat v7) 0 2 (x_add ((x_up Ro3 1 (v2).toNat v7) 0 2) 1)))))) else (some (.inr (.inr (0, Ro3)))))))))))
def G8_readFlags (T : xU) (Ro : xU) : Option (Int × xU) :=
  (if (T 0 2) ≤ 7 then (x_lr (whl xFU (G8_readFlags_L20 T) (0, 0, (x_up Ro 0 2 0))) (fun (q : xU) => x_e1 q fun (Ro4 : xU) => (some (1, Ro4))) (fun (q : (Int × xU)) => some q)) else (some (0, (x_up Ro 0 2 0))))
def G8_wayBy (a : Int) (b : Int) (c : Int) (N : xU) (Ro : xU) : Option Int :=
  (if b < 0 then (some 0) else (if 7 ≤ b then (some 0) else (if (x_add (x_mul (x_and c (x_xor (x_shl 1 b) (-1))) 7) b) < 0 then (some 0) else (if (x_add (x_mul (x_and c (x_xor (x_shl 1 b) (-1))) 7) b) < 896 then (x_gd ((0 : Int) ≤ b ∧ b < 7) (x_b1 (G1_farOf a (Ro 1 (b).toNat) N) fun (v1 : Int) => (x_gd ((0 : Int) ≤ (x_add (x_mul (x_and c (x_xor (x_shl 1 b) (-1))) 7) b) ∧ (x_add (x_mul (x_and c (x_xor (x_shl 1 b) (-1))) 7) b) < 896) (some (x_add v1 (Ro 2 ((x_add (x_mul (x_and c (x_xor (x_shl 1 b) (-1))) 7) b)).toNat)))))) else (some 0)))))
def G8_leastFrom_L15 (a : Int) (b : Int) (N : xU) (Ro : xU) : (Int × Int) → Option ((Int × Int) ⊕ Int)
  | (v3, v4) => (if (Ro 0 2) ≤ v4 then (some (.inr v3)) else (x_b1 (G11_holdsBit b v4) fun (v8 : Int) => (x_b1 (if v8 = 0 then (some v3) else (x_b1 (G8_wayBy a v4 b N Ro) fun (v12 : Int) => (some (min v3 v12)))) fun (v10 : Int) => (some (.inl (v10, (x_add v4 1)))))))
def G8_leastFrom (a : Int) (b : Int) (N : xU) (Ro : xU) : Option Int :=
  (x_b1 (if b = 0 then (some 0) else (some 1000000)) fun (v1 : Int) => (x_b1 (whl xFU (G8_leastFrom_L15 a b N Ro) (v1, 0)) fun (v5 : Int) => (some v5)))
def G8_leastWay_L29 (N : xU) (v1 : Int) : (Int × xU) → Option ((Int × xU) ⊕ xU)
  | (v6, Ro7) => (if (Ro7 0 2) ≤ v6 then (some (.inr Ro7)) else (if 7 ≤ v6 then (some (.inr Ro7)) else (x_gd ((0 : Int) ≤ v6 ∧ v6 < 7) (x_b1 (G8_leastFrom (Ro7 1 (v6).toNat) v1 N Ro7) fun (v11 : Int) => (x_gd ((0 : Int) ≤ (x_add (x_mul v1 7) v6) ∧ (x_add (x_mul v1 7) v6) < 896) (some (.inl ((x_add v6 1), (x_up Ro7 2 ((x_add (x_mul v1 7) v6)).toNat v11)))))))))
def G8_leastWay_L12 (N : xU) (Ro : xU) : (Int × xU) → Option ((Int × xU) ⊕ xU)
  | (v1, Ro2) => (if (x_sub (x_shl 1 (Ro 0 2)) 1) < v1 then (some (.inr Ro2)) else (if 128 ≤ v1 then (some (.inr Ro2)) else (x_b1 (whl xFU (G8_leastWay_L29 N v1) (0, Ro2)) fun (Ro8 : xU) => (some (.inl ((x_add v1 1), Ro8))))))
def G8_leastWay (a : Int) (N : xU) (Ro : xU) : Option (Int × xU) :=
  (x_b1 (whl xFU (G8_leastWay_L12 N Ro) (0, Ro)) fun (Ro3 : xU) => (x_b1 (G8_leastFrom a (x_sub (x_shl 1 (Ro 0 2)) 1) N Ro3) fun (v13 : Int) => (some (v13, Ro3))))
def G8_firstFlag_L23 (a : Int) (N : xU) (v1 : Int) (Ro2 : xU) : (Int × Int) → Option ((Int × Int) ⊕ Int)
  | (v4, v5) => (if (Ro2 0 2) ≤ v5 then (some (.inr v4)) else (if 7 ≤ v5 then (some (.inr v4)) else (x_b1 (G8_wayBy a v5 (x_sub (x_shl 1 (Ro2 0 2)) 1) N Ro2) fun (v9 : Int) => (x_b1 (if v9 = v1 then (if v4 = (-1) then (x_gd ((0 : Int) ≤ v5 ∧ v5 < 7) (some (Ro2 1 (v5).toNat))) else (x_gd ((0 : Int) ≤ v5 ∧ v5 < 7) (if v4 ≤ (Ro2 1 (v5).toNat) then (some v4) else (x_gd ((0 : Int) ≤ v5 ∧ v5 < 7) (some (Ro2 1 (v5).toNat)))))) else (some v4)) fun (v11 : Int) => (some (.inl (v11, (x_add v5 1))))))))
def G8_firstFlag (a : Int) (N : xU) (Ro : xU) : Option (Int × xU) :=
  (x_b2 (G8_leastWay a N Ro) fun (v1 : Int) (Ro2 : xU) => (x_b1 (whl xFU (G8_firstFlag_L23 a N v1 Ro2) ((-1), 0)) fun (v6 : Int) => (some (v6, Ro2))))
def G9_gatherLikes_L18 (N : xU) (v1 : Int) : (Int × xU) → Option ((Int × xU) ⊕ xU)
  | (v6, St7) => (if (N 0 3) ≤ v6 then (some (.inr St7)) else (x_b1 (G11_holdsBit v1 v6) fun (v11 : Int) => (x_b1 (if v11 = 0 then (some St7) else (x_gd ((0 : Int) ≤ v1 ∧ v1 < 128) (x_b1 (G1_of 3 v6 N) fun (v15 : Int) => (x_gd ((0 : Int) ≤ v1 ∧ v1 < 128) (some (x_up St7 1 (v1).toNat (x_or (St7 1 (v1).toNat) v15))))))) fun (St13 : xU) => (some (.inl ((x_add v6 1), St13))))))
def G9_gatherLikes_L2 (N : xU) : (Int × xU) → Option ((Int × xU) ⊕ xU)
  | (v1, St2) => (if 128 ≤ v1 then (some (.inr St2)) else (x_gd ((0 : Int) ≤ v1 ∧ v1 < 128) (x_b1 (whl xFU (G9_gatherLikes_L18 N v1) (0, (x_up St2 1 (v1).toNat 0))) fun (St8 : xU) => (some (.inl ((x_add v1 1), St8))))))
def G9_gatherLikes (N : xU) (St : xU) : Option xU :=
  (x_b1 (whl xFU (G9_gatherLikes_L2 N) (0, St)) fun (St3 : xU) => (some St3))
def G9_seatable_L8 (a : Int) (b : Int) (St : xU) : (Int × Int) → Option ((Int × Int) ⊕ Int)
  | (v1, v2) => (if a < v2 then (some (.inr v1)) else (if 128 ≤ v2 then (some (.inr v1)) else (x_b1 (if (x_and v2 (x_xor a (-1))) = 0 then (x_gd ((0 : Int) ≤ v2 ∧ v2 < 128) (some (min v1 (x_add (x_bc (x_and a (x_xor v2 (-1)))) (x_bc (x_and (St 1 (v2).toNat) b)))))) else (some v1)) fun (v6 : Int) => (some (.inl (v6, (x_add v2 1)))))))
def G9_seatable (a : Int) (b : Int) (St : xU) : Option Int :=
  (x_b1 (whl xFU (G9_seatable_L8 a b St) ((x_bc a), 0)) fun (v3 : Int) => (some v3))
def G9_mostSeated (N : xU) (St : xU) : Option (Int × xU) :=
  (x_b1 (G9_gatherLikes N St) fun (St1 : xU) => (x_b1 (G9_seatable (x_sub (x_shl 1 (N 0 3)) 1) 4095 St1) fun (v3 : Int) => (some (v3, St1))))
def G9_firstSeat_L3 (a : Int) (b : Int) (c : Int) (d : Int) (St : xU) : Int → Option (Int ⊕ (Unit ⊕ Int))
  | v1 => (if 12 ≤ v1 then (some (.inr (.inl ()))) else (x_b1 (G11_holdsBit a v1) fun (v4 : Int) => (if v4 = 0 then (some (.inl (x_add v1 1))) else (x_b1 (G9_seatable b (x_and c (x_xor (x_shl 1 v1) (-1))) St) fun (v6 : Int) => (if (x_add 1 v6) = d then (some (.inr (.inr v1))) else (some (.inl (x_add v1 1))))))))
def G9_firstSeat (a : Int) (b : Int) (c : Int) (d : Int) (St : xU) : Option Int :=
  (x_lr (whl xFU (G9_firstSeat_L3 a b c d St) 0) (fun (q : Unit) => x_e1 q fun (_q : Unit) => (some (-1))) (fun (q : Int) => some q))
def G9_seatOf_L27 (a : Int) (N : xU) (St2 : xU) : (Int × Int × Int × Int × Int) → Option ((Int × Int × Int × Int × Int) ⊕ Int)
  | (v4, v5, v6, v7, v8) => (if a < v8 then (some (.inr v7)) else (x_b1 (G1_of 3 v8 N) fun (v12 : Int) => (x_b1 (G9_firstSeat (x_and v12 v4) (x_and v6 (x_xor (x_shl 1 v8) (-1))) v4 v5 St2) fun (v14 : Int) => (x_b2 (if v14 = (-1) then (some (v4, v5)) else (some ((x_and v4 (x_xor (x_shl 1 v14) (-1))), (x_add v5 (-1))))) fun (v16 : Int) (v17 : Int) => (some (.inl (v16, v17, (x_and v6 (x_xor (x_shl 1 v8) (-1))), v14, (x_add v8 1))))))))
def G9_seatOf (a : Int) (N : xU) (St : xU) : Option (Int × xU) :=
  (x_b2 (G9_mostSeated N St) fun (v1 : Int) (St2 : xU) => (x_b1 (whl xFU (G9_seatOf_L27 a N St2) (4095, v1, (x_sub (x_shl 1 (N 0 3)) 1), (-1), 0)) fun (v9 : Int) => (some (v9, St2))))
def G9_fewestWithTooFew_L13 (N : xU) (St1 : xU) : (Int × Int × Int) → Option ((Int × Int × Int) ⊕ Int)
  | (v3, v4, v5) => (if (x_shl 1 (N 0 3)) ≤ v5 then (some (.inr v3)) else (if 128 ≤ v5 then (some (.inr v3)) else (x_b2 (if v4 ≤ (x_bc v5) then (some (v3, v4)) else (x_gd ((0 : Int) ≤ v5 ∧ v5 < 128) (if (x_bc v5) ≤ (x_bc (St1 1 (v5).toNat)) then (some (v3, v4)) else (some (v5, (x_bc v5)))))) fun (v9 : Int) (v10 : Int) => (some (.inl (v9, v10, (x_add v5 1)))))))
def G9_fewestWithTooFew (N : xU) (St : xU) : Option (Int × xU) :=
  (x_b1 (G9_gatherLikes N St) fun (St1 : xU) => (x_b1 (whl xFU (G9_fewestWithTooFew_L13 N St1) (0, 8, 1)) fun (v6 : Int) => (some (v6, St1))))
def G9_rankOf (a : Int) (b : Int) (N : xU) : Option Int :=
  (x_b1 (G1_of 2 b N) fun (v1 : Int) => (x_b1 (G1_of 2 a N) fun (v3 : Int) => (x_b1 (G1_doesLike a v1 N) fun (v5 : Int) => (x_b1 (if v5 = 0 then (some 12) else (some 0)) fun (v7 : Int) => (some (x_add v7 (min (x_mod (x_sub v1 v3) 12) (x_sub 12 (x_mod (x_sub v1 v3) 12)))))))))
def G9_pointerOf_L10 (a : Int) (b : Int) (N : xU) : (Int × Int × Int) → Option ((Int × Int × Int) ⊕ Int)
  | (v1, v2, v3) => (if (N 0 3) ≤ v3 then (some (.inr v1)) else (x_b1 (G9_rankOf a v3 N) fun (v7 : Int) => (x_b1 (G11_holdsBit b v3) fun (v9 : Int) => (x_b2 (if v9 = 0 then (some (v1, v2)) else (if v2 ≤ v7 then (some (v1, v2)) else (some (v3, v7)))) fun (v11 : Int) (v12 : Int) => (some (.inl (v11, v12, (x_add v3 1))))))))
def G9_pointerOf (a : Int) (b : Int) (N : xU) : Option Int :=
  (x_b1 (whl xFU (G9_pointerOf_L10 a b N) (a, 1000000, 0)) fun (v4 : Int) => (some v4))
def G9_ringOf_L4 (a : Int) (St : xU) : (Int × Int) → Option ((Int × Int) ⊕ (Unit ⊕ Int))
  | (v1, v2) => (if 7 < v2 then (some (.inr (.inl ()))) else (x_b1 (if v1 < 0 then (some a) else (if 7 ≤ v1 then (some a) else (x_gd ((0 : Int) ≤ v1 ∧ v1 < 7) (some (St 2 (v1).toNat))))) fun (v5 : Int) => (if v5 = a then (some (.inr (.inr v2))) else (some (.inl (v5, (x_add v2 1)))))))
def G9_ringOf (a : Int) (St : xU) : Option Int :=
  (x_lr (whl xFU (G9_ringOf_L4 a St) (a, 1)) (fun (q : Unit) => x_e1 q fun (_q : Unit) => (some 0)) (fun (q : Int) => some q))
def G9_tradeAll_L24 (N : xU) (v1 : Int) : (Int × xU) → Option ((Int × xU) ⊕ xU)
  | (v7, St8) => (if (N 0 3) ≤ v7 then (some (.inr St8)) else (if 7 ≤ v7 then (some (.inr St8)) else (x_b1 (G9_pointerOf v7 v1 N) fun (v12 : Int) => (x_gd ((0 : Int) ≤ v7 ∧ v7 < 7) (some (.inl ((x_add v7 1), (x_up St8 2 (v7).toNat v12))))))))
def G9_tradeAll_L67 (N : xU) (v1 : Int) : (Int × Int × xU) → Option ((Int × Int × xU) ⊕ (Int × xU))
  | (v14, v15, St16) => (if (N 0 3) ≤ v15 then (some (.inr (v14, St16))) else (if 7 ≤ v15 then (some (.inr (v14, St16))) else (x_b1 (G11_holdsBit v1 v15) fun (v21 : Int) => (x_b1 (if v21 = 0 then (some 0) else (x_b1 (G9_ringOf v15 St16) fun (v25 : Int) => (some v25))) fun (v23 : Int) => (x_b2 (if v23 ≤ 0 then (some (v14, St16)) else (x_gd ((0 : Int) ≤ v15 ∧ v15 < 7) (x_gd ((0 : Int) ≤ v15 ∧ v15 < 7) (x_gd ((0 : Int) ≤ v15 ∧ v15 < 7) (some ((x_or v14 (x_shl 1 v15)), (x_up (x_up St16 3 (v15).toNat (St16 2 (v15).toNat)) 4 (v15).toNat v23))))))) fun (v27 : Int) (St28 : xU) => (some (.inl (v27, (x_add v15 1), St28))))))))
def G9_tradeAll_L11 (N : xU) : (Int × Int × xU) → Option ((Int × Int × xU) ⊕ xU)
  | (v1, v2, St3) => (if 7 ≤ v2 then (some (.inr St3)) else (if v1 = 0 then (some (.inr St3)) else (x_b1 (whl xFU (G9_tradeAll_L24 N v1) (0, St3)) fun (St9 : xU) => (x_b2 (whl xFU (G9_tradeAll_L67 N v1) (0, 0, St9)) fun (v17 : Int) (St18 : xU) => (some (.inl ((x_and v1 (x_xor v17 (-1))), (x_add v2 1), St18)))))))
def G9_tradeAll (N : xU) (St : xU) : Option xU :=
  (x_b1 (whl xFU (G9_tradeAll_L11 N) ((x_sub (x_shl 1 (N 0 3)) 1), 0, St)) fun (St4 : xU) => (some St4))
def G9_giverOf (a : Int) (St : xU) : Option Int :=
  (x_b1 (if a < 0 then (some (-1)) else (if 7 ≤ a then (some (-1)) else (x_gd ((0 : Int) ≤ a ∧ a < 7) (some (St 3 (a).toNat))))) fun (v1 : Int) => (some v1))
def G9_ringSizeOf (a : Int) (St : xU) : Option Int :=
  (x_b1 (if a < 0 then (some (-1)) else (if 7 ≤ a then (some (-1)) else (x_gd ((0 : Int) ≤ a ∧ a < 7) (some (St 4 (a).toNat))))) fun (v1 : Int) => (some v1))
def G10_kindOf (a : Int) : Option Int :=
  (if a < 97 then (if a < 48 then (x_b1 (if a = 32 then (some 1) else (some 4)) fun (v1 : Int) => (some v1)) else (if 57 < a then (x_b1 (if a = 32 then (some 1) else (some 4)) fun (v3 : Int) => (some v3)) else (some 3))) else (if 122 < a then (if a < 48 then (x_b1 (if a = 32 then (some 1) else (some 4)) fun (v5 : Int) => (some v5)) else (if 57 < a then (x_b1 (if a = 32 then (some 1) else (some 4)) fun (v7 : Int) => (some v7)) else (some 3))) else (some 2)))
def G10_addNumber_L3 (a : Int) : (Int × xU) → Option ((Int × xU) ⊕ xU)
  | (v1, T2) => (if v1 < 0 then (some (.inr T2)) else (x_b1 (if (T2 0 2) < 0 then (some T2) else (if 400 ≤ (T2 0 2) then (some T2) else (x_gd ((0 : Int) ≤ (T2 0 2) ∧ (T2 0 2) < 400) (x_gd ((0 : Int) ≤ ((x_up T2 1 ((T2 0 2)).toNat (x_and (x_shr a v1) 255)) 0 2) ∧ ((x_up T2 1 ((T2 0 2)).toNat (x_and (x_shr a v1) 255)) 0 2) < 400) (x_b1 (G10_kindOf ((x_up T2 1 ((T2 0 2)).toNat (x_and (x_shr a v1) 255)) 1 (((x_up T2 1 ((T2 0 2)).toNat (x_and (x_shr a v1) 255)) 0 2)).toNat)) fun (v8 : Int) => (x_gd ((0 : Int) ≤ ((x_up T2 1 ((T2 0 2)).toNat (x_and (x_shr a v1) 255)) 0 2) ∧ ((x_up T2 1 ((T2 0 2)).toNat (x_and (x_shr a v1) 255)) 0 2) < 400) (some (x_up (x_up (x_up T2 1 ((T2 0 2)).toNat (x_and (x_shr a v1) 255)) 2 (((x_up T2 1 ((T2 0 2)).toNat (x_and (x_shr a v1) 255)) 0 2)).toNat v8) 0 2 (x_add ((x_up (x_up T2 1 ((T2 0 2)).toNat (x_and (x_shr a v1) 255)) 2 (((x_up T2 1 ((T2 0 2)).toNat (x_and (x_shr a v1) 255)) 0 2)).toNat v8) 0 2) 1))))))))) fun (T6 : xU) => (some (.inl ((x_add v1 (-8)), T6)))))
def G10_addNumber (a : Int) (T : xU) : Option xU :=
  (x_b1 (whl xFU (G10_addNumber_L3 a) (24, T)) fun (T3 : xU) => (some T3))
def G10_useUp (T : xU) : Option xU :=
  (some (x_up T 0 2 0))
def G11_feed (a : Int) (b : Int) (c : Int) (d : Int) (e : Int) (T : xU) : Option (Int × xU) :=
  (if (x_add (T 0 2) 20) ≤ 400 then (x_b1 (G10_addNumber a T) fun (T1 : xU) => (x_b1 (G10_addNumber b T1) fun (T3 : xU) => (x_b1 (G10_addNumber c T3) fun (T5 : xU) => (x_b1 (G10_addNumber d T5) fun (T7 : xU) => (x_b1 (G10_addNumber e T7) fun (T9 : xU) => (some ((T9 0 2), T9))))))) else (some ((-1), T)))
def G11_end (a : Int) (T : xU) : Option (Int × xU) :=
  (if a < 0 then (some (0, T)) else (if a ≤ (T 0 2) then (some (1, (x_up T 0 2 a))) else (some (0, T))))
def G11_cloister (X : xU) (T : xU) (N : xU) (Dr : xU) : Option ((Int ⊕ Nat) × xU × xU × xU × xU) :=
  (x_b1 (G1_copyFrom Dr N) fun (Dr1 : xU) => (x_b3 (G2_readInto T Dr1) fun (v3 : Int) (T4 : xU) (Dr5 : xU) => (x_b1 (G10_useUp T4) fun (T7 : xU) => (if ((x_up X 0 16 v3) 0 16) = (-1) then (if (N 0 4) < 12 then (x_b1 (G1_copyFrom N (x_up Dr5 0 4 (x_add (Dr5 0 4) 1))) fun (N9 : xU) => (some ((.inl (N9 0 4)), (x_up (x_up X 0 16 v3) 0 15 0), T7, N9, (x_up Dr5 0 4 (x_add (Dr5 0 4) 1))))) else (some ((.inr 4), (x_up X 0 16 v3), T7, N, Dr5))) else (some ((.inr 0), (x_up X 0 16 v3), T7, N, Dr5))))))
def G11_law (X : xU) (T : xU) (La : xU) (Lb : xU) : Option ((Int ⊕ Nat) × xU × xU × xU × xU) :=
  (x_b3 (G5_readInto T Lb) fun (v1 : Int) (T2 : xU) (Lb3 : xU) => (x_b1 (G10_useUp T2) fun (T5 : xU) => (if ((x_up X 0 16 v1) 0 16) = (-1) then (x_b1 (G4_copyFrom La Lb3) fun (La7 : xU) => (some ((.inl (La7 0 6)), (x_up (x_up X 0 16 v1) 0 15 0), T5, La7, Lb3))) else (some ((.inr 0), (x_up X 0 16 v1), T5, La, Lb3)))))
def G11_fault (X : xU) : Option Int :=
  (some (X 0 16))
def G11_needMonk (a : Int) (N : xU) : Option (Option Nat) :=
  (if a < 0 then (some (some 1)) else (if a < (N 0 3) then (some none) else (some (some 1))))
def G11_monk (a : Int) (b : Int) (N : xU) (La : xU) : Option ((Int ⊕ Nat) × xU) :=
  (x_b1 (G11_needMonk a N) fun (o1 : (Option Nat)) => (x_tv o1 (if b < 0 then (some ((.inr 3), La)) else (if b ≤ 9 then (if b = 8 then (x_b2 (G4_strideOf a N La) fun (v10 : Int) (La11 : xU) => (some ((.inl v10), La11))) else (x_b1 (if 8 ≤ b then (x_b1 (G1_lagOf a N) fun (v6 : Int) => (some v6)) else (x_b1 (G1_of b a N) fun (v8 : Int) => (some v8))) fun (v4 : Int) => (some ((.inl v4), La)))) else (some ((.inr 3), La)))) (fun (E3 : Nat) => (some ((.inr E3), La)))))
def G11_needWalk (a : Int) : Option (Option Nat) :=
  (if a < 0 then (some (some 1)) else (if a < 4 then (some none) else (some (some 1))))
def G11_store (a : Int) (N : xU) : Option (Int ⊕ Nat) :=
  (x_b1 (G11_needWalk a) fun (o1 : (Option Nat)) => (x_tv o1 (x_b1 (G1_storeOf a N) fun (v4 : Int) => (some (.inl v4))) (fun (E3 : Nat) => (some (.inr E3)))))
def G11_needFlag (a : Int) : Option (Option Nat) :=
  (if a < 0 then (some (some 1)) else (if a < 16 then (some none) else (some (some 1))))
def G11_season (a : Int) (N : xU) : Option (Int ⊕ Nat) :=
  (x_b1 (G11_needFlag a) fun (o1 : (Option Nat)) => (x_tv o1 (x_b1 (G1_seasonOf a N) fun (v4 : Int) => (some (.inl v4))) (fun (E3 : Nat) => (some (.inr E3)))))
def G11_hours_L27 (a : Int) : (Int × Int × xU × xU) → Option ((Int × Int × xU × xU) ⊕ (Int × xU × xU))
  | (v4, v5, N6, La7) => (if a ≤ v5 then (some (.inr (v4, N6, La7))) else (x_b3 (G1_passHour 1 N6 La7) fun (v13 : Int) (N14 : xU) (La15 : xU) => (some (.inl ((x_add v4 (x_bc v13)), (x_add v5 1), N14, La15)))))
def G11_hours (a : Int) (X : xU) (N : xU) (La : xU) (A : xA) : Option ((Int ⊕ Nat) × xU × xU × xU × xA) :=
  (if a < 1 then (some ((.inr 0), X, N, La, A)) else (if a ≤ 72 then (x_b2 (G11_remember X N A) fun (X1 : xU) (A2 : xA) => (x_b3 (whl xFU (G11_hours_L27 a) (0, 0, N, La)) fun (v8 : Int) (N9 : xU) (La10 : xU) => (some ((.inl v8), X1, N9, La10, A2)))) else (some ((.inr 0), X, N, La, A))))
def G11_cross (a : Int) (X : xU) (N : xU) (A : xA) : Option ((Int ⊕ Nat) × xU × xU × xA) :=
  (x_b1 (G11_needMonk a N) fun (o1 : (Option Nat)) => (x_tv o1 (x_b1 (G1_isLost a N) fun (v4 : Int) => (if v4 = 0 then (x_b2 (G11_remember X N A) fun (X6 : xU) (A7 : xA) => (x_b1 (G1_of 0 a N) fun (v9 : Int) => (x_b1 (G1_put 0 a (x_rem (x_add v9 8) 16) N) fun (N11 : xU) => (x_b1 (G1_put 4 a (N11 0 10) N11) fun (N13 : xU) => (x_b1 (G1_of 0 a N13) fun (v15 : Int) => (some ((.inl v15), X6, N13, A7))))))) else (some ((.inr 2), X, N, A)))) (fun (E3 : Nat) => (some ((.inr E3), X, N, A)))))
def G11_bell (a : Int) (X : xU) (N : xU) (A : xA) : Option ((Int ⊕ Nat) × xU × xU × xA) :=
  (x_b1 (G11_needFlag a) fun (o1 : (Option Nat)) => (x_tv o1 (x_b2 (G11_remember X N A) fun (X4 : xU) (A5 : xA) => (some ((.inl (N 0 7)), X4, (x_up N 0 7 a), A5))) (fun (E3 : Nat) => (some ((.inr E3), X, N, A)))))
def G11_needWithin (a : Int) (b : Int) : Option (Option Nat) :=
  (if a < 0 then (some (some 0)) else (if a ≤ b then (some none) else (some (some 0))))
def G11_mood (a : Int) (X : xU) (N : xU) (A : xA) : Option ((Int ⊕ Nat) × xU × xU × xA) :=
  (x_b1 (G11_needWithin a 4) fun (o1 : (Option Nat)) => (x_tv o1 (x_b2 (G11_remember X N A) fun (X4 : xU) (A5 : xA) => (some ((.inl (N 0 8)), X4, (x_up N 0 8 a), A5))) (fun (E3 : Nat) => (some ((.inr E3), X, N, A)))))
def G11_needTwo (a : Int) (b : Int) (N : xU) : Option (Option Nat) :=
  (x_b1 (G11_needMonk a N) fun (o1 : (Option Nat)) => (x_tv o1 (x_b1 (G11_needMonk b N) fun (o4 : (Option Nat)) => (x_tv o4 (if a = b then (some (some 0)) else (some none)) (fun (E6 : Nat) => (some (some E6))))) (fun (E3 : Nat) => (some (some E3)))))
def G11_change (a : Int) (b : Int) (X : xU) (N : xU) (A : xA) : Option ((Int ⊕ Nat) × xU × xU × xA) :=
  (x_b1 (G11_needTwo a b N) fun (o1 : (Option Nat)) => (x_tv o1 (x_b2 (G11_remember X N A) fun (X4 : xU) (A5 : xA) => (x_b1 (G1_of 2 a N) fun (v7 : Int) => (x_b1 (G1_of 2 b N) fun (v9 : Int) => (x_b1 (G1_put 2 a v9 N) fun (N11 : xU) => (x_b1 (G1_put 2 b v7 N11) fun (N13 : xU) => (x_b1 (G1_of 2 a N13) fun (v15 : Int) => (some ((.inl v15), X4, N13, A5)))))))) (fun (E3 : Nat) => (some ((.inr E3), X, N, A)))))
def G11_pace (a : Int) (b : Int) (X : xU) (N : xU) (A : xA) : Option ((Int ⊕ Nat) × xU × xU × xA) :=
  (x_b1 (G11_needMonk a N) fun (o1 : (Option Nat)) => (x_tv o1 (x_b1 (G11_needWithin b 8) fun (o4 : (Option Nat)) => (x_tv o4 (x_b2 (G11_remember X N A) fun (X7 : xU) (A8 : xA) => (x_b1 (G1_of 1 a N) fun (v10 : Int) => (x_b1 (G1_put 1 a b N) fun (N12 : xU) => (some ((.inl v10), X7, N12, A8))))) (fun (E6 : Nat) => (some ((.inr E6), X, N, A))))) (fun (E3 : Nat) => (some ((.inr E3), X, N, A)))))
def G11_fill (a : Int) (b : Int) (X : xU) (N : xU) (A : xA) : Option ((Int ⊕ Nat) × xU × xU × xA) :=
  (x_b1 (G11_needWalk a) fun (o1 : (Option Nat)) => (x_tv o1 (if b < 1 then (some ((.inr 0), X, N, A)) else (if b ≤ 99 then (x_b2 (G11_remember X N A) fun (X4 : xU) (A5 : xA) => (x_b1 (G1_addStore a b N) fun (N7 : xU) => (x_b1 (G1_storeOf a N7) fun (v9 : Int) => (some ((.inl v9), X4, N7, A5))))) else (some ((.inr 0), X, N, A)))) (fun (E3 : Nat) => (some ((.inr E3), X, N, A)))))
def G11_find (a : Int) (X : xU) (N : xU) (A : xA) : Option ((Int ⊕ Nat) × xU × xU × xA) :=
  (x_b1 (G11_needMonk a N) fun (o1 : (Option Nat)) => (x_tv o1 (x_b1 (G1_isLost a N) fun (v4 : Int) => (if v4 = 0 then (some ((.inr 2), X, N, A)) else (x_b2 (G11_remember X N A) fun (X6 : xU) (A7 : xA) => (x_b1 (G1_of 4 a N) fun (v9 : Int) => (x_b1 (G1_put 4 a 0 N) fun (N11 : xU) => (some ((.inl v9), X6, N11, A7))))))) (fun (E3 : Nat) => (some ((.inr E3), X, N, A)))))
def G11_choir_L4 (N : xU) : (Int × Int) → Option ((Int × Int) ⊕ Int)
  | (v1, v2) => (if (N 0 3) ≤ v2 then (some (.inr v1)) else (x_b1 (G1_isAt v2 (N 0 7) N) fun (v6 : Int) => (x_b1 (if v6 = 0 then (some v1) else (some (x_or v1 (x_shl 1 v2)))) fun (v8 : Int) => (some (.inl (v8, (x_add v2 1)))))))
def G11_choir (N : xU) : Option Int :=
  (x_b1 (whl xFU (G11_choir_L4 N) (0, 0)) fun (v3 : Int) => (some v3))
def G11_when (a : Int) (b : Int) (N : xU) (Th : xU) (La : xU) : Option ((Int ⊕ Nat) × xU × xU) :=
  (x_b1 (G11_needMonk a N) fun (o1 : (Option Nat)) => (x_tv o1 (x_b1 (G11_needFlag b) fun (o4 : (Option Nat)) => (x_tv o4 (x_b3 (G3_firstAt a b N Th La) fun (v7 : Int) (Th8 : xU) (La9 : xU) => (some ((.inl v7), Th8, La9))) (fun (E6 : Nat) => (some ((.inr E6), Th, La))))) (fun (E3 : Nat) => (some ((.inr E3), Th, La)))))
def G11_meet (a : Int) (b : Int) (N : xU) (Th : xU) (La : xU) : Option ((Int ⊕ Nat) × xU × xU) :=
  (x_b1 (G11_needTwo a b N) fun (o1 : (Option Nat)) => (x_tv o1 (x_b3 (G3_firstTogether a b N Th La) fun (v4 : Int) (Th5 : xU) (La6 : xU) => (some ((.inl v4), Th5, La6))) (fun (E3 : Nat) => (some ((.inr E3), Th, La)))))
def G11_lates (a : Int) (N : xU) (Th : xU) (La : xU) (Fo : xU) : Option ((Int ⊕ Nat) × xU × xU × xU) :=
  (x_b1 (G11_needWithin a 9) fun (o1 : (Option Nat)) => (x_tv o1 (x_b1 (G3_look N Th) fun (Th4 : xU) => (x_b4 (G3_passOffices a Th4 La Fo) fun (v6 : Int) (Th7 : xU) (La8 : xU) (Fo9 : xU) => (some ((.inl v6), Th7, La8, Fo9)))) (fun (E3 : Nat) => (some ((.inr E3), Th, La, Fo)))))
def G11_tardy (N : xU) (Th : xU) (La : xU) (Fo : xU) : Option (Int × xU × xU × xU) :=
  (x_b1 (G3_look N Th) fun (Th1 : xU) => (x_b4 (G3_passOffices 8 Th1 La Fo) fun (v3 : Int) (Th4 : xU) (La5 : xU) (Fo6 : xU) => (x_b1 (G3_mostLate Fo6) fun (v8 : Int) => (some (v8, Th4, La5, Fo6)))))
def G11_ring (N : xU) (Th : xU) (La : xU) (Fo : xU) : Option (Int × xU × xU × xU) :=
  (x_b4 (G3_bestChoice 0 N Th La Fo) fun (v1 : Int) (Th2 : xU) (La3 : xU) (Fo4 : xU) => (some (v1, Th2, La3, Fo4)))
def G11_humour (N : xU) (Th : xU) (La : xU) (Fo : xU) : Option (Int × xU × xU × xU) :=
  (x_b4 (G3_bestChoice 1 N Th La Fo) fun (v1 : Int) (Th2 : xU) (La3 : xU) (Fo4 : xU) => (some (v1, Th2, La3, Fo4)))
def G11_starves (N : xU) (Th : xU) (La : xU) : Option (Int × xU × xU) :=
  (x_b3 (G3_firstHunger N Th La) fun (v1 : Int) (Th2 : xU) (La3 : xU) => (some (v1, Th2, La3)))
def G11_far (a : Int) (b : Int) (N : xU) : Option (Int ⊕ Nat) :=
  (x_b1 (G11_needFlag a) fun (o1 : (Option Nat)) => (x_tv o1 (x_b1 (G11_needFlag b) fun (o4 : (Option Nat)) => (x_tv o4 (x_b1 (G1_farOf a b N) fun (v7 : Int) => (some (.inl v7))) (fun (E6 : Nat) => (some (.inr E6))))) (fun (E3 : Nat) => (some (.inr E3)))))
def G11_road (a : Int) (b : Int) (T : xU) (N : xU) (Ro : xU) : Option ((Int ⊕ Nat) × xU × xU) :=
  (x_b2 (G8_readFlags T Ro) fun (v1 : Int) (Ro2 : xU) => (x_b1 (G10_useUp T) fun (T4 : xU) => (x_b1 (G11_needFlag a) fun (o6 : (Option Nat)) => (x_tv o6 (if v1 = 0 then (some ((.inr 0), T4, Ro2)) else (x_b2 (if b = 0 then (x_b2 (G8_leastWay a N Ro2) fun (v12 : Int) (Ro13 : xU) => (some (v12, Ro13))) else (x_b2 (G8_firstFlag a N Ro2) fun (v15 : Int) (Ro16 : xU) => (some (v15, Ro16)))) fun (v9 : Int) (Ro10 : xU) => (some ((.inl v9), T4, Ro10)))) (fun (E8 : Nat) => (some ((.inr E8), T4, Ro2)))))))
def G11_seats (a : Int) (N : xU) (St : xU) : Option ((Int ⊕ Nat) × xU) :=
  (if a = (-1) then (x_b2 (G9_mostSeated N St) fun (v7 : Int) (St8 : xU) => (some ((.inl v7), St8))) else (x_b1 (G11_needMonk a N) fun (o1 : (Option Nat)) => (x_tv o1 (x_b2 (G9_seatOf a N St) fun (v4 : Int) (St5 : xU) => (some ((.inl v4), St5))) (fun (E3 : Nat) => (some ((.inr E3), St))))))
def G11_shown (N : xU) (St : xU) : Option (Int × xU) :=
  (x_b2 (G9_fewestWithTooFew N St) fun (v1 : Int) (St2 : xU) => (some (v1, St2)))
def G11_serves_L22 (a : Int) (N : xU) : (Int × Int) → Option ((Int × Int) ⊕ Int)
  | (v1, v2) => (if (N 0 3) ≤ v2 then (some (.inr v1)) else (x_b1 (G1_doesLike v2 a N) fun (v6 : Int) => (x_b1 (if v6 = 0 then (some v1) else (some (x_or v1 (x_shl 1 v2)))) fun (v8 : Int) => (some (.inl (v8, (x_add v2 1)))))))
def G11_serves (a : Int) (N : xU) : Option (Int ⊕ Nat) :=
  (if a < 0 then (some (.inr 1)) else (if a < 12 then (x_b1 (whl xFU (G11_serves_L22 a N) (0, 0)) fun (v3 : Int) => (some (.inl v3))) else (some (.inr 1))))
def G11_trade (a : Int) (b : Int) (N : xU) (St : xU) : Option ((Int ⊕ Nat) × xU) :=
  (x_b1 (G11_needMonk a N) fun (o1 : (Option Nat)) => (x_tv o1 (x_b1 (G9_tradeAll N St) fun (St4 : xU) => (x_b1 (if b = 0 then (x_b1 (G9_giverOf a St4) fun (v8 : Int) => (some v8)) else (x_b1 (G9_ringSizeOf a St4) fun (v10 : Int) => (some v10))) fun (v6 : Int) => (some ((.inl v6), St4)))) (fun (E3 : Nat) => (some ((.inr E3), St)))))
def G11_content_L4 (N : xU) : (Int × Int) → Option ((Int × Int) ⊕ Int)
  | (v1, v2) => (if (N 0 3) ≤ v2 then (some (.inr v1)) else (x_b1 (G1_of 2 v2 N) fun (v6 : Int) => (x_b1 (G1_doesLike v2 v6 N) fun (v8 : Int) => (x_b1 (if v8 = 0 then (some v1) else (some (x_or v1 (x_shl 1 v2)))) fun (v10 : Int) => (some (.inl (v10, (x_add v2 1))))))))
def G11_content (N : xU) : Option Int :=
  (x_b1 (whl xFU (G11_content_L4 N) (0, 0)) fun (v3 : Int) => (some v3))
def G11_needRows (a : Int) (T : xU) : Option ((Option Nat) × xU) :=
  (x_b1 (G10_useUp T) fun (T1 : xU) => (if a = 0 then (some ((some 0), T1)) else (some (none, T1))))
def G11_seen (a : Int) (T : xU) (N : xU) (Ri : xU) : Option ((Int ⊕ Nat) × xU × xU) :=
  (x_b2 (G7_readWalk (N 0 7) T Ri) fun (v1 : Int) (Ri2 : xU) => (x_b2 (G11_needRows v1 T) fun (o4 : (Option Nat)) (T5 : xU) => (x_tv o4 (x_b1 (if a = 0 then (some (Ri2 0 7)) else (x_b1 (G7_beginnings Ri2) fun (v10 : Int) => (some v10))) fun (v8 : Int) => (some ((.inl v8), T5, Ri2))) (fun (E7 : Nat) => (some ((.inr E7), T5, Ri2))))))
def G11_ask (T : xU) (N : xU) (Ri : xU) : Option ((Int ⊕ Nat) × xU × xU) :=
  (x_b2 (G7_readWalk (N 0 7) T Ri) fun (v1 : Int) (Ri2 : xU) => (x_b2 (G11_needRows v1 T) fun (o4 : (Option Nat)) (T5 : xU) => (x_tv o4 (x_b2 (G7_bestHour Ri2) fun (v8 : Int) (Ri9 : xU) => (some ((.inl v8), T5, Ri9))) (fun (E7 : Nat) => (some ((.inr E7), T5, Ri2))))))
def G11_rule (a : Int) (T : xU) (Ri : xU) : Option ((Int ⊕ Nat) × xU × xU) :=
  (x_b2 (G7_readRule T Ri) fun (v1 : Int) (Ri2 : xU) => (x_b2 (G11_needRows v1 T) fun (o4 : (Option Nat)) (T5 : xU) => (x_tv o4 (x_b1 (if a = 0 then (some (Ri2 0 7)) else (x_b1 (G7_firstFitting Ri2) fun (v10 : Int) => (some v10))) fun (v8 : Int) => (some ((.inl v8), T5, Ri2))) (fun (E7 : Nat) => (some ((.inr E7), T5, Ri2))))))
def G11_tells (T : xU) (Ri : xU) : Option ((Int ⊕ Nat) × xU × xU) :=
  (x_b2 (G7_readRule T Ri) fun (v1 : Int) (Ri2 : xU) => (x_b2 (G11_needRows v1 T) fun (o4 : (Option Nat)) (T5 : xU) => (x_tv o4 (x_b2 (G7_bestHour Ri2) fun (v8 : Int) (Ri9 : xU) => (some ((.inl v8), T5, Ri9))) (fun (E7 : Nat) => (some ((.inr E7), T5, Ri2))))))
def G11_share (a : Int) (b : Int) (N : xU) (Th : xU) : Option ((Int ⊕ Nat) × xU) :=
  (x_b1 (G11_needWalk a) fun (o1 : (Option Nat)) => (x_tv o1 (x_b1 (G11_needWithin b 999) fun (o4 : (Option Nat)) => (x_tv o4 (x_b1 (G3_look N Th) fun (Th7 : xU) => (x_b1 (G1_shareOut b Th7) fun (Th9 : xU) => (x_b1 (G1_storeOf a Th9) fun (v11 : Int) => (some ((.inl v11), Th9))))) (fun (E6 : Nat) => (some ((.inr E6), Th))))) (fun (E3 : Nat) => (some ((.inr E3), Th)))))
def G11_feeds_L8 (a : Int) (N : xU) : (Int × Int) → Option ((Int × Int) ⊕ Int)
  | (v4, v5) => (if (N 0 3) ≤ v5 then (some (.inr v4)) else (x_b1 (G1_isLost v5 N) fun (v9 : Int) => (x_b1 (if v9 = 0 then (x_b1 (G1_walkOf v5 N) fun (v13 : Int) => (if v13 = a then (some (x_add v4 1)) else (some v4))) else (some v4)) fun (v11 : Int) => (some (.inl (v11, (x_add v5 1)))))))
def G11_feeds (a : Int) (N : xU) : Option (Int ⊕ Nat) :=
  (x_b1 (G11_needWalk a) fun (o1 : (Option Nat)) => (x_tv o1 (x_b1 (whl xFU (G11_feeds_L8 a N) (0, 0)) fun (v6 : Int) => (x_b1 (if v6 = 0 then (some (-1)) else (x_b1 (G1_storeOf a N) fun (v17 : Int) => (x_gd (v6 ≠ 0) (some (x_div v17 v6))))) fun (v15 : Int) => (some (.inl v15)))) (fun (E3 : Nat) => (some (.inr E3)))))
def G11_pairs (a : Int) (N : xU) (Br : xU) : Option ((Int ⊕ Nat) × xU) :=
  (if a = (-1) then (x_b2 (G0_mostShared N Br) fun (v7 : Int) (Br8 : xU) => (some ((.inl v7), Br8))) else (x_b1 (G11_needMonk a N) fun (o1 : (Option Nat)) => (x_tv o1 (x_b2 (G0_partnerOf a N Br) fun (v4 : Int) (Br5 : xU) => (some ((.inl v4), Br5))) (fun (E3 : Nat) => (some ((.inr E3), Br))))))
def G11_watch (N : xU) : Option Int :=
  (x_b1 (G0_fewestWatching N) fun (v1 : Int) => (some v1))
def G11_chapter (a : Int) (N : xU) : Option Int :=
  (x_b1 (G0_carries a N) fun (v1 : Int) => (x_gd (v1 = 0 ∨ v1 = 1) (some v1)))
def G11_swings (a : Int) (N : xU) : Option (Int ⊕ Nat) :=
  (x_b1 (G11_needMonk a N) fun (o1 : (Option Nat)) => (x_tv o1 (x_b1 (G0_swingsOf a N) fun (v4 : Int) => (some (.inl v4))) (fun (E3 : Nat) => (some (.inr E3)))))
def G11_elder (N : xU) : Option Int :=
  (x_b1 (G0_mostSwinging N) fun (v1 : Int) => (some v1))
def G11_rests (a : Int) (N : xU) : Option (Int ⊕ Nat) :=
  (x_b1 (G11_needMonk a N) fun (o1 : (Option Nat)) => (x_tv o1 (x_b1 (G1_isLost a N) fun (v4 : Int) => (x_b1 (if v4 = 0 then (x_b1 (G0_restsOf a N) fun (v8 : Int) => (some v8)) else (some (-1))) fun (v6 : Int) => (some (.inl v6)))) (fun (E3 : Nat) => (some (.inr E3)))))
def G11_odds (a : Int) (b : Int) (N : xU) (Fo : xU) : Option ((Int ⊕ Nat) × xU) :=
  (x_b1 (G11_needWithin a 6) fun (o1 : (Option Nat)) => (x_tv o1 (x_b1 (G11_needWithin b 6) fun (o4 : (Option Nat)) => (x_tv o4 (x_b2 (G3_oddsOf a b N Fo) fun (v7 : Int) (Fo8 : xU) => (some ((.inl v7), Fo8))) (fun (E6 : Nat) => (some ((.inr E6), Fo))))) (fun (E3 : Nat) => (some ((.inr E3), Fo)))))
def G11_empty_L5 (N : xU) : (Int × Int) → Option ((Int × Int) ⊕ Int)
  | (v1, v2) => (if (N 0 3) ≤ v2 then (some (.inr v1)) else (x_b1 (G1_walkOf v2 N) fun (v6 : Int) => (some (.inl ((x_and v1 (x_xor (x_shl 1 v6) (-1))), (x_add v2 1))))))
def G11_empty (N : xU) : Option Int :=
  (x_b1 (whl xFU (G11_empty_L5 N) (15, 0)) fun (v3 : Int) => (some v3))
def G11_throng_L4 (N : xU) : (Int × Int) → Option ((Int × Int) ⊕ Int)
  | (v1, v2) => (if 4 ≤ v2 then (some (.inr v1)) else (x_b1 (G1_monksIn v2 N) fun (v6 : Int) => (x_b1 (G1_monksIn v1 N) fun (v8 : Int) => (x_b1 (if v6 ≤ v8 then (some v1) else (some v2)) fun (v10 : Int) => (some (.inl (v10, (x_add v2 1))))))))
def G11_throng (N : xU) : Option Int :=
  (x_b1 (whl xFU (G11_throng_L4 N) (0, 1)) fun (v3 : Int) => (some v3))
def G11_gone_L4 (N : xU) : (Int × Int) → Option ((Int × Int) ⊕ Int)
  | (v1, v2) => (if (N 0 3) ≤ v2 then (some (.inr v1)) else (x_b1 (G1_isLost v2 N) fun (v6 : Int) => (x_b1 (if v6 = 0 then (some v1) else (some (x_or v1 (x_shl 1 v2)))) fun (v8 : Int) => (some (.inl (v8, (x_add v2 1)))))))
def G11_gone (N : xU) : Option Int :=
  (x_b1 (whl xFU (G11_gone_L4 N) (0, 0)) fun (v3 : Int) => (some v3))
def G11_round_L11 (a : Int) (N : xU) : (Int × Int) → Option ((Int × Int) ⊕ Int)
  | (v4, v5) => (if (N 0 3) ≤ v5 then (some (.inr v4)) else (x_b1 (G1_of 7 v5 N) fun (v9 : Int) => (x_b1 (if v9 < a then (some v4) else (some (x_or v4 (x_shl 1 v5)))) fun (v11 : Int) => (some (.inl (v11, (x_add v5 1)))))))
def G11_round (a : Int) (N : xU) : Option (Int ⊕ Nat) :=
  (x_b1 (G11_needWithin a 999) fun (o1 : (Option Nat)) => (x_tv o1 (x_b1 (whl xFU (G11_round_L11 a N) (0, 0)) fun (v6 : Int) => (some (.inl v6))) (fun (E3 : Nat) => (some (.inr E3)))))
def G11_hungriest_L6 (N : xU) : (Int × Int × Int) → Option ((Int × Int × Int) ⊕ Int)
  | (v1, v2, v3) => (if (N 0 3) ≤ v3 then (some (.inr v1)) else (x_b1 (G1_of 6 v3 N) fun (v7 : Int) => (x_b2 (if v7 ≤ v2 then (some (v1, v2)) else (x_b1 (G1_of 6 v3 N) fun (v12 : Int) => (some (v3, v12)))) fun (v9 : Int) (v10 : Int) => (some (.inl (v9, v10, (x_add v3 1)))))))
def G11_hungriest (N : xU) : Option Int :=
  (x_b1 (whl xFU (G11_hungriest_L6 N) ((-1), 0, 0)) fun (v4 : Int) => (some v4))
def G11_alike_L17 (N : xU) (v2 : Int) : (Int × Int) → Option ((Int × Int) ⊕ Int)
  | (v6, v7) => (if v2 ≤ v7 then (some (.inr v6)) else (x_b1 (G1_of 1 v2 N) fun (v11 : Int) => (x_b1 (G1_of 1 v7 N) fun (v13 : Int) => (x_b1 (if v11 = v13 then (x_b1 (G1_of 0 v2 N) fun (v17 : Int) => (x_b1 (G1_of 0 v7 N) fun (v19 : Int) => (if v17 = v19 then (some (x_add v6 1)) else (some v6)))) else (some v6)) fun (v15 : Int) => (some (.inl (v15, (x_add v7 1))))))))
def G11_alike_L4 (N : xU) : (Int × Int) → Option ((Int × Int) ⊕ Int)
  | (v1, v2) => (if (N 0 3) ≤ v2 then (some (.inr v1)) else (x_b1 (whl xFU (G11_alike_L17 N v2) (v1, 0)) fun (v8 : Int) => (some (.inl (v8, (x_add v2 1))))))
def G11_alike (N : xU) : Option Int :=
  (x_b1 (whl xFU (G11_alike_L4 N) (0, 0)) fun (v3 : Int) => (some v3))
def G11_ahead (a : Int) (b : Int) (c : Int) (N : xU) (Th : xU) (La : xU) : Option ((Int ⊕ Nat) × xU × xU) :=
  (x_b1 (G11_needMonk a N) fun (o1 : (Option Nat)) => (x_tv o1 (x_b1 (G11_needWithin b 72) fun (o4 : (Option Nat)) => (x_tv o4 (if c < 0 then (some ((.inr 3), Th, La)) else (if c ≤ 2 then (x_b1 (G3_look N Th) fun (Th7 : xU) => (x_b2 (G3_passHours b 0 Th7 La) fun (Th9 : xU) (La10 : xU) => (x_b1 (if c = 0 then (some 0) else (if c = 1 then (some 5) else (some 6))) fun (v12 : Int) => (x_b1 (G1_of v12 a Th9) fun (v14 : Int) => (some ((.inl v14), Th9, La10)))))) else (some ((.inr 3), Th, La)))) (fun (E6 : Nat) => (some ((.inr E6), Th, La))))) (fun (E3 : Nat) => (some ((.inr E3), Th, La)))))
def G11_trial (a : Int) (b : Int) (N : xU) (Th : xU) (La : xU) : Option ((Int ⊕ Nat) × xU × xU) :=
  (x_b1 (G11_needWithin a 72) fun (o1 : (Option Nat)) => (x_tv o1 (x_b1 (G3_look N Th) fun (Th4 : xU) => (x_b2 (G3_passHours a 1 Th4 La) fun (Th6 : xU) (La7 : xU) => (x_b1 (if b = 0 then (x_b1 (G1_sumOf 5 Th6) fun (v11 : Int) => (some v11)) else (some (Th6 0 8))) fun (v9 : Int) => (some ((.inl v9), Th6, La7))))) (fun (E3 : Nat) => (some ((.inr E3), Th, La)))))
def G11_span (a : Int) (b : Int) (N : xU) (Th : xU) (La : xU) : Option ((Int ⊕ Nat) × xU × xU) :=
  (x_b1 (G11_needWithin a 72) fun (o1 : (Option Nat)) => (x_tv o1 (x_b3 (G3_spanOf a b N Th La) fun (v4 : Int) (Th5 : xU) (La6 : xU) => (some ((.inl v4), Th5, La6))) (fun (E3 : Nat) => (some ((.inr E3), Th, La)))))
def G11_led (a : Int) (b : Int) (N : xU) : Option (Int ⊕ Nat) :=
  (x_b1 (G11_needMonk a N) fun (o1 : (Option Nat)) => (x_tv o1 (x_b1 (if b = 0 then (x_b1 (G6_rowsOf a N) fun (v6 : Int) => (some v6)) else (x_b1 (G6_latestFlagOf a N) fun (v8 : Int) => (some v8))) fun (v4 : Int) => (some (.inl v4))) (fun (E3 : Nat) => (some (.inr E3)))))
def G11_log (a : Int) (b : Int) (N : xU) : Option (Int ⊕ Nat) :=
  (if b < 0 then (some (.inr 3)) else (if b ≤ 4 then (x_b1 (G6_told a b N) fun (v1 : Int) => (some (.inl v1))) else (some (.inr 3))))
def G11_seed (a : Int) (N : xU) : Option (Int × xU) :=
  (some ((N 0 11), (x_up N 0 11 a)))
def G11_image (X : xU) (N : xU) (Kp : xU) (La : xU) (Lc : xU) : Option (xU × xU × xU) :=
  (x_b1 (G1_copyFrom Kp N) fun (Kp1 : xU) => (x_b1 (G4_copyFrom Lc La) fun (Lc3 : xU) => (some ((x_up X 0 13 1), Kp1, Lc3))))
def G11_back (X : xU) (N : xU) (Kp : xU) (La : xU) (Lc : xU) : Option (Int × xU × xU × xU) :=
  (if (X 0 13) = 0 then (some (0, X, N, La)) else (x_b1 (G1_copyFrom N Kp) fun (N1 : xU) => (x_b1 (G4_copyFrom La Lc) fun (La3 : xU) => (some (1, (x_up X 0 15 0), N1, La3)))))
def G11_count (a : Int) (X : xU) (N : xU) (La : xU) : Option Int :=
  (if a = 0 then (some (N 0 3)) else (if a = 1 then (some (N 0 4)) else (if a = 2 then (some (La 0 6)) else (if a = 3 then (some (N 0 5)) else (if a = 4 then (some (N 0 6)) else (if a = 5 then (some (N 0 7)) else (if a = 6 then (some (N 0 8)) else (if a = 7 then (some (N 0 9)) else (if a = 8 then (some (N 0 10)) else (if a = 9 then (x_b1 (G1_storeOfAll N) fun (v1 : Int) => (some v1)) else (if a = 10 then (x_b1 (G1_sumOf 5 N) fun (v3 : Int) => (some v3)) else (if a = 11 then (some (N 3 1)) else (if a = 12 then (some (X 0 15)) else (some (-1)))))))))))))))
def G12_thrown (S : xU) : Option Int :=
  (some (S 0 0))
def G12_lesser (a : Int) (b : Int) : Option Int :=
  (x_b1 (if b ≤ a then (some b) else (some a)) fun (v1 : Int) => (some v1))
def G12_greater (a : Int) (b : Int) : Option Int :=
  (x_b1 (if a ≤ b then (some b) else (some a)) fun (v1 : Int) => (some v1))
def G12_isOf (a : Int) (b : Int) : Option Int :=
  (x_b1 (if (x_and (x_shr a b) 1) = 1 then (some 1) else (some 0)) fun (v1 : Int) => (x_gd (v1 = 0 ∨ v1 = 1) (some v1)))
def G12_bits_L4 (a : Int) : (Int × Int) → Option ((Int × Int) ⊕ Int)
  | (v1, v2) => (if 31 ≤ v2 then (some (.inr v1)) else (some (.inl ((x_add v1 (x_and (x_shr a v2) 1)), (x_add v2 1)))))
def G12_bits (a : Int) : Option Int :=
  (x_b1 (whl xFU (G12_bits_L4 a) (0, 0)) fun (v3 : Int) => (some v3))
def G12_of (a : Int) (b : Int) (S : xU) : Option Int :=
  (x_gd ((0 : Int) ≤ (x_add (x_add 16 (x_mul 8 a)) b) ∧ (x_add (x_add 16 (x_mul 8 a)) b) < 772) (some (S 1 ((x_add (x_add 16 (x_mul 8 a)) b)).toNat)))
def G12_lays (a : Int) (b : Int) (c : Int) (S : xU) : Option xU :=
  (x_gd ((0 : Int) ≤ (x_add (x_add 16 (x_mul 8 a)) b) ∧ (x_add (x_add 16 (x_mul 8 a)) b) < 772) (some (x_up S 1 ((x_add (x_add 16 (x_mul 8 a)) b)).toNat c)))
def G12_isMonk (a : Int) (S : xU) : Option Int :=
  (x_b1 (G12_isIn a 0 (x_sub (S 1 3) 1)) fun (v1 : Int) => (x_gd (v1 = 0 ∨ v1 = 1) (some v1)))
def G12_isFlag (a : Int) : Option Int :=
  (x_b1 (G12_isIn a 0 15) fun (v1 : Int) => (x_gd (v1 = 0 ∨ v1 = 1) (some v1)))
def G12_isWalk (a : Int) : Option Int :=
  (x_b1 (G12_isIn a 0 3) fun (v1 : Int) => (x_gd (v1 = 0 ∨ v1 = 1) (some v1)))
def G12_seasonOf (a : Int) (S : xU) : Option Int :=
  (x_b1 (if 4 ≤ (S 1 7) then (some (x_div a 4)) else (some (S 1 7))) fun (v1 : Int) => (some v1))
def G12_isLost (a : Int) (S : xU) : Option Int :=
  (x_b1 (G12_of a 4 S) fun (v1 : Int) => (x_b1 (if v1 ≤ 0 then (some 0) else (some 1)) fun (v3 : Int) => (x_gd (v3 = 0 ∨ v3 = 1) (some v3))))
def G12_inChoir (a : Int) (S : xU) : Option Int :=
  (x_b1 (G12_isLost a S) fun (v1 : Int) => (x_b1 (if v1 = 0 then (x_b1 (G12_of a 0 S) fun (v5 : Int) => (if v5 = (S 1 6) then (some 1) else (some 0))) else (some 0)) fun (v3 : Int) => (x_gd (v3 = 0 ∨ v3 = 1) (some v3))))
def G12_steps (a : Int) (b : Int) : Option Int :=
  (x_b1 (G12_lesser (x_rem (x_add (x_sub a b) 16) 16) (x_sub 16 (x_rem (x_add (x_sub a b) 16) 16))) fun (v1 : Int) => (some v1))
def G12_all (S : xU) : Option Int :=
  (some (x_sub (x_shl 1 (S 1 3)) 1))
def G12_feed_L23 (a : Int) (b : Int) (c : Int) (d : Int) (e : Int) : (Int × xU) → Option ((Int × xU) ⊕ xU)
  | (v1, S2) => (if 20 ≤ v1 then (some (.inr S2)) else (x_b1 (if 4 ≤ v1 then (if 8 ≤ v1 then (if 12 ≤ v1 then (if 16 ≤ v1 then (some e) else (some d)) else (some c)) else (some b)) else (some a)) fun (v6 : Int) => (x_gd ((0 : Int) ≤ (S2 0 8) ∧ (S2 0 8) < 400) (some (.inl ((x_add v1 1), (x_up (x_up S2 5 ((S2 0 8)).toNat (x_and (x_ush v6 (x_sub 24 (x_mul 8 (x_rem v1 4)))) 255)) 0 8 (x_add ((x_up S2 5 ((S2 0 8)).toNat (x_and (x_ush v6 (x_sub 24 (x_mul 8 (x_rem v1 4)))) 255)) 0 8) 1))))))))
def G12_feed (a : Int) (b : Int) (c : Int) (d : Int) (e : Int) (S : xU) : Option (Int × xU) :=
  (if (x_add ((x_up S 0 0 0) 0 8) 20) ≤ 400 then (x_b1 (whl xFU (G12_feed_L23 a b c d e) (0, (x_up S 0 0 0))) fun (S3 : xU) => (some ((S3 0 8), S3))) else (some ((-1), (x_up S 0 0 0))))
def G12_end (a : Int) (S : xU) : Option (Int × xU) :=
  (x_b1 (G12_isIn a 0 ((x_up S 0 0 0) 0 8)) fun (v1 : Int) => (if v1 = 0 then (some (0, (x_up S 0 0 0))) else (some (1, (x_up (x_up S 0 0 0) 0 8 a)))))
def G12_after (w : Nat) (a : Int) (b : Int) (S : xU) : Option (Int × xU) :=
  (x_b1 (if (S 0 12) = (-1) then (x_b2 (G12_has w S) fun (v3 : Int) (S4 : xU) => (if v3 = 0 then (x_b1 (G12_wrong (S4 0 11) S4) fun (S6 : xU) => (some S6)) else (some S4))) else (some S)) fun (S1 : xU) => (x_b2 (G12_figures a b S1) fun (v8 : Int) (S9 : xU) => (some (v8, S9))))
def G12_isStall_L4 (a : Int) (S : xU) : (Int × Int) → Option ((Int × Int) ⊕ Int)
  | (v1, v2) => (if (S 1 3) ≤ v2 then (some (.inr v1)) else (x_b1 (if v1 = 0 then (x_b1 (G12_of v2 2 S) fun (v8 : Int) => (if v8 = a then (some 1) else (some 0))) else (some 1)) fun (v6 : Int) => (some (.inl (v6, (x_add v2 1))))))
def G12_isStall (a : Int) (S : xU) : Option Int :=
  (x_b1 (whl xFU (G12_isStall_L4 a S) (0, 0)) fun (v3 : Int) => (x_gd (v3 = 0 ∨ v3 = 1) (some v3)))
def G12_months_L22 (S2 : xU) : (Int × Int × Int) → Option ((Int × Int × Int) ⊕ (Int × Int × Int))
  | (v4, v5, v6) => (if (S2 0 10) ≤ v6 then (some (.inr (v4, v5, v6))) else (x_b1 (G12_letter v6 S2) fun (v12 : Int) => (x_b1 (G12_isIn v12 97 122) fun (v14 : Int) => (if v14 = 0 then (some (.inr (v4, v5, v6))) else (x_b1 (G12_letter v6 S2) fun (v16 : Int) => (x_b1 (if v5 = 0 then (some 0) else (if 12 ≤ (x_sub v16 97) then (some 0) else (x_b1 (G12_isOf v4 (x_sub v16 97)) fun (v20 : Int) => (if v20 = 0 then (some 1) else (some 0))))) fun (v18 : Int) => (x_b1 (if 12 ≤ (x_sub v16 97) then (some 0) else (some (x_shl 1 (x_sub v16 97)))) fun (v22 : Int) => (some (.inl ((x_or v4 v22), v18, (x_add v6 1)))))))))))
def G12_months (S : xU) : Option (Int × xU) :=
  (if (S 0 12) = (-1) then (x_b2 (G12_here S) fun (v1 : Int) (S2 : xU) => (x_b3 (whl xFU (G12_months_L22 S2) (0, 1, v1)) fun (v7 : Int) (v8 : Int) (v9 : Int) => (x_b1 (if v8 = 0 then (x_b1 (G12_wrong v1 S2) fun (S26 : xU) => (some S26)) else (if v7 = 0 then (x_b1 (G12_wrong v1 S2) fun (S28 : xU) => (some S28)) else (some (x_up S2 0 11 v9)))) fun (S24 : xU) => (some (v7, S24))))) else (some (0, S)))
def G12_monkLine_L203 (S46 : xU) : (Int × xU) → Option ((Int × xU) ⊕ xU)
  | (v54, S55) => (if 8 ≤ v54 then (some (.inr S55)) else (x_b1 (G12_lays (S46 1 3) v54 0 S55) fun (S59 : xU) => (some (.inl ((x_add v54 1), S59)))))
def G12_monkLine (a : Int) (S : xU) : Option xU :=
  (x_b1 (if (S 1 3) = 7 then (x_b1 (G12_wrong a S) fun (S3 : xU) => (some S3)) else (some S)) fun (S1 : xU) => (x_b2 (G12_after 1 0 15 S1) fun (v5 : Int) (S6 : xU) => (x_b2 (if (S6 0 12) = (-1) then (x_b2 (G12_has 2 S6) fun (v11 : Int) (S12 : xU) => (if v11 = 0 then (some (0, S12)) else (some (1, S12)))) else (some (0, S6))) fun (v8 : Int) (S9 : xU) => (x_b1 (if (S9 0 12) = (-1) then (if v8 = 0 then (x_b1 (G12_wrong (S9 0 11) S9) fun (S16 : xU) => (some S16)) else (some S9)) else (some S9)) fun (S14 : xU) => (x_b2 (if v8 = 0 then (some ((S14 0 11), S14)) else (x_b2 (G12_here S14) fun (v21 : Int) (S22 : xU) => (some (v21, S22)))) fun (v18 : Int) (S19 : xU) => (x_b2 (if v8 = 0 then (some (0, S19)) else (x_b2 (G12_figures 0 11 S19) fun (v27 : Int) (S28 : xU) => (some (v27, S28)))) fun (v24 : Int) (S25 : xU) => (x_b1 (if (S25 0 12) = (-1) then (x_b1 (G12_isStall v24 S25) fun (v32 : Int) => (if v32 = 0 then (some S25) else (x_b1 (G12_wrong v18 S25) fun (S34 : xU) => (some S34)))) else (some S25)) fun (S30 : xU) => (x_b2 (if (S30 0 12) = (-1) then (x_b2 (G12_has 3 S30) fun (v39 : Int) (S40 : xU) => (if v39 = 0 then (some (2, S40)) else (x_b2 (G12_figures 0 8 S40) fun (v42 : Int) (S43 : xU) => (some (v42, S43))))) else (some (2, S30))) fun (v36 : Int) (S37 : xU) => (x_b2 (if (S37 0 12) = (-1) then (x_b2 (G12_has 4 S37) fun (v48 : Int) (S49 : xU) => (if v48 = 0 then (some (0, S49)) else (x_b2 (G12_months S49) fun (v51 : Int) (S52 : xU) => (some (v51, S52))))) else (some (0, S37))) fun (v45 : Int) (S46 : xU) => (if (S46 0 12) = (-1) then (x_b1 (whl xFU (G12_monkLine_L203 S46) (0, S46)) fun (S56 : xU) => (x_b1 (G12_lays (S46 1 3) 0 v5 S56) fun (S61 : xU) => (x_b1 (G12_lays (S46 1 3) 2 v24 S61) fun (S63 : xU) => (x_b1 (G12_lays (S46 1 3) 1 v36 S63) fun (S65 : xU) => (x_b1 (G12_lays (S46 1 3) 3 v45 S65) fun (S67 : xU) => (some (x_up S67 1 3 (x_add (S67 1 3) 1)))))))) else (some S46)))))))))))
def G12_seasonName (a : Int) (S : xU) : Option (Int × xU) :=
  (if (S 0 12) = (-1) then (x_b2 (G12_has 8 S) fun (v1 : Int) (S2 : xU) => (x_b2 (if v1 = 0 then (x_b2 (G12_has 9 S2) fun (v7 : Int) (S8 : xU) => (if v7 = 0 then (x_b2 (G12_has 10 S8) fun (v10 : Int) (S11 : xU) => (if v10 = 0 then (x_b2 (G12_has 11 S11) fun (v13 : Int) (S14 : xU) => (if v13 = 0 then (if a = 0 then (some ((-1), S14)) else (x_b2 (G12_has 7 S14) fun (v16 : Int) (S17 : xU) => (if v16 = 0 then (some ((-1), S17)) else (some (4, S17))))) else (some (3, S14)))) else (some (2, S11)))) else (some (1, S8)))) else (some (0, S2))) fun (v4 : Int) (S5 : xU) => (x_b1 (if v4 = (-1) then (x_b2 (G12_here S5) fun (v21 : Int) (S22 : xU) => (x_b1 (G12_wrong v21 S22) fun (S24 : xU) => (some S24))) else (some S5)) fun (S19 : xU) => (x_b1 (if v4 = (-1) then (some 0) else (some v4)) fun (v26 : Int) => (some (v26, S19)))))) else (some (0, S)))
def G12_says (a : Int) (b : Int) (c : Int) (S : xU) : Option xU :=
  (x_b2 (G12_figures b c S) fun (v1 : Int) (S2 : xU) => (x_b1 (if (S2 0 12) = (-1) then (x_gd ((0 : Int) ≤ a ∧ a < 772) (some (x_up S2 1 (a).toNat v1))) else (some S2)) fun (S4 : xU) => (some S4)))
def G12_cloisterLine (S : xU) : Option xU :=
  (x_b2 (G12_here S) fun (v1 : Int) (S2 : xU) => (x_b2 (G12_has 0 S2) fun (v4 : Int) (S5 : xU) => (x_b1 (if v4 = 0 then (x_b2 (G12_has 5 S5) fun (v9 : Int) (S10 : xU) => (if v9 = 0 then (x_b2 (G12_has 6 S10) fun (v12 : Int) (S13 : xU) => (if v12 = 0 then (x_b2 (G12_has 12 S13) fun (v15 : Int) (S16 : xU) => (if v15 = 0 then (x_b2 (G12_has 13 S16) fun (v18 : Int) (S19 : xU) => (if v18 = 0 then (x_b2 (G12_has 14 S19) fun (v21 : Int) (S22 : xU) => (if v21 = 0 then (x_b2 (G12_has 15 S22) fun (v24 : Int) (S25 : xU) => (if v24 = 0 then (x_b2 (G12_has 16 S25) fun (v27 : Int) (S28 : xU) => (if v27 = 0 then (x_b1 (G12_wrong (S28 0 11) S28) fun (S30 : xU) => (some S30)) else (x_b1 (G12_says 5 0 999 S28) fun (S32 : xU) => (some S32)))) else (x_b1 (G12_says 4 0 23 S25) fun (S34 : xU) => (some S34)))) else (x_b2 (G12_seasonName 0 S22) fun (v36 : Int) (S37 : xU) => (x_b1 (G12_says (x_add 12 v36) 0 999 S37) fun (S39 : xU) => (some S39))))) else (x_b1 (G12_says 9 0 20 S19) fun (S41 : xU) => (some S41)))) else (x_b1 (G12_says 8 0 100 S16) fun (S43 : xU) => (some S43)))) else (x_b2 (G12_seasonName 1 S13) fun (v45 : Int) (S46 : xU) => (x_b1 (if (S46 0 12) = (-1) then (some (x_up S46 1 7 v45)) else (some S46)) fun (S48 : xU) => (some S48))))) else (x_b1 (G12_says 6 0 15 S10) fun (S50 : xU) => (some S50)))) else (x_b1 (G12_monkLine v1 S5) fun (S52 : xU) => (some S52))) fun (S7 : xU) => (some S7))))
def G12_begins (S : xU) : Option xU :=
  (some (x_up (x_up (x_up (x_up (x_up (x_up S 0 12 (-1)) 0 9 (-1)) 0 10 ((x_up (x_up S 0 12 (-1)) 0 9 (-1)) 0 8)) 0 8 0) 0 11 0) 0 13 0))
def G12_lawLine (S : xU) : Option xU :=
  (x_b2 (G12_has 17 S) fun (v1 : Int) (S2 : xU) => (x_b2 (if v1 = 0 then (x_b2 (G12_has 18 S2) fun (v7 : Int) (S8 : xU) => (if v7 = 0 then (x_b2 (G12_has 19 S8) fun (v10 : Int) (S11 : xU) => (if v10 = 0 then (some ((-1), S11)) else (some (2, S11)))) else (some (1, S8)))) else (some (0, S2))) fun (v4 : Int) (S5 : xU) => (if v4 = (-1) then (x_b1 (G12_wrong (S5 0 11) S5) fun (S32 : xU) => (some S32)) else (x_b2 (if v4 = 2 then (some (0, S5)) else (x_b2 (G12_figures 0 20 S5) fun (v16 : Int) (S17 : xU) => (some (v16, S17)))) fun (v13 : Int) (S14 : xU) => (if (S14 0 12) = (-1) then (x_b2 (G12_has 20 S14) fun (v19 : Int) (S20 : xU) => (x_b2 (if v19 = 0 then (some (1, S20)) else (x_b2 (G12_some S20) fun (v25 : Int) (S26 : xU) => (if v25 = 0 then (some (0, S26)) else (some (1, S26))))) fun (v22 : Int) (S23 : xU) => (if (S23 0 12) = (-1) then (if v22 = 0 then (some S23) else (x_b1 (if (S23 0 17) = 0 then (if v4 = 2 then (some 1) else (some 0)) else (some 1)) fun (v28 : Int) => (x_gd (v28 = 0 ∨ v28 = 1) (x_b1 (if v4 = 0 then (some (x_neg v13)) else (some v13)) fun (v30 : Int) => (some (x_up (x_up S23 0 17 v28) 0 18 (x_add ((x_up S23 0 17 v28) 0 18) v30))))))) else (some S23)))) else (some S14))))))
def G12_read_L23 (a : Int) : (Int × Int × xU) → Option ((Int × Int × xU) ⊕ (Int × xU))
  | (v5, v6, S7) => (if v5 = 0 then (some (.inr (v6, S7))) else (if (S7 0 12) = (-1) then (x_b1 (G12_skip S7) fun (S12 : xU) => (x_b1 (if a = 0 then (some 14) else (some 12)) fun (v14 : Int) => (x_b1 (if v6 = v14 then (x_b1 (G12_wrong (S12 0 11) S12) fun (S22 : xU) => (some S22)) else (if a = 0 then (x_b1 (G12_cloisterLine S12) fun (S18 : xU) => (some S18)) else (x_b1 (G12_lawLine S12) fun (S20 : xU) => (some S20)))) fun (S16 : xU) => (x_b1 (G12_skip S16) fun (S24 : xU) => (if (S24 0 12) = (-1) then (if (S24 0 11) = (S24 0 10) then (some (.inl (0, (x_add v6 1), S24))) else (x_b2 (G12_isSign 59 S24) fun (v26 : Int) (S27 : xU) => (if v26 = 0 then (x_b1 (G12_wrong (S27 0 11) S27) fun (S29 : xU) => (some (.inl (v5, (x_add v6 1), S29)))) else (some (.inl (v5, (x_add v6 1), (x_up S27 0 11 (x_add (S27 0 11) 1)))))))) else (some (.inl (0, (x_add v6 1), S24)))))))) else (some (.inr (v6, S7)))))
def G12_read (a : Int) (S : xU) : Option (Int × xU) :=
  (x_b1 (G12_skip S) fun (S1 : xU) => (x_b1 (if (S1 0 10) ≤ (S1 0 11) then (some 0) else (some 1)) fun (v3 : Int) => (x_b2 (whl xFU (G12_read_L23 a) (v3, 0, S1)) fun (v8 : Int) (S9 : xU) => (some (v8, S9)))))
def G12_putsAside_L2  : (Int × xU) → Option ((Int × xU) ⊕ xU)
  | (v1, S2) => (if 372 ≤ v1 then (some (.inr S2)) else (x_gd ((0 : Int) ≤ v1 ∧ v1 < 772) (x_gd ((0 : Int) ≤ v1 ∧ v1 < 372) (some (.inl ((x_add v1 1), (x_up S2 3 (v1).toNat (S2 1 (v1).toNat))))))))
def G12_putsAside (S : xU) : Option xU :=
  (x_b1 (whl xFU G12_putsAside_L2 (0, S)) fun (S3 : xU) => (some S3))
def G12_comesBack_L2  : (Int × xU) → Option ((Int × xU) ⊕ xU)
  | (v1, S2) => (if 372 ≤ v1 then (some (.inr S2)) else (x_gd ((0 : Int) ≤ v1 ∧ v1 < 372) (x_gd ((0 : Int) ≤ v1 ∧ v1 < 772) (some (.inl ((x_add v1 1), (x_up S2 1 (v1).toNat (S2 3 (v1).toNat))))))))
def G12_comesBack (S : xU) : Option xU :=
  (x_b1 (whl xFU G12_comesBack_L2 (0, S)) fun (S3 : xU) => (some S3))
def G12_cloister (S : xU) : Option (Int × xU) :=
  (x_b1 (G12_putsAside S) fun (S1 : xU) => (x_b1 (G12_begins S1) fun (S3 : xU) => (x_b2 (G12_read 0 S3) fun (v5 : Int) (S6 : xU) => (x_b1 (if (S6 0 12) = (-1) then (if (S6 1 0) = 12 then (some 2) else (some 0)) else (some 1)) fun (v8 : Int) => (if ((x_up S6 0 0 v8) 0 0) ≤ 0 then (some (((x_up (x_up (x_up S6 0 0 v8) 1 0 (x_add ((x_up S6 0 0 v8) 1 0) 1)) 0 6 0) 1 0), (x_up (x_up (x_up S6 0 0 v8) 1 0 (x_add ((x_up S6 0 0 v8) 1 0) 1)) 0 6 0))) else (x_b1 (G12_comesBack (x_up S6 0 0 v8)) fun (S10 : xU) => (some (0, S10))))))))
def G12_law_L55  : (Int × xU) → Option ((Int × xU) ⊕ xU)
  | (v8, S9) => (if (S9 0 10) ≤ v8 then (some (.inr S9)) else (x_gd ((0 : Int) ≤ v8 ∧ v8 < 400) (x_gd ((0 : Int) ≤ (x_add 372 v8) ∧ (x_add 372 v8) < 772) (some (.inl ((x_add v8 1), (x_up S9 1 ((x_add 372 v8)).toNat (S9 5 (v8).toNat))))))))
def G12_law (S : xU) : Option (Int × xU) :=
  (x_b1 (G12_begins S) fun (S1 : xU) => (x_b2 (G12_read 1 S1) fun (v3 : Int) (S4 : xU) => (x_b1 (if (S4 0 12) = (-1) then (some 0) else (some 1)) fun (v6 : Int) => (if ((x_up S4 0 0 v6) 0 0) ≤ 0 then (x_b1 (whl xFU G12_law_L55 (0, (x_up (x_up (x_up S4 0 0 v6) 1 1 v3) 1 2 ((x_up (x_up S4 0 0 v6) 1 1 v3) 0 10)))) fun (S10 : xU) => (some (v3, (x_up S10 0 6 0)))) else (some (0, (x_up S4 0 0 v6)))))))
def G12_fault (S : xU) : Option (Int × xU) :=
  (some (((x_up S 0 0 0) 0 12), (x_up S 0 0 0)))
def G12_strideOf (a : Int) (S : xU) : Option (Int × xU) :=
  (x_b1 (G12_of a 0 (x_up (x_up S 0 17 0) 0 18 0)) fun (v1 : Int) => (x_b1 (G12_seasonOf v1 (x_up (x_up S 0 17 0) 0 18 0)) fun (v3 : Int) => (if ((x_up (x_up S 0 17 0) 0 18 0) 1 1) = (-1) then (x_b1 (G12_of a 1 (x_up (x_up S 0 17 0) 0 18 0)) fun (v34 : Int) => (x_b1 (if v3 = 3 then (some 1) else (some 0)) fun (v36 : Int) => (x_b1 (G12_greater 0 (x_sub v34 v36)) fun (v38 : Int) => (some (v38, (x_up (x_up S 0 17 0) 0 18 0)))))) else (x_b1 (G12_of a 0 (x_up (x_up (x_up S 0 17 0) 0 18 0) 6 0 a)) fun (v5 : Int) => (x_b1 (G12_of a 1 (x_up (x_up (x_up (x_up S 0 17 0) 0 18 0) 6 0 a) 6 1 v5)) fun (v7 : Int) => (x_b1 (G12_of a 5 (x_up (x_up (x_up (x_up (x_up (x_up S 0 17 0) 0 18 0) 6 0 a) 6 1 v5) 6 2 v7) 6 3 v3)) fun (v9 : Int) => (x_b1 (G12_of a 2 (x_up (x_up (x_up (x_up (x_up (x_up (x_up (x_up S 0 17 0) 0 18 0) 6 0 a) 6 1 v5) 6 2 v7) 6 3 v3) 6 4 v9) 6 5 ((x_up (x_up (x_up (x_up (x_up (x_up (x_up S 0 17 0) 0 18 0) 6 0 a) 6 1 v5) 6 2 v7) 6 3 v3) 6 4 v9) 1 4))) fun (v11 : Int) => (x_b1 (G12_of a 0 (x_up (x_up (x_up (x_up (x_up (x_up (x_up (x_up (x_up S 0 17 0) 0 18 0) 6 0 a) 6 1 v5) 6 2 v7) 6 3 v3) 6 4 v9) 6 5 ((x_up (x_up (x_up (x_up (x_up (x_up (x_up S 0 17 0) 0 18 0) 6 0 a) 6 1 v5) 6 2 v7) 6 3 v3) 6 4 v9) 1 4)) 6 6 v11)) fun (v13 : Int) => (x_b1 (if (x_rem v13 4) = 0 then (some 1) else (some 0)) fun (v15 : Int) => (x_gd (v15 = 0 ∨ v15 = 1) (x_b1 (G12_of a 6 (x_up (x_up (x_up (x_up (x_up (x_up (x_up (x_up (x_up (x_up S 0 17 0) 0 18 0) 6 0 a) 6 1 v5) 6 2 v7) 6 3 v3) 6 4 v9) 6 5 ((x_up (x_up (x_up (x_up (x_up (x_up (x_up S 0 17 0) 0 18 0) 6 0 a) 6 1 v5) 6 2 v7) 6 3 v3) 6 4 v9) 1 4)) 6 6 v11) 0 15 v15)) fun (v17 : Int) => (x_b1 (if v17 ≤ 0 then (some 0) else (some 1)) fun (v19 : Int) => (x_gd (v19 = 0 ∨ v19 = 1) (x_b1 (if ((x_up (x_up (x_up (x_up (x_up (x_up (x_up (x_up (x_up (x_up (x_up (x_up (x_up S 0 17 0) 0 18 0) 6 0 a) 6 1 v5) 6 2 v7) 6 3 v3) 6 4 v9) 6 5 ((x_up (x_up (x_up (x_up (x_up (x_up (x_up S 0 17 0) 0 18 0) 6 0 a) 6 1 v5) 6 2 v7) 6 3 v3) 6 4 v9) 1 4)) 6 6 v11) 0 15 v15) 0 16 v19) 0 12 (-1)) 0 9 372) 1 1) = 0 then (some 0) else (some ((x_up (x_up (x_up (x_up (x_up (x_up (x_up (x_up (x_up (x_up (x_up (x_up (x_up S 0 17 0) 0 18 0) 6 0 a) 6 1 v5) 6 2 v7) 6 3 v3) 6 4 v9) 6 5 ((x_up (x_up (x_up (x_up (x_up (x_up (x_up S 0 17 0) 0 18 0) 6 0 a) 6 1 v5) 6 2 v7) 6 3 v3) 6 4 v9) 1 4)) 6 6 v11) 0 15 v15) 0 16 v19) 0 12 (-1)) 0 9 372) 1 2))) fun (v21 : Int) => (x_b2 (G12_read 1 (x_up (x_up (x_up (x_up (x_up (x_up (x_up (x_up (x_up (x_up (x_up (x_up (x_up (x_up (x_up (x_up S 0 17 0) 0 18 0) 6 0 a) 6 1 v5) 6 2 v7) 6 3 v3) 6 4 v9) 6 5 ((x_up (x_up (x_up (x_up (x_up (x_up (x_up S 0 17 0) 0 18 0) 6 0 a) 6 1 v5) 6 2 v7) 6 3 v3) 6 4 v9) 1 4)) 6 6 v11) 0 15 v15) 0 16 v19) 0 12 (-1)) 0 9 372) 0 10 v21) 0 11 0) 0 13 0)) fun (v23 : Int) (S24 : xU) => (x_b1 (if ((x_up S24 0 12 ((x_up (x_up (x_up (x_up (x_up (x_up (x_up (x_up (x_up (x_up (x_up S 0 17 0) 0 18 0) 6 0 a) 6 1 v5) 6 2 v7) 6 3 v3) 6 4 v9) 6 5 ((x_up (x_up (x_up (x_up (x_up (x_up (x_up S 0 17 0) 0 18 0) 6 0 a) 6 1 v5) 6 2 v7) 6 3 v3) 6 4 v9) 1 4)) 6 6 v11) 0 15 v15) 0 16 v19) 0 12)) 0 17) = 0 then (x_b1 (G12_of a 1 (x_up S24 0 12 ((x_up (x_up (x_up (x_up (x_up (x_up (x_up (x_up (x_up (x_up (x_up S 0 17 0) 0 18 0) 6 0 a) 6 1 v5) 6 2 v7) 6 3 v3) 6 4 v9) 6 5 ((x_up (x_up (x_up (x_up (x_up (x_up (x_up S 0 17 0) 0 18 0) 6 0 a) 6 1 v5) 6 2 v7) 6 3 v3) 6 4 v9) 1 4)) 6 6 v11) 0 15 v15) 0 16 v19) 0 12))) fun (v28 : Int) => (x_b1 (G12_lesser 15 (x_add v28 ((x_up S24 0 12 ((x_up (x_up (x_up (x_up (x_up (x_up (x_up (x_up (x_up (x_up (x_up S 0 17 0) 0 18 0) 6 0 a) 6 1 v5) 6 2 v7) 6 3 v3) 6 4 v9) 6 5 ((x_up (x_up (x_up (x_up (x_up (x_up (x_up S 0 17 0) 0 18 0) 6 0 a) 6 1 v5) 6 2 v7) 6 3 v3) 6 4 v9) 1 4)) 6 6 v11) 0 15 v15) 0 16 v19) 0 12)) 0 18))) fun (v30 : Int) => (x_b1 (G12_greater 0 v30) fun (v32 : Int) => (some v32)))) else (some 0)) fun (v26 : Int) => (some (v26, (x_up S24 0 12 ((x_up (x_up (x_up (x_up (x_up (x_up (x_up (x_up (x_up (x_up (x_up S 0 17 0) 0 18 0) 6 0 a) 6 1 v5) 6 2 v7) 6 3 v3) 6 4 v9) 6 5 ((x_up (x_up (x_up (x_up (x_up (x_up (x_up S 0 17 0) 0 18 0) 6 0 a) 6 1 v5) 6 2 v7) 6 3 v3) 6 4 v9) 1 4)) 6 6 v11) 0 15 v15) 0 16 v19) 0 12))))))))))))))))))))
def G12_draw (a : Int) (S : xU) : Option (Int × xU) :=
  (x_gd (a ≠ 0) (some ((x_rem (x_and (x_ush ((x_up S 1 11 (x_add (x_mul 1103515245 (S 1 11)) 12345)) 1 11) 16) 32767) a), (x_up S 1 11 (x_add (x_mul 1103515245 (S 1 11)) 12345)))))
def G12_logs_L4  : (Int × xU) → Option ((Int × xU) ⊕ xU)
  | (v1, S2) => (if v1 < 5 then (some (.inr S2)) else (x_gd ((0 : Int) ≤ (x_sub (x_add 72 v1) 5) ∧ (x_sub (x_add 72 v1) 5) < 772) (x_gd ((0 : Int) ≤ (x_add 72 v1) ∧ (x_add 72 v1) < 772) (some (.inl ((x_add v1 (-1)), (x_up S2 1 ((x_add 72 v1)).toNat (S2 1 ((x_sub (x_add 72 v1) 5)).toNat))))))))
def G12_logs (a : Int) (b : Int) (S : xU) : Option xU :=
  (x_b1 (whl xFU G12_logs_L4 (299, S)) fun (S3 : xU) => (x_b1 (G12_of b 0 (x_up (x_up (x_up (x_up S3 1 72 (S3 1 5)) 1 73 ((x_up S3 1 72 (S3 1 5)) 1 4)) 1 74 a) 1 75 b)) fun (v6 : Int) => (x_b1 (G12_lesser 60 (x_add ((x_up (x_up (x_up (x_up (x_up S3 1 72 (S3 1 5)) 1 73 ((x_up S3 1 72 (S3 1 5)) 1 4)) 1 74 a) 1 75 b) 1 76 v6) 1 10) 1)) fun (v8 : Int) => (some (x_up (x_up (x_up (x_up (x_up (x_up S3 1 72 (S3 1 5)) 1 73 ((x_up S3 1 72 (S3 1 5)) 1 4)) 1 74 a) 1 75 b) 1 76 v6) 1 10 v8)))))
def G12_walks (a : Int) (S : xU) : Option xU :=
  (x_b1 (G12_isLost a S) fun (v1 : Int) => (if v1 = 0 then (x_b1 (G12_of a 0 S) fun (v3 : Int) => (x_b2 (G12_strideOf a S) fun (v5 : Int) (S6 : xU) => (x_b1 (G12_lays a 0 (x_rem (x_add v3 v5) 16) S6) fun (S8 : xU) => (if 16 ≤ (x_add v3 v5) then (x_b1 (G12_of a 7 S8) fun (v10 : Int) => (x_b1 (G12_lesser 999 (x_add v10 1)) fun (v12 : Int) => (x_b1 (G12_lays a 7 v12 S8) fun (S14 : xU) => (x_b1 (G12_logs 1 a S14) fun (S16 : xU) => (some S16))))) else (some S8))))) else (x_b1 (G12_of a 4 S) fun (v18 : Int) => (x_b1 (G12_lays a 4 (x_sub v18 1) S) fun (S20 : xU) => (some S20)))))
def G12_eats (a : Int) (S : xU) : Option xU :=
  (x_b1 (G12_isLost a S) fun (v1 : Int) => (if v1 = 0 then (x_b1 (G12_of a 0 S) fun (v3 : Int) => (x_gd ((0 : Int) ≤ (x_add 12 (x_div v3 4)) ∧ (x_add 12 (x_div v3 4)) < 772) (x_b1 (if (S 1 ((x_add 12 (x_div v3 4))).toNat) ≤ 0 then (x_b1 (G12_of a 6 S) fun (v7 : Int) => (x_b1 (G12_lesser 99 (x_add v7 1)) fun (v9 : Int) => (some v9))) else (some 0)) fun (v5 : Int) => (x_b1 (G12_lays a 6 v5 S) fun (S11 : xU) => (x_gd ((0 : Int) ≤ (x_add 12 (x_div v3 4)) ∧ (x_add 12 (x_div v3 4)) < 772) (x_b1 (G12_greater 0 (x_sub (S11 1 ((x_add 12 (x_div v3 4))).toNat) 1)) fun (v13 : Int) => (x_gd ((0 : Int) ≤ (x_add 12 (x_div v3 4)) ∧ (x_add 12 (x_div v3 4)) < 772) (some (x_up S11 1 ((x_add 12 (x_div v3 4))).toNat v13))))))))) else (some S)))
def G12_office_L4  : (Int × Int × xU) → Option ((Int × Int × xU) ⊕ (Int × xU))
  | (v1, v2, S3) => (if (S3 1 3) ≤ v2 then (some (.inr (v1, S3))) else (x_b1 (G12_inChoir v2 S3) fun (v8 : Int) => (x_b2 (if v8 = 0 then (x_b1 (G12_of v2 5 S3) fun (v13 : Int) => (x_b1 (G12_lesser 999 (x_add v13 1)) fun (v15 : Int) => (x_b1 (G12_lays v2 5 v15 S3) fun (S17 : xU) => (x_gd ((0 : Int) ≤ v2 ∧ v2 < 7) (x_gd ((0 : Int) ≤ v2 ∧ v2 < 7) (x_b1 (G12_logs 0 v2 (x_up S17 7 (v2).toNat (x_add (S17 7 (v2).toNat) 1))) fun (S19 : xU) => (some ((x_add v1 1), S19)))))))) else (some (v1, S3))) fun (v10 : Int) (S11 : xU) => (some (.inl (v10, (x_add v2 1), S11))))))
def G12_office (S : xU) : Option (Int × xU) :=
  (x_b2 (whl xFU G12_office_L4 (0, 0, S)) fun (v4 : Int) (S5 : xU) => (some (v4, S5)))
def G12_passes_L2  : (Int × xU) → Option ((Int × xU) ⊕ xU)
  | (v1, S2) => (if (S2 1 3) ≤ v1 then (some (.inr S2)) else (x_b1 (G12_walks v1 S2) fun (S6 : xU) => (some (.inl ((x_add v1 1), S6)))))
def G12_passes_L25  : (Int × xU) → Option ((Int × xU) ⊕ xU)
  | (v8, S9) => (if (S9 1 3) ≤ v8 then (some (.inr S9)) else (x_b1 (G12_eats v8 S9) fun (S13 : xU) => (some (.inl ((x_add v8 1), S13)))))
def G12_passes_L100  : (Int × xU) → Option ((Int × xU) ⊕ xU)
  | (v29, S30) => (if 4 ≤ v29 then (some (.inr S30)) else (x_b1 (G12_seasonOf (x_mul 4 v29) S30) fun (v34 : Int) => (x_b1 (if v34 = 1 then (x_gd ((0 : Int) ≤ (x_add 12 v29) ∧ (x_add 12 v29) < 772) (x_b1 (G12_lesser 999 (x_add (S30 1 ((x_add 12 v29)).toNat) 2)) fun (v38 : Int) => (x_gd ((0 : Int) ≤ (x_add 12 v29) ∧ (x_add 12 v29) < 772) (some (x_up S30 1 ((x_add 12 v29)).toNat v38))))) else (some S30)) fun (S36 : xU) => (some (.inl ((x_add v29 1), S36))))))
def G12_passes (a : Int) (S : xU) : Option (Int × xU) :=
  (x_b1 (whl xFU G12_passes_L2 (0, S)) fun (S3 : xU) => (x_b1 (whl xFU G12_passes_L25 (0, S3)) fun (S10 : xU) => (x_b2 (if (x_rem (S10 1 4) 3) = 0 then (x_b2 (G12_office S10) fun (v18 : Int) (S19 : xU) => (some (v18, S19))) else (some (0, S10))) fun (v15 : Int) (S16 : xU) => (x_b1 (if a = 0 then (some S16) else (x_b2 (G12_draw 100 S16) fun (v23 : Int) (S24 : xU) => (if (S24 1 8) ≤ v23 then (some S24) else (x_b2 (G12_draw 5 S24) fun (v26 : Int) (S27 : xU) => (some (x_up S27 1 7 v26)))))) fun (S21 : xU) => (x_b1 (whl xFU G12_passes_L100 (0, S21)) fun (S31 : xU) => (x_b1 (if ((x_up S31 1 4 (x_add (S31 1 4) 1)) 1 4) = 24 then (x_b1 (G12_lesser 9999 (x_add ((x_up (x_up S31 1 4 (x_add (S31 1 4) 1)) 1 4 0) 1 5) 1)) fun (v42 : Int) => (some (x_up (x_up (x_up S31 1 4 (x_add (S31 1 4) 1)) 1 4 0) 1 5 v42))) else (some (x_up S31 1 4 (x_add (S31 1 4) 1)))) fun (S40 : xU) => (some (v15, S40))))))))
def G12_goes_L5 (a : Int) (b : Int) : (Int × Int × xU) → Option ((Int × Int × xU) ⊕ (Int × xU))
  | (v1, v2, S3) => (if a ≤ v2 then (some (.inr (v1, S3))) else (x_b2 (G12_passes b S3) fun (v8 : Int) (S9 : xU) => (some (.inl ((x_add v1 v8), (x_add v2 1), S9)))))
def G12_goes (a : Int) (b : Int) (S : xU) : Option (Int × xU) :=
  (x_b2 (whl xFU (G12_goes_L5 a b) (0, 0, S)) fun (v4 : Int) (S5 : xU) => (some (v4, S5)))
def G12_lateOfAll_L4 (S : xU) : (Int × Int) → Option ((Int × Int) ⊕ Int)
  | (v1, v2) => (if (S 1 3) ≤ v2 then (some (.inr v1)) else (x_b1 (G12_of v2 5 S) fun (v6 : Int) => (some (.inl ((x_add v1 v6), (x_add v2 1))))))
def G12_lateOfAll (S : xU) : Option Int :=
  (x_b1 (whl xFU (G12_lateOfAll_L4 S) (0, 0)) fun (v3 : Int) => (some v3))
def G12_monk (a : Int) (b : Int) (S : xU) : Option (Int × xU) :=
  (x_b1 (G12_isMonk a S) fun (v1 : Int) => (x_b1 (if v1 = 0 then (some 1) else (x_b1 (G12_isIn b 0 9) fun (v5 : Int) => (if v5 = 0 then (some 2) else (some 0)))) fun (v3 : Int) => (if ((x_up S 0 0 v3) 0 0) ≤ 0 then (if 8 ≤ b then (if b = 8 then (x_b2 (G12_strideOf a (x_up S 0 0 v3)) fun (v15 : Int) (S16 : xU) => (some (v15, S16))) else (x_b1 (G12_lateOfAll (x_up S 0 0 v3)) fun (v7 : Int) => (x_b1 (if v7 = 0 then (some 0) else (x_b1 (G12_of a 5 (x_up S 0 0 v3)) fun (v11 : Int) => (x_b1 (G12_lateOfAll (x_up S 0 0 v3)) fun (v13 : Int) => (x_gd (v13 ≠ 0) (some (x_div (x_mul 100 v11) v13)))))) fun (v9 : Int) => (some (v9, (x_up S 0 0 v3)))))) else (x_b1 (G12_of a b (x_up S 0 0 v3)) fun (v18 : Int) => (some (v18, (x_up S 0 0 v3))))) else (some (0, (x_up S 0 0 v3))))))
def G12_store (a : Int) (S : xU) : Option (Int × xU) :=
  (x_b1 (G12_isWalk a) fun (v1 : Int) => (x_b1 (if v1 = 0 then (some 1) else (some 0)) fun (v3 : Int) => (x_b1 (if ((x_up S 0 0 v3) 0 0) ≤ 0 then (x_gd ((0 : Int) ≤ (x_add 12 a) ∧ (x_add 12 a) < 772) (some ((x_up S 0 0 v3) 1 ((x_add 12 a)).toNat))) else (some 0)) fun (v5 : Int) => (some (v5, (x_up S 0 0 v3))))))
def G12_season (a : Int) (S : xU) : Option (Int × xU) :=
  (x_b1 (G12_isFlag a) fun (v1 : Int) => (x_b1 (if v1 = 0 then (some 1) else (some 0)) fun (v3 : Int) => (x_b1 (if ((x_up S 0 0 v3) 0 0) ≤ 0 then (x_b1 (G12_seasonOf a (x_up S 0 0 v3)) fun (v7 : Int) => (some v7)) else (some 0)) fun (v5 : Int) => (some (v5, (x_up S 0 0 v3))))))
def G12_remembers_L11  : (Int × xU) → Option ((Int × xU) ⊕ xU)
  | (v3, S4) => (if 4092 ≤ v3 then (some (.inr S4)) else (x_gd ((0 : Int) ≤ (x_add v3 372) ∧ (x_add v3 372) < 4464) (x_gd ((0 : Int) ≤ v3 ∧ v3 < 4464) (some (.inl ((x_add v3 1), (x_up S4 4 (v3).toNat (S4 4 ((x_add v3 372)).toNat))))))))
def G12_remembers_L52  : (Int × xU) → Option ((Int × xU) ⊕ xU)
  | (v8, S9) => (if 372 ≤ v8 then (some (.inr S9)) else (x_gd ((0 : Int) ≤ v8 ∧ v8 < 772) (x_gd ((0 : Int) ≤ (x_add (x_mul 372 (S9 0 6)) v8) ∧ (x_add (x_mul 372 (S9 0 6)) v8) < 4464) (some (.inl ((x_add v8 1), (x_up S9 4 ((x_add (x_mul 372 (S9 0 6)) v8)).toNat (S9 1 (v8).toNat))))))))
def G12_remembers (S : xU) : Option xU :=
  (x_b1 (if (S 0 6) = 12 then (x_b1 (whl xFU G12_remembers_L11 (0, S)) fun (S5 : xU) => (some (x_up S5 0 6 (x_sub (S5 0 6) 1)))) else (some S)) fun (S1 : xU) => (x_b1 (whl xFU G12_remembers_L52 (0, S1)) fun (S10 : xU) => (some (x_up S10 0 6 (x_add (S10 0 6) 1)))))
def G12_sets (a : Int) (b : Int) (S : xU) : Option (Int × xU) :=
  (x_b1 (G12_remembers S) fun (S1 : xU) => (x_gd ((0 : Int) ≤ a ∧ a < 772) (x_gd ((0 : Int) ≤ a ∧ a < 772) (some ((S1 1 (a).toNat), (x_up S1 1 (a).toNat b))))))
def G12_hours (a : Int) (S : xU) : Option (Int × xU) :=
  (x_b1 (G12_isIn a 1 72) fun (v1 : Int) => (x_b1 (if v1 = 0 then (some 1) else (some 0)) fun (v3 : Int) => (if ((x_up S 0 0 v3) 0 0) ≤ 0 then (x_b1 (G12_remembers (x_up S 0 0 v3)) fun (S5 : xU) => (x_b2 (G12_goes a 1 S5) fun (v7 : Int) (S8 : xU) => (some (v7, S8)))) else (some (0, (x_up S 0 0 v3))))))
def G12_cross (a : Int) (S : xU) : Option (Int × xU) :=
  (x_b1 (G12_isMonk a S) fun (v1 : Int) => (x_b1 (if v1 = 0 then (some 1) else (some 0)) fun (v3 : Int) => (if ((x_up S 0 0 v3) 0 0) ≤ 0 then (x_b1 (G12_isLost a (x_up S 0 0 v3)) fun (v5 : Int) => (x_b1 (if v5 = 0 then (some 0) else (some 2)) fun (v7 : Int) => (if ((x_up (x_up S 0 0 v3) 0 0 v7) 0 0) ≤ 0 then (x_b2 (G12_sets (x_add (x_add 16 (x_mul 8 a)) 4) ((x_up (x_up S 0 0 v3) 0 0 v7) 1 9) (x_up (x_up S 0 0 v3) 0 0 v7)) fun (v9 : Int) (S10 : xU) => (x_b1 (G12_of a 0 S10) fun (v12 : Int) => (x_b1 (G12_lays a 0 (x_rem (x_add v12 8) 16) S10) fun (S14 : xU) => (x_b1 (G12_of a 0 S14) fun (v16 : Int) => (some (v16, S14)))))) else (some (0, (x_up (x_up S 0 0 v3) 0 0 v7)))))) else (some (0, (x_up S 0 0 v3))))))
def G12_bell (a : Int) (S : xU) : Option (Int × xU) :=
  (x_b1 (G12_isFlag a) fun (v1 : Int) => (x_b1 (if v1 = 0 then (some 1) else (some 0)) fun (v3 : Int) => (x_b2 (if ((x_up S 0 0 v3) 0 0) ≤ 0 then (x_b2 (G12_sets 6 a (x_up S 0 0 v3)) fun (v8 : Int) (S9 : xU) => (some (v8, S9))) else (some (0, (x_up S 0 0 v3)))) fun (v5 : Int) (S6 : xU) => (some (v5, S6)))))
def G12_mood (a : Int) (S : xU) : Option (Int × xU) :=
  (x_b1 (G12_isIn a 0 4) fun (v1 : Int) => (x_b1 (if v1 = 0 then (some 1) else (some 0)) fun (v3 : Int) => (x_b2 (if ((x_up S 0 0 v3) 0 0) ≤ 0 then (x_b2 (G12_sets 7 a (x_up S 0 0 v3)) fun (v8 : Int) (S9 : xU) => (some (v8, S9))) else (some (0, (x_up S 0 0 v3)))) fun (v5 : Int) (S6 : xU) => (some (v5, S6)))))
def G12_areTwo (a : Int) (b : Int) (S : xU) : Option xU :=
  (x_b1 (G12_isMonk a S) fun (v1 : Int) => (x_b1 (if v1 = 0 then (some 1) else (x_b1 (G12_isMonk b S) fun (v5 : Int) => (if v5 = 0 then (some 1) else (if a = b then (some 2) else (some 0))))) fun (v3 : Int) => (some (x_up S 0 0 v3))))
def G12_change (a : Int) (b : Int) (S : xU) : Option (Int × xU) :=
  (x_b1 (G12_areTwo a b S) fun (S1 : xU) => (if (S1 0 0) ≤ 0 then (x_b1 (G12_of b 2 S1) fun (v3 : Int) => (x_b2 (G12_sets (x_add (x_add 16 (x_mul 8 a)) 2) v3 S1) fun (v5 : Int) (S6 : xU) => (x_b1 (G12_lays b 2 v5 S6) fun (S8 : xU) => (x_b1 (G12_of a 2 S8) fun (v10 : Int) => (some (v10, S8)))))) else (some (0, S1))))
def G12_pace (a : Int) (b : Int) (S : xU) : Option (Int × xU) :=
  (x_b1 (G12_isMonk a S) fun (v1 : Int) => (x_b1 (if v1 = 0 then (some 1) else (x_b1 (G12_isIn b 0 8) fun (v5 : Int) => (if v5 = 0 then (some 2) else (some 0)))) fun (v3 : Int) => (x_b2 (if ((x_up S 0 0 v3) 0 0) ≤ 0 then (x_b2 (G12_sets (x_add (x_add 16 (x_mul 8 a)) 1) b (x_up S 0 0 v3)) fun (v10 : Int) (S11 : xU) => (some (v10, S11))) else (some (0, (x_up S 0 0 v3)))) fun (v7 : Int) (S8 : xU) => (some (v7, S8)))))
def G12_fill (a : Int) (b : Int) (S : xU) : Option (Int × xU) :=
  (x_b1 (G12_isWalk a) fun (v1 : Int) => (x_b1 (if v1 = 0 then (some 1) else (x_b1 (G12_isIn b 1 99) fun (v5 : Int) => (if v5 = 0 then (some 2) else (some 0)))) fun (v3 : Int) => (if ((x_up S 0 0 v3) 0 0) ≤ 0 then (x_gd ((0 : Int) ≤ (x_add 12 a) ∧ (x_add 12 a) < 772) (x_b1 (G12_lesser 999 (x_add ((x_up S 0 0 v3) 1 ((x_add 12 a)).toNat) b)) fun (v7 : Int) => (x_b2 (G12_sets (x_add 12 a) v7 (x_up S 0 0 v3)) fun (v9 : Int) (S10 : xU) => (x_gd ((0 : Int) ≤ (x_add 12 a) ∧ (x_add 12 a) < 772) (some ((S10 1 ((x_add 12 a)).toNat), S10)))))) else (some (0, (x_up S 0 0 v3))))))
def G12_find (a : Int) (S : xU) : Option (Int × xU) :=
  (x_b1 (G12_isMonk a S) fun (v1 : Int) => (x_b1 (if v1 = 0 then (some 1) else (some 0)) fun (v3 : Int) => (if ((x_up S 0 0 v3) 0 0) ≤ 0 then (x_b1 (G12_isLost a (x_up S 0 0 v3)) fun (v5 : Int) => (x_b1 (if v5 = 0 then (some 2) else (some 0)) fun (v7 : Int) => (x_b2 (if ((x_up (x_up S 0 0 v3) 0 0 v7) 0 0) ≤ 0 then (x_b2 (G12_sets (x_add (x_add 16 (x_mul 8 a)) 4) 0 (x_up (x_up S 0 0 v3) 0 0 v7)) fun (v12 : Int) (S13 : xU) => (some (v12, S13))) else (some (0, (x_up (x_up S 0 0 v3) 0 0 v7)))) fun (v9 : Int) (S10 : xU) => (some (v9, S10))))) else (some (0, (x_up S 0 0 v3))))))
def G12_choir_L9 (S : xU) : (Int × Int) → Option ((Int × Int) ⊕ Int)
  | (v1, v2) => (if ((x_up S 0 0 0) 1 3) ≤ v2 then (some (.inr v1)) else (x_b1 (G12_inChoir v2 (x_up S 0 0 0)) fun (v6 : Int) => (x_b1 (if v6 = 0 then (some 0) else (some (x_shl 1 v2))) fun (v8 : Int) => (some (.inl ((x_or v1 v8), (x_add v2 1)))))))
def G12_choir (S : xU) : Option (Int × xU) :=
  (x_b1 (whl xFU (G12_choir_L9 S) (0, 0)) fun (v3 : Int) => (some (v3, (x_up S 0 0 0))))
def G12_firstAt_L10 (a : Int) (b : Int) (c : Int) : (Int × Int × xU) → Option ((Int × Int × xU) ⊕ (Int × xU))
  | (v3, v4, S5) => (if 72 < v4 then (some (.inr (v3, S5))) else (if v3 = (-1) then (x_b1 (if b = (-1) then (x_b1 (G12_isLost c S5) fun (v14 : Int) => (if v14 = 0 then (x_b1 (G12_of a 0 S5) fun (v16 : Int) => (x_b1 (G12_of c 0 S5) fun (v18 : Int) => (if v16 = v18 then (some 1) else (some 0)))) else (some 0))) else (x_b1 (G12_of a 0 S5) fun (v12 : Int) => (if v12 = b then (some 1) else (some 0)))) fun (v10 : Int) => (x_b1 (if v10 = 0 then (some v3) else (x_b1 (G12_isLost a S5) fun (v22 : Int) => (if v22 = 0 then (some v4) else (some v3)))) fun (v20 : Int) => (x_b2 (G12_passes 0 S5) fun (v24 : Int) (S25 : xU) => (some (.inl (v20, (x_add v4 1), S25)))))) else (some (.inr (v3, S5)))))
def G12_firstAt (a : Int) (b : Int) (c : Int) (S : xU) : Option (Int × xU) :=
  (x_b1 (G12_putsAside S) fun (S1 : xU) => (x_b2 (whl xFU (G12_firstAt_L10 a b c) ((-1), 0, S1)) fun (v6 : Int) (S7 : xU) => (x_b1 (G12_comesBack S7) fun (S27 : xU) => (some (v6, S27)))))
def G12_when (a : Int) (b : Int) (S : xU) : Option (Int × xU) :=
  (x_b1 (G12_isMonk a S) fun (v1 : Int) => (x_b1 (if v1 = 0 then (some 1) else (x_b1 (G12_isFlag b) fun (v5 : Int) => (if v5 = 0 then (some 1) else (some 0)))) fun (v3 : Int) => (x_b2 (if ((x_up S 0 0 v3) 0 0) ≤ 0 then (x_b2 (G12_firstAt a b a (x_up S 0 0 v3)) fun (v10 : Int) (S11 : xU) => (some (v10, S11))) else (some (0, (x_up S 0 0 v3)))) fun (v7 : Int) (S8 : xU) => (some (v7, S8)))))
def G12_meet (a : Int) (b : Int) (S : xU) : Option (Int × xU) :=
  (x_b1 (G12_areTwo a b S) fun (S1 : xU) => (x_b2 (if (S1 0 0) ≤ 0 then (x_b2 (G12_firstAt a (-1) b S1) fun (v6 : Int) (S7 : xU) => (some (v6, S7))) else (some (0, S1))) fun (v3 : Int) (S4 : xU) => (some (v3, S4))))
def G12_latesIn_L2  : (Int × xU) → Option ((Int × xU) ⊕ xU)
  | (v1, S2) => (if 7 ≤ v1 then (some (.inr S2)) else (x_gd ((0 : Int) ≤ v1 ∧ v1 < 7) (some (.inl ((x_add v1 1), (x_up S2 7 (v1).toNat 0))))))
def G12_latesIn_L29 (a : Int) : (Int × Int × xU) → Option ((Int × Int × xU) ⊕ (Int × xU))
  | (v8, v9, S10) => (if a ≤ v9 then (some (.inr (v8, S10))) else (x_b1 (if (x_rem (S10 1 4) 3) = 0 then (some 1) else (some 0)) fun (v15 : Int) => (x_b2 (G12_passes 0 S10) fun (v17 : Int) (S18 : xU) => (some (.inl ((x_add v8 v17), (x_add v9 v15), S18))))))
def G12_latesIn (a : Int) (S : xU) : Option (Int × xU) :=
  (x_b1 (whl xFU G12_latesIn_L2 (0, S)) fun (S3 : xU) => (x_b1 (G12_putsAside S3) fun (S6 : xU) => (x_b2 (whl xFU (G12_latesIn_L29 a) (0, 0, S6)) fun (v11 : Int) (S12 : xU) => (x_b1 (G12_comesBack S12) fun (S20 : xU) => (some (v11, S20))))))
def G12_lates (a : Int) (S : xU) : Option (Int × xU) :=
  (x_b1 (G12_isIn a 0 9) fun (v1 : Int) => (x_b1 (if v1 = 0 then (some 1) else (some 0)) fun (v3 : Int) => (x_b2 (if ((x_up S 0 0 v3) 0 0) ≤ 0 then (x_b2 (G12_latesIn a (x_up S 0 0 v3)) fun (v8 : Int) (S9 : xU) => (some (v8, S9))) else (some (0, (x_up S 0 0 v3)))) fun (v5 : Int) (S6 : xU) => (some (v5, S6)))))
def G12_tardy_L16 (S2 : xU) : (Int × Int) → Option ((Int × Int) ⊕ Int)
  | (v4, v5) => (if (S2 1 3) ≤ v5 then (some (.inr v4)) else (x_gd ((0 : Int) ≤ v5 ∧ v5 < 7) (x_b1 (if v4 = (-1) then (some 0) else (x_gd ((0 : Int) ≤ v4 ∧ v4 < 7) (some (S2 7 (v4).toNat)))) fun (v9 : Int) => (x_b1 (if (S2 7 (v5).toNat) ≤ v9 then (some v4) else (some v5)) fun (v11 : Int) => (some (.inl (v11, (x_add v5 1))))))))
def G12_tardy (S : xU) : Option (Int × xU) :=
  (x_b2 (G12_latesIn 8 (x_up S 0 0 0)) fun (v1 : Int) (S2 : xU) => (x_b1 (whl xFU (G12_tardy_L16 S2) ((-1), 0)) fun (v6 : Int) => (some (v6, S2))))
def G12_leastBy_L18 (a : Int) (b : Int) : (Int × Int × Int × xU) → Option ((Int × Int × Int × xU) ⊕ (Int × xU))
  | (v1, v2, v3, S4) => (if b ≤ v3 then (some (.inr (v1, S4))) else (x_gd ((0 : Int) ≤ a ∧ a < 772) (x_b2 (G12_latesIn 8 (x_up S4 1 (a).toNat v3)) fun (v9 : Int) (S10 : xU) => (x_b2 (if v9 < v2 then (some (v3, v9)) else (some (v1, v2))) fun (v12 : Int) (v13 : Int) => (some (.inl (v12, v13, (x_add v3 1), S10)))))))
def G12_leastBy (a : Int) (b : Int) (S : xU) : Option (Int × xU) :=
  (x_gd ((0 : Int) ≤ a ∧ a < 772) (x_b2 (whl xFU (G12_leastBy_L18 a b) (0, 2000000000, 0, S)) fun (v5 : Int) (S6 : xU) => (x_gd ((0 : Int) ≤ a ∧ a < 772) (some (v5, (x_up S6 1 (a).toNat (S 1 (a).toNat)))))))
def G12_ring (S : xU) : Option (Int × xU) :=
  (x_b2 (G12_leastBy 6 16 (x_up S 0 0 0)) fun (v1 : Int) (S2 : xU) => (some (v1, S2)))
def G12_humour (S : xU) : Option (Int × xU) :=
  (x_b2 (G12_leastBy 7 5 (x_up S 0 0 0)) fun (v1 : Int) (S2 : xU) => (some (v1, S2)))
def G12_starves_L26 (v4 : Int) (S5 : xU) : (Int × Int) → Option ((Int × Int) ⊕ Int)
  | (v10, v11) => (if (S5 1 3) ≤ v11 then (some (.inr v10)) else (x_b1 (G12_of v11 6 S5) fun (v15 : Int) => (x_b1 (if v15 ≤ 0 then (some v10) else (some v4)) fun (v17 : Int) => (some (.inl (v17, (x_add v11 1)))))))
def G12_starves_L13  : (Int × Int × xU) → Option ((Int × Int × xU) ⊕ (Int × xU))
  | (v3, v4, S5) => (if 72 < v4 then (some (.inr (v3, S5))) else (if v3 = (-1) then (x_b1 (whl xFU (G12_starves_L26 v4 S5) (v3, 0)) fun (v12 : Int) => (x_b2 (G12_passes 0 S5) fun (v19 : Int) (S20 : xU) => (some (.inl (v12, (x_add v4 1), S20))))) else (some (.inr (v3, S5)))))
def G12_starves (S : xU) : Option (Int × xU) :=
  (x_b1 (G12_putsAside (x_up S 0 0 0)) fun (S1 : xU) => (x_b2 (whl xFU G12_starves_L13 ((-1), 0, S1)) fun (v6 : Int) (S7 : xU) => (x_b1 (G12_comesBack S7) fun (S22 : xU) => (some (v6, S22)))))
def G12_farOf (a : Int) (b : Int) (S : xU) : Option Int :=
  (x_b1 (G12_steps a b) fun (v1 : Int) => (x_b1 (G12_greater 1 (S 1 9)) fun (v3 : Int) => (x_b1 (G12_steps (x_rem (x_add a 8) 16) b) fun (v5 : Int) => (x_b1 (G12_lesser v1 (x_add v3 v5)) fun (v7 : Int) => (some v7)))))
def G12_far (a : Int) (b : Int) (S : xU) : Option (Int × xU) :=
  (x_b1 (G12_isFlag a) fun (v1 : Int) => (x_b1 (if v1 = 0 then (some 1) else (x_b1 (G12_isFlag b) fun (v5 : Int) => (if v5 = 0 then (some 1) else (some 0)))) fun (v3 : Int) => (x_b1 (if ((x_up S 0 0 v3) 0 0) ≤ 0 then (x_b1 (G12_farOf a b (x_up S 0 0 v3)) fun (v9 : Int) => (some v9)) else (some 0)) fun (v7 : Int) => (some (v7, (x_up S 0 0 v3))))))
def G12_areFlags_L17 (a : Int) (S : xU) : (Int × Int × Int) → Option ((Int × Int × Int) ⊕ Int)
  | (v3, v4, v5) => (if a ≤ v5 then (some (.inr v3)) else (if v3 = 0 then (some (.inr v3)) else (x_gd ((0 : Int) ≤ v5 ∧ v5 < 400) (x_b1 (if 16 ≤ (S 5 (v5).toNat) then (some 0) else (x_gd ((0 : Int) ≤ v5 ∧ v5 < 400) (x_b1 (G12_isOf v4 (S 5 (v5).toNat)) fun (v11 : Int) => (if v11 = 0 then (some 1) else (some 0))))) fun (v9 : Int) => (x_b1 (if v9 = 0 then (some 0) else (x_gd ((0 : Int) ≤ v5 ∧ v5 < 400) (some (x_shl 1 (S 5 (v5).toNat))))) fun (v13 : Int) => (some (.inl (v9, (x_or v4 v13), (x_add v5 1)))))))))
def G12_areFlags (a : Int) (S : xU) : Option Int :=
  (x_b1 (if 7 < a then (some 0) else (some 1)) fun (v1 : Int) => (x_b1 (whl xFU (G12_areFlags_L17 a S) (v1, 0, 0)) fun (v6 : Int) => (x_gd (v6 = 0 ∨ v6 = 1) (some v6))))
def G12_roadsOf_L38 (a : Int) (v1 : Int) (v6 : Int) (S7 : xU) : (Int × Int) → Option ((Int × Int) ⊕ Int)
  | (v13, v14) => (if a ≤ v14 then (some (.inr v13)) else (x_b1 (G12_isOf v1 v14) fun (v18 : Int) => (x_b1 (if v18 = 0 then (x_gd ((0 : Int) ≤ v6 ∧ v6 < 400) (x_gd ((0 : Int) ≤ v14 ∧ v14 < 400) (x_b1 (G12_farOf (S7 5 (v6).toNat) (S7 5 (v14).toNat) S7) fun (v22 : Int) => (x_gd ((0 : Int) ≤ (x_add (x_mul 8 (x_or v1 (x_shl 1 v14))) v14) ∧ (x_add (x_mul 8 (x_or v1 (x_shl 1 v14))) v14) < 1024) (x_b1 (G12_lesser v13 (x_add v22 (S7 10 ((x_add (x_mul 8 (x_or v1 (x_shl 1 v14))) v14)).toNat))) fun (v24 : Int) => (some v24)))))) else (some v13)) fun (v20 : Int) => (some (.inl (v20, (x_add v14 1)))))))
def G12_roadsOf_L12 (a : Int) (v1 : Int) : (Int × xU) → Option ((Int × xU) ⊕ xU)
  | (v6, S7) => (if a ≤ v6 then (some (.inr S7)) else (x_b1 (if v1 = (x_sub (x_shl 1 a) 1) then (some 0) else (some 2000000000)) fun (v11 : Int) => (x_b1 (whl xFU (G12_roadsOf_L38 a v1 v6 S7) (v11, 0)) fun (v15 : Int) => (x_gd ((0 : Int) ≤ (x_add (x_mul 8 v1) v6) ∧ (x_add (x_mul 8 v1) v6) < 1024) (some (.inl ((x_add v6 1), (x_up S7 10 ((x_add (x_mul 8 v1) v6)).toNat v15))))))))
def G12_roadsOf_L6 (a : Int) : (Int × xU) → Option ((Int × xU) ⊕ xU)
  | (v1, S2) => (if v1 < 0 then (some (.inr S2)) else (x_b1 (whl xFU (G12_roadsOf_L12 a v1) (0, S2)) fun (S8 : xU) => (some (.inl ((x_add v1 (-1)), S8)))))
def G12_roadsOf (a : Int) (S : xU) : Option xU :=
  (x_b1 (whl xFU (G12_roadsOf_L6 a) ((x_sub (x_shl 1 a) 1), S)) fun (S3 : xU) => (some S3))
def G12_road_L78 (a : Int) (S : xU) (S7 : xU) : (Int × Int × Int) → Option ((Int × Int × Int) ⊕ (Int × Int))
  | (v9, v10, v11) => (if (S 0 8) ≤ v11 then (some (.inr (v9, v10))) else (x_gd ((0 : Int) ≤ v11 ∧ v11 < 400) (x_b1 (G12_farOf a (S7 5 (v11).toNat) S7) fun (v16 : Int) => (x_gd ((0 : Int) ≤ (x_add (x_mul 8 (x_shl 1 v11)) v11) ∧ (x_add (x_mul 8 (x_shl 1 v11)) v11) < 1024) (x_b1 (if v9 ≤ (x_add v16 (S7 10 ((x_add (x_mul 8 (x_shl 1 v11)) v11)).toNat)) then (some v10) else (some 16)) fun (v18 : Int) => (x_b1 (if v9 < (x_add v16 (S7 10 ((x_add (x_mul 8 (x_shl 1 v11)) v11)).toNat)) then (some v18) else (x_gd ((0 : Int) ≤ v11 ∧ v11 < 400) (x_b1 (G12_lesser v18 (S7 5 (v11).toNat)) fun (v22 : Int) => (some v22)))) fun (v20 : Int) => (x_b1 (G12_lesser v9 (x_add v16 (S7 10 ((x_add (x_mul 8 (x_shl 1 v11)) v11)).toNat))) fun (v24 : Int) => (some (.inl (v24, v20, (x_add v11 1)))))))))))
def G12_road (a : Int) (b : Int) (S : xU) : Option (Int × xU) :=
  (x_b1 (G12_isFlag a) fun (v1 : Int) => (x_b1 (if v1 = 0 then (some 1) else (x_b1 (G12_areFlags (S 0 8) (x_up S 0 8 0)) fun (v5 : Int) => (if v5 = 0 then (some 2) else (some 0)))) fun (v3 : Int) => (if ((x_up (x_up S 0 8 0) 0 0 v3) 0 0) ≤ 0 then (if (S 0 8) = 0 then (x_b1 (if b = 0 then (some 0) else (some (-1))) fun (v28 : Int) => (some (v28, (x_up (x_up S 0 8 0) 0 0 v3)))) else (x_b1 (G12_roadsOf (S 0 8) (x_up (x_up S 0 8 0) 0 0 v3)) fun (S7 : xU) => (x_b2 (whl xFU (G12_road_L78 a S S7) (2000000000, 16, 0)) fun (v12 : Int) (v13 : Int) => (x_b1 (if b = 0 then (some v12) else (some v13)) fun (v26 : Int) => (some (v26, S7)))))) else (some (0, (x_up (x_up S 0 8 0) 0 0 v3))))))
def G12_seatsOf_L2  : (Int × xU) → Option ((Int × xU) ⊕ xU)
  | (v1, S2) => (if 4096 ≤ v1 then (some (.inr S2)) else (x_gd ((0 : Int) ≤ (x_add (x_mul 4096 (S2 1 3)) v1) ∧ (x_add (x_mul 4096 (S2 1 3)) v1) < 32768) (some (.inl ((x_add v1 1), (x_up S2 8 ((x_add (x_mul 4096 (S2 1 3)) v1)).toNat 0))))))
def G12_seatsOf_L85 (v6 : Int) (v11 : Int) (S12 : xU) (v16 : Int) : (Int × Int) → Option ((Int × Int) ⊕ Int)
  | (v18, v19) => (if 12 ≤ v19 then (some (.inr v18)) else (x_b1 (G12_isOf (x_and v16 (x_xor v11 (-1))) v19) fun (v23 : Int) => (x_b1 (if v23 = 0 then (some v18) else (x_gd ((0 : Int) ≤ (x_add (x_mul 4096 (x_add v6 1)) (x_or v11 (x_shl 1 v19))) ∧ (x_add (x_mul 4096 (x_add v6 1)) (x_or v11 (x_shl 1 v19))) < 32768) (x_b1 (G12_greater v18 (x_add 1 (S12 8 ((x_add (x_mul 4096 (x_add v6 1)) (x_or v11 (x_shl 1 v19)))).toNat))) fun (v27 : Int) => (some v27)))) fun (v25 : Int) => (some (.inl (v25, (x_add v19 1)))))))
def G12_seatsOf_L48 (v6 : Int) : (Int × xU) → Option ((Int × xU) ⊕ xU)
  | (v11, S12) => (if 4096 ≤ v11 then (some (.inr S12)) else (x_gd ((0 : Int) ≤ (x_add (x_mul 4096 (x_add v6 1)) v11) ∧ (x_add (x_mul 4096 (x_add v6 1)) v11) < 32768) (x_b1 (G12_of v6 3 S12) fun (v16 : Int) => (x_b1 (whl xFU (G12_seatsOf_L85 v6 v11 S12 v16) ((S12 8 ((x_add (x_mul 4096 (x_add v6 1)) v11)).toNat), 0)) fun (v20 : Int) => (x_gd ((0 : Int) ≤ (x_add (x_mul 4096 v6) v11) ∧ (x_add (x_mul 4096 v6) v11) < 32768) (some (.inl ((x_add v11 1), (x_up S12 8 ((x_add (x_mul 4096 v6) v11)).toNat v20)))))))))
def G12_seatsOf_L42  : (Int × xU) → Option ((Int × xU) ⊕ xU)
  | (v6, S7) => (if v6 < 0 then (some (.inr S7)) else (x_b1 (whl xFU (G12_seatsOf_L48 v6) (0, S7)) fun (S13 : xU) => (some (.inl ((x_add v6 (-1)), S13)))))
def G12_seatsOf (S : xU) : Option xU :=
  (x_b1 (whl xFU G12_seatsOf_L2 (0, S)) fun (S3 : xU) => (x_b1 (whl xFU G12_seatsOf_L42 ((x_sub (S3 1 3) 1), S3)) fun (S8 : xU) => (some S8)))
def G12_seats_L66 (S5 : xU) (v7 : Int) (v9 : Int) : (Int × Int) → Option ((Int × Int) ⊕ Int)
  | (v13, v14) => (if v14 < 0 then (some (.inr v13)) else (x_b1 (G12_of v9 3 S5) fun (v18 : Int) => (x_b1 (G12_isOf (x_and v18 (x_xor v7 (-1))) v14) fun (v20 : Int) => (x_b1 (if v20 = 0 then (some v13) else (x_gd ((0 : Int) ≤ (x_add (x_mul 4096 (x_add v9 1)) (x_or v7 (x_shl 1 v14))) ∧ (x_add (x_mul 4096 (x_add v9 1)) (x_or v7 (x_shl 1 v14))) < 32768) (x_gd ((0 : Int) ≤ (x_add (x_mul 4096 v9) v7) ∧ (x_add (x_mul 4096 v9) v7) < 32768) (if (x_add 1 (S5 8 ((x_add (x_mul 4096 (x_add v9 1)) (x_or v7 (x_shl 1 v14)))).toNat)) = (S5 8 ((x_add (x_mul 4096 v9) v7)).toNat) then (some v14) else (some v13))))) fun (v22 : Int) => (some (.inl (v22, (x_add v14 (-1)))))))))
def G12_seats_L54 (a : Int) (S5 : xU) : (Int × Int × Int) → Option ((Int × Int × Int) ⊕ Int)
  | (v7, v8, v9) => (if a < v9 then (some (.inr v8)) else (x_b1 (whl xFU (G12_seats_L66 S5 v7 v9) ((-1), 11)) fun (v15 : Int) => (x_b1 (if v15 = (-1) then (some 0) else (some (x_shl 1 v15))) fun (v24 : Int) => (some (.inl ((x_or v7 v24), v15, (x_add v9 1)))))))
def G12_seats (a : Int) (S : xU) : Option (Int × xU) :=
  (x_b1 (if a = (-1) then (some 0) else (x_b1 (G12_isMonk a S) fun (v3 : Int) => (if v3 = 0 then (some 1) else (some 0)))) fun (v1 : Int) => (if ((x_up S 0 0 v1) 0 0) ≤ 0 then (x_b1 (G12_seatsOf (x_up S 0 0 v1)) fun (S5 : xU) => (if a = (-1) then (some ((S5 8 0), S5)) else (x_b1 (whl xFU (G12_seats_L54 a S5) (0, (-1), 0)) fun (v10 : Int) => (some (v10, S5))))) else (some (0, (x_up S 0 0 v1)))))
def G12_likesOf_L4 (a : Int) (S : xU) : (Int × Int) → Option ((Int × Int) ⊕ Int)
  | (v1, v2) => (if (S 1 3) ≤ v2 then (some (.inr v1)) else (x_b1 (G12_isOf a v2) fun (v6 : Int) => (x_b1 (if v6 = 0 then (some 0) else (x_b1 (G12_of v2 3 S) fun (v10 : Int) => (some v10))) fun (v8 : Int) => (some (.inl ((x_or v1 v8), (x_add v2 1)))))))
def G12_likesOf (a : Int) (S : xU) : Option Int :=
  (x_b1 (whl xFU (G12_likesOf_L4 a S) (0, 0)) fun (v3 : Int) => (some v3))
def G12_shown_L9 (S : xU) : (Int × Int) → Option ((Int × Int) ⊕ Int)
  | (v1, v2) => (x_b1 (G12_all (x_up S 0 0 0)) fun (v6 : Int) => (if v6 < v2 then (some (.inr v1)) else (x_b1 (G12_likesOf v2 (x_up S 0 0 0)) fun (v8 : Int) => (x_b1 (G12_bits v8) fun (v10 : Int) => (x_b1 (G12_bits v2) fun (v12 : Int) => (x_b1 (if v12 ≤ v10 then (some v1) else (if v1 = 0 then (some v2) else (x_b1 (G12_bits v2) fun (v16 : Int) => (x_b1 (G12_bits v1) fun (v18 : Int) => (if v18 ≤ v16 then (some v1) else (some v2)))))) fun (v14 : Int) => (some (.inl (v14, (x_add v2 1))))))))))
def G12_shown (S : xU) : Option (Int × xU) :=
  (x_b1 (whl xFU (G12_shown_L9 S) (0, 1)) fun (v3 : Int) => (some (v3, (x_up S 0 0 0))))
def G12_serves_L32 (a : Int) (S : xU) (v3 : Int) : (Int × Int) → Option ((Int × Int) ⊕ Int)
  | (v5, v6) => (if ((x_up S 0 0 v3) 1 3) ≤ v6 then (some (.inr v5)) else (x_b1 (G12_of v6 3 (x_up S 0 0 v3)) fun (v10 : Int) => (x_b1 (G12_isOf v10 a) fun (v12 : Int) => (x_b1 (if v12 = 0 then (some 0) else (some (x_shl 1 v6))) fun (v14 : Int) => (some (.inl ((x_or v5 v14), (x_add v6 1))))))))
def G12_serves (a : Int) (S : xU) : Option (Int × xU) :=
  (x_b1 (G12_isIn a 0 11) fun (v1 : Int) => (x_b1 (if v1 = 0 then (some 1) else (some 0)) fun (v3 : Int) => (if ((x_up S 0 0 v3) 0 0) ≤ 0 then (x_b1 (whl xFU (G12_serves_L32 a S v3) (0, 0)) fun (v7 : Int) => (some (v7, (x_up S 0 0 v3)))) else (some (0, (x_up S 0 0 v3))))))
def G12_pains (a : Int) (b : Int) (S : xU) : Option Int :=
  (x_b1 (G12_of a 2 S) fun (v1 : Int) => (x_b1 (G12_of a 3 S) fun (v3 : Int) => (x_b1 (G12_isOf v3 b) fun (v5 : Int) => (x_b1 (if v5 = 0 then (some 100) else (some 0)) fun (v7 : Int) => (x_b1 (G12_lesser (x_rem (x_add (x_sub b v1) 12) 12) (x_sub 12 (x_rem (x_add (x_sub b v1) 12) 12))) fun (v9 : Int) => (some (x_add v7 v9)))))))
def G12_pointsTo_L5 (a : Int) (b : Int) (S : xU) : (Int × Int) → Option ((Int × Int) ⊕ Int)
  | (v1, v2) => (if (S 1 3) ≤ v2 then (some (.inr v1)) else (x_b1 (G12_isOf b v2) fun (v6 : Int) => (x_b1 (if v6 = 0 then (some v1) else (if v1 = (-1) then (some v2) else (x_b1 (G12_of v2 2 S) fun (v10 : Int) => (x_b1 (G12_pains a v10 S) fun (v12 : Int) => (x_b1 (G12_of v1 2 S) fun (v14 : Int) => (x_b1 (G12_pains a v14 S) fun (v16 : Int) => (if v16 ≤ v12 then (some v1) else (some v2)))))))) fun (v8 : Int) => (some (.inl (v8, (x_add v2 1)))))))
def G12_pointsTo (a : Int) (b : Int) (S : xU) : Option Int :=
  (x_b1 (whl xFU (G12_pointsTo_L5 a b S) ((-1), 0)) fun (v3 : Int) => (some v3))
def G12_ringOf_L10 (a : Int) (b : Int) (S : xU) : (Int × Int) → Option ((Int × Int) ⊕ (Int × Int))
  | (v3, v4) => (if v3 = a then (some (.inr (v3, v4))) else (if 7 < v4 then (some (.inr (v3, v4))) else (x_b1 (G12_pointsTo v3 b S) fun (v9 : Int) => (some (.inl (v9, (x_add v4 1)))))))
def G12_ringOf (a : Int) (b : Int) (S : xU) : Option Int :=
  (x_b1 (G12_pointsTo a b S) fun (v1 : Int) => (x_b2 (whl xFU (G12_ringOf_L10 a b S) (v1, 1)) fun (v5 : Int) (v6 : Int) => (x_b1 (if v5 = a then (some v6) else (some (-1))) fun (v11 : Int) => (some v11))))
def G12_trades_L13 (v3 : Int) : (Int × Int × xU) → Option ((Int × Int × xU) ⊕ (Int × xU))
  | (v8, v9, S10) => (if (S10 1 3) ≤ v9 then (some (.inr (v8, S10))) else (x_b1 (G12_isOf v3 v9) fun (v15 : Int) => (x_b1 (if v15 = 0 then (some (-1)) else (x_b1 (G12_ringOf v9 v3 S10) fun (v19 : Int) => (some v19))) fun (v17 : Int) => (x_b2 (if v17 = (-1) then (some (v8, S10)) else (x_b1 (G12_pointsTo v9 v3 S10) fun (v24 : Int) => (x_gd ((0 : Int) ≤ v9 ∧ v9 < 7) (x_gd ((0 : Int) ≤ v9 ∧ v9 < 7) (some ((x_or v8 (x_shl 1 v9)), (x_up (x_up S10 12 (v9).toNat v24) 13 (v9).toNat v17))))))) fun (v21 : Int) (S22 : xU) => (some (.inl (v21, (x_add v9 1), S22)))))))
def G12_trades_L5  : (Int × xU) → Option ((Int × xU) ⊕ xU)
  | (v3, S4) => (if v3 = 0 then (some (.inr S4)) else (x_b2 (whl xFU (G12_trades_L13 v3) (0, 0, S4)) fun (v11 : Int) (S12 : xU) => (some (.inl ((x_and v3 (x_xor v11 (-1))), S12)))))
def G12_trades (S : xU) : Option xU :=
  (x_b1 (G12_all S) fun (v1 : Int) => (x_b1 (whl xFU G12_trades_L5 (v1, S)) fun (S5 : xU) => (some S5)))
def G12_trade (a : Int) (b : Int) (S : xU) : Option (Int × xU) :=
  (x_b1 (G12_isMonk a S) fun (v1 : Int) => (x_b1 (if v1 = 0 then (some 1) else (some 0)) fun (v3 : Int) => (if ((x_up S 0 0 v3) 0 0) ≤ 0 then (x_b1 (G12_trades (x_up S 0 0 v3)) fun (S5 : xU) => (x_b1 (if b = 0 then (x_gd ((0 : Int) ≤ a ∧ a < 7) (some (S5 12 (a).toNat))) else (x_gd ((0 : Int) ≤ a ∧ a < 7) (some (S5 13 (a).toNat)))) fun (v7 : Int) => (some (v7, S5)))) else (some (0, (x_up S 0 0 v3))))))
def G12_content_L9 (S : xU) : (Int × Int) → Option ((Int × Int) ⊕ Int)
  | (v1, v2) => (if ((x_up S 0 0 0) 1 3) ≤ v2 then (some (.inr v1)) else (x_b1 (G12_of v2 3 (x_up S 0 0 0)) fun (v6 : Int) => (x_b1 (G12_of v2 2 (x_up S 0 0 0)) fun (v8 : Int) => (x_b1 (G12_isOf v6 v8) fun (v10 : Int) => (x_b1 (if v10 = 0 then (some 0) else (some (x_shl 1 v2))) fun (v12 : Int) => (some (.inl ((x_or v1 v12), (x_add v2 1)))))))))
def G12_content (S : xU) : Option (Int × xU) :=
  (x_b1 (whl xFU (G12_content_L9 S) (0, 0)) fun (v3 : Int) => (some (v3, (x_up S 0 0 0))))
def G12_areRows_L21 (a : Int) (b : Int) (S : xU) : (Int × Int) → Option ((Int × Int) ⊕ Int)
  | (v3, v4) => (if a ≤ v4 then (some (.inr v3)) else (if v3 = 0 then (some (.inr v3)) else (x_gd ((0 : Int) ≤ v4 ∧ v4 < 400) (x_b1 (if (x_rem v4 2) = 0 then (some 23) else (some b)) fun (v8 : Int) => (x_b1 (if v8 < (S 5 (v4).toNat) then (some 0) else (some 1)) fun (v10 : Int) => (some (.inl (v10, (x_add v4 1)))))))))
def G12_areRows (a : Int) (b : Int) (S : xU) : Option Int :=
  (x_b1 (if (x_rem a 2) = 0 then (if 40 < a then (some 0) else (some 1)) else (some 0)) fun (v1 : Int) => (x_b1 (whl xFU (G12_areRows_L21 a b S) (v1, 0)) fun (v5 : Int) => (x_gd (v5 = 0 ∨ v5 = 1) (some v5))))
def G12_isThere (a : Int) (b : Int) (S : xU) : Option Int :=
  (x_b1 (if (x_rem (x_add (x_div a 9) (x_mul b (x_rem a 9))) 16) = (S 1 6) then (some 1) else (some 0)) fun (v1 : Int) => (x_gd (v1 = 0 ∨ v1 = 1) (some v1)))
def G12_heard_L42 (S : xU) (v4 : Int) : (Int × xU) → Option ((Int × xU) ⊕ xU)
  | (v10, S11) => (if (S 0 8) ≤ v10 then (some (.inr S11)) else (x_gd ((0 : Int) ≤ v4 ∧ v4 < 144) (if (S11 11 (v4).toNat) = 0 then (some (.inr S11)) else (x_gd ((0 : Int) ≤ v10 ∧ v10 < 400) (x_b1 (G12_isThere v4 (S11 5 (v10).toNat) S11) fun (v15 : Int) => (x_gd ((0 : Int) ≤ (x_add v10 1) ∧ (x_add v10 1) < 400) (x_b1 (if (S11 5 ((x_add v10 1)).toNat) = 1 then (some 1) else (some 0)) fun (v17 : Int) => (x_b1 (if v15 = v17 then (some 1) else (some 0)) fun (v19 : Int) => (x_gd ((0 : Int) ≤ v4 ∧ v4 < 144) (x_gd (v19 = 0 ∨ v19 = 1) (some (.inl ((x_add v10 2), (x_up S11 11 (v4).toNat v19))))))))))))))
def G12_heard_L25 (S : xU) : (Int × Int × xU) → Option ((Int × Int × xU) ⊕ (Int × xU))
  | (v3, v4, S5) => (if 144 ≤ v4 then (some (.inr (v3, S5))) else (x_gd ((0 : Int) ≤ v4 ∧ v4 < 144) (x_b1 (whl xFU (G12_heard_L42 S v4) (0, (x_up S5 11 (v4).toNat 1))) fun (S12 : xU) => (x_gd ((0 : Int) ≤ v4 ∧ v4 < 144) (x_b1 (if (S12 11 (v4).toNat) = 0 then (some 0) else (some 1)) fun (v21 : Int) => (some (.inl ((x_add v3 v21), (x_add v4 1), S12))))))))
def G12_heard (S : xU) : Option (Int × xU) :=
  (x_b1 (G12_areRows (S 0 8) 1 (x_up S 0 8 0)) fun (v1 : Int) => (if v1 = 0 then (some ((-1), (x_up S 0 8 0))) else (x_b2 (whl xFU (G12_heard_L25 S) (0, 0, (x_up S 0 8 0))) fun (v6 : Int) (S7 : xU) => (some (v6, S7)))))
def G12_seen_L48 (S2 : xU) (v4 : Int) : (Int × Int) → Option ((Int × Int) ⊕ Int)
  | (v8, v9) => (if 144 ≤ v9 then (some (.inr v8)) else (x_gd ((0 : Int) ≤ v9 ∧ v9 < 144) (x_b1 (if ((x_up S2 0 0 v4) 11 (v9).toNat) = 0 then (some 0) else (some (x_shl 1 (x_div v9 9)))) fun (v13 : Int) => (some (.inl ((x_or v8 v13), (x_add v9 1)))))))
def G12_seen (a : Int) (S : xU) : Option (Int × xU) :=
  (x_b2 (G12_heard S) fun (v1 : Int) (S2 : xU) => (x_b1 (if v1 = (-1) then (some 1) else (some 0)) fun (v4 : Int) => (if 0 < ((x_up S2 0 0 v4) 0 0) then (x_b1 (if ((x_up S2 0 0 v4) 0 0) ≤ 0 then (some v1) else (some 0)) fun (v6 : Int) => (some (v6, (x_up S2 0 0 v4)))) else (if a = 0 then (x_b1 (if ((x_up S2 0 0 v4) 0 0) ≤ 0 then (some v1) else (some 0)) fun (v15 : Int) => (some (v15, (x_up S2 0 0 v4)))) else (x_b1 (whl xFU (G12_seen_L48 S2 v4) (0, 0)) fun (v10 : Int) => (some (v10, (x_up S2 0 0 v4))))))))
def G12_ask_L55 (S2 : xU) (v4 : Int) (v8 : Int) : (Int × Int) → Option ((Int × Int) ⊕ Int)
  | (v12, v13) => (if 144 ≤ v13 then (some (.inr v12)) else (x_gd ((0 : Int) ≤ v13 ∧ v13 < 144) (x_b1 (if ((x_up S2 0 0 v4) 11 (v13).toNat) = 0 then (some 0) else (x_b1 (G12_isThere v13 v8 (x_up S2 0 0 v4)) fun (v19 : Int) => (if v19 = 0 then (some 0) else (some 1)))) fun (v17 : Int) => (some (.inl ((x_add v12 v17), (x_add v13 1)))))))
def G12_ask_L37 (v1 : Int) (S2 : xU) (v4 : Int) : (Int × Int × Int) → Option ((Int × Int × Int) ⊕ Int)
  | (v6, v7, v8) => (if 24 ≤ v8 then (some (.inr v6)) else (if v1 ≤ 1 then (some (.inr v6)) else (x_b1 (whl xFU (G12_ask_L55 S2 v4 v8) (0, 0)) fun (v14 : Int) => (x_b1 (G12_greater v14 (x_sub v1 v14)) fun (v21 : Int) => (x_b2 (if v21 < v7 then (x_b1 (G12_greater v14 (x_sub v1 v14)) fun (v26 : Int) => (some (v8, v26))) else (some (v6, v7))) fun (v23 : Int) (v24 : Int) => (some (.inl (v23, v24, (x_add v8 1)))))))))
def G12_ask (S : xU) : Option (Int × xU) :=
  (x_b2 (G12_heard S) fun (v1 : Int) (S2 : xU) => (x_b1 (if v1 = (-1) then (some 1) else (some 0)) fun (v4 : Int) => (if ((x_up S2 0 0 v4) 0 0) ≤ 0 then (x_b1 (whl xFU (G12_ask_L37 v1 S2 v4) ((-1), 2000000000, 0)) fun (v9 : Int) => (some (v9, (x_up S2 0 0 v4)))) else (some (0, (x_up S2 0 0 v4))))))
def G12_moodBy (a : Int) (b : Int) : Option Int :=
  (some (x_rem (x_add (x_mul (x_div a 5) b) (x_rem a 5)) 5))
def G12_ruled_L41 (S : xU) (v4 : Int) : (Int × xU) → Option ((Int × xU) ⊕ xU)
  | (v10, S11) => (if (S 0 8) ≤ v10 then (some (.inr S11)) else (x_gd ((0 : Int) ≤ v4 ∧ v4 < 144) (if (S11 11 (v4).toNat) = 0 then (some (.inr S11)) else (x_gd ((0 : Int) ≤ v10 ∧ v10 < 400) (x_b1 (G12_moodBy v4 (S11 5 (v10).toNat)) fun (v15 : Int) => (x_gd ((0 : Int) ≤ (x_add v10 1) ∧ (x_add v10 1) < 400) (x_b1 (if v15 = (S11 5 ((x_add v10 1)).toNat) then (some 1) else (some 0)) fun (v17 : Int) => (x_gd ((0 : Int) ≤ v4 ∧ v4 < 144) (x_gd (v17 = 0 ∨ v17 = 1) (some (.inl ((x_add v10 2), (x_up S11 11 (v4).toNat v17)))))))))))))
def G12_ruled_L25 (S : xU) : (Int × Int × xU) → Option ((Int × Int × xU) ⊕ (Int × xU))
  | (v3, v4, S5) => (if 25 ≤ v4 then (some (.inr (v3, S5))) else (x_gd ((0 : Int) ≤ v4 ∧ v4 < 144) (x_b1 (whl xFU (G12_ruled_L41 S v4) (0, (x_up S5 11 (v4).toNat 1))) fun (S12 : xU) => (x_gd ((0 : Int) ≤ v4 ∧ v4 < 144) (x_b1 (if (S12 11 (v4).toNat) = 0 then (some 0) else (some 1)) fun (v19 : Int) => (some (.inl ((x_add v3 v19), (x_add v4 1), S12))))))))
def G12_ruled (S : xU) : Option (Int × xU) :=
  (x_b1 (G12_areRows (S 0 8) 4 (x_up S 0 8 0)) fun (v1 : Int) => (if v1 = 0 then (some ((-1), (x_up S 0 8 0))) else (x_b2 (whl xFU (G12_ruled_L25 S) (0, 0, (x_up S 0 8 0))) fun (v6 : Int) (S7 : xU) => (some (v6, S7)))))
def G12_rule_L45 (S2 : xU) (v4 : Int) : Int → Option (Int ⊕ (Unit ⊕ (Int × xU)))
  | v8 => (if 25 ≤ v8 then (some (.inr (.inl ()))) else (x_gd ((0 : Int) ≤ v8 ∧ v8 < 144) (if ((x_up S2 0 0 v4) 11 (v8).toNat) = 0 then (some (.inl (x_add v8 1))) else (some (.inr (.inr (v8, (x_up S2 0 0 v4))))))))
def G12_rule (a : Int) (S : xU) : Option (Int × xU) :=
  (x_b2 (G12_ruled S) fun (v1 : Int) (S2 : xU) => (x_b1 (if v1 = (-1) then (some 1) else (some 0)) fun (v4 : Int) => (if 0 < ((x_up S2 0 0 v4) 0 0) then (x_b1 (if ((x_up S2 0 0 v4) 0 0) ≤ 0 then (some v1) else (some 0)) fun (v6 : Int) => (some (v6, (x_up S2 0 0 v4)))) else (if a = 0 then (x_b1 (if ((x_up S2 0 0 v4) 0 0) ≤ 0 then (some v1) else (some 0)) fun (v11 : Int) => (some (v11, (x_up S2 0 0 v4)))) else (x_lr (whl xFU (G12_rule_L45 S2 v4) 0) (fun (q : Unit) => x_e1 q fun (_q : Unit) => (some ((-1), (x_up S2 0 0 v4)))) (fun (q : (Int × xU)) => some q))))))
def G12_tells_L67 (S2 : xU) (v4 : Int) (v8 : Int) (v13 : Int) : (Int × Int) → Option ((Int × Int) ⊕ Int)
  | (v17, v18) => (if 25 ≤ v18 then (some (.inr v17)) else (x_gd ((0 : Int) ≤ v18 ∧ v18 < 144) (x_b1 (if ((x_up S2 0 0 v4) 11 (v18).toNat) = 0 then (some 0) else (x_b1 (G12_moodBy v18 v8) fun (v24 : Int) => (if v24 = v13 then (some 1) else (some 0)))) fun (v22 : Int) => (some (.inl ((x_add v17 v22), (x_add v18 1)))))))
def G12_tells_L55 (S2 : xU) (v4 : Int) (v8 : Int) : (Int × Int) → Option ((Int × Int) ⊕ Int)
  | (v12, v13) => (if 5 ≤ v13 then (some (.inr v12)) else (x_b1 (whl xFU (G12_tells_L67 S2 v4 v8 v13) (0, 0)) fun (v19 : Int) => (x_b1 (G12_greater v12 v19) fun (v26 : Int) => (some (.inl (v26, (x_add v13 1)))))))
def G12_tells_L37 (v1 : Int) (S2 : xU) (v4 : Int) : (Int × Int × Int) → Option ((Int × Int × Int) ⊕ Int)
  | (v6, v7, v8) => (if 24 ≤ v8 then (some (.inr v6)) else (if v1 ≤ 1 then (some (.inr v6)) else (x_b1 (whl xFU (G12_tells_L55 S2 v4 v8) (0, 0)) fun (v14 : Int) => (x_b2 (if v14 < v7 then (some (v8, v14)) else (some (v6, v7))) fun (v28 : Int) (v29 : Int) => (some (.inl (v28, v29, (x_add v8 1))))))))
def G12_tells (S : xU) : Option (Int × xU) :=
  (x_b2 (G12_ruled S) fun (v1 : Int) (S2 : xU) => (x_b1 (if v1 = (-1) then (some 1) else (some 0)) fun (v4 : Int) => (if ((x_up S2 0 0 v4) 0 0) ≤ 0 then (x_b1 (whl xFU (G12_tells_L37 v1 S2 v4) ((-1), 2000000000, 0)) fun (v9 : Int) => (some (v9, (x_up S2 0 0 v4)))) else (some (0, (x_up S2 0 0 v4))))))
def G12_share_L42  : (Int × xU) → Option ((Int × xU) ⊕ xU)
  | (v7, S8) => (if 4 ≤ v7 then (some (.inr S8)) else (x_gd ((0 : Int) ≤ (x_add 12 v7) ∧ (x_add 12 v7) < 772) (x_gd ((0 : Int) ≤ v7 ∧ v7 < 4) (some (.inl ((x_add v7 1), (x_up S8 14 (v7).toNat (S8 1 ((x_add 12 v7)).toNat))))))))
def G12_share_L81 (S13 : xU) : (Int × Int) → Option ((Int × Int) ⊕ Int)
  | (v17, v18) => (if 4 ≤ v18 then (some (.inr v17)) else (x_gd ((0 : Int) ≤ v18 ∧ v18 < 4) (x_gd ((0 : Int) ≤ v17 ∧ v17 < 4) (x_b1 (if (S13 14 (v17).toNat) ≤ (S13 14 (v18).toNat) then (some v17) else (some v18)) fun (v22 : Int) => (some (.inl (v22, (x_add v18 1))))))))
def G12_share_L70 (b : Int) : (Int × xU) → Option ((Int × xU) ⊕ xU)
  | (v12, S13) => (if b ≤ v12 then (some (.inr S13)) else (x_b1 (whl xFU (G12_share_L81 S13) (0, 1)) fun (v19 : Int) => (x_gd ((0 : Int) ≤ v19 ∧ v19 < 4) (x_b1 (G12_lesser 999 (x_add (S13 14 (v19).toNat) 1)) fun (v24 : Int) => (x_gd ((0 : Int) ≤ v19 ∧ v19 < 4) (some (.inl ((x_add v12 1), (x_up S13 14 (v19).toNat v24)))))))))
def G12_share (a : Int) (b : Int) (S : xU) : Option (Int × xU) :=
  (x_b1 (G12_isWalk a) fun (v1 : Int) => (x_b1 (if v1 = 0 then (some 1) else (x_b1 (G12_isIn b 0 999) fun (v5 : Int) => (if v5 = 0 then (some 2) else (some 0)))) fun (v3 : Int) => (if ((x_up S 0 0 v3) 0 0) ≤ 0 then (x_b1 (whl xFU G12_share_L42 (0, (x_up S 0 0 v3))) fun (S9 : xU) => (x_b1 (whl xFU (G12_share_L70 b) (0, S9)) fun (S14 : xU) => (x_gd ((0 : Int) ≤ a ∧ a < 4) (some ((S14 14 (a).toNat), S14))))) else (some (0, (x_up S 0 0 v3))))))
def G12_inWalk_L5 (a : Int) (b : Int) (S : xU) : (Int × Int) → Option ((Int × Int) ⊕ Int)
  | (v1, v2) => (if (S 1 3) ≤ v2 then (some (.inr v1)) else (x_b1 (G12_of v2 0 S) fun (v6 : Int) => (x_b1 (if (x_div v6 4) = a then (if b = 0 then (x_b1 (G12_isLost v2 S) fun (v10 : Int) => (if v10 = 0 then (some 1) else (some 0))) else (some 1)) else (some 0)) fun (v8 : Int) => (some (.inl ((x_add v1 v8), (x_add v2 1)))))))
def G12_inWalk (a : Int) (b : Int) (S : xU) : Option Int :=
  (x_b1 (whl xFU (G12_inWalk_L5 a b S) (0, 0)) fun (v3 : Int) => (some v3))
def G12_feeds (a : Int) (S : xU) : Option (Int × xU) :=
  (x_b1 (G12_isWalk a) fun (v1 : Int) => (x_b1 (if v1 = 0 then (some 1) else (some 0)) fun (v3 : Int) => (if ((x_up S 0 0 v3) 0 0) ≤ 0 then (x_b1 (G12_inWalk a 0 (x_up S 0 0 v3)) fun (v5 : Int) => (x_b1 (if v5 = 0 then (some (-1)) else (x_gd ((0 : Int) ≤ (x_add 12 a) ∧ (x_add 12 a) < 772) (x_gd (v5 ≠ 0) (some (x_div ((x_up S 0 0 v3) 1 ((x_add 12 a)).toNat) v5))))) fun (v7 : Int) => (some (v7, (x_up S 0 0 v3))))) else (some (0, (x_up S 0 0 v3))))))
def G12_both (a : Int) (b : Int) (S : xU) : Option Int :=
  (x_b1 (G12_of a 3 S) fun (v1 : Int) => (x_b1 (G12_of b 3 S) fun (v3 : Int) => (x_b1 (G12_bits (x_and v1 v3)) fun (v5 : Int) => (some v5))))
def G12_lowest_L2 (a : Int) : Int → Option (Int ⊕ Int)
  | v1 => (x_b1 (G12_isOf a v1) fun (v5 : Int) => (if v5 = 0 then (some (.inl (x_add v1 1))) else (some (.inr v1))))
def G12_lowest (a : Int) : Option Int :=
  (x_b1 (whl xFU (G12_lowest_L2 a) 0) fun (v2 : Int) => (some v2))
def G12_allBest_L47 (v1 : Int) (v8 : Int) : (Int × xU) → Option ((Int × xU) ⊕ xU)
  | (v10, S11) => (if (S11 1 3) ≤ v10 then (some (.inr S11)) else (x_b1 (G12_isOf (x_and v1 (x_xor (x_shl 1 v8) (-1))) v10) fun (v15 : Int) => (x_b1 (if v15 = 0 then (some S11) else (x_gd ((0 : Int) ≤ v1 ∧ v1 < 128) (x_b1 (G12_both v8 v10 S11) fun (v19 : Int) => (x_gd ((0 : Int) ≤ (x_and (x_and v1 (x_xor (x_shl 1 v8) (-1))) (x_xor (x_shl 1 v10) (-1))) ∧ (x_and (x_and v1 (x_xor (x_shl 1 v8) (-1))) (x_xor (x_shl 1 v10) (-1))) < 128) (x_b1 (G12_greater (S11 9 (v1).toNat) (x_add v19 (S11 9 ((x_and (x_and v1 (x_xor (x_shl 1 v8) (-1))) (x_xor (x_shl 1 v10) (-1)))).toNat))) fun (v21 : Int) => (x_gd ((0 : Int) ≤ v1 ∧ v1 < 128) (some (x_up S11 9 (v1).toNat v21)))))))) fun (S17 : xU) => (some (.inl ((x_add v10 1), S17))))))
def G12_allBest_L9  : (Int × xU) → Option ((Int × xU) ⊕ xU)
  | (v1, S2) => (x_b1 (G12_all S2) fun (v6 : Int) => (if v6 < v1 then (some (.inr S2)) else (x_b1 (G12_lowest v1) fun (v8 : Int) => (x_gd ((0 : Int) ≤ (x_and v1 (x_xor (x_shl 1 v8) (-1))) ∧ (x_and v1 (x_xor (x_shl 1 v8) (-1))) < 128) (x_gd ((0 : Int) ≤ v1 ∧ v1 < 128) (x_b1 (whl xFU (G12_allBest_L47 v1 v8) ((x_add v8 1), (x_up S2 9 (v1).toNat (S2 9 ((x_and v1 (x_xor (x_shl 1 v8) (-1)))).toNat)))) fun (S12 : xU) => (some (.inl ((x_add v1 1), S12)))))))))
def G12_allBest (S : xU) : Option xU :=
  (x_b1 (whl xFU G12_allBest_L9 (1, (x_up S 9 0 0))) fun (S3 : xU) => (some S3))
def G12_pairs_L86 (S5 : xU) (v9 : Int) (v12 : Int) : (Int × Int) → Option ((Int × Int) ⊕ Int)
  | (v14, v15) => (if v15 ≤ v12 then (some (.inr v14)) else (x_gd ((0 : Int) ≤ (x_and v9 (x_xor (x_shl 1 v12) (-1))) ∧ (x_and v9 (x_xor (x_shl 1 v12) (-1))) < 128) (x_gd ((0 : Int) ≤ v9 ∧ v9 < 128) (if (S5 9 ((x_and v9 (x_xor (x_shl 1 v12) (-1)))).toNat) = (S5 9 (v9).toNat) then (some (.inr v14)) else (x_b1 (G12_isOf (x_and v9 (x_xor (x_shl 1 v12) (-1))) v15) fun (v19 : Int) => (x_b1 (if v19 = 0 then (some v14) else (x_b1 (G12_both v12 v15 S5) fun (v23 : Int) => (x_gd ((0 : Int) ≤ (x_and (x_and v9 (x_xor (x_shl 1 v12) (-1))) (x_xor (x_shl 1 v15) (-1))) ∧ (x_and (x_and v9 (x_xor (x_shl 1 v12) (-1))) (x_xor (x_shl 1 v15) (-1))) < 128) (x_gd ((0 : Int) ≤ v9 ∧ v9 < 128) (if (x_add v23 (S5 9 ((x_and (x_and v9 (x_xor (x_shl 1 v12) (-1))) (x_xor (x_shl 1 v15) (-1)))).toNat)) = (S5 9 (v9).toNat) then (some v15) else (some v14)))))) fun (v21 : Int) => (some (.inl (v21, (x_add v15 (-1)))))))))))
def G12_pairs_L55 (a : Int) (S5 : xU) : Int → Option (Int ⊕ (Unit ⊕ (Int × xU)))
  | v9 => (if v9 = 0 then (some (.inr (.inl ()))) else (x_b1 (G12_lowest v9) fun (v12 : Int) => (x_b1 (whl xFU (G12_pairs_L86 S5 v9 v12) ((-1), (x_sub (S5 1 3) 1))) fun (v16 : Int) => (if v12 = a then (some (.inr (.inr (v16, S5)))) else (if v16 = a then (some (.inr (.inr (v12, S5)))) else (x_b1 (if v16 = (-1) then (some (x_and v9 (x_xor (x_shl 1 v12) (-1)))) else (some (x_and (x_and v9 (x_xor (x_shl 1 v12) (-1))) (x_xor (x_shl 1 v16) (-1))))) fun (v25 : Int) => (some (.inl v25))))))))
def G12_pairs (a : Int) (S : xU) : Option (Int × xU) :=
  (x_b1 (if a = (-1) then (some 0) else (x_b1 (G12_isMonk a S) fun (v3 : Int) => (if v3 = 0 then (some 1) else (some 0)))) fun (v1 : Int) => (if ((x_up S 0 0 v1) 0 0) ≤ 0 then (x_b1 (G12_allBest (x_up S 0 0 v1)) fun (S5 : xU) => (if a = (-1) then (x_b1 (G12_all S5) fun (v27 : Int) => (x_gd ((0 : Int) ≤ v27 ∧ v27 < 128) (some ((S5 9 (v27).toNat), S5)))) else (x_b1 (G12_all S5) fun (v7 : Int) => (x_lr (whl xFU (G12_pairs_L55 a S5) v7) (fun (q : Unit) => x_e1 q fun (_q : Unit) => (some ((-1), S5))) (fun (q : (Int × xU)) => some q))))) else (some (0, (x_up S 0 0 v1)))))
def G12_watches_L24 (a : Int) (S : xU) (v2 : Int) : (Int × Int) → Option ((Int × Int) ⊕ Int)
  | (v6, v7) => (if (S 1 3) ≤ v7 then (some (.inr v6)) else (x_b1 (if v6 = 0 then (x_b1 (G12_isOf a v7) fun (v13 : Int) => (if v13 = 0 then (some 0) else (x_b1 (G12_isLost v7 S) fun (v15 : Int) => (if v15 = 0 then (x_b1 (G12_of v2 0 S) fun (v17 : Int) => (x_b1 (G12_of v7 0 S) fun (v19 : Int) => (x_b1 (G12_steps v17 v19) fun (v21 : Int) => (if 2 < v21 then (some 0) else (some 1))))) else (some 0))))) else (some 1)) fun (v11 : Int) => (some (.inl (v11, (x_add v7 1))))))
def G12_watches_L4 (a : Int) (S : xU) : (Int × Int) → Option ((Int × Int) ⊕ Int)
  | (v1, v2) => (if (S 1 3) ≤ v2 then (some (.inr v1)) else (if v1 = 0 then (some (.inr v1)) else (x_b1 (whl xFU (G12_watches_L24 a S v2) (0, 0)) fun (v8 : Int) => (some (.inl (v8, (x_add v2 1)))))))
def G12_watches (a : Int) (S : xU) : Option Int :=
  (x_b1 (whl xFU (G12_watches_L4 a S) (1, 0)) fun (v3 : Int) => (x_gd (v3 = 0 ∨ v3 = 1) (some v3)))
def G12_goneOnes_L4 (S : xU) : (Int × Int) → Option ((Int × Int) ⊕ Int)
  | (v1, v2) => (if (S 1 3) ≤ v2 then (some (.inr v1)) else (x_b1 (G12_isLost v2 S) fun (v6 : Int) => (x_b1 (if v6 = 0 then (some 0) else (some (x_shl 1 v2))) fun (v8 : Int) => (some (.inl ((x_or v1 v8), (x_add v2 1)))))))
def G12_goneOnes (S : xU) : Option Int :=
  (x_b1 (whl xFU (G12_goneOnes_L4 S) (0, 0)) fun (v3 : Int) => (some v3))
def G12_watch_L14 (S : xU) (v1 : Int) : (Int × Int) → Option ((Int × Int) ⊕ Int)
  | (v3, v4) => (x_b1 (G12_all (x_up S 0 0 0)) fun (v8 : Int) => (if v8 < v4 then (some (.inr v3)) else (x_b1 (if (x_and v4 v1) = 0 then (if v3 = (-1) then (x_b1 (G12_watches v4 (x_up S 0 0 0)) fun (v12 : Int) => (if v12 = 0 then (some v3) else (some v4))) else (x_b1 (G12_bits v4) fun (v14 : Int) => (x_b1 (G12_bits v3) fun (v16 : Int) => (if v16 ≤ v14 then (some v3) else (x_b1 (G12_watches v4 (x_up S 0 0 0)) fun (v18 : Int) => (if v18 = 0 then (some v3) else (some v4))))))) else (some v3)) fun (v10 : Int) => (some (.inl (v10, (x_add v4 1)))))))
def G12_watch (S : xU) : Option (Int × xU) :=
  (x_b1 (G12_goneOnes (x_up S 0 0 0)) fun (v1 : Int) => (x_b1 (whl xFU (G12_watch_L14 S v1) ((-1), 0)) fun (v5 : Int) => (some (v5, (x_up S 0 0 0)))))
def G12_roundsOf_L4 (a : Int) (S : xU) : (Int × Int) → Option ((Int × Int) ⊕ Int)
  | (v1, v2) => (if (S 1 3) ≤ v2 then (some (.inr v1)) else (x_b1 (G12_isOf a v2) fun (v6 : Int) => (x_b1 (if v6 = 0 then (some 0) else (x_b1 (G12_of v2 7 S) fun (v10 : Int) => (some v10))) fun (v8 : Int) => (some (.inl ((x_add v1 v8), (x_add v2 1)))))))
def G12_roundsOf (a : Int) (S : xU) : Option Int :=
  (x_b1 (whl xFU (G12_roundsOf_L4 a S) (0, 0)) fun (v3 : Int) => (some v3))
def G12_carries (a : Int) (S : xU) : Option Int :=
  (x_b1 (G12_roundsOf a S) fun (v1 : Int) => (x_b1 (G12_all S) fun (v3 : Int) => (x_b1 (G12_roundsOf v3 S) fun (v5 : Int) => (x_b1 (if (x_mul 2 v1) ≤ v5 then (some 0) else (some 1)) fun (v7 : Int) => (x_gd (v7 = 0 ∨ v7 = 1) (some v7))))))
def G12_chapter (a : Int) (S : xU) : Option (Int × xU) :=
  (x_b1 (G12_carries a (x_up S 0 0 0)) fun (v1 : Int) => (x_gd (v1 = 0 ∨ v1 = 1) (some (v1, (x_up S 0 0 0)))))
def G12_swingsOf_L4 (a : Int) (S : xU) : (Int × Int) → Option ((Int × Int) ⊕ Int)
  | (v1, v2) => (x_b1 (G12_all S) fun (v6 : Int) => (if v6 < v2 then (some (.inr v1)) else (x_b1 (G12_isOf v2 a) fun (v8 : Int) => (x_b1 (if v8 = 0 then (some 0) else (x_b1 (G12_carries v2 S) fun (v12 : Int) => (if v12 = 0 then (some 0) else (x_b1 (G12_carries (x_and v2 (x_xor (x_shl 1 a) (-1))) S) fun (v14 : Int) => (if v14 = 0 then (some 1) else (some 0)))))) fun (v10 : Int) => (some (.inl ((x_add v1 v10), (x_add v2 1))))))))
def G12_swingsOf (a : Int) (S : xU) : Option Int :=
  (x_b1 (whl xFU (G12_swingsOf_L4 a S) (0, 0)) fun (v3 : Int) => (some v3))
def G12_swings (a : Int) (S : xU) : Option (Int × xU) :=
  (x_b1 (G12_isMonk a S) fun (v1 : Int) => (x_b1 (if v1 = 0 then (some 1) else (some 0)) fun (v3 : Int) => (x_b1 (if ((x_up S 0 0 v3) 0 0) ≤ 0 then (x_b1 (G12_swingsOf a (x_up S 0 0 v3)) fun (v7 : Int) => (some v7)) else (some 0)) fun (v5 : Int) => (some (v5, (x_up S 0 0 v3))))))
def G12_elder_L11 (S : xU) : (Int × Int × Int) → Option ((Int × Int × Int) ⊕ Int)
  | (v1, v2, v3) => (if ((x_up S 0 0 0) 1 3) ≤ v3 then (some (.inr v1)) else (x_b1 (G12_swingsOf v3 (x_up S 0 0 0)) fun (v7 : Int) => (x_b2 (if v2 < v7 then (some (v3, v7)) else (some (v1, v2))) fun (v9 : Int) (v10 : Int) => (some (.inl (v9, v10, (x_add v3 1)))))))
def G12_elder (S : xU) : Option (Int × xU) :=
  (x_b1 (whl xFU (G12_elder_L11 S) ((-1), 0, 0)) fun (v4 : Int) => (some (v4, (x_up S 0 0 0))))
def G12_heHas (a : Int) (b : Int) (c : Int) (S : xU) : Option Int :=
  (if b = 1 then (some 0) else (x_b1 (if c = 0 then (some (x_neg (S 1 9))) else (x_b1 (G12_of a 0 S) fun (v3 : Int) => (x_b1 (G12_steps v3 (S 1 6)) fun (v5 : Int) => (some v5)))) fun (v1 : Int) => (some v1)))
def G12_gardenerHas (a : Int) (b : Int) : Option Int :=
  (if b = 1 then (x_b1 (if a = 0 then (some (-2)) else (some 0)) fun (v3 : Int) => (some v3)) else (x_b1 (if a = 0 then (some 3) else (some (-1))) fun (v1 : Int) => (some v1)))
def G12_rests_L40 (a : Int) (S : xU) (v3 : Int) : (Int × Int) → Option ((Int × Int) ⊕ Int)
  | (v7, v8) => (if 4 ≤ v8 then (some (.inr v7)) else (x_b1 (G12_heHas a (x_sub 1 (x_div v8 2)) (x_rem v8 2) (x_up S 0 0 v3)) fun (v12 : Int) => (x_b1 (G12_heHas a (x_div v8 2) (x_rem v8 2) (x_up S 0 0 v3)) fun (v14 : Int) => (x_b1 (if v14 < v12 then (some v7) else (x_b1 (G12_gardenerHas (x_div v8 2) (x_sub 1 (x_rem v8 2))) fun (v18 : Int) => (x_b1 (G12_gardenerHas (x_div v8 2) (x_rem v8 2)) fun (v20 : Int) => (if v20 < v18 then (some v7) else (some (x_or v7 (x_shl 1 v8))))))) fun (v16 : Int) => (some (.inl (v16, (x_add v8 1))))))))
def G12_rests (a : Int) (S : xU) : Option (Int × xU) :=
  (x_b1 (G12_isMonk a S) fun (v1 : Int) => (x_b1 (if v1 = 0 then (some 1) else (some 0)) fun (v3 : Int) => (if ((x_up S 0 0 v3) 0 0) ≤ 0 then (x_b1 (G12_isLost a (x_up S 0 0 v3)) fun (v5 : Int) => (if v5 = 0 then (x_b1 (whl xFU (G12_rests_L40 a S v3) (0, 0)) fun (v9 : Int) => (some (v9, (x_up S 0 0 v3)))) else (some ((-1), (x_up S 0 0 v3))))) else (some (0, (x_up S 0 0 v3))))))
def G12_odds_L46 (a : Int) : (Int × Int) → Option ((Int × Int) ⊕ Int)
  | (v7, v8) => (if a ≤ v8 then (some (.inr v7)) else (some (.inl ((x_lmul v7 100), (x_add v8 1)))))
def G12_odds_L96 (a : Int) (S : xU) (v3 : Int) (v13 : Int) : (Int × Int) → Option ((Int × Int) ⊕ Int)
  | (v21, v22) => (if a ≤ v22 then (some (.inr v21)) else (x_b1 (G12_isOf v13 v22) fun (v26 : Int) => (x_b1 (if v26 = 0 then (some (x_i2l (x_sub 100 ((x_up S 0 0 v3) 1 8)))) else (some (x_i2l ((x_up S 0 0 v3) 1 8)))) fun (v28 : Int) => (some (.inl ((x_lmul v21 v28), (x_add v22 1)))))))
def G12_odds_L69 (a : Int) (b : Int) (S : xU) (v3 : Int) : (Int × Int) → Option ((Int × Int) ⊕ Int)
  | (v12, v13) => (if (x_shl 1 a) ≤ v13 then (some (.inr v12)) else (x_b1 (G12_bits v13) fun (v17 : Int) => (x_b1 (if b ≤ v17 then (some 1) else (some 0)) fun (v19 : Int) => (x_b1 (whl xFU (G12_odds_L96 a S v3 v13) (v19, 0)) fun (v23 : Int) => (some (.inl ((x_ladd v12 v23), (x_add v13 1))))))))
def G12_odds (a : Int) (b : Int) (S : xU) : Option (Int × xU) :=
  (x_b1 (G12_isIn a 0 6) fun (v1 : Int) => (x_b1 (if v1 = 0 then (some 1) else (x_b1 (G12_isIn b 0 6) fun (v5 : Int) => (if v5 = 0 then (some 1) else (some 0)))) fun (v3 : Int) => (if ((x_up S 0 0 v3) 0 0) ≤ 0 then (x_b1 (whl xFU (G12_odds_L46 a) (1, 0)) fun (v9 : Int) => (x_b1 (whl xFU (G12_odds_L69 a b S v3) (0, 0)) fun (v14 : Int) => (x_gd (v9 ≠ 0) (some ((x_l2i (x_ldiv (x_lmul 10000 v14) v9)), (x_up S 0 0 v3)))))) else (some (0, (x_up S 0 0 v3))))))
def G12_empty_L9 (S : xU) : (Int × Int) → Option ((Int × Int) ⊕ Int)
  | (v1, v2) => (if 4 ≤ v2 then (some (.inr v1)) else (x_b1 (G12_inWalk v2 1 (x_up S 0 0 0)) fun (v6 : Int) => (x_b1 (if v6 = 0 then (some (x_shl 1 v2)) else (some 0)) fun (v8 : Int) => (some (.inl ((x_or v1 v8), (x_add v2 1)))))))
def G12_empty (S : xU) : Option (Int × xU) :=
  (x_b1 (whl xFU (G12_empty_L9 S) (0, 0)) fun (v3 : Int) => (some (v3, (x_up S 0 0 0))))
def G12_throng_L9 (S : xU) : (Int × Int) → Option ((Int × Int) ⊕ Int)
  | (v1, v2) => (if 4 ≤ v2 then (some (.inr v1)) else (x_b1 (G12_inWalk v2 1 (x_up S 0 0 0)) fun (v6 : Int) => (x_b1 (G12_inWalk v1 1 (x_up S 0 0 0)) fun (v8 : Int) => (x_b1 (if v6 ≤ v8 then (some v1) else (some v2)) fun (v10 : Int) => (some (.inl (v10, (x_add v2 1))))))))
def G12_throng (S : xU) : Option (Int × xU) :=
  (x_b1 (whl xFU (G12_throng_L9 S) (0, 1)) fun (v3 : Int) => (some (v3, (x_up S 0 0 0))))
def G12_gone (S : xU) : Option (Int × xU) :=
  (x_b1 (G12_goneOnes (x_up S 0 0 0)) fun (v1 : Int) => (some (v1, (x_up S 0 0 0))))
def G12_round_L33 (a : Int) (S : xU) (v3 : Int) : (Int × Int) → Option ((Int × Int) ⊕ Int)
  | (v5, v6) => (if ((x_up S 0 0 v3) 1 3) ≤ v6 then (some (.inr v5)) else (x_b1 (G12_of v6 7 (x_up S 0 0 v3)) fun (v10 : Int) => (x_b1 (if v10 < a then (some 0) else (some (x_shl 1 v6))) fun (v12 : Int) => (some (.inl ((x_or v5 v12), (x_add v6 1)))))))
def G12_round (a : Int) (S : xU) : Option (Int × xU) :=
  (x_b1 (G12_isIn a 0 999) fun (v1 : Int) => (x_b1 (if v1 = 0 then (some 1) else (some 0)) fun (v3 : Int) => (if ((x_up S 0 0 v3) 0 0) ≤ 0 then (x_b1 (whl xFU (G12_round_L33 a S v3) (0, 0)) fun (v7 : Int) => (some (v7, (x_up S 0 0 v3)))) else (some (0, (x_up S 0 0 v3))))))
def G12_hungriest_L9 (S : xU) : (Int × Int) → Option ((Int × Int) ⊕ Int)
  | (v1, v2) => (if ((x_up S 0 0 0) 1 3) ≤ v2 then (some (.inr v1)) else (x_b1 (G12_of v2 6 (x_up S 0 0 0)) fun (v6 : Int) => (x_b1 (if v1 = (-1) then (some 0) else (x_b1 (G12_of v1 6 (x_up S 0 0 0)) fun (v10 : Int) => (some v10))) fun (v8 : Int) => (x_b1 (if v6 ≤ v8 then (some v1) else (some v2)) fun (v12 : Int) => (some (.inl (v12, (x_add v2 1))))))))
def G12_hungriest (S : xU) : Option (Int × xU) :=
  (x_b1 (whl xFU (G12_hungriest_L9 S) ((-1), 0)) fun (v3 : Int) => (some (v3, (x_up S 0 0 0))))
def G12_alike_L23 (S : xU) (v2 : Int) : (Int × Int) → Option ((Int × Int) ⊕ Int)
  | (v6, v7) => (if ((x_up S 0 0 0) 1 3) ≤ v7 then (some (.inr v6)) else (x_b1 (G12_of v2 1 (x_up S 0 0 0)) fun (v11 : Int) => (x_b1 (G12_of v7 1 (x_up S 0 0 0)) fun (v13 : Int) => (x_b1 (if v11 = v13 then (x_b1 (G12_of v2 0 (x_up S 0 0 0)) fun (v17 : Int) => (x_b1 (G12_of v7 0 (x_up S 0 0 0)) fun (v19 : Int) => (if v17 = v19 then (some 1) else (some 0)))) else (some 0)) fun (v15 : Int) => (some (.inl ((x_add v6 v15), (x_add v7 1))))))))
def G12_alike_L9 (S : xU) : (Int × Int) → Option ((Int × Int) ⊕ Int)
  | (v1, v2) => (if ((x_up S 0 0 0) 1 3) ≤ v2 then (some (.inr v1)) else (x_b1 (whl xFU (G12_alike_L23 S v2) (v1, (x_add v2 1))) fun (v8 : Int) => (some (.inl (v8, (x_add v2 1))))))
def G12_alike (S : xU) : Option (Int × xU) :=
  (x_b1 (whl xFU (G12_alike_L9 S) (0, 0)) fun (v3 : Int) => (some (v3, (x_up S 0 0 0))))
def G12_ahead (a : Int) (b : Int) (c : Int) (S : xU) : Option (Int × xU) :=
  (x_b1 (G12_isMonk a S) fun (v1 : Int) => (x_b1 (if v1 = 0 then (some 1) else (x_b1 (G12_isIn b 0 72) fun (v5 : Int) => (if v5 = 0 then (some 2) else (x_b1 (G12_isIn c 0 2) fun (v7 : Int) => (if v7 = 0 then (some 3) else (some 0)))))) fun (v3 : Int) => (if ((x_up S 0 0 v3) 0 0) ≤ 0 then (x_b1 (G12_putsAside (x_up S 0 0 v3)) fun (S9 : xU) => (x_b2 (G12_goes b 0 S9) fun (v11 : Int) (S12 : xU) => (x_b1 (if c = 0 then (some 0) else (if c = 1 then (some 5) else (some 6))) fun (v14 : Int) => (x_b1 (G12_of a v14 S12) fun (v16 : Int) => (x_b1 (G12_comesBack S12) fun (S18 : xU) => (some (v16, S18))))))) else (some (0, (x_up S 0 0 v3))))))
def G12_trial (a : Int) (b : Int) (S : xU) : Option (Int × xU) :=
  (x_b1 (G12_isIn a 0 72) fun (v1 : Int) => (x_b1 (if v1 = 0 then (some 1) else (some 0)) fun (v3 : Int) => (if ((x_up S 0 0 v3) 0 0) ≤ 0 then (x_b1 (G12_putsAside (x_up S 0 0 v3)) fun (S5 : xU) => (x_b2 (G12_goes a 1 S5) fun (v7 : Int) (S8 : xU) => (x_b1 (if b = 0 then (x_b1 (G12_lateOfAll S8) fun (v12 : Int) => (some v12)) else (some (S8 1 7))) fun (v10 : Int) => (x_b1 (G12_comesBack S8) fun (S14 : xU) => (some (v10, S14)))))) else (some (0, (x_up S 0 0 v3))))))
def G12_span_L37 (a : Int) (b : Int) : (Int × Int × xU) → Option ((Int × Int × xU) ⊕ (Int × xU))
  | (v7, v8, S9) => (if 6 < v8 then (some (.inr (v7, S9))) else (x_b2 (G12_goes a 1 (x_up S9 1 11 v8)) fun (v14 : Int) (S15 : xU) => (x_b1 (G12_lateOfAll S15) fun (v17 : Int) => (x_b1 (G12_comesBack S15) fun (S19 : xU) => (x_b1 (if v7 = (-1) then (some v17) else (if b = 0 then (x_b1 (G12_lesser v7 v17) fun (v23 : Int) => (some v23)) else (x_b1 (G12_greater v7 v17) fun (v25 : Int) => (some v25)))) fun (v21 : Int) => (some (.inl (v21, (x_add v8 1), S19))))))))
def G12_span (a : Int) (b : Int) (S : xU) : Option (Int × xU) :=
  (x_b1 (G12_isIn a 0 72) fun (v1 : Int) => (x_b1 (if v1 = 0 then (some 1) else (some 0)) fun (v3 : Int) => (if ((x_up S 0 0 v3) 0 0) ≤ 0 then (x_b1 (G12_putsAside (x_up S 0 0 v3)) fun (S5 : xU) => (x_b2 (whl xFU (G12_span_L37 a b) ((-1), 1, S5)) fun (v10 : Int) (S11 : xU) => (some (v10, S11)))) else (some (0, (x_up S 0 0 v3))))))
def G12_logged (a : Int) (b : Int) (S : xU) : Option Int :=
  (x_gd ((0 : Int) ≤ (x_add (x_add 72 (x_mul 5 a)) b) ∧ (x_add (x_add 72 (x_mul 5 a)) b) < 772) (some (S 1 ((x_add (x_add 72 (x_mul 5 a)) b)).toNat)))
def G12_led_L42 (a : Int) (S : xU) (v3 : Int) : (Int × Int × Int) → Option ((Int × Int × Int) ⊕ (Int × Int))
  | (v5, v6, v7) => (if v7 < 0 then (some (.inr (v5, v6))) else (x_b1 (G12_logged v7 3 (x_up S 0 0 v3)) fun (v12 : Int) => (x_b2 (if v12 = a then (x_b1 (G12_logged v7 4 (x_up S 0 0 v3)) fun (v17 : Int) => (some ((x_add v5 1), v17))) else (some (v5, v6))) fun (v14 : Int) (v15 : Int) => (some (.inl (v14, v15, (x_add v7 (-1))))))))
def G12_led (a : Int) (b : Int) (S : xU) : Option (Int × xU) :=
  (x_b1 (G12_isMonk a S) fun (v1 : Int) => (x_b1 (if v1 = 0 then (some 1) else (some 0)) fun (v3 : Int) => (if ((x_up S 0 0 v3) 0 0) ≤ 0 then (x_b2 (whl xFU (G12_led_L42 a S v3) (0, (-1), (x_sub ((x_up S 0 0 v3) 1 10) 1))) fun (v8 : Int) (v9 : Int) => (x_b1 (if b = 0 then (some v8) else (some v9)) fun (v19 : Int) => (some (v19, (x_up S 0 0 v3))))) else (some (0, (x_up S 0 0 v3))))))
def G12_log (a : Int) (b : Int) (S : xU) : Option (Int × xU) :=
  (x_b1 (G12_isIn b 0 4) fun (v1 : Int) => (x_b1 (if v1 = 0 then (some 1) else (some 0)) fun (v3 : Int) => (if ((x_up S 0 0 v3) 0 0) ≤ 0 then (x_b1 (G12_isIn a 0 (x_sub ((x_up S 0 0 v3) 1 10) 1)) fun (v5 : Int) => (x_b1 (if v5 = 0 then (some (-1)) else (x_b1 (G12_logged a b (x_up S 0 0 v3)) fun (v9 : Int) => (some v9))) fun (v7 : Int) => (some (v7, (x_up S 0 0 v3))))) else (some (0, (x_up S 0 0 v3))))))
def G12_seed (a : Int) (S : xU) : Option (Int × xU) :=
  (some (((x_up S 0 0 0) 1 11), (x_up (x_up S 0 0 0) 1 11 a)))
def G12_undo_L26  : (Int × xU) → Option ((Int × xU) ⊕ xU)
  | (v1, S2) => (if 372 ≤ v1 then (some (.inr S2)) else (x_gd ((0 : Int) ≤ (x_add (x_mul 372 (S2 0 6)) v1) ∧ (x_add (x_mul 372 (S2 0 6)) v1) < 4464) (x_gd ((0 : Int) ≤ v1 ∧ v1 < 772) (some (.inl ((x_add v1 1), (x_up S2 1 (v1).toNat (S2 4 ((x_add (x_mul 372 (S2 0 6)) v1)).toNat))))))))
def G12_undo (S : xU) : Option (Int × xU) :=
  (if ((x_up S 0 0 0) 0 6) = 0 then (some (0, (x_up S 0 0 0))) else (x_b1 (whl xFU G12_undo_L26 (0, (x_up (x_up S 0 0 0) 0 6 (x_sub ((x_up S 0 0 0) 0 6) 1)))) fun (S3 : xU) => (some (1, S3))))
def G12_image_L7  : (Int × xU) → Option ((Int × xU) ⊕ xU)
  | (v1, S2) => (if 772 ≤ v1 then (some (.inr S2)) else (x_gd ((0 : Int) ≤ v1 ∧ v1 < 772) (x_gd ((0 : Int) ≤ v1 ∧ v1 < 772) (some (.inl ((x_add v1 1), (x_up S2 2 (v1).toNat (S2 1 (v1).toNat))))))))
def G12_image (S : xU) : Option xU :=
  (x_b1 (whl xFU G12_image_L7 (0, (x_up S 0 0 0))) fun (S3 : xU) => (some (x_up S3 0 3 1)))
def G12_back_L16  : (Int × xU) → Option ((Int × xU) ⊕ xU)
  | (v1, S2) => (if 772 ≤ v1 then (some (.inr S2)) else (x_gd ((0 : Int) ≤ v1 ∧ v1 < 772) (x_gd ((0 : Int) ≤ v1 ∧ v1 < 772) (some (.inl ((x_add v1 1), (x_up S2 1 (v1).toNat (S2 2 (v1).toNat))))))))
def G12_back (S : xU) : Option (Int × xU) :=
  (if ((x_up S 0 0 0) 0 3) = 0 then (some (0, (x_up S 0 0 0))) else (x_b1 (whl xFU G12_back_L16 (0, (x_up S 0 0 0))) fun (S3 : xU) => (some (1, (x_up S3 0 6 0)))))
def G12_count_L101 (S : xU) : (Int × Int) → Option ((Int × Int) ⊕ Int)
  | (v3, v4) => (if 4 ≤ v4 then (some (.inr v3)) else (x_gd ((0 : Int) ≤ (x_add 12 v4) ∧ (x_add 12 v4) < 772) (some (.inl ((x_add v3 ((x_up S 0 0 0) 1 ((x_add 12 v4)).toNat)), (x_add v4 1))))))
def G12_count (a : Int) (S : xU) : Option (Int × xU) :=
  (if a = 0 then (some (((x_up S 0 0 0) 1 3), (x_up S 0 0 0))) else (if a = 1 then (some (((x_up S 0 0 0) 1 0), (x_up S 0 0 0))) else (if a = 2 then (some (((x_up S 0 0 0) 1 1), (x_up S 0 0 0))) else (x_b1 (G12_isIn a 3 8) fun (v1 : Int) => (if v1 = 0 then (if a = 10 then (x_b1 (G12_lateOfAll (x_up S 0 0 0)) fun (v10 : Int) => (some (v10, (x_up S 0 0 0)))) else (if a = 11 then (some (((x_up S 0 0 0) 1 10), (x_up S 0 0 0))) else (if a = 12 then (some (((x_up S 0 0 0) 0 6), (x_up S 0 0 0))) else (x_b1 (whl xFU (G12_count_L101 S) (0, 0)) fun (v5 : Int) => (x_b1 (if a = 9 then (some v5) else (some (-1))) fun (v8 : Int) => (some (v8, (x_up S 0 0 0)))))))) else (x_gd ((0 : Int) ≤ (x_sub (x_add 4 a) 3) ∧ (x_sub (x_add 4 a) 3) < 772) (some (((x_up S 0 0 0) 1 ((x_sub (x_add 4 a) 3)).toNat), (x_up S 0 0 0)))))))))
