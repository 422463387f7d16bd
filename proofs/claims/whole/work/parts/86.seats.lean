/-! Stalls put to monks: the reference's table, the seats. -/
section ST2
variable {N S St : xU} {m : Nat → Int} {n : Nat} {l : Nat → Nat}
theorem r_rowi {Z : xU} {i : Nat} (hn : n ≤ 7) (hin : i < n) (hlt : l i < 4096) (hl : Z 1 (19 + 8 * i) = (l i : Int)) (hv : ∀ u, u < 4096 → Z 8 (4096 * (i + 1) + u) = ((sv l n (Ms n (i + 1)) (4095 - u) : Nat) : Int)) :
    whl xFU (G12_seatsOf_L48 (i : Int)) (0, Z) = some (flo Z 8 (4096 * i) (fun u => ((sv l n (Ms n i) (4095 - u) : Nat) : Int)) 4096) := by
  have e0 : ((0 : Int), Z) = (((0 : Nat) : Int), flo Z 8 (4096 * i) (fun u => ((sv l n (Ms n i) (4095 - u) : Nat) : Int)) 0) := by rw [flo_0]; rfl
  rw [e0]
  refine w_run (fun j => ((j : Int), flo Z 8 (4096 * i) (fun u => ((sv l n (Ms n i) (4095 - u) : Nat) : Int)) j)) 4096 (by unfold xFU; omega) (fun j hj => ?_) (by rw [G12_seatsOf_L48, if_pos (by decide)])
  generalize hZ : flo Z 8 (4096 * i) (fun u => ((sv l n (Ms n i) (4095 - u) : Nat) : Int)) j = Y
  have y1 : Y 1 (19 + 8 * i) = (l i : Int) := by rw [← hZ, flo_o (by decide)]; exact hl
  have yv : ∀ u, u < 4096 → Y 8 (4096 * (i + 1) + u) = ((sv l n (Ms n (i + 1)) (4095 - u) : Nat) : Int) := fun u hu => by rw [← hZ, flo_h (by omega)]; exact hv u hu
  have w85 : whl xFU (G12_seatsOf_L85 (i : Int) (j : Int) Y (l i : Int)) (((sv l n (Ms n (i + 1)) (4095 - j) : Nat) : Int), 0) = some ((sv l n (Ms n i) (4095 - j) : Nat) : Int) := by
    rw [← sv_rec hn hin hlt]
    refine w_run (fun s => (((mx (fun s => (l i).testBit s && (4095 - j).testBit s) (fun s => 1 + sv l n (Ms n (i + 1)) (dif (4095 - j) (2 ^ s))) (sv l n (Ms n (i + 1)) (4095 - j)) s : Nat) : Int), (s : Int))) 12 (by unfold xFU; omega) (fun s hs => ?_) (by rw [G12_seatsOf_L85, if_pos (by decide)])
    have hd : dif (l i) j < 2 ^ 12 := dif_lt (by omega)
    rw [G12_seatsOf_L85, if_neg (by omega), n_dif (by omega), g12_isOf (R32n (by omega)) (by omega), x_b1s, ib_nat, b_bit hj hs, n_inc (show s < 2147483647 by omega), mx_s]
    cases hc : ((l i).testBit s && (4095 - j).testBit s) with
    | false => rw [if_neg Bool.false_ne_true, if_pos rfl, x_b1s, if_neg Bool.false_ne_true]
    | true =>
      have hcc := hc
      rw [Bool.and_eq_true] at hcc
      obtain ⟨b1, b2⟩ := b_no hs hcc.2 hj
      have q := sv_12 (l := l) (n := n) (M := Ms n (i + 1)) (B := dif (4095 - j) (2 ^ s))
      have p12 : 2 ^ s < 2 ^ 12 := Nat.pow_lt_pow_right (by decide) hs
      rw [if_pos rfl, if_neg (by decide), n_shl1 s (by omega), n_or (by omega) (by omega), n_inc (show i < 2147483647 by omega), n_ix8 (by omega) b1, x_gd_t ⟨by omega, by omega⟩, Int.toNat_natCast, yv _ b1, b2, x_add_of ⟨by omega, by omega⟩, g12_greater, x_b1s, x_b1s, if_pos rfl]
      congr 3
      omega
  rw [G12_seatsOf_L48, if_neg (by omega), n_inc (show i < 2147483647 by omega), n_ix8 (by omega) hj, x_gd_t ⟨by omega, by omega⟩, Int.toNat_natCast, g12_of3 (by omega), x_b1s, y1, yv j hj, w85, x_b1s, n_ix8 (by omega) hj, x_gd_t ⟨by omega, by omega⟩, Int.toNat_natCast, n_inc (by omega), ← hZ, flo_s (f := fun u => ((sv l n (Ms n i) (4095 - u) : Nat) : Int))]
theorem r_rows (hn : n ≤ 7) (hlt : ∀ p, p < n → l p < 4096) (hl : ∀ p, p < n → S 1 (19 + 8 * p) = (l p : Int)) : ∀ (j : Nat) (Z : xU) (k : Nat), j ≤ n → j < k → (∀ o, o ≠ 8 → Z o = S o) → (∀ i, i ≤ n → j ≤ i → ∀ u, u < 4096 → Z 8 (4096 * i + u) = ((sv l n (Ms n i) (4095 - u) : Nat) : Int)) →
    ∃ Z', whl k G12_seatsOf_L42 ((j : Int) - 1, Z) = some Z' ∧ (∀ o, o ≠ 8 → Z' o = S o) ∧ ∀ i, i ≤ n → ∀ u, u < 4096 → Z' 8 (4096 * i + u) = ((sv l n (Ms n i) (4095 - u) : Nat) : Int) := by
  intro j
  induction j with
  | zero =>
    intro Z k hj hk hZ hv
    obtain ⟨k, rfl⟩ : ∃ k', k = k' + 1 := ⟨k - 1, by omega⟩
    exact ⟨Z, whl_r (by rw [G12_seatsOf_L42, if_pos (by omega)]), hZ, fun i hi => hv i hi (by omega)⟩
  | succ j ih =>
    intro Z k hj hk hZ hv
    obtain ⟨k, rfl⟩ : ∃ k', k = k' + 1 := ⟨k - 1, by omega⟩
    have st : G12_seatsOf_L42 (((j + 1 : Nat) : Int) - 1, Z) = some (.inl ((j : Int) - 1, flo Z 8 (4096 * j) (fun u => ((sv l n (Ms n j) (4095 - u) : Nat) : Int)) 4096)) := by
      rw [show ((j + 1 : Nat) : Int) - 1 = (j : Int) by omega, G12_seatsOf_L42, if_neg (by omega), r_rowi hn hj (hlt j hj) (by rw [hZ 1 (by decide)]; exact hl j hj) (hv (j + 1) hj (by omega)), x_b1s, x_add_of ⟨by omega, by omega⟩]
      rfl
    rw [whl_l st]
    refine ih _ k (by omega) (by omega) (fun o ho => by rw [flo_o ho]; exact hZ o ho) fun i h1 h2 u hu => ?_
    by_cases z : i = j
    · subst z; rw [flo_i hu]
    · rw [flo_h (by omega)]; exact hv i h1 (by omega) u hu
theorem r_seatsOf (hn : n ≤ 7) (e : S 1 3 = (n : Int)) (hlt : ∀ p, p < n → l p < 4096) (hl : ∀ p, p < n → S 1 (19 + 8 * p) = (l p : Int)) :
    ∃ Z', G12_seatsOf S = some Z' ∧ (∀ o, o ≠ 8 → Z' o = S o) ∧ ∀ i, i ≤ n → ∀ u, u < 4096 → Z' 8 (4096 * i + u) = ((sv l n (Ms n i) (4095 - u) : Nat) : Int) := by
  have w2 : whl xFU G12_seatsOf_L2 (0, S) = some (flo S 8 (4096 * n) (fun _ => 0) 4096) := by
    have e0 : ((0 : Int), S) = (((0 : Nat) : Int), flo S 8 (4096 * n) (fun _ => 0) 0) := by rw [flo_0]; rfl
    rw [e0]
    refine w_run (fun j => ((j : Int), flo S 8 (4096 * n) (fun _ => 0) j)) 4096 (by unfold xFU; omega) (fun j hj => ?_) (by rw [G12_seatsOf_L2, if_pos (by decide)])
    rw [G12_seatsOf_L2, if_neg (by omega), flo_o (by decide), e, n_ix8 (by omega) hj, x_gd_t ⟨by omega, by omega⟩, Int.toNat_natCast, n_inc (by omega)]
    rw [show x_up (flo S 8 (4096 * n) (fun _ => 0) j) 8 (4096 * n + j) 0 = _ from flo_s (S := S) (r := 8) (b := 4096 * n) (j := j) (f := fun _ => 0)]
  obtain ⟨Z', h1, h2, h3⟩ := r_rows (S := S) hn hlt hl n (flo S 8 (4096 * n) (fun _ => 0) 4096) xFU (Nat.le_refl _) (by unfold xFU; omega) (fun o ho => flo_o ho) (fun i hi1 hi2 u hu => by
    have : i = n := by omega
    subst this
    have z := sv_pc (l := l) (n := i) (M := 0) (B := 4095 - u)
    rw [pc_0] at z
    rw [flo_i hu, Ms_n]
    omega)
  refine ⟨Z', ?_, h2, h3⟩
  rw [G12_seatsOf, w2, x_b1s, flo_o (by decide), e, x_sub_of ⟨by omega, by omega⟩, h1, x_b1s]
/-- whether he takes it -/
def tk (l : Nat → Nat) (n p B s : Nat) : Bool := (l p).testBit s && B.testBit s && decide (1 + sv l n (Ms n (p + 1)) (dif B (2 ^ s)) = sv l n (Ms n p) B)
theorem c_firstSeat {p B : Nat} (hn : n ≤ 7) (hp : p < n) (hB : B < 4096) (hlt : ∀ p, p < n → l p < 4096) (hS : ∀ v, v < 128 → St 1 v = (lkn l n v : Int)) :
    G9_firstSeat (x_and (l p : Int) (B : Int)) ((Ms n (p + 1) : Nat) : Int) (B : Int) ((sv l n (Ms n p) B : Nat) : Int) St = some (dn (tk l n p B) 0 12) := by
  have hlp := hlt p hp
  rw [n_and (by omega)]
  have key : ∀ d lo k : Nat, lo + d = 12 → d < k → ∃ r, whl k (G9_firstSeat_L3 ((l p &&& B : Nat) : Int) ((Ms n (p + 1) : Nat) : Int) (B : Int) ((sv l n (Ms n p) B : Nat) : Int) St) (lo : Int) = some r ∧ ((r = .inl () ∧ dn (tk l n p B) lo d = -1) ∨ r = .inr (dn (tk l n p B) lo d)) := by
    intro d
    induction d with
    | zero =>
      intro lo k hd hk
      obtain ⟨k, rfl⟩ : ∃ k', k = k' + 1 := ⟨k - 1, by omega⟩
      exact ⟨_, whl_r (by rw [G9_firstSeat_L3, if_pos (by omega)]), .inl ⟨rfl, rfl⟩⟩
    | succ d ih =>
      intro lo k hd hk
      obtain ⟨k, rfl⟩ : ∃ k', k = k' + 1 := ⟨k - 1, by omega⟩
      have hlb : l p &&& B < 4096 := Nat.lt_of_le_of_lt Nat.and_le_left hlp
      have q := sv_12 (l := l) (n := n) (M := Ms n (p + 1)) (B := dif B (2 ^ lo))
      have hd2 : dif B (2 ^ lo) < 2 ^ 12 := dif_lt hB
      have st : G9_firstSeat_L3 ((l p &&& B : Nat) : Int) ((Ms n (p + 1) : Nat) : Int) (B : Int) ((sv l n (Ms n p) B : Nat) : Int) St (lo : Int) = if tk l n p B lo = true then some (.inr (.inr (lo : Int))) else some (.inl ((lo + 1 : Nat) : Int)) := by
        rw [G9_firstSeat_L3, if_neg (by omega), g11_hold (R32n (by omega)) (by omega), x_b1s, ib_nat, Nat.testBit_and, n_inc (by omega), tk]
        cases hc : ((l p).testBit lo && B.testBit lo) with
        | false => rw [if_neg Bool.false_ne_true, if_pos rfl, Bool.false_and, if_neg Bool.false_ne_true]
        | true =>
          rw [if_pos rfl, if_neg (by decide), n_clr (by omega) (by omega), c_seatable (Ms_lt hn) (by omega) hlt hS, x_b1s, x_add_of ⟨by omega, by omega⟩, Bool.true_and]
          by_cases z : 1 + sv l n (Ms n (p + 1)) (dif B (2 ^ lo)) = sv l n (Ms n p) B
          · rw [if_pos (by omega), decide_eq_true z, if_pos rfl]
          · rw [if_neg (by omega), decide_eq_false z, if_neg Bool.false_ne_true]
      have ed : dn (tk l n p B) lo (d + 1) = if tk l n p B lo then (lo : Int) else dn (tk l n p B) (lo + 1) d := rfl
      rw [ed]
      by_cases z : tk l n p B lo = true
      · rw [if_pos z] at st
        rw [whl_r st, if_pos z]
        exact ⟨_, rfl, .inr rfl⟩
      · rw [if_neg z] at st
        rw [whl_l st, if_neg z]
        exact ih (lo + 1) k (by omega) (by omega)
  obtain ⟨r, e1, e2⟩ := key 12 0 xFU (by omega) (by unfold xFU; omega)
  rw [G9_firstSeat, show whl xFU (G9_firstSeat_L3 ((l p &&& B : Nat) : Int) ((Ms n (p + 1) : Nat) : Int) (B : Int) ((sv l n (Ms n p) B : Nat) : Int) St) 0 = _ from e1]
  rcases e2 with ⟨rfl, e3⟩ | rfl
  · rw [e3]; rfl
  · rfl
theorem r_firstSeat {p u : Nat} (hn : n ≤ 7) (hp : p < n) (hu : u < 4096) (hlt : ∀ p, p < n → l p < 4096) (hl : S 1 (19 + 8 * p) = (l p : Int)) (hv : ∀ i, i ≤ n → ∀ u, u < 4096 → S 8 (4096 * i + u) = ((sv l n (Ms n i) (4095 - u) : Nat) : Int)) :
    whl xFU (G12_seats_L66 S (u : Int) (p : Int)) (-1, 11) = some (dn (tk l n p (4095 - u)) 0 12) := by
  have hlp := hlt p hp
  have hd : dif (l p) u < 2 ^ 12 := dif_lt (by omega)
  refine w_run (fun j => (dn (tk l n p (4095 - u)) (12 - j) j, (11 : Int) - (j : Int))) 12 (by unfold xFU; omega) (fun j hj => ?_) (by rw [G12_seats_L66, if_pos (by decide)])
  obtain ⟨s, hs⟩ : ∃ s, s + j = 11 := ⟨11 - j, by omega⟩
  rw [show (11 : Int) - (j : Int) = (s : Int) by omega, show (11 : Int) - ((j + 1 : Nat) : Int) = (s : Int) + -1 by omega, show 12 - j = s + 1 by omega, show 12 - (j + 1) = s by omega]
  rw [G12_seats_L66, if_neg (by omega), g12_of3 (by omega), x_b1s, hl, n_dif (by omega), g12_isOf (R32n (by omega)) (by omega), x_b1s, ib_nat, b_bit hu (by omega), show x_add (s : Int) (-1) = (s : Int) + -1 from x_add_of ⟨by omega, by omega⟩]
  show _ = some (Sum.inl ((if tk l n p (4095 - u) s then (s : Int) else dn (tk l n p (4095 - u)) (s + 1) j), (s : Int) + -1))
  rw [tk]
  cases hc : ((l p).testBit s && (4095 - u).testBit s) with
  | false => rw [if_neg Bool.false_ne_true, if_pos rfl, x_b1s, Bool.false_and, if_neg Bool.false_ne_true]
  | true =>
    have hcc := hc
    rw [Bool.and_eq_true] at hcc
    obtain ⟨b1, b2⟩ := b_no (by omega) hcc.2 hu
    have q := sv_12 (l := l) (n := n) (M := Ms n (p + 1)) (B := dif (4095 - u) (2 ^ s))
    have p12 : 2 ^ s < 2 ^ 12 := Nat.pow_lt_pow_right (by decide) (by omega)
    rw [if_pos rfl, if_neg (by decide), n_shl1 s (by omega), n_or (by omega) (by omega), n_inc (show p < 2147483647 by omega), n_ix8 (by omega) b1, x_gd_t ⟨by omega, by omega⟩, n_ix8 (by omega) hu, x_gd_t ⟨by omega, by omega⟩, Int.toNat_natCast, Int.toNat_natCast, hv _ (by omega) _ b1, hv _ (by omega) _ hu, b2, x_add_of ⟨by omega, by omega⟩, Bool.true_and]
    by_cases z : 1 + sv l n (Ms n (p + 1)) (dif (4095 - u) (2 ^ s)) = sv l n (Ms n p) (4095 - u)
    · rw [if_pos (by omega), x_b1s, decide_eq_true z, if_pos rfl]
    · rw [if_neg (by omega), x_b1s, decide_eq_false z, if_neg Bool.false_ne_true]
theorem L_seats {a : Int} (h : CR N (S 1)) (hi : Iv (S 1)) : ∃ o T' r S', G11_seats a N St = some (o, T') ∧ G12_seats a S = some (r, S') ∧ Ag (fun _ => 1) o r S' ∧ (∀ E, o = .inr E → E = 1) ∧ (∀ o, o ≠ 0 → o < 7 → S' o = S o) ∧ ∀ i, i ≠ 0 → S' 0 i = S 0 i := by
  obtain ⟨n, hn, e⟩ := hi.nn
  let l : Nat → Nat := fun p => (S 1 (19 + 8 * p)).toNat
  have hl : ∀ p, p < n → S 1 (19 + 8 * p) = (l p : Int) := fun p hp => by
    have := (hi.mk (p := p) (by omega)).2.2.2.1
    show S 1 (19 + 8 * p) = ((S 1 (19 + 8 * p)).toNat : Int)
    omega
  have hlt : ∀ p, p < n → l p < 4096 := fun p hp => by have := (hi.mk (p := p) (by omega)).2.2.2.1; rw [hl p hp] at this; omega
  have p2 := Nat.two_pow_pos n
  have p7 : 2 ^ n ≤ 2 ^ 7 := Nat.pow_le_pow_right (by decide) hn
  have h3 : N 0 3 = (n : Int) := h.1.1.trans e
  obtain ⟨St', c1, c2⟩ := c_most (St := St) h hi e hl
  obtain ⟨S', k1, k2, k3⟩ := r_seatsOf (S := x_up S 0 0 0) (n := n) (l := l) hn (by rw [x_up1]; exact e) hlt (by rw [x_up1]; exact hl)
  have s1 : S' 1 = S 1 := (k2 1 (by decide)).trans x_up1
  have s00 : S' 0 0 = 0 := by rw [k2 0 (by decide), up_s]
  have fr1 : ∀ o, o ≠ 0 → o < 7 → S' o = S o := fun o h0 h7 => by rw [k2 o (by omega), up_o h0]
  have fr2 : ∀ i, i ≠ 0 → S' 0 i = S 0 i := fun i h0 => by rw [k2 0 (by decide), up_i h0]
  rw [G11_seats, G12_seats]
  by_cases a1 : a = -1
  · have k30 := k3 0 (by omega) 0 (by decide)
    rw [if_pos a1, if_pos a1, c1, x_b2s, x_b1s, up_s, if_pos (by decide), k1, x_b1s, if_pos a1, show S' 8 0 = _ from k30]
    exact ⟨_, _, _, _, rfl, rfl, ⟨s00, rfl⟩, fun E h => (nomatch h), fr1, fr2⟩
  · rw [if_neg a1, if_neg a1, g11_needMonk h, g12_isMonk hi.many]
    by_cases h0 : 0 ≤ a ∧ a < S 1 3
    · obtain ⟨A, rfl⟩ : ∃ A : Nat, a = (A : Int) := ⟨a.toNat, by omega⟩
      rw [if_pos h0, if_pos h0]
      simp only [x_b1s, x_b2s, x_tvn, x_tvs, up_s, Int.reduceEq, Int.reduceLE, reduceIte]
      rw [k1, x_b1s, if_neg a1, G9_seatOf, c1, x_b2s, h3, n_shl1 n (by omega), x_sub_of ⟨by omega, by omega⟩, show ((2 ^ n : Nat) : Int) - 1 = ((2 ^ n - 1 : Nat) : Int) by omega, ← Ms_0]
      have W : ∃ r1 r2, whl xFU (G9_seatOf_L27 (A : Int) N St') (4095, ((sv l n (Ms n 0) 4095 : Nat) : Int), ((Ms n 0 : Nat) : Int), (-1), 0) = some r1 ∧ whl xFU (G12_seats_L54 (A : Int) S') (0, (-1), 0) = some r2 ∧ r1 = r2 := by
        refine w_sim (fun j s1 s2 => ∃ (u : Nat) (w : Int), u < 4096 ∧ s1 = (((4095 - u : Nat) : Int), ((sv l n (Ms n j) (4095 - u) : Nat) : Int), ((Ms n j : Nat) : Int), w, (j : Int)) ∧ s2 = ((u : Int), w, (j : Int))) (fun r1 r2 => r1 = r2) (A + 1) (by unfold xFU; omega) ?_ ?_ ⟨0, -1, by decide, rfl, rfl⟩
        · rintro j s1 s2 hj ⟨u, w, hu, rfl, rfl⟩
          have hjn : j < n := by omega
          have M1 := Ms_lt (n := n) (i := j) hn
          have q := sv_12 (l := l) (n := n) (M := Ms n j) (B := 4095 - u)
          have ec : G9_seatOf_L27 (A : Int) N St' (((4095 - u : Nat) : Int), ((sv l n (Ms n j) (4095 - u) : Nat) : Int), ((Ms n j : Nat) : Int), w, (j : Int)) = (x_b2 (if dn (tk l n j (4095 - u)) 0 12 = (-1) then (some (((4095 - u : Nat) : Int), ((sv l n (Ms n j) (4095 - u) : Nat) : Int))) else (some ((x_and ((4095 - u : Nat) : Int) (x_xor (x_shl 1 (dn (tk l n j (4095 - u)) 0 12)) (-1))), (x_add ((sv l n (Ms n j) (4095 - u) : Nat) : Int) (-1))))) fun (v16 : Int) (v17 : Int) => (some (.inl (v16, v17, ((Ms n (j + 1) : Nat) : Int), dn (tk l n j (4095 - u)) 0 12, ((j + 1 : Nat) : Int))))) := by
            rw [G9_seatOf_L27, if_neg (by omega), g1_of3 h hi (by omega), x_b1s, hl j hjn, n_clr (by omega) (by omega), Ms_s, c_firstSeat hn hjn (by omega) hlt c2, x_b1s, n_inc (by omega)]
          have er : G12_seats_L54 (A : Int) S' ((u : Int), w, (j : Int)) = (x_b1 (if dn (tk l n j (4095 - u)) 0 12 = (-1) then (some 0) else (some (x_shl 1 (dn (tk l n j (4095 - u)) 0 12)))) fun (v24 : Int) => (some (.inl ((x_or (u : Int) v24), dn (tk l n j (4095 - u)) 0 12, ((j + 1 : Nat) : Int))))) := by
            rw [G12_seats_L54, if_neg (by omega), r_firstSeat hn hjn hu hlt (by rw [s1]; exact hl j hjn) k3, x_b1s, n_inc (by omega)]
          rw [ec, er]
          rcases dn_in (q := tk l n j (4095 - u)) 12 0 with ⟨d1, d2⟩ | ⟨s, _, d2, d3, d4⟩
          · rw [d1, if_pos rfl, if_pos rfl, x_b2s, x_b1s, n_or0 (by omega)]
            refine ⟨_, _, rfl, rfl, u, -1, hu, ?_, rfl⟩
            rw [sv_seat hn hjn (hlt j hjn) (fun s hs => d2 s (by omega) (by omega))]
          · have hcc := d3
            rw [tk, Bool.and_eq_true, Bool.and_eq_true] at hcc
            have hs12 : s < 12 := by omega
            obtain ⟨b1, b2⟩ := b_no hs12 hcc.1.2 hu
            have hq := of_decide_eq_true hcc.2
            have p12 : 2 ^ s < 2 ^ 12 := Nat.pow_lt_pow_right (by decide) hs12
            rw [d4, if_neg (by omega), if_neg (by omega), x_b2s, x_b1s, n_clr (by omega) (by omega), n_shl1 s (by omega), n_or (by omega) (by omega), ← b2]
            rw [← b2] at hq
            refine ⟨_, _, rfl, rfl, u ||| 2 ^ s, s, b1, ?_, rfl⟩
            rw [x_add_of ⟨by omega, by omega⟩, show ((sv l n (Ms n j) (4095 - u) : Nat) : Int) + -1 = ((sv l n (Ms n (j + 1)) (4095 - (u ||| 2 ^ s)) : Nat) : Int) by omega]
        · rintro s1 s2 ⟨u, w, hu, rfl, rfl⟩
          exact ⟨w, w, by rw [G9_seatOf_L27, if_pos (by omega)], by rw [G12_seats_L54, if_pos (by omega)], rfl⟩
      obtain ⟨r1, r2, e1, e2, rfl⟩ := W
      rw [e1, e2]
      exact ⟨_, _, _, _, rfl, rfl, ⟨s00, rfl⟩, fun E h => (nomatch h), fr1, fr2⟩
    · rw [if_neg h0, if_neg h0]
      simp only [x_b1s, x_b2s, x_tvn, x_tvs, up_s, Int.reduceEq, Int.reduceLE, reduceIte]
      exact ⟨_, _, _, _, rfl, rfl, up_s, fun E h => by cases h; rfl, fun o h0 _ => up_o h0, fun i h0 => up_i h0⟩
end ST2
