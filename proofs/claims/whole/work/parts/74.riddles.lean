/-! The four riddles as calls. -/
/-- what a riddle leaves -/
def Kz (S S' : xU) : Prop := (∀ o, o ≠ 0 → o < 7 → S' o = S o) ∧ ∀ i, i ≠ 0 → i ≠ 8 → S' 0 i = S 0 i
section RI3
variable {n M : Nat} {bt : Nat → Int} {T S N Ri : xU} {q : Nat → Bool} {an : Int → Int → Int}
theorem fs_kz {v : Int} {j : Nat} : Kz S (x_up (fs (x_up S 0 8 0) q j) 0 0 v) := by
  refine ⟨fun o h0 h7 => ?_, fun i h0 h8 => ?_⟩
  · rw [up_o h0, fs_o (by omega), up_o h0]
  · rw [up_i h0, fs_o (by decide), up_i h8]
theorem kz_0 {v : Int} : Kz S (x_up (x_up S 0 8 0) 0 0 v) := by
  refine ⟨fun o h0 h7 => ?_, fun i h0 h8 => ?_⟩
  · rw [up_o h0, up_o h0]
  · rw [up_i h0, up_i h8]
theorem fs_tr {v : Int} {j : Nat} : TR (x_up T 0 2 0) (x_up (fs (x_up S 0 8 0) q j) 0 0 v) := ⟨0, by decide, up_s, by rw [up_i (by decide), fs_o (by decide), up_s]; rfl, fun i h => absurd h (by omega)⟩
theorem tr_0 {v : Int} : TR (x_up T 0 2 0) (x_up (x_up S 0 8 0) 0 0 v) := ⟨0, by decide, up_s, by rw [up_i (by decide), up_s]; rfl, fun i h => absurd h (by omega)⟩
theorem c_walk {b0 : Int} (hn : n ≤ 400) (hB : TB n bt T) (hby : ∀ i, i < n → 0 ≤ bt i ∧ bt i ≤ 255) :
    if rwk n bt 1 then ∃ Ri', G7_readWalk b0 T Ri = some (1, Ri') ∧ Ri' 0 6 = 144 ∧ Ri' 0 7 = ct (fit (anW b0) bt (n / 2)) 144 ∧ (∀ v, v < 144 → Ri' 2 v = bI (fit (anW b0) bt (n / 2) v)) ∧ (∀ Z : xU, Z 0 4 = Ri' 0 4 → Z 0 5 = Ri' 0 5 → ∀ v h, G7_answerOf v h Z = some (anW b0 v h)) else ∃ Ri', G7_readWalk b0 T Ri = some (0, Ri') := by
  have hA : ∀ Z : xU, Z 0 4 = x_up (x_up (x_up Ri 0 4 1) 0 5 b0) 0 6 144 0 4 → Z 0 5 = x_up (x_up (x_up Ri 0 4 1) 0 5 b0) 0 6 144 0 5 → ∀ v h, G7_answerOf v h Z = some (anW b0 v h) := by
    intro Z h4 h5 v h
    rw [up_i (by decide), up_i (by decide), up_s] at h4
    rw [up_i (by decide), up_s] at h5
    rw [G7_answerOf, h4, if_neg (by decide), h5, x_its, x_b1s]
    rfl
  have := c_readRows (Ri := x_up (x_up (x_up Ri 0 4 1) 0 5 b0) 0 6 144) (b := 1) (M := 144) (an := anW b0) hn (by decide) hB hby up_s hA
  rw [G7_readWalk]
  by_cases y : rwk n bt 1
  · rw [if_pos y] at this ⊢
    obtain ⟨Ri', k1, k2, k3, k4⟩ := this
    rw [k1, x_b2s, x_gd_t (.inr rfl)]
    exact ⟨Ri', rfl, (k2 6 (by decide) (by decide)).trans up_s, k3, k4, fun Z h4 h5 => hA Z (h4.trans (k2 4 (by decide) (by decide))) (h5.trans (k2 5 (by decide) (by decide)))⟩
  · rw [if_neg y] at this ⊢
    obtain ⟨Ri', k1⟩ := this
    rw [k1, x_b2s, x_gd_t (.inl rfl)]
    exact ⟨Ri', rfl⟩
theorem c_rule (hn : n ≤ 400) (hB : TB n bt T) (hby : ∀ i, i < n → 0 ≤ bt i ∧ bt i ≤ 255) :
    if rwk n bt 4 then ∃ Ri', G7_readRule T Ri = some (1, Ri') ∧ Ri' 0 6 = 25 ∧ Ri' 0 7 = ct (fit anR bt (n / 2)) 25 ∧ (∀ v, v < 25 → Ri' 2 v = bI (fit anR bt (n / 2) v)) ∧ (∀ Z : xU, Z 0 4 = Ri' 0 4 → Z 0 5 = Ri' 0 5 → ∀ v h, G7_answerOf v h Z = some (anR v h)) else ∃ Ri', G7_readRule T Ri = some (0, Ri') := by
  have hA : ∀ Z : xU, Z 0 4 = x_up (x_up Ri 0 4 0) 0 6 25 0 4 → Z 0 5 = x_up (x_up Ri 0 4 0) 0 6 25 0 5 → ∀ v h, G7_answerOf v h Z = some (anR v h) := by
    intro Z h4 h5 v h
    rw [up_i (by decide), up_s] at h4
    rw [G7_answerOf, h4, if_pos rfl]
    rfl
  have := c_readRows (Ri := x_up (x_up Ri 0 4 0) 0 6 25) (b := 4) (M := 25) (an := anR) hn (by decide) hB hby up_s hA
  rw [G7_readRule]
  by_cases y : rwk n bt 4
  · rw [if_pos y] at this ⊢
    obtain ⟨Ri', k1, k2, k3, k4⟩ := this
    rw [k1, x_b2s, x_gd_t (.inr rfl)]
    exact ⟨Ri', rfl, (k2 6 (by decide) (by decide)).trans up_s, k3, k4, fun Z h4 h5 => hA Z (h4.trans (k2 4 (by decide) (by decide))) (h5.trans (k2 5 (by decide) (by decide)))⟩
  · rw [if_neg y] at this ⊢
    obtain ⟨Ri', k1⟩ := this
    rw [k1, x_b2s, x_gd_t (.inl rfl)]
    exact ⟨Ri', rfl⟩
theorem need1 : G11_needRows 1 T = some (none, x_up T 0 2 0) := rfl
theorem need0 : G11_needRows 0 T = some (some 0, x_up T 0 2 0) := rfl
theorem bg_lt {j : Nat} : fo (fun i s => if q i then s ||| 2 ^ (i / 9) else s) 0 j < 2 ^ 16 ∨ 144 < j := by
  by_cases h : 144 < j
  · exact .inr h
  · left
    exact fo_ind (g := fun i s => if q i then s ||| 2 ^ (i / 9) else s) (fun _ s => s < 2 ^ 16) (n := j) (by decide) (fun i s hi hs => by
      by_cases z : q i = true
      · simp only [if_pos z]; exact Nat.or_lt_two_pow hs (Nat.pow_lt_pow_right (by decide) (by omega))
      · simp only [if_neg z]; exact hs) j (Nat.le_refl _)
theorem x_div9 {j : Nat} (h : j < 1000) : x_div (j : Int) 9 = ((j / 9 : Nat) : Int) := by
  rw [x_div_pos (R32n (by omega)) ⟨by decide, by decide⟩ (by decide) (by omega)]; omega
theorem L_seen {a : Int} (hN : CR N (S 1)) (hT : TR T S) : ∃ o T' Ri' b S', G11_seen a T N Ri = some (o, T', Ri') ∧ G12_seen a S = some (b, S') ∧ Ag (fun _ => 1) o b S' ∧ (∀ E, o = .inr E → E = 0) ∧ TR T' S' ∧ Kz S S' := by
  obtain ⟨n, hn, t2, s8, tb⟩ := hT
  have hB : TB n (S 5) T := ⟨t2, fun i hi => ⟨(tb i hi).1, (tb i hi).2.2⟩⟩
  have c := c_walk (Ri := Ri) (b0 := N 0 7) hn hB (fun i hi => (tb i hi).2.1)
  have r := r_heard (b0 := N 0 7) hn s8 (fun _ _ => rfl) (fun i hi => (tb i hi).2.1) hN.1.2.2.2.2.1.symm
  rw [G11_seen, G12_seen]
  by_cases y : rwk n (S 5) 1
  · rw [if_pos y] at c r
    obtain ⟨Ri', k1, k2, k3, k4, k5⟩ := c
    generalize hq : fit (anW (N 0 7)) (S 5) (n / 2) = q at *
    have hb := ct_bd q 144
    rw [k1, x_b2s, need1, x_b2s, x_tvn, r, x_b2s, if_neg (show ¬ ct q 144 = -1 by omega), x_b1s, up_s, if_neg (show ¬ (0 : Int) < 0 by decide)]
    by_cases z : a = 0
    · rw [if_pos z, if_pos z, x_b1s, if_pos (show (0 : Int) ≤ 0 by decide), x_b1s]
      exact ⟨_, _, _, _, _, rfl, rfl, ⟨up_s, k3.symm⟩, fun E h => (nomatch h), fs_tr, fs_kz⟩
    · have w1 : whl xFU (G7_beginnings_L4 Ri') (0, 0) = some ((fo (fun i s => if q i then s ||| 2 ^ (i / 9) else s) 0 144 : Nat) : Int) := by
        refine w_run (fun j => (((fo (fun i s => if q i then s ||| 2 ^ (i / 9) else s) 0 j : Nat) : Int), (j : Int))) 144 (by unfold xFU; omega) (fun j hj => ?_) (by rw [G7_beginnings_L4, if_pos (by decide)])
        have hl := (bg_lt (q := q) (j := j)).resolve_right (by omega)
        rw [G7_beginnings_L4, if_neg (by omega), x_gd_t ⟨by omega, by omega⟩, Int.toNat_natCast, k4 j hj, x_div9 (by omega), n_set (by omega) (by omega), n_inc (by omega)]
        show _ = some (Sum.inl (((if q j then fo (fun i s => if q i then s ||| 2 ^ (i / 9) else s) 0 j ||| 2 ^ (j / 9) else fo (fun i s => if q i then s ||| 2 ^ (i / 9) else s) 0 j : Nat) : Int), _))
        cases q j <;> rfl
      have w2 : whl xFU (G12_seen_L48 (fs (x_up S 0 8 0) q 144) 0) (0, 0) = some ((fo (fun i s => if q i then s ||| 2 ^ (i / 9) else s) 0 144 : Nat) : Int) := by
        refine w_run (fun j => (((fo (fun i s => if q i then s ||| 2 ^ (i / 9) else s) 0 j : Nat) : Int), (j : Int))) 144 (by unfold xFU; omega) (fun j hj => ?_) (by rw [G12_seen_L48, if_pos (by decide)])
        have hl := (bg_lt (q := q) (j := j)).resolve_right (by omega)
        rw [G12_seen_L48, if_neg (by omega), x_gd_t ⟨by omega, by omega⟩, Int.toNat_natCast, up_o (by decide), fs_i hj, x_div9 (by omega), n_inc (by omega)]
        show _ = some (Sum.inl (((if q j then fo (fun i s => if q i then s ||| 2 ^ (i / 9) else s) 0 j ||| 2 ^ (j / 9) else fo (fun i s => if q i then s ||| 2 ^ (i / 9) else s) 0 j : Nat) : Int), _))
        cases q j
        · rw [if_pos (show bI false = 0 from rfl), x_b1s, n_or0 (by omega), if_neg Bool.false_ne_true]
        · rw [if_neg (show ¬ bI true = 0 by decide), x_b1s, n_set (by omega) (by omega), if_pos rfl]
      rw [if_neg z, if_neg z, G7_beginnings, w1, x_b1s, x_b1s, x_b1s, w2, x_b1s]
      exact ⟨_, _, _, _, _, rfl, rfl, ⟨up_s, rfl⟩, fun E h => (nomatch h), fs_tr, fs_kz⟩
  · rw [if_neg y] at c r
    obtain ⟨Ri', k1⟩ := c
    rw [k1, x_b2s, need0, x_b2s, x_tvs, r, x_b2s, if_pos rfl, x_b1s, up_s, if_pos (by decide), if_neg (by decide), x_b1s]
    exact ⟨_, _, _, _, _, rfl, rfl, up_s, fun E h => by cases h; rfl, tr_0, kz_0⟩
theorem L_rule {a : Int} (hT : TR T S) : ∃ o T' Ri' b S', G11_rule a T Ri = some (o, T', Ri') ∧ G12_rule a S = some (b, S') ∧ Ag (fun _ => 1) o b S' ∧ (∀ E, o = .inr E → E = 0) ∧ TR T' S' ∧ Kz S S' := by
  obtain ⟨n, hn, t2, s8, tb⟩ := hT
  have hB : TB n (S 5) T := ⟨t2, fun i hi => ⟨(tb i hi).1, (tb i hi).2.2⟩⟩
  have c := c_rule (Ri := Ri) hn hB (fun i hi => (tb i hi).2.1)
  have r := r_ruled hn s8 (bt := S 5) (fun _ _ => rfl)
  rw [G11_rule, G12_rule]
  by_cases y : rwk n (S 5) 4
  · rw [if_pos y] at c r
    obtain ⟨Ri', k1, k2, k3, k4, k5⟩ := c
    generalize hq : fit anR (S 5) (n / 2) = q at *
    have hb := ct_bd q 25
    rw [k1, x_b2s, need1, x_b2s, x_tvn, r, x_b2s, if_neg (show ¬ ct q 25 = -1 by omega), x_b1s, up_s, if_neg (show ¬ (0 : Int) < 0 by decide)]
    by_cases z : a = 0
    · rw [if_pos z, if_pos z, x_b1s, if_pos (show (0 : Int) ≤ 0 by decide), x_b1s]
      exact ⟨_, _, _, _, _, rfl, rfl, ⟨up_s, k3.symm⟩, fun E h => (nomatch h), fs_tr, fs_kz⟩
    · have W : ∃ r1 r2, whl xFU (G7_firstFitting_L2 Ri') 0 = some r1 ∧ whl xFU (G12_rule_L45 (fs (x_up S 0 8 0) q 25) 0) 0 = some r2 ∧ ((r1 = .inl () ∧ r2 = .inl ()) ∨ ∃ v, r1 = .inr v ∧ r2 = .inr (v, x_up (fs (x_up S 0 8 0) q 25) 0 0 0)) := by
        refine w_until2 (fun j s1 s2 => s1 = (j : Int) ∧ s2 = (j : Int)) (fun (r1 : Unit ⊕ Int) (r2 : Unit ⊕ (Int × xU)) => (r1 = .inl () ∧ r2 = .inl ()) ∨ ∃ v, r1 = .inr v ∧ r2 = .inr (v, x_up (fs (x_up S 0 8 0) q 25) 0 0 0)) 25 (by unfold xFU; omega) ?_ ?_ ⟨rfl, rfl⟩
        · rintro j s1 s2 hj ⟨rfl, rfl⟩
          have e1 : G7_firstFitting_L2 Ri' (j : Int) = (if bI (q j) = 0 then (some (.inl ((j + 1 : Nat) : Int))) else (some (.inr (.inr (j : Int))))) := by
            rw [G7_firstFitting_L2, k2, if_neg (by omega), if_neg (by omega), x_gd_t ⟨by omega, by omega⟩, Int.toNat_natCast, k4 j hj, n_inc (by omega)]
          have e2 : G12_rule_L45 (fs (x_up S 0 8 0) q 25) 0 (j : Int) = (if bI (q j) = 0 then (some (.inl ((j + 1 : Nat) : Int))) else (some (.inr (.inr ((j : Int), x_up (fs (x_up S 0 8 0) q 25) 0 0 0))))) := by
            rw [G12_rule_L45, if_neg (by omega), x_gd_t ⟨by omega, by omega⟩, Int.toNat_natCast, up_o (by decide), fs_i hj, n_inc (by omega)]
          cases hqj : q j with
          | false =>
            rw [hqj, if_pos (show bI false = 0 from rfl)] at e1 e2
            exact .inl ⟨_, _, e1, e2, rfl, rfl⟩
          | true =>
            rw [hqj, if_neg (show ¬ bI true = 0 by decide)] at e1 e2
            exact .inr ⟨_, _, e1, e2, .inr ⟨_, rfl, rfl⟩⟩
        · rintro s1 s2 ⟨rfl, rfl⟩
          exact ⟨.inl (), .inl (), by rw [G7_firstFitting_L2, k2, if_pos (by decide)], by rw [G12_rule_L45, if_pos (by decide)], .inl ⟨rfl, rfl⟩⟩
      obtain ⟨r1, r2, e1, e2, e3⟩ := W
      rw [if_neg z, if_neg z, G7_firstFitting, e1, e2]
      rcases e3 with ⟨rfl, rfl⟩ | ⟨v, rfl, rfl⟩
      · exact ⟨_, _, _, _, _, rfl, rfl, ⟨up_s, rfl⟩, fun E h => (nomatch h), fs_tr, fs_kz⟩
      · exact ⟨_, _, _, _, _, rfl, rfl, ⟨up_s, rfl⟩, fun E h => (nomatch h), fs_tr, fs_kz⟩
  · rw [if_neg y] at c r
    obtain ⟨Ri', k1⟩ := c
    rw [k1, x_b2s, need0, x_b2s, x_tvs, r, x_b2s, if_pos rfl, x_b1s, up_s, if_pos (by decide), if_neg (by decide), x_b1s]
    exact ⟨_, _, _, _, _, rfl, rfl, up_s, fun E h => by cases h; rfl, tr_0, kz_0⟩
theorem anW_b {b0 v h : Int} : anW b0 v h = 0 ∨ anW b0 v h = 1 := by
  unfold anW
  by_cases z : (x_rem (x_add (x_div v 9) (x_mul h (x_rem v 9))) 16) = b0
  · rw [if_pos z]; exact .inr rfl
  · rw [if_neg z]; exact .inl rfl
theorem anR_b {v h : Nat} (hv : v < 25) (hh : h < 24) : 0 ≤ anR (v : Int) (h : Int) ∧ anR (v : Int) (h : Int) ≤ 4 := by
  have h1 : (v : Int) / 5 ≤ 4 := by omega
  have h2 : 0 ≤ (v : Int) / 5 := by omega
  have h3 : 0 ≤ (v : Int) / 5 * (h : Int) := Int.mul_nonneg h2 (by omega)
  have h4 : (v : Int) / 5 * (h : Int) ≤ 4 * 23 := Int.mul_le_mul h1 (by omega) (by omega) (by decide)
  unfold anR
  rw [x_div_pos (R32n (by omega)) ⟨by decide, by decide⟩ (by decide) (by omega), x_rem_pos (a := (v : Int)) (R32n (by omega)) ⟨by decide, by decide⟩ (by decide) (by omega), x_mul_of ⟨by omega, by omega⟩, x_add_of ⟨by omega, by omega⟩, x_rem_pos ⟨by omega, by omega⟩ ⟨by decide, by decide⟩ (by decide) (by omega)]
  omega
theorem L_ask (hN : CR N (S 1)) (hT : TR T S) : ∃ o T' Ri' b S', G11_ask T N Ri = some (o, T', Ri') ∧ G12_ask S = some (b, S') ∧ Ag (fun _ => 1) o b S' ∧ (∀ E, o = .inr E → E = 0) ∧ TR T' S' ∧ Kz S S' := by
  obtain ⟨n, hn, t2, s8, tb⟩ := hT
  have hB : TB n (S 5) T := ⟨t2, fun i hi => ⟨(tb i hi).1, (tb i hi).2.2⟩⟩
  have c := c_walk (Ri := Ri) (b0 := N 0 7) hn hB (fun i hi => (tb i hi).2.1)
  have r := r_heard (b0 := N 0 7) hn s8 (fun _ _ => rfl) (fun i hi => (tb i hi).2.1) hN.1.2.2.2.2.1.symm
  rw [G11_ask, G12_ask]
  by_cases y : rwk n (S 5) 1
  · rw [if_pos y] at c r
    obtain ⟨Ri', k1, k2, k3, k4, k5⟩ := c
    generalize hq : fit (anW (N 0 7)) (S 5) (n / 2) = q at *
    have hb := ct_bd q 144
    have two : ∀ (h : Int) (j : Nat), cA (anW (N 0 7)) q h 0 j + cA (anW (N 0 7)) q h 1 j = ct q j ∧ cA (anW (N 0 7)) q h 2 j = 0 ∧ cA (anW (N 0 7)) q h 3 j = 0 ∧ cA (anW (N 0 7)) q h 4 j = 0 := by
      intro h j
      induction j with
      | zero => exact ⟨rfl, rfl, rfl, rfl⟩
      | succ j ih =>
        obtain ⟨i1, i2, i3, i4⟩ := ih
        have a01 := anW_b (b0 := N 0 7) (v := (j : Int)) (h := h)
        rw [cA_s, cA_s, cA_s, cA_s, cA_s, ct_s]
        rcases a01 with e | e
        · rw [e]
          cases q j
          · exact ⟨by show _ + 0 + (_ + 0) = _ + 0; omega, by show _ + 0 = _; omega, by show _ + 0 = _; omega, by show _ + 0 = _; omega⟩
          · exact ⟨by show _ + 1 + (_ + 0) = _ + 1; omega, by show _ + 0 = _; omega, by show _ + 0 = _; omega, by show _ + 0 = _; omega⟩
        · rw [e]
          cases q j
          · exact ⟨by show _ + 0 + (_ + 0) = _ + 0; omega, by show _ + 0 = _; omega, by show _ + 0 = _; omega, by show _ + 0 = _; omega⟩
          · exact ⟨by show _ + 0 + (_ + 1) = _ + 1; omega, by show _ + 0 = _; omega, by show _ + 0 = _; omega, by show _ + 0 = _; omega⟩
    rw [k1, x_b2s, need1, x_b2s, x_tvn, r, x_b2s, if_neg (show ¬ ct q 144 = -1 by omega), x_b1s, up_s, if_pos (show (0 : Int) ≤ 0 by decide), G7_bestHour, k3]
    by_cases z : 2 ≤ ct q 144
    · have cnt : ∀ h : Nat, whl xFU (G12_ask_L55 (fs (x_up S 0 8 0) q 144) 0 (h : Int)) (0, 0) = some (cA (anW (N 0 7)) q (h : Int) 1 144) := by
        intro h
        refine w_run (fun j => (cA (anW (N 0 7)) q (h : Int) 1 j, (j : Int))) 144 (by unfold xFU; omega) (fun j hj => ?_) (by rw [G12_ask_L55, if_pos (by decide)])
        have hbd := cA_bd (an := anW (N 0 7)) (q := q) (h := (h : Int)) (a := 1) (j := j)
        have e15 : G12_isThere (j : Int) (h : Int) (x_up (fs (x_up S 0 8 0) q 144) 0 0 0) = some (anW (N 0 7) (j : Int) (h : Int)) := by
          rw [G12_isThere, up_o (by decide), fs_o (by decide), up_o (by decide), ← hN.1.2.2.2.2.1, x_its, x_b1s]
          exact x_gd_t anW_b
        have ev : (if bI (q j) = 0 then (some (0 : Int)) else (x_b1 (some (anW (N 0 7) (j : Int) (h : Int))) fun (v19 : Int) => (if v19 = 0 then (some 0) else (some 1)))) = some (bI (q j && decide (anW (N 0 7) (j : Int) (h : Int) = ((1 : Nat) : Int)))) := by
          rcases anW_b (b0 := N 0 7) (v := (j : Int)) (h := (h : Int)) with e | e
          · rw [e]; cases q j <;> rfl
          · rw [e]; cases q j <;> rfl
        rw [G12_ask_L55, if_neg (by omega), x_gd_t ⟨by omega, by omega⟩, Int.toNat_natCast, up_o (by decide), fs_i hj, e15, ev, x_b1s, n_inc (by omega), cA_s]
        have := bI_01 (q j && decide (anW (N 0 7) (j : Int) (h : Int) = ((1 : Nat) : Int)))
        rw [x_add_of ⟨by omega, by omega⟩]
      obtain ⟨v, Ri2, w1, w2⟩ := s_tellh (an := anW (N 0 7)) (q := q) (M := 144) (Ri := Ri') (by decide) k2 k4 k5 (fun v h hv _ => by rcases anW_b (b0 := N 0 7) (v := (v : Int)) (h := (h : Int)) with e | e <;> rw [e] <;> decide) (f2 := G12_ask_L37 (ct q 144) (fs (x_up S 0 8 0) q 144) 0) (fun i w j hj => by
        have hbd := cA_bd (an := anW (N 0 7)) (q := q) (h := (j : Int)) (a := 1) (j := 144)
        obtain ⟨i1, i2, i3, i4⟩ := two (j : Int) 144
        have hbd0 := cA_bd (an := anW (N 0 7)) (q := q) (h := (j : Int)) (a := 0) (j := 144)
        have em : max (cA (anW (N 0 7)) q (j : Int) 1 144) (ct q 144 - cA (anW (N 0 7)) q (j : Int) 1 144) = mx5 (fun a => cA (anW (N 0 7)) q (j : Int) a 144) := by
          unfold mx5
          dsimp only
          rw [i2, i3, i4]
          omega
        rw [G12_ask_L37, if_neg (by omega), if_neg (by omega), cnt j, x_b1s, x_sub_of ⟨by omega, by omega⟩, g12_greater, x_b1s, em, n_inc (by omega)]
        by_cases yy : mx5 (fun a => cA (anW (N 0 7)) q (j : Int) a 144) < w
        · rw [if_pos yy, if_pos yy, if_pos yy, x_b1s, x_b2s]
        · rw [if_neg yy, if_neg yy, if_neg yy, x_b2s]) (fun i w => by rw [G12_ask_L37, if_pos (by decide)])
      rw [if_pos z, w1, x_b2s, x_b2s, w2, x_b1s]
      exact ⟨_, _, _, _, _, rfl, rfl, ⟨up_s, rfl⟩, fun E h => (nomatch h), fs_tr, fs_kz⟩
    · rw [if_neg z, x_b2s, show xFU = (xFU - 1) + 1 from rfl, whl_r (r := -1) (by rw [G12_ask_L37, if_neg (by decide), if_pos (by omega)]), x_b1s]
      exact ⟨_, _, _, _, _, rfl, rfl, ⟨up_s, rfl⟩, fun E h => (nomatch h), fs_tr, fs_kz⟩
  · rw [if_neg y] at c r
    obtain ⟨Ri', k1⟩ := c
    rw [k1, x_b2s, need0, x_b2s, x_tvs, r, x_b2s, if_pos rfl, x_b1s, up_s, if_neg (by decide)]
    exact ⟨_, _, _, _, _, rfl, rfl, up_s, fun E h => by cases h; rfl, tr_0, kz_0⟩
theorem L_tells (hT : TR T S) : ∃ o T' Ri' b S', G11_tells T Ri = some (o, T', Ri') ∧ G12_tells S = some (b, S') ∧ Ag (fun _ => 1) o b S' ∧ (∀ E, o = .inr E → E = 0) ∧ TR T' S' ∧ Kz S S' := by
  obtain ⟨n, hn, t2, s8, tb⟩ := hT
  have hB : TB n (S 5) T := ⟨t2, fun i hi => ⟨(tb i hi).1, (tb i hi).2.2⟩⟩
  have c := c_rule (Ri := Ri) hn hB (fun i hi => (tb i hi).2.1)
  have r := r_ruled hn s8 (bt := S 5) (fun _ _ => rfl)
  rw [G11_tells, G12_tells]
  by_cases y : rwk n (S 5) 4
  · rw [if_pos y] at c r
    obtain ⟨Ri', k1, k2, k3, k4, k5⟩ := c
    generalize hq : fit anR (S 5) (n / 2) = q at *
    have hb := ct_bd q 25
    rw [k1, x_b2s, need1, x_b2s, x_tvn, r, x_b2s, if_neg (show ¬ ct q 25 = -1 by omega), x_b1s, up_s, if_pos (show (0 : Int) ≤ 0 by decide), G7_bestHour, k3]
    by_cases z : 2 ≤ ct q 25
    · have cnt : ∀ h a : Nat, whl xFU (G12_tells_L67 (fs (x_up S 0 8 0) q 25) 0 (h : Int) (a : Int)) (0, 0) = some (cA anR q (h : Int) a 25) := by
        intro h a
        refine w_run (fun j => (cA anR q (h : Int) a j, (j : Int))) 25 (by unfold xFU; omega) (fun j hj => ?_) (by rw [G12_tells_L67, if_pos (by decide)])
        have hbd := cA_bd (an := anR) (q := q) (h := (h : Int)) (a := a) (j := j)
        have ev : (if bI (q j) = 0 then (some (0 : Int)) else (x_b1 (some (anR (j : Int) (h : Int))) fun (v24 : Int) => (if v24 = (a : Int) then (some 1) else (some 0)))) = some (bI (q j && decide (anR (j : Int) (h : Int) = (a : Int)))) := by
          by_cases e : anR (j : Int) (h : Int) = (a : Int)
          · rw [decide_eq_true e, x_b1s, if_pos e]; cases q j <;> rfl
          · rw [decide_eq_false e, x_b1s, if_neg e]; cases q j <;> rfl
        rw [G12_tells_L67, if_neg (by omega), x_gd_t ⟨by omega, by omega⟩, Int.toNat_natCast, up_o (by decide), fs_i (by omega), show G12_moodBy (j : Int) (h : Int) = some (anR (j : Int) (h : Int)) from rfl, ev, x_b1s, n_inc (by omega), cA_s]
        have := bI_01 (q j && decide (anR (j : Int) (h : Int) = (a : Int)))
        rw [x_add_of ⟨by omega, by omega⟩]
      have mxs : ∀ h : Nat, whl xFU (G12_tells_L55 (fs (x_up S 0 8 0) q 25) 0 (h : Int)) (0, 0) = some (mx5 (fun a => cA anR q (h : Int) a 25)) := by
        intro h
        refine w_run (fun a => (fo (fun a m => max m (cA anR q (h : Int) a 25)) 0 a, (a : Int))) 5 (by unfold xFU; omega) (fun a ha => ?_) (by rw [G12_tells_L55, if_pos (by decide)]; rfl)
        rw [G12_tells_L55, if_neg (by omega), cnt h a, x_b1s, g12_greater, x_b1s, n_inc (by omega)]
        rfl
      obtain ⟨v, Ri2, w1, w2⟩ := s_tellh (an := anR) (q := q) (M := 25) (Ri := Ri') (by decide) k2 k4 k5 (fun v h hv hh => anR_b hv hh) (f2 := G12_tells_L37 (ct q 25) (fs (x_up S 0 8 0) q 25) 0) (fun i w j hj => by
        rw [G12_tells_L37, if_neg (by omega), if_neg (by omega), mxs j, x_b1s, n_inc (by omega)]
        by_cases yy : mx5 (fun a => cA anR q (j : Int) a 25) < w
        · rw [if_pos yy, if_pos yy, if_pos yy, x_b2s]
        · rw [if_neg yy, if_neg yy, if_neg yy, x_b2s]) (fun i w => by rw [G12_tells_L37, if_pos (by decide)])
      rw [if_pos z, w1, x_b2s, x_b2s, w2, x_b1s]
      exact ⟨_, _, _, _, _, rfl, rfl, ⟨up_s, rfl⟩, fun E h => (nomatch h), fs_tr, fs_kz⟩
    · rw [if_neg z, x_b2s, show xFU = (xFU - 1) + 1 from rfl, whl_r (r := -1) (by rw [G12_tells_L37, if_neg (by decide), if_pos (by omega)]), x_b1s]
      exact ⟨_, _, _, _, _, rfl, rfl, ⟨up_s, rfl⟩, fun E h => (nomatch h), fs_tr, fs_kz⟩
  · rw [if_neg y] at c r
    obtain ⟨Ri', k1⟩ := c
    rw [k1, x_b2s, need0, x_b2s, x_tvs, r, x_b2s, if_pos rfl, x_b1s, up_s, if_neg (by decide)]
    exact ⟨_, _, _, _, _, rfl, rfl, up_s, fun E h => by cases h; rfl, tr_0, kz_0⟩
end RI3
