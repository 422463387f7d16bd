/-! The lines of a text, one after another, class and reference. -/
theorem whl_l {σ ρ : Type} {k : Nat} {f : σ → Option (σ ⊕ ρ)} {s s' : σ} (h : f s = some (.inl s')) : whl (k + 1) f s = whl k f s' := by
  rw [whl, h]
theorem whl_r {σ ρ : Type} {k : Nat} {f : σ → Option (σ ⊕ ρ)} {s : σ} {r : ρ} (h : f s = some (.inr r)) : whl (k + 1) f s = some r := by
  rw [whl, h]
section LOO
variable {n : Nat} {bt : Nat → Int} {T S S' D : xU} {q p : Nat} {f : Int}
/-- skip, whatever the place -/
theorem r_skipd (hn : n ≤ 400) (hL : LT n bt S) (h : 0 ≤ S 0 11) : ∃ v : Nat, G12_skip S = some (x_up S 0 11 (v : Int)) := by
  obtain ⟨p, hp⟩ := Int.eq_ofNat_of_zero_le h
  by_cases z : p ≤ n
  · exact ⟨_, r_skip hn hL hp z⟩
  · refine ⟨p, ?_⟩
    have w : whl xFU G12_skip_L0 S = some S := w_run (fun _ => S) 0 (by unfold xFU; omega) (fun j hj => absurd hj (by omega)) (by rw [G12_skip_L0, if_pos (by rw [hL.1, hp]; omega)])
    rw [G12_skip, w, x_b1s, up_id hp]
theorem kA_0 : kA n bt q = 0 ↔ ¬ q < n := by
  unfold kA
  have := kd_bd (v := bt q)
  by_cases z : q < n
  · rw [if_pos z]; constructor
    · intro h; omega
    · intro h; exact absurd z h
  · rw [if_neg z]; constructor
    · intro _; exact z
    · intro _; rfl
theorem c_isEnd (h : TK n bt T q f) : G10_isEnd T = some (if q < n then 0 else 1) := by
  rw [G10_isEnd, h.2.2.2.2.1]
  by_cases z : q < n
  · rw [if_pos z, if_neg (fun y => (kA_0.mp y) z), x_b1s, x_gd_t (.inl rfl)]
  · rw [if_neg z, if_pos (kA_0.mpr z), x_b1s, x_gd_t (.inr rfl)]
theorem c_isRight (h : TK n bt T q f) : G10_isRight T = some (if f = -1 then 1 else 0) := by
  rw [G10_isRight, h.2.2.2.2.2.2.1]
  by_cases z : f = -1
  · rw [if_pos z, if_pos z, x_b1s, x_gd_t (.inr rfl)]
  · rw [if_neg z, if_neg z, x_b1s, x_gd_t (.inl rfl)]
theorem c_starts0 {b : Int} (hn : n ≤ 400) (hB : TB n bt T) : ∃ T', G10_startsLine 0 b T = some ((if sk n bt 0 < n then 1 else 0), T') ∧ TK n bt T' (sk n bt 0) (-1) := by
  obtain ⟨T', e1, e2⟩ := c_next (T := x_up (x_up T 0 4 0) 0 7 (-1)) (e := 0) (f := -1) hn ((hB.up (by decide)).up (by decide)) (by rw [up_i (by decide), up_s]; rfl) up_s (by omega)
  refine ⟨T', ?_, e2⟩
  rw [G10_startsLine, if_pos rfl, e1, x_b1s, c_isEnd e2, x_b1s]
  by_cases z : sk n bt 0 < n
  · rw [if_pos z, if_pos z, if_pos rfl, x_b1s, x_gd_t (.inr rfl)]
  · rw [if_neg z, if_neg z, if_neg (by decide), x_b1s, x_gd_t (.inl rfl)]
/-- a later line begins, class; all that can be -/
theorem c_starts {a b : Int} (hn : n ≤ 400) (ha : a ≠ 0) (h : TK n bt T q f) : ∃ v T' q' f', G10_startsLine a b T = some (v, T') ∧ TK n bt T' q' f' ∧
    (f ≠ -1 → v = 0 ∧ f' = f) ∧ (f = -1 → ¬ q < n → v = 0 ∧ f' = -1) ∧ (f = -1 → q < n → bt q ≠ 59 → v = 0 ∧ f' = (q : Int)) ∧
    (f = -1 → q < n → bt q = 59 → (if a < b then v = 1 ∧ f' = -1 ∧ q' = sk n bt (q + 1) else v = 0 ∧ f' = (sk n bt (q + 1) : Int))) := by
  rw [G10_startsLine, if_neg ha, c_isEnd h, x_b1s]
  by_cases z : q < n
  · rw [if_pos z, if_pos rfl]
    obtain ⟨T1, e1, e2⟩ := c_expectSign (a := 59) (by decide) (by decide) hn h
    rw [e1, x_b1s]
    by_cases y : a < b
    · rw [if_pos y, x_b1s, c_isRight e2, x_b1s]
      by_cases f1 : f = -1
      · by_cases s : bt q = 59
        · rw [if_pos (decide_eq_true ⟨z, s⟩), if_pos (decide_eq_true ⟨z, s⟩)] at e2
          rw [if_pos (decide_eq_true ⟨z, s⟩), if_pos f1, x_gd_t (.inr rfl)]
          exact ⟨_, _, _, _, rfl, e2, fun w => absurd f1 w, fun _ w => absurd z w, fun _ _ w => absurd s w, fun _ _ _ => by rw [if_pos y]; exact ⟨rfl, f1, rfl⟩⟩
        · have sn : ¬ decide (q < n ∧ bt q = 59) = true := fun w => s (of_decide_eq_true w).2
          rw [if_neg sn, if_neg sn, if_pos f1] at e2
          rw [if_neg sn, if_pos f1, if_neg (by omega), x_gd_t (.inl rfl)]
          exact ⟨_, _, _, _, rfl, e2, fun w => absurd f1 w, fun _ w => absurd z w, fun _ _ _ => ⟨rfl, rfl⟩, fun _ _ w => absurd w s⟩
      · have e3 : (if decide (q < n ∧ bt q = 59) = true then f else if f = -1 then (q : Int) else f) = f := by rw [if_neg f1, ite_self]
        rw [e3] at e2
        rw [e3, if_neg f1, x_gd_t (.inl rfl)]
        exact ⟨_, _, _, _, rfl, e2, fun _ => ⟨rfl, rfl⟩, fun w => absurd w f1, fun w => absurd w f1, fun w => absurd w f1⟩
    · obtain ⟨T2, u1, u2⟩ := c_refuse e2
      rw [if_neg y, u1, x_b1s, x_b1s, c_isRight u2, x_b1s]
      by_cases f1 : f = -1
      · by_cases s : bt q = 59
        · rw [if_pos (decide_eq_true ⟨z, s⟩), if_pos (decide_eq_true ⟨z, s⟩), if_pos f1] at u2
          rw [if_pos (decide_eq_true ⟨z, s⟩), if_pos (decide_eq_true ⟨z, s⟩), if_pos f1, if_neg (by omega), x_gd_t (.inl rfl)]
          exact ⟨_, _, _, _, rfl, u2, fun w => absurd f1 w, fun _ w => absurd z w, fun _ _ w => absurd s w, fun _ _ _ => by rw [if_neg y]; exact ⟨rfl, rfl⟩⟩
        · have sn : ¬ decide (q < n ∧ bt q = 59) = true := fun w => s (of_decide_eq_true w).2
          rw [if_neg sn, if_neg sn, if_pos f1, if_neg (by omega)] at u2
          rw [if_neg sn, if_neg sn, if_pos f1, if_neg (show ¬ (q : Int) = -1 by omega), if_neg (by omega), x_gd_t (.inl rfl)]
          exact ⟨_, _, _, _, rfl, u2, fun w => absurd f1 w, fun _ w => absurd z w, fun _ _ _ => ⟨rfl, rfl⟩, fun _ _ w => absurd w s⟩
      · have e3 : (if decide (q < n ∧ bt q = 59) = true then f else if f = -1 then (q : Int) else f) = f := by rw [if_neg f1, ite_self]
        rw [e3, if_neg f1] at u2
        rw [e3, if_neg f1, if_neg f1, x_gd_t (.inl rfl)]
        exact ⟨_, _, _, _, rfl, u2, fun _ => ⟨rfl, rfl⟩, fun w => absurd w f1, fun w => absurd w f1, fun w => absurd w f1⟩
  · rw [if_neg z, if_neg (by decide)]
    exact ⟨_, _, _, _, rfl, h, fun _ => ⟨rfl, rfl⟩, fun w _ => ⟨rfl, w⟩, fun _ w => absurd w z, fun _ w => absurd w z⟩
end LOO
section LOP
variable {n : Nat} {bt : Nat → Int} {a : Int} {nl : Nat} {cl : xU → xU → Option (xU × xU)} {rl : xU → Option xU} {f1 : Int × xU × xU → Option ((Int × xU × xU) ⊕ (xU × xU))} {I : Nat → xU → xU → Prop} {F : xU → xU → Prop}
/-- from a line's begin to the end of the text -/
theorem s_linesK (hn : n ≤ 400) (hnl : nl ≤ 14) (hlim : (if a = 0 then some (14 : Int) else some 12) = some (nl : Int))
    (hf1 : ∀ v T D, f1 (v, T, D) = if (nl : Int) < v then some (.inr (T, D)) else x_b2 (G10_startsLine v nl T) fun (v8 : Int) (T9 : xU) => (if v8 = 0 then (some (.inr (T9, D))) else (x_b2 (cl T9 D) fun (T11 : xU) (D12 : xU) => (some (.inl ((x_add v 1), T11, D12))))))
    (hrl : ∀ S, (if a = 0 then (x_b1 (G12_cloisterLine S) fun (S18 : xU) => (some S18)) else (x_b1 (G12_lawLine S) fun (S20 : xU) => (some S20))) = rl S)
    (Frf : ∀ S, F S S) (Ftr : ∀ S S1 S2, F S S1 → F S1 S2 → F S S2) (FFr : ∀ S S1, Fr S S1 → F S S1) (F9 : ∀ S S1, F S S1 → S1 0 9 = S 0 9 ∧ (0 ≤ S 0 11 → 0 ≤ S1 0 11)) (IFr : ∀ j D S S1, Fr S S1 → I j D S → I j D S1)
    (hline : ∀ j T D S q p, j < nl → I j D S → TK n bt T q (-1) → LT n bt S → S 0 9 = -1 → S 0 12 = -1 → S 0 11 = ((p : Nat) : Int) → p ≤ n → sk n bt p = q → ∃ T' D' S' f', cl T D = some (T', D') ∧ rl S = some S' ∧ PQ n bt T' S' f' ∧ (f' = -1 → I (j + 1) D' S') ∧ F S S') :
    ∀ d j, j + d + 1 = nl → ∀ T D S q p k1 k2, 2 * d + 2 < k1 → 2 * d + 4 < k2 → I j D S → TK n bt T q (-1) → LT n bt S → S 0 9 = -1 → S 0 12 = -1 → S 0 11 = ((p : Nat) : Int) → p ≤ n → sk n bt p = q →
      ∃ T' D' S' f' jj, (x_b2 (cl T D) fun (T11 : xU) (D12 : xU) => whl k1 f1 (((j + 1 : Nat) : Int), T11, D12)) = some (T', D') ∧ whl k2 (G12_read_L23 a) (1, (j : Int), S) = some (((jj : Nat) : Int), S') ∧ T' 0 7 = f' ∧ S' 0 12 = f' ∧ S' 0 10 = (n : Int) ∧ (f' = -1 → I jj D' S') ∧ F S S' := by
  intro d
  induction d using Nat.strongRecOn with
  | ind d ih =>
    intro j hj T D S q p k1 k2 hk1 hk2 hI hT hL h9 h12 h11 hp hpq
    obtain ⟨k1, rfl⟩ : ∃ k, k1 = k + 1 := ⟨k1 - 1, by omega⟩
    obtain ⟨k2, rfl⟩ : ∃ k, k2 = k + 1 + 1 + 1 := ⟨k2 - 3, by omega⟩
    have hp0 : G12_skip S = some (x_up S 0 11 (q : Int)) := by rw [r_skip hn hL h11 hp, hpq]
    obtain ⟨T1, D1, S16, f', c1, c2, P, hI1, hF⟩ := hline j T D (x_up S 0 11 (q : Int)) q q (by omega) (IFr _ _ _ _ Fr.u11 hI) hT (hL.fr Fr.u11) ((up_i (by decide)).trans h9) ((up_i (by decide)).trans h12) up_s hT.2.1 (sk_id hT.2.2.2.2.2.2.2)
    have nj : x_add (j : Int) 1 = ((j + 1 : Nat) : Int) := n_inc (by omega)
    have step2 : G12_read_L23 a (1, (j : Int), S) = x_b1 (G12_skip S16) fun (S24 : xU) => (if (S24 0 12) = (-1) then (if (S24 0 11) = (S24 0 10) then (some (.inl (0, ((j + 1 : Nat) : Int), S24))) else (x_b2 (G12_isSign 59 S24) fun (v26 : Int) (S27 : xU) => (if v26 = 0 then (x_b1 (G12_wrong (S27 0 11) S27) fun (S29 : xU) => (some (.inl (1, ((j + 1 : Nat) : Int), S29)))) else (some (.inl (1, ((j + 1 : Nat) : Int), (x_up S27 0 11 (x_add (S27 0 11) 1)))))))) else (some (.inl (0, ((j + 1 : Nat) : Int), S24)))) := by
      rw [G12_read_L23, if_neg (show ¬ (1 : Int) = 0 by decide), if_pos h12, hp0, x_b1s, hlim, x_b1s, if_neg (show ¬ (j : Int) = (nl : Int) by omega), hrl, c2, x_b1s, nj]
    obtain ⟨g9, g11⟩ := F9 _ _ hF
    have hF0 : 0 ≤ S16 0 11 := g11 (by rw [up_s]; omega)
    have hFS : F S S16 := Ftr _ _ _ (FFr _ _ Fr.u11) hF
    have h9' : S16 0 9 = -1 := g9.trans ((up_i (by decide)).trans h9)
    obtain ⟨hL16, h12', q1, t1, t2⟩ := P
    obtain ⟨v, T2, q2, f2, e1, e2, A1, A2, A3, A4⟩ := c_starts (a := ((j + 1 : Nat) : Int)) (b := (nl : Int)) hn (by omega) t1
    have hcl : f1 (((j + 1 : Nat) : Int), T1, D1) = (if v = 0 then (some (.inr (T2, D1))) else (x_b2 (cl T2 D1) fun (T11 : xU) (D12 : xU) => (some (.inl ((x_add ((j + 1 : Nat) : Int) 1), T11, D12))))) := by
      rw [hf1, if_neg (by omega), e1, x_b2s]
    have e7 := e2.2.2.2.2.2.2.1
    rw [c1, x_b2s]
    by_cases z : f' = -1
    · subst z
      obtain ⟨p1, b1, b2, b3⟩ := t2 rfl
      have hs : G12_skip S16 = some (x_up S16 0 11 (q1 : Int)) := by rw [r_skip hn hL16 b2 b1, b3]
      have g12 : ∀ w : Int, x_up S16 0 11 w 0 12 = -1 := fun w => (up_i (by decide)).trans h12'
      have g10 : ∀ w : Int, x_up S16 0 11 w 0 10 = (n : Int) := fun w => (up_i (by decide)).trans hL16.1
      rw [hs, x_b1s, if_pos (g12 _), up_s, g10] at step2
      by_cases y : q1 < n
      · have hsg := r_isSign (a := 59) (S := x_up S16 0 11 (q1 : Int)) (p := q1) hn (hL16.fr Fr.u11) up_s t1.2.1
        rw [sk_id t1.2.2.2.2.2.2.2, up_up] at hsg
        rw [if_neg (show ¬ (q1 : Int) = (n : Int) by omega), hsg, x_b2s, up_s] at step2
        by_cases s : bt q1 = 59
        · rw [if_pos (decide_eq_true ⟨y, s⟩), if_neg (show ¬ (1 : Int) = 0 by decide), up_up, n_inc (show q1 < 2147483647 by omega)] at step2
          have A := A4 rfl y s
          have hFn : F S (x_up S16 0 11 ((q1 + 1 : Nat) : Int)) := Ftr _ _ _ hFS (FFr _ _ Fr.u11)
          have hLn : LT n bt (x_up S16 0 11 ((q1 + 1 : Nat) : Int)) := hL16.fr Fr.u11
          by_cases l : ((j + 1 : Nat) : Int) < (nl : Int)
          · rw [if_pos l] at A
            obtain ⟨v1, f21, q21⟩ := A
            rw [f21, q21] at e2
            obtain ⟨T', D', S', f', jj, r1, r2, r3, r4, r5, r6, r7⟩ := ih (d - 1) (by omega) (j + 1) (by omega) T2 D1 (x_up S16 0 11 ((q1 + 1 : Nat) : Int)) _ (q1 + 1) k1 (k2 + 1 + 1) (by omega) (by omega) (IFr _ _ _ _ Fr.u11 (hI1 rfl)) e2 hLn ((up_i (by decide)).trans h9') (g12 _) up_s (by omega) rfl
            obtain ⟨Ta, Da, s1, s2⟩ := x_bd2 r1
            refine ⟨T', D', S', f', jj, ?_, ?_, r3, r4, r5, r6, Ftr _ _ _ hFn r7⟩
            · rw [whl_l (s' := (((j + 1 + 1 : Nat) : Int), Ta, Da)) (by rw [hcl, v1, if_neg (show ¬ (1 : Int) = 0 by decide), s1, x_b2s, n_inc (by omega)])]
              exact s2
            · rw [whl_l step2]; exact r2
          · rw [if_neg l] at A
            obtain ⟨v0, f20⟩ := A
            have ejl : ((j + 1 : Nat) : Int) = (nl : Int) := by omega
            have hk := r_skip (p := q1 + 1) hn hLn up_s (by omega)
            rw [up_up] at hk
            have hL3 : LT n bt (x_up (x_up S16 0 11 (sk n bt (q1 + 1) : Int)) 0 12 (sk n bt (q1 + 1) : Int)) := hL16.fr (Fr.u11.tr Fr.u12)
            obtain ⟨w, hw⟩ := r_skipd hn hL3 (by rw [up_i (by decide), up_s]; omega)
            have step3 : G12_read_L23 a (1, ((j + 1 : Nat) : Int), x_up S16 0 11 ((q1 + 1 : Nat) : Int)) = some (.inl (0, x_add ((j + 1 : Nat) : Int) 1, x_up (x_up (x_up S16 0 11 (sk n bt (q1 + 1) : Int)) 0 12 (sk n bt (q1 + 1) : Int)) 0 11 (w : Int))) := by
              rw [G12_read_L23, if_neg (show ¬ (1 : Int) = 0 by decide), if_pos (g12 _), hk, x_b1s, hlim, x_b1s, if_pos ejl, up_s, G12_wrong, if_pos (g12 _), x_b1s, x_b1s, x_b1s, hw, x_b1s, if_neg (by rw [up_i (by decide), up_s]; omega)]
            refine ⟨T2, D1, x_up (x_up (x_up S16 0 11 (sk n bt (q1 + 1) : Int)) 0 12 (sk n bt (q1 + 1) : Int)) 0 11 (w : Int), f2, j + 1 + 1, whl_r (by rw [hcl, if_pos v0]), ?_, e7, ?_, ?_, fun x => ?_, ?_⟩
            · rw [whl_l step2, whl_l step3, whl_r (by rw [G12_read_L23, if_pos rfl]), n_inc (by omega)]
            · rw [up_i (by decide), up_s, f20]
            · rw [up_i (by decide), up_i (by decide), up_i (by decide), hL16.1]
            · rw [f20] at x; omega
            · exact Ftr _ _ _ hFS (FFr _ _ ((Fr.u11.tr Fr.u12).tr Fr.u11))
        · have sn : ¬ decide (q1 < n ∧ bt q1 = 59) = true := fun w => s (of_decide_eq_true w).2
          obtain ⟨v0, f20⟩ := A3 rfl y s
          rw [if_neg sn, if_pos rfl, G12_wrong, if_pos (g12 _), x_b1s, x_b1s] at step2
          refine ⟨T2, D1, x_up (x_up S16 0 11 (q1 : Int)) 0 12 (q1 : Int), f2, j + 1, whl_r (by rw [hcl, if_pos v0]), ?_, e7, by rw [up_s, f20], ?_, fun x => ?_, Ftr _ _ _ hFS (FFr _ _ (Fr.u11.tr Fr.u12))⟩
          · rw [whl_l step2, whl_r (by rw [G12_read_L23, if_neg (show ¬ (1 : Int) = 0 by decide), if_neg (by rw [up_s]; omega)])]
          · rw [up_i (by decide), up_i (by decide), hL16.1]
          · rw [f20] at x; omega
      · obtain ⟨v0, f20⟩ := A2 rfl y
        have hq1 := t1.2.1
        rw [if_pos (show (q1 : Int) = (n : Int) by omega)] at step2
        refine ⟨T2, D1, x_up S16 0 11 (q1 : Int), f2, j + 1, whl_r (by rw [hcl, if_pos v0]), ?_, e7, by rw [f20]; exact g12 _, g10 _, fun _ => IFr _ _ _ _ Fr.u11 (hI1 rfl), Ftr _ _ _ hFS (FFr _ _ Fr.u11)⟩
        rw [whl_l step2, whl_r (by rw [G12_read_L23, if_pos rfl])]
    · obtain ⟨v0, f20⟩ := A1 z
      obtain ⟨w, hw⟩ := r_skipd hn hL16 hF0
      have hd : ¬ x_up S16 0 11 (w : Int) 0 12 = -1 := by rw [up_i (by decide), h12']; exact z
      rw [hw, x_b1s, if_neg hd] at step2
      refine ⟨T2, D1, x_up S16 0 11 (w : Int), f2, j + 1, whl_r (by rw [hcl, if_pos v0]), ?_, e7, ?_, ?_, fun x => absurd x (by rw [f20]; exact z), Ftr _ _ _ hFS (FFr _ _ Fr.u11)⟩
      · rw [whl_l step2, whl_r (by rw [G12_read_L23, if_pos rfl])]
      · rw [up_i (by decide), h12', f20]
      · rw [up_i (by decide), hL16.1]
/-- a text of lines -/
theorem s_lines {T D S : xU} (hn : n ≤ 400) (hnl : nl ≤ 14) (hnl1 : 1 ≤ nl) (hlim : (if a = 0 then some (14 : Int) else some 12) = some (nl : Int))
    (hf1 : ∀ v T D, f1 (v, T, D) = if (nl : Int) < v then some (.inr (T, D)) else x_b2 (G10_startsLine v nl T) fun (v8 : Int) (T9 : xU) => (if v8 = 0 then (some (.inr (T9, D))) else (x_b2 (cl T9 D) fun (T11 : xU) (D12 : xU) => (some (.inl ((x_add v 1), T11, D12))))))
    (hrl : ∀ S, (if a = 0 then (x_b1 (G12_cloisterLine S) fun (S18 : xU) => (some S18)) else (x_b1 (G12_lawLine S) fun (S20 : xU) => (some S20))) = rl S)
    (Frf : ∀ S, F S S) (Ftr : ∀ S S1 S2, F S S1 → F S1 S2 → F S S2) (FFr : ∀ S S1, Fr S S1 → F S S1) (F9 : ∀ S S1, F S S1 → S1 0 9 = S 0 9 ∧ (0 ≤ S 0 11 → 0 ≤ S1 0 11)) (IFr : ∀ j D S S1, Fr S S1 → I j D S → I j D S1)
    (hline : ∀ j T D S q p, j < nl → I j D S → TK n bt T q (-1) → LT n bt S → S 0 9 = -1 → S 0 12 = -1 → S 0 11 = ((p : Nat) : Int) → p ≤ n → sk n bt p = q → ∃ T' D' S' f', cl T D = some (T', D') ∧ rl S = some S' ∧ PQ n bt T' S' f' ∧ (f' = -1 → I (j + 1) D' S') ∧ F S S')
    (hB : TB n bt T) (hI : I 0 D S) (hL : LT n bt S) (h9 : S 0 9 = -1) (h12 : S 0 12 = -1) (h11 : S 0 11 = 0) :
    ∃ T' D' S' f' jj, whl xFU f1 (0, T, D) = some (T', D') ∧ G12_read a S = some (((jj : Nat) : Int), S') ∧ T' 0 7 = f' ∧ S' 0 12 = f' ∧ S' 0 10 = (n : Int) ∧ (f' = -1 → I jj D' S') ∧ F S S' := by
  obtain ⟨T1, e1, e2⟩ := c_starts0 (b := (nl : Int)) hn hB
  have e7 := e2.2.2.2.2.2.2.1
  have hs := r_skip (p := 0) hn hL (by rw [h11]; rfl) (by omega)
  have g12 : ∀ w : Int, x_up S 0 11 w 0 12 = -1 := fun w => (up_i (by decide)).trans h12
  have g10 : ∀ w : Int, x_up S 0 11 w 0 10 = (n : Int) := fun w => (up_i (by decide)).trans hL.1
  rw [G12_read, hs, x_b1s, g10, up_s]
  by_cases z : sk n bt 0 < n
  · rw [if_pos z] at e1
    rw [if_neg (by omega), x_b1s]
    obtain ⟨T', D', S', f', jj, r1, r2, r3, r4, r5, r6, r7⟩ := s_linesK hn hnl hlim hf1 hrl Frf Ftr FFr F9 IFr hline (nl - 1) 0 (by omega) T1 D (x_up S 0 11 (sk n bt 0 : Int)) _ (sk n bt 0) (xFU - 1) xFU (by unfold xFU; omega) (by unfold xFU; omega) (IFr _ _ _ _ Fr.u11 hI) e2 (hL.fr Fr.u11) ((up_i (by decide)).trans h9) (g12 _) up_s e2.2.1 (sk_id e2.2.2.2.2.2.2.2)
    obtain ⟨Ta, Da, s1, s2⟩ := x_bd2 r1
    refine ⟨T', D', S', f', jj, ?_, ?_, r3, r4, r5, r6, Ftr _ _ _ (FFr _ _ Fr.u11) r7⟩
    · rw [show xFU = (xFU - 1) + 1 from rfl, whl_l (s' := (((0 + 1 : Nat) : Int), Ta, Da)) (by rw [hf1, if_neg (by omega), e1, x_b2s, if_neg (show ¬ (1 : Int) = 0 by decide), s1, x_b2s]; rfl)]
      exact s2
    · rw [show whl xFU (G12_read_L23 a) (1, 0, x_up S 0 11 (sk n bt 0 : Int)) = _ from r2, x_b2s]
  · rw [if_neg z] at e1
    rw [if_pos (by omega), x_b1s]
    refine ⟨T1, D, x_up S 0 11 (sk n bt 0 : Int), -1, 0, ?_, ?_, e7, g12 _, g10 _, fun _ => IFr _ _ _ _ Fr.u11 hI, FFr _ _ Fr.u11⟩
    · rw [show xFU = (xFU - 1) + 1 from rfl, whl_r (by rw [hf1, if_neg (by omega), e1, x_b2s, if_pos rfl])]
    · rw [show xFU = (xFU - 1) + 1 from rfl, whl_r (by rw [G12_read_L23, if_pos rfl]), x_b2s]; rfl
end LOP
