/-! A line of a cloister's text, whichever it is. -/
section LNE
variable {n : Nat} {bt : Nat → Int} {T S S' S2 C : xU} {q p : Nat} {f : Int} {m : Nat → Int}
/-- a line -/
theorem s_line (hn : n ≤ 400) (hby : ∀ i, i < n → 0 ≤ bt i ∧ bt i ≤ 255) (hT : TK n bt T q (-1)) (hL : LT n bt S) (h9 : S 0 9 = -1) (hf : S 0 12 = -1) (h11 : S 0 11 = ((p : Nat) : Int)) (hp : p ≤ n) (hpq : sk n bt p = q) (hc : CR C (S 1)) (hi : Iv (S 1)) :
    ∃ T' C' S' f', G2_readLine T C = some (T', C') ∧ G12_cloisterLine S = some S' ∧ PQ n bt T' S' f' ∧ (f' = -1 → CR C' (S' 1) ∧ Iv (S' 1)) ∧ Ln S S' := by
  have hk1 := hT.2.2.2.2.2.2.2
  have hq := hT.2.1
  have hle := en_le (n := n) (bt := bt) hq
  have hh : G12_here S = some ((q : Int), x_up S 0 11 (q : Int)) := by
    rw [G12_here, r_skip hn hL h11 hp, hpq, x_b1s, up_s]
  have R : ∀ k, 0 < x_sl.getD k 0 → G12_has k (x_up S 0 11 (q : Int)) = some (if wm n bt k q then (1, x_up S 0 11 (en n bt q : Int)) else (0, x_up S 0 11 (q : Int))) := fun k hk => r_hasq hn hL hq hk1 hk
  have hf2 : ∀ v : Int, x_up S 0 11 v 0 12 = -1 := fun v => (up_i (by decide)).trans hf
  have h92 : ∀ v : Int, x_up S 0 11 v 0 9 = -1 := fun v => (up_i (by decide)).trans h9
  have r1 : ∀ v : Int, x_up S 0 11 v 1 = S 1 := fun v => up_o (by decide)
  have hLe : LT n bt (x_up S 0 11 (en n bt q : Int)) := hL.fr Fr.u11
  have P : ∀ T1, TK n bt T1 (sk n bt (en n bt q)) (-1) → PQ n bt T1 (x_up S 0 11 (en n bt q : Int)) (-1) := fun T1 h1 => ⟨hLe, hf2 _, _, h1, fun _ => ⟨_, hle, up_s, rfl⟩⟩
  rw [G2_readLine, c_isWord hn hT, x_b1s, G12_cloisterLine, hh, x_b2s, R 0 (by decide)]
  by_cases w0 : wm n bt 0 q = true
  · obtain ⟨T', C', S', f', k1, k2, k3, k4, k5⟩ := s_monkline (C := C) hn hby hT w0 hLe (h92 _) (hf2 _) up_s (by rw [r1]; exact hc) (by rw [r1]; exact hi)
    rw [if_pos w0, if_pos w0, if_neg (show ¬ (1 : Int) = 0 by decide), k1, x_b2s, x_b2s, x_b2s, if_neg (show ¬ (1 : Int) = 0 by decide), k2, x_b1s, x_b1s]
    exact ⟨T', C', S', f', rfl, rfl, k3, k4, Fr.u11.ln.tr k5⟩
  · rw [if_neg w0, if_neg w0, if_pos (show (0 : Int) = 0 from rfl), x_b2s, if_pos (show (0 : Int) = 0 from rfl), R 5 (by decide)]
    obtain ⟨T5, e5, t5⟩ := c_takeWord (k := 5) hn hT
    rw [e5, x_b2s]
    by_cases w5 : wm n bt 5 q = true
    · rw [if_pos w5] at t5
      obtain ⟨T', C', S', f', k1, k2, k3, k4, k5⟩ := st_says (i := 6) (c := 7) (b := 15) (C := C) hn (by omega) (P T5 t5) (h92 _) (by rw [r1]; exact hc) (by rw [r1]; exact hi)
      rw [if_pos w5, if_pos w5, if_neg (show ¬ (1 : Int) = 0 by decide), k1, x_b2s, x_b2s, if_neg (show ¬ (1 : Int) = 0 by decide), show G12_says 6 0 15 _ = _ from k2, x_b1s, x_b1s]
      exact ⟨T', C', S', f', rfl, rfl, k3, k4, Fr.u11.ln.tr k5⟩
    · rw [if_neg w5] at t5
      rw [if_neg w5, if_neg w5, if_pos (show (0 : Int) = 0 from rfl), x_b2s, if_pos (show (0 : Int) = 0 from rfl), R 6 (by decide)]
      obtain ⟨T6, e6, t6⟩ := c_takeWord (k := 6) hn t5
      rw [e6, x_b2s]
      by_cases w6 : wm n bt 6 q = true
      · rw [if_pos w6] at t6
        obtain ⟨T', C', S', f', k1, k2, k3, k4, k5⟩ := st_mood (C := C) hn t6 hLe (hf2 _) (h92 _) (by rw [r1]; exact hc) (by rw [r1]; exact hi) up_s hle rfl
        rw [if_pos w6, if_pos w6, if_neg (show ¬ (1 : Int) = 0 by decide), k1, x_b2s, x_b2s, if_neg (show ¬ (1 : Int) = 0 by decide), k2, x_b1s]
        exact ⟨T', C', S', f', rfl, rfl, k3, k4, Fr.u11.ln.tr k5⟩
      · rw [if_neg w6] at t6
        rw [if_neg w6, if_neg w6, if_pos (show (0 : Int) = 0 from rfl), x_b2s, if_pos (show (0 : Int) = 0 from rfl), R 12 (by decide)]
        obtain ⟨T12, e12, t12⟩ := c_takeWord (k := 12) hn t6
        rw [e12, x_b2s]
        by_cases w12 : wm n bt 12 q = true
        · rw [if_pos w12] at t12
          obtain ⟨T', C', S', f', k1, k2, k3, k4, k5⟩ := st_says (i := 8) (c := 9) (b := 100) (C := C) hn (by omega) (P T12 t12) (h92 _) (by rw [r1]; exact hc) (by rw [r1]; exact hi)
          rw [if_pos w12, if_pos w12, if_neg (show ¬ (1 : Int) = 0 by decide), k1, x_b2s, x_b2s, if_neg (show ¬ (1 : Int) = 0 by decide), show G12_says 8 0 100 _ = _ from k2, x_b1s, x_b1s]
          exact ⟨T', C', S', f', rfl, rfl, k3, k4, Fr.u11.ln.tr k5⟩
        · rw [if_neg w12] at t12
          rw [if_neg w12, if_neg w12, if_pos (show (0 : Int) = 0 from rfl), x_b2s, if_pos (show (0 : Int) = 0 from rfl), R 13 (by decide)]
          obtain ⟨T13, e13, t13⟩ := c_takeWord (k := 13) hn t12
          rw [e13, x_b2s]
          by_cases w13 : wm n bt 13 q = true
          · rw [if_pos w13] at t13
            obtain ⟨T', C', S', f', k1, k2, k3, k4, k5⟩ := st_says (i := 9) (c := 10) (b := 20) (C := C) hn (by omega) (P T13 t13) (h92 _) (by rw [r1]; exact hc) (by rw [r1]; exact hi)
            rw [if_pos w13, if_pos w13, if_neg (show ¬ (1 : Int) = 0 by decide), k1, x_b2s, x_b2s, if_neg (show ¬ (1 : Int) = 0 by decide), show G12_says 9 0 20 _ = _ from k2, x_b1s, x_b1s]
            exact ⟨T', C', S', f', rfl, rfl, k3, k4, Fr.u11.ln.tr k5⟩
          · rw [if_neg w13] at t13
            rw [if_neg w13, if_neg w13, if_pos (show (0 : Int) = 0 from rfl), x_b2s, if_pos (show (0 : Int) = 0 from rfl), R 14 (by decide)]
            obtain ⟨T14, e14, t14⟩ := c_takeWord (k := 14) hn t13
            rw [e14, x_b2s]
            by_cases w14 : wm n bt 14 q = true
            · rw [if_pos w14] at t14
              obtain ⟨T', C', S', f', k1, k2, k3, k4, k5⟩ := st_store (C := C) hn t14 hLe (hf2 _) (h92 _) (by rw [r1]; exact hc) (by rw [r1]; exact hi) up_s hle rfl
              rw [if_pos w14, if_pos w14, if_neg (show ¬ (1 : Int) = 0 by decide), k1, x_b2s, x_b2s, if_neg (show ¬ (1 : Int) = 0 by decide), k2, x_b1s]
              exact ⟨T', C', S', f', rfl, rfl, k3, k4, Fr.u11.ln.tr k5⟩
            · rw [if_neg w14] at t14
              rw [if_neg w14, if_neg w14, if_pos (show (0 : Int) = 0 from rfl), x_b2s, if_pos (show (0 : Int) = 0 from rfl), R 15 (by decide)]
              obtain ⟨T15, e15, t15⟩ := c_takeWord (k := 15) hn t14
              rw [e15, x_b2s]
              by_cases w15 : wm n bt 15 q = true
              · rw [if_pos w15] at t15
                obtain ⟨T', C', S', f', k1, k2, k3, k4, k5⟩ := st_says (i := 4) (c := 5) (b := 23) (C := C) hn (by omega) (P T15 t15) (h92 _) (by rw [r1]; exact hc) (by rw [r1]; exact hi)
                rw [if_pos w15, if_pos w15, if_neg (show ¬ (1 : Int) = 0 by decide), k1, x_b2s, x_b2s, if_neg (show ¬ (1 : Int) = 0 by decide), show G12_says 4 0 23 _ = _ from k2, x_b1s, x_b1s]
                exact ⟨T', C', S', f', rfl, rfl, k3, k4, Fr.u11.ln.tr k5⟩
              · rw [if_neg w15] at t15
                rw [if_neg w15, if_neg w15, if_pos (show (0 : Int) = 0 from rfl), x_b2s, if_pos (show (0 : Int) = 0 from rfl), R 16 (by decide)]
                obtain ⟨T16, e16, t16⟩ := c_takeWord (k := 16) hn t15
                rw [e16, x_b2s]
                by_cases w16 : wm n bt 16 q = true
                · rw [if_pos w16] at t16
                  obtain ⟨T', C', S', f', k1, k2, k3, k4, k5⟩ := st_says (i := 5) (c := 6) (b := 999) (C := C) hn (by omega) (P T16 t16) (h92 _) (by rw [r1]; exact hc) (by rw [r1]; exact hi)
                  rw [if_pos w16, if_pos w16, if_neg (show ¬ (1 : Int) = 0 by decide), k1, x_b2s, x_b2s, if_neg (show ¬ (1 : Int) = 0 by decide), show G12_says 5 0 999 _ = _ from k2, x_b1s, x_b1s]
                  exact ⟨T', C', S', f', rfl, rfl, k3, k4, Fr.u11.ln.tr k5⟩
                · rw [if_neg w16] at t16
                  obtain ⟨T', k1, k2⟩ := c_refuse t16
                  rw [if_pos rfl] at k2
                  rw [if_neg w16, if_neg w16, if_pos (show (0 : Int) = 0 from rfl), k1, x_b1s, x_b2s, x_b2s, if_pos (show (0 : Int) = 0 from rfl), up_s, G12_wrong, if_pos (hf2 _), x_b1s, x_b1s, x_b1s]
                  exact ⟨T', C, _, (q : Int), rfl, rfl, ⟨hL.fr (Fr.u11.tr Fr.u12), up_s, _, k2, fun w => absurd w (by omega)⟩, fun w => absurd w (by omega), (Fr.u11.tr Fr.u12).ln⟩
end LNE
