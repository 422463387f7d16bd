/-! The log, both ways. -/
theorem n_shl {a k : Nat} (hk : k < 31) (h : a * 2 ^ k < 2147483648) : x_shl (a : Int) (k : Int) = ((a * 2 ^ k : Nat) : Int) := by
  have h2 : 0 < 2 ^ k := Nat.two_pow_pos k
  have h3 : a ≤ a * 2 ^ k := Nat.le_mul_of_pos_right a h2
  refine n_eq h ?_
  rw [Int32.toBitVec_shiftLeft]
  show (Int32.ofInt (a : Int)).toBitVec <<< ((Int32.ofInt (k : Int) &&& 31).toBitVec.smod 32).toNat = _
  rw [n_sl k (by omega), n_bv]
  apply BitVec.eq_of_toNat_eq
  rw [BitVec.toNat_shiftLeft, BitVec.toNat_ofNat, BitVec.toNat_ofNat, Nat.shiftLeft_eq, Nat.mod_eq_of_lt (show a < 2 ^ 32 by omega)]
theorem n_pack {d h k p f : Nat} (hd : d ≤ 9999) (hh : h < 24) (hk : k < 2) (hp : p < 7) (hf : f < 16) :
    x_or (x_or (x_or (x_or (x_shl (d : Int) 13) (x_shl (h : Int) 8)) (x_shl (k : Int) 7)) (x_shl (p : Int) 4)) (f : Int) = ((8192 * d + 256 * h + 128 * k + 16 * p + f : Nat) : Int) := by
  have e1 : d * 2 ^ 13 ||| h * 2 ^ 8 = 8192 * d + 256 * h := by
    rw [Nat.mul_comm d, ← Nat.two_pow_add_eq_or_of_lt (by omega)]; omega
  have e2 : (8192 * d + 256 * h) ||| k * 2 ^ 7 = 8192 * d + 256 * h + 128 * k := by
    rw [show 8192 * d + 256 * h = 2 ^ 8 * (32 * d + h) by omega, ← Nat.two_pow_add_eq_or_of_lt (by omega)]; omega
  have e3 : (8192 * d + 256 * h + 128 * k) ||| p * 2 ^ 4 = 8192 * d + 256 * h + 128 * k + 16 * p := by
    rw [show 8192 * d + 256 * h + 128 * k = 2 ^ 7 * (64 * d + 2 * h + k) by omega, ← Nat.two_pow_add_eq_or_of_lt (by omega)]; omega
  have e4 : (8192 * d + 256 * h + 128 * k + 16 * p) ||| f = 8192 * d + 256 * h + 128 * k + 16 * p + f := by
    rw [show 8192 * d + 256 * h + 128 * k + 16 * p = 2 ^ 4 * (512 * d + 16 * h + 8 * k + p) by omega, ← Nat.two_pow_add_eq_or_of_lt (by omega)]
  rw [show x_shl (d : Int) 13 = _ from n_shl (k := 13) (by decide) (by omega), show x_shl (h : Int) 8 = _ from n_shl (k := 8) (by decide) (by omega), show x_shl (k : Int) 7 = _ from n_shl (k := 7) (by decide) (by omega), show x_shl (p : Int) 4 = _ from n_shl (k := 4) (by decide) (by omega),
    n_or (by omega) (by omega), e1, n_or (by omega) (by omega), e2, n_or (by omega) (by omega), e3, n_or (by omega) (by omega), e4]
/-- the rows of the log, all one place on -/
def shf (S : xU) (j : Nat) : xU := fun o i => if o = 1 ∧ 372 - j ≤ i ∧ i ≤ 371 then S 1 (i - 5) else S o i
theorem shf_o {S : xU} {j o : Nat} (h : o ≠ 1) : shf S j o = S o := by
  funext i
  unfold shf
  rw [if_neg (fun q => h q.1)]
theorem shf_i {S : xU} {j i : Nat} (h : i < 372 - j ∨ 371 < i) : shf S j 1 i = S 1 i := by
  unfold shf
  rw [if_neg (by omega)]
theorem shf_s {S : xU} {j i : Nat} (h : 372 - j ≤ i ∧ i ≤ 371) : shf S j 1 i = S 1 (i - 5) := by
  unfold shf
  rw [if_pos ⟨rfl, h⟩]
theorem w_shf {S : xU} : whl xFU G12_logs_L4 (299, S) = some (shf S 295) := by
  have h0 : ((299 : Int), S) = ((299 : Int) - ((0 : Nat) : Int), shf S 0) := by
    congr 1
    funext o i
    unfold shf
    rw [if_neg (by omega)]
  rw [h0]
  refine w_run (fun j => ((299 : Int) - (j : Int), shf S j)) 295 (by decide) (fun j hj => ?_) rfl
  show (if (299 : Int) - (j : Int) < 5 then _ else _) = _
  have e1 : x_add 72 ((299 : Int) - (j : Int)) = ((371 - j : Nat) : Int) := by rw [x_add_of ⟨by omega, by omega⟩]; omega
  have e2 : x_sub ((371 - j : Nat) : Int) 5 = ((366 - j : Nat) : Int) := by rw [x_sub_of ⟨by omega, by omega⟩]; omega
  rw [if_neg (by omega), e1, e2, x_gd_t ⟨by omega, by omega⟩, x_gd_t ⟨by omega, by omega⟩, x_add_of ⟨by omega, by omega⟩]
  have e3 : x_up (shf S j) 1 (((371 - j : Nat) : Int)).toNat (shf S j 1 (((366 - j : Nat) : Int)).toNat) = shf S (j + 1) := by
    rw [Int.toNat_natCast, Int.toNat_natCast, shf_i (by omega)]
    funext o i
    by_cases h1 : o = 1
    · subst h1
      by_cases h2 : i = 371 - j
      · subst h2
        rw [up_s, shf_s (by omega)]
        congr 1
        omega
      · rw [up_i h2]
        by_cases h3 : 372 - j ≤ i ∧ i ≤ 371
        · rw [shf_s h3, shf_s (by omega)]
        · rw [shf_i (by omega), shf_i (by omega)]
    · rw [up_o h1, shf_o h1, shf_o h1]
  rw [e3, show (299 : Int) - (j : Int) + -1 = 299 - ((j + 1 : Nat) : Int) by omega]
section Q5
variable {C S : xU}
/-- a row more in the log -/
theorem s_log {c : Int} {p : Nat} (h : CR C (S 1)) (hi : Iv (S 1)) (hp : (p : Int) < S 1 3) (hc : 0 ≤ c ∧ c < 2) :
    ∃ C' S', G6_add (C 0 6) (C 0 5) c (p : Int) (S 1 (16 + 8 * p)) C = some C' ∧ G12_logs c (p : Int) S = some S' ∧ CR C' (S' 1) ∧ Iv (S' 1) ∧ S' 1 3 = S 1 3 ∧ Kq S S' ∧ Lw (S 1) (S' 1) ∧ S' 7 = S 7 ∧ (∀ i, i < 72 → i ≠ 10 → S' 1 i = S 1 i) := by
  have h7 := hi.many
  have hb := hi.1
  have hm := mk_0 hi hp
  obtain ⟨a1, a2, a3, a4, b1, n, b2, b3, b4⟩ := h
  obtain ⟨cn, rfl⟩ := Int.eq_ofNat_of_zero_le hc.1
  obtain ⟨d, hd⟩ := Int.eq_ofNat_of_zero_le hb.2.2.2.1.1
  obtain ⟨hr, hhr⟩ := Int.eq_ofNat_of_zero_le hb.2.2.1.1
  obtain ⟨f, hf⟩ := Int.eq_ofNat_of_zero_le hm.1
  obtain ⟨z, hz⟩ := Int.eq_ofNat_of_zero_le hb.2.2.2.2.2.2.2.2.2.1
  have hpk := n_pack (d := d) (h := hr) (k := cn) (p := p) (f := f) (by omega) (by omega) (by omega) (by omega) (by omega)
  have eA : G6_add (C 0 6) (C 0 5) (cn : Int) (p : Int) (S 1 (16 + 8 * p)) C = some (x_up (x_up (x_up C 4 n ((8192 * d + 256 * hr + 128 * cn + 16 * p + f : Nat) : Int)) 3 2 (((n + 1) % 60 : Nat) : Int)) 3 1 ((min 60 (z + 1) : Nat) : Int)) := by
    rw [G6_add, b3, if_neg (by omega), if_neg (by omega), x_gd_t ⟨by omega, by omega⟩, a1.2.2.2.1, a1.2.2.1, hd, hhr, hf, hpk, Int.toNat_natCast]
    have q1 : x_up C 4 n ((8192 * d + 256 * hr + 128 * cn + 16 * p + f : Nat) : Int) 3 2 = (n : Int) := by rw [up_o (by decide), b3]
    have q2 : x_rem (x_add (n : Int) 1) 60 = (((n + 1) % 60 : Nat) : Int) := by
      rw [n_inc (by omega), x_rem_pos (R32n (by omega)) ⟨by decide, by decide⟩ (by decide) (by omega)]; omega
    rw [q1, q2]
    have q3 : x_up (x_up C 4 n ((8192 * d + 256 * hr + 128 * cn + 16 * p + f : Nat) : Int)) 3 2 (((n + 1) % 60 : Nat) : Int) 3 1 = (z : Int) := by rw [up_i (by decide), up_o (by decide), b1, hz]
    have q4 : min 60 (x_add (z : Int) 1) = ((min 60 (z + 1) : Nat) : Int) := by rw [n_inc (by omega)]; omega
    rw [q3, q4]
    rfl
  have g3 : ∀ i, i < 77 → shf S 295 1 i = S 1 i := fun i hi => shf_i (by omega)
  have eB : G12_logs (cn : Int) (p : Int) S = some (x_up (x_up (x_up (x_up (x_up (x_up (shf S 295) 1 72 (S 1 5)) 1 73 (S 1 4)) 1 74 (cn : Int)) 1 75 (p : Int)) 1 76 (S 1 (16 + 8 * p))) 1 10 ((min 60 (z + 1) : Nat) : Int)) := by
    rw [G12_logs, w_shf]
    show x_b1 (G12_of (p : Int) 0 _) _ = _
    rw [g12_of0 (by omega), g3 5 (by decide), show x_up (shf S 295) 1 72 (S 1 5) 1 4 = S 1 4 by rw [up_i (by decide), g3 4 (by decide)]]
    have q1 : x_up (x_up (x_up (x_up (shf S 295) 1 72 (S 1 5)) 1 73 (S 1 4)) 1 74 (cn : Int)) 1 75 (p : Int) 1 (16 + 8 * p) = S 1 (16 + 8 * p) := by
      rw [up_i (by omega), up_i (by omega), up_i (by omega), up_i (by omega), g3 _ (by omega)]
    rw [q1]
    show x_b1 (G12_lesser 60 (x_add (x_up (x_up (x_up (x_up (x_up (shf S 295) 1 72 (S 1 5)) 1 73 (S 1 4)) 1 74 (cn : Int)) 1 75 (p : Int)) 1 76 (S 1 (16 + 8 * p)) 1 10) 1)) _ = _
    have q2 : x_up (x_up (x_up (x_up (x_up (shf S 295) 1 72 (S 1 5)) 1 73 (S 1 4)) 1 74 (cn : Int)) 1 75 (p : Int)) 1 76 (S 1 (16 + 8 * p)) 1 10 = (z : Int) := by
      rw [up_i (by omega), up_i (by omega), up_i (by omega), up_i (by omega), up_i (by omega), g3 _ (by omega), hz]
    rw [q2, g12_lesser, n_inc (by omega)]
    show some (x_up _ 1 10 (min 60 ((z + 1 : Nat) : Int))) = _
    rw [show min 60 ((z + 1 : Nat) : Int) = ((min 60 (z + 1) : Nat) : Int) by omega]
  -- what the row of the reference holds then
  generalize hS' : x_up (x_up (x_up (x_up (x_up (x_up (shf S 295) 1 72 (S 1 5)) 1 73 (S 1 4)) 1 74 (cn : Int)) 1 75 (p : Int)) 1 76 (S 1 (16 + 8 * p))) 1 10 ((min 60 (z + 1) : Nat) : Int) = S' at eB
  have r10 : S' 1 10 = ((min 60 (z + 1) : Nat) : Int) := by rw [← hS', up_s]
  have r72 : S' 1 72 = S 1 5 := by rw [← hS', up_i (by omega), up_i (by omega), up_i (by omega), up_i (by omega), up_i (by omega), up_s]
  have r73 : S' 1 73 = S 1 4 := by rw [← hS', up_i (by omega), up_i (by omega), up_i (by omega), up_i (by omega), up_s]
  have r74 : S' 1 74 = (cn : Int) := by rw [← hS', up_i (by omega), up_i (by omega), up_i (by omega), up_s]
  have r75 : S' 1 75 = (p : Int) := by rw [← hS', up_i (by omega), up_i (by omega), up_s]
  have r76 : S' 1 76 = S 1 (16 + 8 * p) := by rw [← hS', up_i (by omega), up_s]
  have rlo : ∀ i, i < 72 → i ≠ 10 → S' 1 i = S 1 i := fun i h1 h2 => by
    rw [← hS', up_i (by omega), up_i (by omega), up_i (by omega), up_i (by omega), up_i (by omega), up_i (by omega), g3 i (by omega)]
  have rmid : ∀ i, 77 ≤ i → i ≤ 371 → S' 1 i = S 1 (i - 5) := fun i h1 h2 => by
    rw [← hS', up_i (by omega), up_i (by omega), up_i (by omega), up_i (by omega), up_i (by omega), up_i (by omega), shf_s (by omega)]
  have rhi : ∀ i, 372 ≤ i → S' 1 i = S 1 i := fun i h1 => by
    rw [← hS', up_i (by omega), up_i (by omega), up_i (by omega), up_i (by omega), up_i (by omega), up_i (by omega), shf_i (by omega)]
  have roth : ∀ o, o ≠ 1 → S' o = S o := fun o ho => by
    rw [← hS', up_o ho, up_o ho, up_o ho, up_o ho, up_o ho, up_o ho, shf_o ho]
  clear hS'
  refine ⟨_, S', eA, eB, ⟨?_, ?_, ?_, ?_, ?_, (n + 1) % 60, ?_, ?_, ?_⟩, ⟨?_, ?_, ?_, ?_, ?_⟩, rlo 3 (by decide) (by decide), ?_, ⟨rlo 1 (by decide) (by decide), rlo 2 (by decide) (by decide), fun i h _ => rhi i h⟩, roth 7 (by decide), rlo⟩
  · rw [up_o (by decide), up_o (by decide), up_o (by decide), rlo 3 (by decide) (by decide), rlo 0 (by decide) (by decide), rlo 4 (by decide) (by decide), rlo 5 (by decide) (by decide), rlo 6 (by decide) (by decide), rlo 7 (by decide) (by decide), rlo 8 (by decide) (by decide), rlo 9 (by decide) (by decide), rlo 11 (by decide) (by decide)]
    exact a1
  · intro w hw
    rw [up_o (by decide), up_o (by decide), up_o (by decide), rlo _ (by omega) (by omega)]
    exact a2 w hw
  · intro p2 k2 hp2 hk2
    rw [rlo 3 (by decide) (by decide)] at hp2
    rw [up_o (by decide), up_o (by decide), up_o (by decide), rlo _ (by omega) (by omega)]
    exact a3 p2 k2 hp2 hk2
  · intro p2 k2 h1 hp2 h4 hk2
    rw [rlo 3 (by decide) (by decide)] at hp2
    rw [up_o (by decide), up_o (by decide), up_o (by decide)]
    exact a4 p2 k2 h1 hp2 h4 hk2
  · rw [up_s, r10]
  · omega
  · rw [up_i (by decide), up_s]
  · intro g hg
    rw [r10] at hg
    rw [up_o (by decide), up_o (by decide)]
    cases g with
    | zero =>
      rw [show ((n + 1) % 60 + 59 - 0) % 60 = n by omega, up_s, r72, r73, r74, r75, r76, hd, hhr, hf]
      omega
    | succ g =>
      rw [up_i (by omega), show ((n + 1) % 60 + 59 - (g + 1)) % 60 = (n + 59 - g) % 60 by omega, b4 g (by omega), rmid _ (by omega) (by omega), rmid _ (by omega) (by omega), rmid _ (by omega) (by omega), rmid _ (by omega) (by omega), rmid _ (by omega) (by omega)]
      rw [show 72 + 5 * (g + 1) - 5 = 72 + 5 * g by omega, show 73 + 5 * (g + 1) - 5 = 73 + 5 * g by omega, show 74 + 5 * (g + 1) - 5 = 74 + 5 * g by omega, show 75 + 5 * (g + 1) - 5 = 75 + 5 * g by omega, show 76 + 5 * (g + 1) - 5 = 76 + 5 * g by omega]
  · rw [rlo 3 (by decide) (by decide), rlo 0 (by decide) (by decide), rlo 4 (by decide) (by decide), rlo 5 (by decide) (by decide), rlo 6 (by decide) (by decide), rlo 7 (by decide) (by decide), rlo 8 (by decide) (by decide), rlo 9 (by decide) (by decide), rlo 11 (by decide) (by decide), r10]
    exact ⟨hb.1, hb.2.1, hb.2.2.1, hb.2.2.2.1, hb.2.2.2.2.1, hb.2.2.2.2.2.1, hb.2.2.2.2.2.2.1, hb.2.2.2.2.2.2.2.1, hb.2.2.2.2.2.2.2.2.1, by omega, by omega⟩
  · intro w hw
    rw [rlo _ (by omega) (by omega)]
    exact hi.2.1 w hw
  · intro p2 hp2
    rw [rlo 3 (by decide) (by decide)] at hp2
    have := hi.2.2.1 p2 hp2
    unfold Mk at this ⊢
    rw [rlo _ (by omega) (by omega), rlo _ (by omega) (by omega), rlo _ (by omega) (by omega), rlo _ (by omega) (by omega), rlo _ (by omega) (by omega), rlo _ (by omega) (by omega), rlo _ (by omega) (by omega), rlo _ (by omega) (by omega)]
    exact this
  · intro g hg
    rw [r10] at hg
    cases g with
    | zero =>
      unfold Lg
      rw [r72, r73, r74, r75, r76]
      exact ⟨hb.2.2.2.1, hb.2.2.1, hc, ⟨by omega, by omega⟩, hm⟩
    | succ g =>
      have := hi.2.2.2.1 g (by omega)
      unfold Lg at this ⊢
      rw [rmid _ (by omega) (by omega), rmid _ (by omega) (by omega), rmid _ (by omega) (by omega), rmid _ (by omega) (by omega), rmid _ (by omega) (by omega)]
      rw [show 72 + 5 * (g + 1) - 5 = 72 + 5 * g by omega, show 73 + 5 * (g + 1) - 5 = 73 + 5 * g by omega, show 74 + 5 * (g + 1) - 5 = 74 + 5 * g by omega, show 75 + 5 * (g + 1) - 5 = 75 + 5 * g by omega, show 76 + 5 * (g + 1) - 5 = 76 + 5 * g by omega]
      exact this
  · intro p2 q2 hp2 hq2
    rw [rlo 3 (by decide) (by decide)] at hp2 hq2
    rw [rlo _ (by omega) (by omega), rlo _ (by omega) (by omega)]
    exact hi.2.2.2.2 p2 q2 hp2 hq2
  · exact ⟨roth 2 (by decide), roth 3 (by decide), roth 4 (by decide), roth 5 (by decide), congrFun (roth 0 (by decide)) _, congrFun (roth 0 (by decide)) _, congrFun (roth 0 (by decide)) _, congrFun (roth 0 (by decide)) _, congrFun (roth 0 (by decide)) _, fun w => w.cg (congrFun (roth 0 (by decide)) _) (congrFun (roth 0 (by decide)) _)⟩
end Q5
