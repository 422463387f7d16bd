/-! The tape: bytes fed, and told to end. -/
def kd (v : Int) : Int := if 97 ≤ v ∧ v ≤ 122 then 2 else if 48 ≤ v ∧ v ≤ 57 then 3 else if v = 32 then 1 else 4
theorem g10_kind {v : Int} : G10_kindOf v = some (kd v) := by
  rw [G10_kindOf, kd]
  by_cases h1 : v < 97
  · rw [if_pos h1, if_neg (show ¬ (97 ≤ v ∧ v ≤ 122) by omega)]
    by_cases h2 : v < 48
    · rw [if_pos h2, if_neg (show ¬ (48 ≤ v ∧ v ≤ 57) by omega)]
      by_cases h3 : v = 32
      · rw [if_pos h3, if_pos h3]; rfl
      · rw [if_neg h3, if_neg h3]; rfl
    · rw [if_neg h2]
      by_cases h4 : 57 < v
      · rw [if_pos h4, if_neg (show ¬ (48 ≤ v ∧ v ≤ 57) by omega)]
        by_cases h3 : v = 32
        · rw [if_pos h3, if_pos h3]; rfl
        · rw [if_neg h3, if_neg h3]; rfl
      · rw [if_neg h4, if_pos (show 48 ≤ v ∧ v ≤ 57 by omega)]
  · rw [if_neg h1]
    by_cases h5 : 122 < v
    · rw [if_pos h5, if_neg (show ¬ (97 ≤ v ∧ v ≤ 122) by omega), if_neg (show ¬ (48 ≤ v ∧ v ≤ 57) by omega), if_neg (show ¬ v < 48 by omega), if_pos (show 57 < v by omega)]
      by_cases h3 : v = 32
      · rw [if_pos h3, if_pos h3]; rfl
      · rw [if_neg h3, if_neg h3]; rfl
    · rw [if_neg h5, if_pos (show 97 ≤ v ∧ v ≤ 122 by omega)]
/-- the tape of both -/
def TR (T S : xU) : Prop := ∃ n : Nat, n ≤ 400 ∧ T 0 2 = (n : Int) ∧ S 0 8 = (n : Int) ∧ ∀ i, i < n → T 1 i = S 5 i ∧ (0 ≤ S 5 i ∧ S 5 i ≤ 255) ∧ T 2 i = kd (S 5 i)
theorem n_ul : ∀ n : Nat, n < 32 → (((Int32.ofInt (n : Int)).toUInt32 &&& Int32.toUInt32 31).toBitVec % 32).toNat = n := by decide +kernel
theorem b255 : ∀ i : Nat, i < 32 → (Int32.ofInt 255).toBitVec.getLsbD i = decide (i < 8) := by decide +kernel
/-- a byte of a number, shifted either way -/
theorem z_by {z : Int} {p : Nat} (hp : p ≤ 24) : x_and (x_shr z p) 255 = x_and (x_ush z p) 255 := by
  have e1 : Int32.ofInt (x_shr z p) = Int32.ofInt z >>> (Int32.ofInt (p : Int) &&& 31) := x_of32 _
  have e2 : Int32.ofInt (x_ush z p) = ((Int32.ofInt z).toUInt32 >>> ((Int32.ofInt (p : Int)).toUInt32 &&& Int32.toUInt32 31)).toInt32 := x_of32 _
  show (Int32.ofInt (x_shr z p) &&& Int32.ofInt 255).toInt = (Int32.ofInt (x_ush z p) &&& Int32.ofInt 255).toInt
  rw [e1, e2]
  congr 1
  apply Int32.toBitVec_inj.mp
  rw [Int32.toBitVec_and, Int32.toBitVec_and, Int32.toBitVec_shiftRight]
  show (Int32.ofInt z).toBitVec.sshiftRight ((Int32.ofInt (p : Int) &&& 31).toBitVec.smod 32).toNat &&& _ = ((Int32.ofInt z).toUInt32 >>> ((Int32.ofInt (p : Int)).toUInt32 &&& Int32.toUInt32 31)).toBitVec &&& _
  rw [n_sl p (by omega), UInt32.toBitVec_shiftRight]
  show _ = ((Int32.ofInt z).toBitVec >>> ((((Int32.ofInt (p : Int)).toUInt32 &&& Int32.toUInt32 31).toBitVec % 32).toNat)) &&& _
  rw [n_ul p (by omega)]
  apply BitVec.eq_of_getLsbD_eq
  intro i hi
  rw [BitVec.getLsbD_and, BitVec.getLsbD_and, b255 i hi, BitVec.getLsbD_sshiftRight, BitVec.getLsbD_ushiftRight]
  by_cases h8 : i < 8
  · have : p + i < 32 := by omega
    simp [h8, this, show ¬ 32 ≤ i by omega]
  · simp [h8]
theorem z_and8 (z : Int) : 0 ≤ x_and z 255 ∧ x_and z 255 ≤ 255 := by
  have h : (Int32.ofInt z &&& Int32.ofInt 255).toBitVec = BitVec.ofNat 32 ((z % 256).toNat) := by
    rw [Int32.toBitVec_and]
    apply BitVec.eq_of_toNat_eq
    rw [BitVec.toNat_and]
    show (BitVec.ofInt 32 z).toNat &&& (2 ^ 8 - 1) = _
    rw [BitVec.toNat_ofInt, Nat.and_two_pow_sub_one_eq_mod, BitVec.toNat_ofNat]
    omega
  have e := n_eq (a := (z % 256).toNat) (by omega) h
  show 0 ≤ (Int32.ofInt z &&& Int32.ofInt 255).toInt ∧ (Int32.ofInt z &&& Int32.ofInt 255).toInt ≤ 255
  rw [e]
  omega
section Q19
variable {X N S T La Th C Fo : xU} {A : xA} {m : Nat → Int}
/-- a tape with bytes more -/
def tp (T : xU) (n : Nat) (f : Nat → Int) (j : Nat) : xU := fun o i => if o = 1 ∧ n ≤ i ∧ i < n + j then f (i - n) else if o = 2 ∧ n ≤ i ∧ i < n + j then kd (f (i - n)) else if o = 0 ∧ i = 2 then ((n + j : Nat) : Int) else T o i
theorem tp_0 {n : Nat} {f : Nat → Int} (h : T 0 2 = (n : Int)) : tp T n f 0 = T := by
  funext o i
  unfold tp
  rw [if_neg (by omega), if_neg (by omega)]
  by_cases q : o = 0 ∧ i = 2
  · rw [if_pos q, q.1, q.2, h]; rfl
  · rw [if_neg q]
theorem tp_s {n j : Nat} {f : Nat → Int} : x_up (x_up (x_up (tp T n f j) 1 (n + j) (f j)) 2 (n + j) (kd (f j))) 0 2 ((n + j + 1 : Nat) : Int) = tp T n f (j + 1) := by
  funext o i
  by_cases h0 : o = 0 ∧ i = 2
  · obtain ⟨rfl, rfl⟩ := h0
    rw [up_s]
    unfold tp
    rw [if_neg (by omega), if_neg (by omega), if_pos ⟨rfl, rfl⟩]
    rfl
  · have e0 : x_up (x_up (x_up (tp T n f j) 1 (n + j) (f j)) 2 (n + j) (kd (f j))) 0 2 ((n + j + 1 : Nat) : Int) o i = x_up (x_up (tp T n f j) 1 (n + j) (f j)) 2 (n + j) (kd (f j)) o i := by
      unfold x_up
      rw [if_neg h0]
    rw [e0]
    by_cases h2 : o = 2 ∧ i = n + j
    · obtain ⟨rfl, rfl⟩ := h2
      rw [up_s]
      unfold tp
      rw [if_neg (by omega), if_pos (by omega), show n + j - n = j by omega]
    · have e2 : x_up (x_up (tp T n f j) 1 (n + j) (f j)) 2 (n + j) (kd (f j)) o i = x_up (tp T n f j) 1 (n + j) (f j) o i := by
        show (if o = 2 ∧ i = n + j then _ else _) = _
        rw [if_neg h2]
      rw [e2]
      by_cases h1 : o = 1 ∧ i = n + j
      · obtain ⟨rfl, rfl⟩ := h1
        rw [up_s]
        unfold tp
        rw [if_pos (by omega), show n + j - n = j by omega]
      · have e1 : x_up (tp T n f j) 1 (n + j) (f j) o i = tp T n f j o i := by
          show (if o = 1 ∧ i = n + j then _ else _) = _
          rw [if_neg h1]
        rw [e1]
        unfold tp
        by_cases k1 : o = 1 ∧ n ≤ i ∧ i < n + j
        · rw [if_pos k1, if_pos (by omega)]
        · have k1' : ¬ (o = 1 ∧ n ≤ i ∧ i < n + (j + 1)) := by omega
          rw [if_neg k1, if_neg k1']
          by_cases k2 : o = 2 ∧ n ≤ i ∧ i < n + j
          · rw [if_pos k2, if_pos (by omega)]
          · have k2' : ¬ (o = 2 ∧ n ≤ i ∧ i < n + (j + 1)) := by omega
            rw [if_neg k2, if_neg k2', if_neg h0, if_neg h0]
def byt (z : Int) (k : Nat) : Int := x_and (x_ush z ((24 - 8 * k : Nat) : Int)) 255
theorem w_add {z : Int} {n : Nat} (h : T 0 2 = (n : Int)) (hn : n + 4 ≤ 400) : G10_addNumber z T = some (tp T n (byt z) 4) := by
  have e0 : ((24 : Int), T) = ((24 : Int) - 8 * ((0 : Nat) : Int), tp T n (byt z) 0) := by rw [tp_0 h]; rfl
  rw [G10_addNumber, e0, w_run (fun j => ((24 : Int) - 8 * (j : Int), tp T n (byt z) j)) 4 (by decide) (r := tp T n (byt z) 4) (fun j hj => by
    have e2 : tp T n (byt z) j 0 2 = ((n + j : Nat) : Int) := by unfold tp; rw [if_neg (by omega), if_neg (by omega), if_pos ⟨rfl, rfl⟩]
    have ev : (24 : Int) - 8 * (j : Int) = ((24 - 8 * j : Nat) : Int) := by omega
    have eb : x_and (x_shr z ((24 - 8 * j : Nat) : Int)) 255 = byt z j := z_by (by omega)
    show (if (24 : Int) - 8 * (j : Int) < 0 then _ else _) = _
    rw [if_neg (by omega), e2, if_neg (by omega), if_neg (by omega), x_gd_t ⟨by omega, by omega⟩, ev, eb, Int.toNat_natCast]
    have e3 : x_up (tp T n (byt z) j) 1 (n + j) (byt z j) 0 2 = ((n + j : Nat) : Int) := by rw [up_o (by decide), e2]
    rw [e3, x_gd_t ⟨by omega, by omega⟩, Int.toNat_natCast, up_s, g10_kind, x_b1s, x_gd_t ⟨by omega, by omega⟩]
    have e4 : x_up (x_up (tp T n (byt z) j) 1 (n + j) (byt z j)) 2 (n + j) (kd (byt z j)) 0 2 = ((n + j : Nat) : Int) := by rw [up_o (by decide), e3]
    rw [e4, n_inc (by omega), x_b1s, tp_s, x_add_of ⟨by omega, by omega⟩]
    congr 3
    omega) (by
    rw [G10_addNumber_L3, if_pos (by omega)]), x_b1s]
/-- the reference's bytes -/
def sp (S : xU) (n : Nat) (f : Nat → Int) (j : Nat) : xU := fun o i => if o = 5 ∧ n ≤ i ∧ i < n + j then f (i - n) else if o = 0 ∧ i = 8 then ((n + j : Nat) : Int) else S o i
theorem sp_s {n j : Nat} {f : Nat → Int} : x_up (x_up (sp S n f j) 5 (n + j) (f j)) 0 8 ((n + j + 1 : Nat) : Int) = sp S n f (j + 1) := by
  funext o i
  by_cases h0 : o = 0 ∧ i = 8
  · obtain ⟨rfl, rfl⟩ := h0
    rw [up_s]
    unfold sp
    rw [if_neg (by omega), if_pos ⟨rfl, rfl⟩]
    rfl
  · have e0 : x_up (x_up (sp S n f j) 5 (n + j) (f j)) 0 8 ((n + j + 1 : Nat) : Int) o i = x_up (sp S n f j) 5 (n + j) (f j) o i := by
      show (if o = 0 ∧ i = 8 then _ else _) = _
      rw [if_neg h0]
    rw [e0]
    by_cases h1 : o = 5 ∧ i = n + j
    · obtain ⟨rfl, rfl⟩ := h1
      rw [up_s]
      unfold sp
      rw [if_pos (by omega), show n + j - n = j by omega]
    · have e1 : x_up (sp S n f j) 5 (n + j) (f j) o i = sp S n f j o i := by
        show (if o = 5 ∧ i = n + j then _ else _) = _
        rw [if_neg h1]
      rw [e1]
      unfold sp
      by_cases k1 : o = 5 ∧ n ≤ i ∧ i < n + j
      · rw [if_pos k1, if_pos (by omega)]
      · have k1' : ¬ (o = 5 ∧ n ≤ i ∧ i < n + (j + 1)) := by omega
        rw [if_neg k1, if_neg k1', if_neg h0, if_neg h0]
def sel (a b c d e : Int) (k : Nat) : Int := if 4 ≤ k then (if 8 ≤ k then (if 12 ≤ k then (if 16 ≤ k then e else d) else c) else b) else a
def by20 (a b c d e : Int) (k : Nat) : Int := byt (sel a b c d e k) (k % 4)
theorem by_bd {z : Int} {k : Nat} : 0 ≤ byt z k ∧ byt z k ≤ 255 := z_and8 _
theorem L_feed {a b c d e : Int} (hT : TR T S) : ∃ r T' S', G11_feed a b c d e T = some (r, T') ∧ G12_feed a b c d e S = some (r, S') ∧ S' 0 0 = 0 ∧ TR T' S' ∧ (∀ o, o ≠ 0 → o ≠ 5 → S' o = S o) ∧ ∀ i, i ≠ 0 → i ≠ 8 → S' 0 i = S 0 i := by
  obtain ⟨n, hn, t2, s8, hk⟩ := hT
  have y8 : x_up S 0 0 0 0 8 = (n : Int) := (up_i (by decide)).trans s8
  rw [G11_feed, G12_feed, t2, y8, show x_add (n : Int) 20 = ((n + 20 : Nat) : Int) from n_add (b := 20) (by omega)]
  by_cases q : n + 20 ≤ 400
  · rw [if_pos (by omega), if_pos (by omega)]
    have f2 : ∀ (U : xU) (k : Nat) (f : Nat → Int), tp U k f 4 0 2 = ((k + 4 : Nat) : Int) := fun U k f => by
      unfold tp; rw [if_neg (by omega), if_neg (by omega), if_pos ⟨rfl, rfl⟩]
    have w : whl xFU (G12_feed_L23 a b c d e) (0, x_up S 0 0 0) = some (sp (x_up S 0 0 0) n (by20 a b c d e) 20) := by
      have e0 : ((0 : Int), x_up S 0 0 0) = (((0 : Nat) : Int), sp (x_up S 0 0 0) n (by20 a b c d e) 0) := by
        congr 1
        funext o i
        unfold sp
        rw [if_neg (by omega)]
        by_cases z : o = 0 ∧ i = 8
        · rw [if_pos z, z.1, z.2, y8]; rfl
        · rw [if_neg z]
      rw [e0]
      refine w_run (fun j => ((j : Int), sp (x_up S 0 0 0) n (by20 a b c d e) j)) 20 (by decide) (fun j hj => ?_) rfl
      have e2 : sp (x_up S 0 0 0) n (by20 a b c d e) j 0 8 = ((n + j : Nat) : Int) := by unfold sp; rw [if_neg (by omega), if_pos ⟨rfl, rfl⟩]
      have es : (if (4 : Int) ≤ (j : Int) then (if (8 : Int) ≤ (j : Int) then (if (12 : Int) ≤ (j : Int) then (if (16 : Int) ≤ (j : Int) then (some e) else (some d)) else (some c)) else (some b)) else (some a)) = some (sel a b c d e j) := by
        unfold sel
        by_cases k1 : 4 ≤ j
        · rw [if_pos (by omega), if_pos k1]
          by_cases k2 : 8 ≤ j
          · rw [if_pos (by omega), if_pos k2]
            by_cases k3 : 12 ≤ j
            · rw [if_pos (by omega), if_pos k3]
              by_cases k4 : 16 ≤ j
              · rw [if_pos (by omega), if_pos k4]
              · rw [if_neg (by omega), if_neg k4]
            · rw [if_neg (by omega), if_neg k3]
          · rw [if_neg (by omega), if_neg k2]
        · rw [if_neg (by omega), if_neg k1]
      have er : x_sub 24 (x_mul 8 (x_rem (j : Int) 4)) = ((24 - 8 * (j % 4) : Nat) : Int) := by
        rw [x_rem_pos (R32n (by omega)) ⟨by decide, by decide⟩ (by decide) (by omega), x_mul_of ⟨by omega, by omega⟩, x_sub_of ⟨by omega, by omega⟩]; omega
      show (if (20 : Int) ≤ (j : Int) then _ else _) = _
      rw [if_neg (by omega), es, x_b1s, e2, x_gd_t ⟨by omega, by omega⟩, er, Int.toNat_natCast, n_inc (by omega)]
      have e3 : x_up (sp (x_up S 0 0 0) n (by20 a b c d e) j) 5 (n + j) (x_and (x_ush (sel a b c d e j) ((24 - 8 * (j % 4) : Nat) : Int)) 255) 0 8 = ((n + j : Nat) : Int) := by rw [up_o (by decide), e2]
      rw [e3, n_inc (by omega)]
      show some (Sum.inl (_, x_up (x_up (sp (x_up S 0 0 0) n (by20 a b c d e) j) 5 (n + j) (by20 a b c d e j)) 0 8 ((n + j + 1 : Nat) : Int))) = _
      rw [sp_s]
    rw [w_add (z := a) t2 (by omega), x_b1s, w_add (z := b) (f2 _ _ _) (by omega), x_b1s, w_add (z := c) (f2 _ _ _) (by omega), x_b1s, w_add (z := d) (f2 _ _ _) (by omega), x_b1s, w_add (z := e) (f2 _ _ _) (by omega), x_b1s, w, x_b1s, f2]
    have e28 : sp (x_up S 0 0 0) n (by20 a b c d e) 20 0 8 = ((n + 20 : Nat) : Int) := by unfold sp; rw [if_neg (by omega), if_pos ⟨rfl, rfl⟩]
    rw [e28]
    refine ⟨_, _, _, rfl, rfl, ?_, ⟨n + 20, q, f2 _ _ _, e28, fun i hi2 => ?_⟩, fun o h1 h2 => ?_, fun i h1 h2 => ?_⟩
    · unfold sp; rw [if_neg (by omega), if_neg (by omega), up_s]
    · have hS : sp (x_up S 0 0 0) n (by20 a b c d e) 20 5 i = if n ≤ i then by20 a b c d e (i - n) else S 5 i := by
        unfold sp
        by_cases z : n ≤ i
        · rw [if_pos ⟨rfl, z, hi2⟩, if_pos z]
        · rw [if_neg (by omega), if_neg (by omega), if_neg z, up_o (by decide)]
      have t1 : ∀ (U : xU) (k : Nat) (f : Nat → Int), tp U k f 4 1 i = if k ≤ i ∧ i < k + 4 then f (i - k) else U 1 i := fun U k f => by
        unfold tp
        by_cases z : k ≤ i ∧ i < k + 4
        · rw [if_pos ⟨rfl, z⟩, if_pos z]
        · rw [if_neg (fun y => z y.2), if_neg (by omega), if_neg (by omega), if_neg z]
      have t3 : ∀ (U : xU) (k : Nat) (f : Nat → Int), tp U k f 4 2 i = if k ≤ i ∧ i < k + 4 then kd (f (i - k)) else U 2 i := fun U k f => by
        unfold tp
        by_cases z : k ≤ i ∧ i < k + 4
        · rw [if_neg (by omega), if_pos ⟨rfl, z⟩, if_pos z]
        · rw [if_neg (by omega), if_neg (fun y => z y.2), if_neg (by omega), if_neg z]
      have hB : ∀ (k : Nat) (z : Int), k = i - n - (i - n) % 4 → sel a b c d e (i - n) = z → by20 a b c d e (i - n) = byt z (i - (n + k)) := fun k z h1 h2 => by
        unfold by20
        rw [h2]
        congr 1
        omega
      rw [hS]
      simp only [t1, t3]
      by_cases z0 : n ≤ i
      · rw [if_pos z0]
        refine ⟨?_, by_bd, ?_⟩
        all_goals
          by_cases z4 : i < n + 4
          · rw [if_neg (by omega), if_neg (by omega), if_neg (by omega), if_neg (by omega), if_pos ⟨z0, z4⟩, hB 0 a (by omega) (by unfold sel; rw [if_neg (by omega)])]
            rfl
          · by_cases z8 : i < n + 8
            · rw [if_neg (by omega), if_neg (by omega), if_neg (by omega), if_pos (by omega), hB 4 b (by omega) (by unfold sel; rw [if_pos (by omega), if_neg (by omega)])]
            · by_cases z12 : i < n + 12
              · rw [if_neg (by omega), if_neg (by omega), if_pos (by omega), hB 8 c (by omega) (by unfold sel; rw [if_pos (by omega), if_pos (by omega), if_neg (by omega)])]
              · by_cases z16 : i < n + 16
                · rw [if_neg (by omega), if_pos (by omega), hB 12 d (by omega) (by unfold sel; rw [if_pos (by omega), if_pos (by omega), if_pos (by omega), if_neg (by omega)])]
                · rw [if_pos (by omega), hB 16 e (by omega) (by unfold sel; rw [if_pos (by omega), if_pos (by omega), if_pos (by omega), if_pos (by omega)])]
      · rw [if_neg z0, if_neg (by omega), if_neg (by omega), if_neg (by omega), if_neg (by omega), if_neg (by omega), if_neg (by omega), if_neg (by omega), if_neg (by omega), if_neg (by omega), if_neg (by omega)]
        exact hk i (by omega)
    · funext i
      unfold sp
      rw [if_neg (fun y => h2 y.1), if_neg (fun y => h1 y.1), up_o h1]
    · unfold sp
      rw [if_neg (by omega), if_neg (fun y => h2 y.2), up_i h1]
  · rw [if_neg (by omega), if_neg (by omega)]
    refine ⟨-1, T, x_up S 0 0 0, rfl, rfl, up_s, ⟨n, hn, t2, y8, fun i hi2 => ?_⟩, fun o h1 _ => up_o h1, fun i h1 _ => up_i h1⟩
    rw [up_o (by decide)]; exact hk i hi2
theorem L_end {a : Int} (hT : TR T S) : ∃ r T' S', G11_end a T = some (r, T') ∧ G12_end a S = some (r, S') ∧ S' 0 0 = 0 ∧ TR T' S' ∧ (∀ o, o ≠ 0 → S' o = S o) ∧ ∀ i, i ≠ 0 → i ≠ 8 → S' 0 i = S 0 i := by
  obtain ⟨n, hn, t2, s8, hk⟩ := hT
  have y8 : x_up S 0 0 0 0 8 = (n : Int) := (up_i (by decide)).trans s8
  rw [G11_end, G12_end, g12_isIn, t2, y8]
  by_cases h0 : 0 ≤ a ∧ a ≤ (n : Int)
  · obtain ⟨k, rfl⟩ := Int.eq_ofNat_of_zero_le h0.1
    rw [if_pos h0, if_neg (show ¬ (k : Int) < 0 by omega), if_pos h0.2, x_b1s, if_neg (by decide)]
    refine ⟨1, x_up T 0 2 (k : Int), x_up (x_up S 0 0 0) 0 8 (k : Int), rfl, rfl, ?_, ⟨k, by omega, up_s, up_s, fun i hi2 => ?_⟩, fun o ho => ?_, fun i h1 h2 => ?_⟩
    · rw [up_i (by decide), up_s]
    · rw [up_o (by decide), up_o (by decide), up_o (by decide), up_o (by decide)]
      exact hk i (by omega)
    · rw [up_o ho, up_o ho]
    · rw [up_i h2, up_i h1]
  · rw [if_neg h0, x_b1s, if_pos rfl]
    refine ⟨0, T, x_up S 0 0 0, ?_, rfl, up_s, ⟨n, hn, t2, y8, fun i hi2 => ?_⟩, fun o ho => up_o ho, fun i h1 _ => up_i h1⟩
    · by_cases h1 : a < 0
      · rw [if_pos h1]
      · rw [if_neg h1, if_neg (by omega)]
    · rw [up_o (by decide)]; exact hk i hi2
end Q19
