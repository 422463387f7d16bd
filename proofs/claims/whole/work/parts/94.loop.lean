/-! The law's loop. -/
/-- the law comes to its end from here -/
def LwE (g : xG) (al : List (Nat × Nat × Nat)) (ro : Nat → Nat → Option Nat) (M : Nat → xU) (i pc : Nat) (st : List xV) (X T N Dr Kp Th La Lb Lc Fo St Ri Br Ro Ot S : xU) (A : xA) (K S0 : Nat) : Prop :=
  ∃ h', Ev g yL_law_ cL_law_ 7 (some .boolean) [] 60 pc [some (x_r 1), some (x_r (16 * 1 + 0)), some (x_r (16 * 32 + 0)), some (x_r (16 * 27 + 0)), some (x_i (i : Int)), none, none] st (al, ro, fl (ml (x_ac M A) [1, 2, 3, 4, 5, 18, 19, 20, 21, 22, 23, 24, 25, 26, 27, 32] [X, T, N, Dr, Kp, Th, La, Lb, Lc, Fo, St, Ri, Br, Ro, Ot, S])) K S0 (.inl (some (x_i 1))) h'
/-- for every related state -/
def LwN (g : xG) (al : List (Nat × Nat × Nat)) (ro : Nat → Nat → Option Nat) (M : Nat → xU) (i pc K S0 : Nat) : Prop :=
  ∀ (X T N Dr Kp Th La Lb Lc Fo St Ri Br Ro Ot S : xU) (A : xA), GR X T N La Kp Lc A S → LwE g al ro M i pc [] X T N Dr Kp Th La Lb Lc Fo St Ri Br Ro Ot S A K S0
theorem z_63 (z : Int) : ∃ v : Nat, v < 64 ∧ x_and z 63 = (v : Int) := by
  have hv : (Int32.ofInt z).toBitVec.toNat &&& 63 < 64 := Nat.lt_of_le_of_lt Nat.and_le_right (by decide)
  refine ⟨(Int32.ofInt z).toBitVec.toNat &&& 63, hv, n_eq (by omega) ?_⟩
  rw [Int32.toBitVec_and]
  apply BitVec.eq_of_toNat_eq
  rw [BitVec.toNat_and, BitVec.toNat_ofNat]
  show (Int32.ofInt z).toBitVec.toNat &&& 63 = ((Int32.ofInt z).toBitVec.toNat &&& 63) % 2 ^ 32
  omega
section ZLOOP
variable {g : xG} {al : List (Nat × Nat × Nat)} {ro : Nat → Nat → Option Nat} {M : Nat → xU} {i : Nat} {X T N Dr Kp Th La Lb Lc Fo St Ri Br Ro Ot S : xU} {A : xA} {K S0 : Nat}
theorem zlw0 (hst : g.1.stackTraces = false) (hs : SH al ro) (ho : (16 * 27 + 0, 21, 1) ∈ al) (hi : i + 6 ≤ x_L g) (hL : x_L g < 2147483648) (h : GR X T N La Kp Lc A S) (nx : LwN g al ro M i 3041 K S0) : LwE g al ro M i 296 [] X T N Dr Kp Th La Lb Lc Fo St Ri Br Ro Ot S A (3 + K) (18 + S0) := by
  obtain ⟨a, Tx, b, Sy, e1, e2, qg, gr⟩ := ts0 (a1 := x_sc g (i + 1)) (a2 := x_sc g (i + 2)) (a3 := x_sc g (i + 3)) (a4 := x_sc g (i + 4)) (a5 := x_sc g (i + 5))  h
  obtain ⟨h9, kk⟩ := nx X Tx N Dr Kp Th La Lb Lc Fo St Ri Br Ro Ot Sy A gr
  exact ⟨h9, e_wide (by omega) (by omega) (k0 hst hs ho hi hL e1 e2 qg kk)⟩
theorem zlw1 (hst : g.1.stackTraces = false) (hs : SH al ro) (ho : (16 * 27 + 0, 21, 1) ∈ al) (hi : i + 6 ≤ x_L g) (hL : x_L g < 2147483648) (h : GR X T N La Kp Lc A S) (nx : LwN g al ro M i 3041 K S0) : LwE g al ro M i 369 [] X T N Dr Kp Th La Lb Lc Fo St Ri Br Ro Ot S A (3 + K) (18 + S0) := by
  obtain ⟨a, Tx, b, Sy, e1, e2, qg, gr⟩ := ts1 (a1 := x_sc g (i + 1))  h
  obtain ⟨h9, kk⟩ := nx X Tx N Dr Kp Th La Lb Lc Fo St Ri Br Ro Ot Sy A gr
  exact ⟨h9, e_wide (by omega) (by omega) (k1 hst hs ho hi hL e1 e2 qg kk)⟩
theorem zlw2 (hst : g.1.stackTraces = false) (hs : SH al ro) (ho : (16 * 27 + 0, 21, 1) ∈ al) (hi : i + 6 ≤ x_L g) (hL : x_L g < 2147483648) (h : GR X T N La Kp Lc A S) (nx : LwN g al ro M i 3041 K S0) : LwE g al ro M i 394 [] X T N Dr Kp Th La Lb Lc Fo St Ri Br Ro Ot S A (3 + K) (18 + S0) := by
  obtain ⟨t0, Xx, Tx, Nx, Drx, b, Sy, e1, qe, e2, qg, gr⟩ := ts2  (Dr := Dr) h
  obtain ⟨h9, kk⟩ := nx Xx Tx Nx Drx Kp Th La Lb Lc Fo St Ri Br Ro (x_out Ot t0) Sy A gr
  exact ⟨h9, e_wide (by omega) (by omega) (k2 hst hs ho hi hL e1 qe e2 qg kk)⟩
theorem zlw3 (hst : g.1.stackTraces = false) (hs : SH al ro) (ho : (16 * 27 + 0, 21, 1) ∈ al) (hi : i + 6 ≤ x_L g) (hL : x_L g < 2147483648) (h : GR X T N La Kp Lc A S) (nx : LwN g al ro M i 3041 K S0) : LwE g al ro M i 438 [] X T N Dr Kp Th La Lb Lc Fo St Ri Br Ro Ot S A (3 + K) (18 + S0) := by
  obtain ⟨t0, Xx, Tx, Lax, Lbx, b, Sy, e1, qe, e2, qg, gr⟩ := ts3  (Lb := Lb) h
  obtain ⟨h9, kk⟩ := nx Xx Tx N Dr Kp Th Lax Lbx Lc Fo St Ri Br Ro (x_out Ot t0) Sy A gr
  exact ⟨h9, e_wide (by omega) (by omega) (k3 hst hs ho hi hL e1 qe e2 qg kk)⟩
theorem zlw4 (hst : g.1.stackTraces = false) (hs : SH al ro) (ho : (16 * 27 + 0, 21, 1) ∈ al) (hi : i + 6 ≤ x_L g) (hL : x_L g < 2147483648) (h : GR X T N La Kp Lc A S) (nx : LwN g al ro M i 3041 K S0) : LwE g al ro M i 482 [] X T N Dr Kp Th La Lb Lc Fo St Ri Br Ro Ot S A (3 + K) (18 + S0) := by
  obtain ⟨a, b, Sy, e1, e2, qg, gr⟩ := ts4   h
  obtain ⟨h9, kk⟩ := nx X T N Dr Kp Th La Lb Lc Fo St Ri Br Ro Ot Sy A gr
  exact ⟨h9, e_wide (by omega) (by omega) (k4 hst hs ho hi hL e1 e2 qg kk)⟩
theorem zlw5 (hst : g.1.stackTraces = false) (hs : SH al ro) (ho : (16 * 27 + 0, 21, 1) ∈ al) (hi : i + 6 ≤ x_L g) (hL : x_L g < 2147483648) (h : GR X T N La Kp Lc A S) (nx : LwN g al ro M i 3041 K S0) : LwE g al ro M i 495 [] X T N Dr Kp Th La Lb Lc Fo St Ri Br Ro Ot S A (3 + K) (18 + S0) := by
  obtain ⟨t0, Lax, b, Sy, e1, qe, e2, qg, gr⟩ := ts5 (a1 := x_sc g (i + 1)) (a2 := x_sc g (i + 2))  h
  obtain ⟨h9, kk⟩ := nx X T N Dr Kp Th Lax Lb Lc Fo St Ri Br Ro (x_out Ot t0) Sy A gr
  exact ⟨h9, e_wide (by omega) (by omega) (k5 hst hs ho hi hL e1 qe e2 qg kk)⟩
theorem zlw6 (hst : g.1.stackTraces = false) (hs : SH al ro) (ho : (16 * 27 + 0, 21, 1) ∈ al) (hi : i + 6 ≤ x_L g) (hL : x_L g < 2147483648) (h : GR X T N La Kp Lc A S) (nx : LwN g al ro M i 3041 K S0) : LwE g al ro M i 563 [] X T N Dr Kp Th La Lb Lc Fo St Ri Br Ro Ot S A (3 + K) (18 + S0) := by
  obtain ⟨t0, b, Sy, e1, qe, e2, qg, gr⟩ := ts6 (a1 := x_sc g (i + 1))  h
  obtain ⟨h9, kk⟩ := nx X T N Dr Kp Th La Lb Lc Fo St Ri Br Ro (x_out Ot t0) Sy A gr
  exact ⟨h9, e_wide (by omega) (by omega) (k6 hst hs ho hi hL e1 qe e2 qg kk)⟩
theorem zlw7 (hst : g.1.stackTraces = false) (hs : SH al ro) (ho : (16 * 27 + 0, 21, 1) ∈ al) (hi : i + 6 ≤ x_L g) (hL : x_L g < 2147483648) (h : GR X T N La Kp Lc A S) (nx : LwN g al ro M i 3041 K S0) : LwE g al ro M i 619 [] X T N Dr Kp Th La Lb Lc Fo St Ri Br Ro Ot S A (3 + K) (18 + S0) := by
  obtain ⟨t0, b, Sy, e1, qe, e2, qg, gr⟩ := ts7 (a1 := x_sc g (i + 1))  h
  obtain ⟨h9, kk⟩ := nx X T N Dr Kp Th La Lb Lc Fo St Ri Br Ro (x_out Ot t0) Sy A gr
  exact ⟨h9, e_wide (by omega) (by omega) (k7 hst hs ho hi hL e1 qe e2 qg kk)⟩
theorem zlw8 (hst : g.1.stackTraces = false) (hs : SH al ro) (ho : (16 * 27 + 0, 21, 1) ∈ al) (hi : i + 6 ≤ x_L g) (hL : x_L g < 2147483648) (h : GR X T N La Kp Lc A S) (nx : LwN g al ro M i 3041 K S0) : LwE g al ro M i 675 [] X T N Dr Kp Th La Lb Lc Fo St Ri Br Ro Ot S A (3 + K) (18 + S0) := by
  obtain ⟨t0, Xx, Nx, Lax, Ax, b, Sy, e1, qe, e2, qg, gr⟩ := ts8 (a1 := x_sc g (i + 1))  h
  obtain ⟨h9, kk⟩ := nx Xx T Nx Dr Kp Th Lax Lb Lc Fo St Ri Br Ro (x_out Ot t0) Sy Ax gr
  exact ⟨h9, e_wide (by omega) (by omega) (k8 hst hs ho hi hL e1 qe e2 qg kk)⟩
theorem zlw9 (hst : g.1.stackTraces = false) (hs : SH al ro) (ho : (16 * 27 + 0, 21, 1) ∈ al) (hi : i + 6 ≤ x_L g) (hL : x_L g < 2147483648) (h : GR X T N La Kp Lc A S) (nx : LwN g al ro M i 3041 K S0) : LwE g al ro M i 731 [] X T N Dr Kp Th La Lb Lc Fo St Ri Br Ro Ot S A (3 + K) (18 + S0) := by
  obtain ⟨t0, Xx, Nx, Ax, b, Sy, e1, qe, e2, qg, gr⟩ := ts9 (a1 := x_sc g (i + 1))  h
  obtain ⟨h9, kk⟩ := nx Xx T Nx Dr Kp Th La Lb Lc Fo St Ri Br Ro (x_out Ot t0) Sy Ax gr
  exact ⟨h9, e_wide (by omega) (by omega) (k9 hst hs ho hi hL e1 qe e2 qg kk)⟩
theorem zlw10 (hst : g.1.stackTraces = false) (hs : SH al ro) (ho : (16 * 27 + 0, 21, 1) ∈ al) (hi : i + 6 ≤ x_L g) (hL : x_L g < 2147483648) (h : GR X T N La Kp Lc A S) (nx : LwN g al ro M i 3041 K S0) : LwE g al ro M i 787 [] X T N Dr Kp Th La Lb Lc Fo St Ri Br Ro Ot S A (3 + K) (18 + S0) := by
  obtain ⟨t0, Xx, Nx, Ax, b, Sy, e1, qe, e2, qg, gr⟩ := ts10 (a1 := x_sc g (i + 1))  h
  obtain ⟨h9, kk⟩ := nx Xx T Nx Dr Kp Th La Lb Lc Fo St Ri Br Ro (x_out Ot t0) Sy Ax gr
  exact ⟨h9, e_wide (by omega) (by omega) (k10 hst hs ho hi hL e1 qe e2 qg kk)⟩
theorem zlw11 (hst : g.1.stackTraces = false) (hs : SH al ro) (ho : (16 * 27 + 0, 21, 1) ∈ al) (hi : i + 6 ≤ x_L g) (hL : x_L g < 2147483648) (h : GR X T N La Kp Lc A S) (nx : LwN g al ro M i 3041 K S0) : LwE g al ro M i 843 [] X T N Dr Kp Th La Lb Lc Fo St Ri Br Ro Ot S A (3 + K) (18 + S0) := by
  obtain ⟨t0, Xx, Nx, Ax, b, Sy, e1, qe, e2, qg, gr⟩ := ts11 (a1 := x_sc g (i + 1))  h
  obtain ⟨h9, kk⟩ := nx Xx T Nx Dr Kp Th La Lb Lc Fo St Ri Br Ro (x_out Ot t0) Sy Ax gr
  exact ⟨h9, e_wide (by omega) (by omega) (k11 hst hs ho hi hL e1 qe e2 qg kk)⟩
theorem zlw12 (hst : g.1.stackTraces = false) (hs : SH al ro) (ho : (16 * 27 + 0, 21, 1) ∈ al) (hi : i + 6 ≤ x_L g) (hL : x_L g < 2147483648) (h : GR X T N La Kp Lc A S) (nx : LwN g al ro M i 3041 K S0) : LwE g al ro M i 899 [] X T N Dr Kp Th La Lb Lc Fo St Ri Br Ro Ot S A (3 + K) (18 + S0) := by
  obtain ⟨t0, Xx, Nx, Ax, b, Sy, e1, qe, e2, qg, gr⟩ := ts12 (a1 := x_sc g (i + 1)) (a2 := x_sc g (i + 2))  h
  obtain ⟨h9, kk⟩ := nx Xx T Nx Dr Kp Th La Lb Lc Fo St Ri Br Ro (x_out Ot t0) Sy Ax gr
  exact ⟨h9, e_wide (by omega) (by omega) (k12 hst hs ho hi hL e1 qe e2 qg kk)⟩
theorem zlw13 (hst : g.1.stackTraces = false) (hs : SH al ro) (ho : (16 * 27 + 0, 21, 1) ∈ al) (hi : i + 6 ≤ x_L g) (hL : x_L g < 2147483648) (h : GR X T N La Kp Lc A S) (nx : LwN g al ro M i 3041 K S0) : LwE g al ro M i 967 [] X T N Dr Kp Th La Lb Lc Fo St Ri Br Ro Ot S A (3 + K) (18 + S0) := by
  obtain ⟨t0, Xx, Nx, Ax, b, Sy, e1, qe, e2, qg, gr⟩ := ts13 (a1 := x_sc g (i + 1)) (a2 := x_sc g (i + 2))  h
  obtain ⟨h9, kk⟩ := nx Xx T Nx Dr Kp Th La Lb Lc Fo St Ri Br Ro (x_out Ot t0) Sy Ax gr
  exact ⟨h9, e_wide (by omega) (by omega) (k13 hst hs ho hi hL e1 qe e2 qg kk)⟩
theorem zlw14 (hst : g.1.stackTraces = false) (hs : SH al ro) (ho : (16 * 27 + 0, 21, 1) ∈ al) (hi : i + 6 ≤ x_L g) (hL : x_L g < 2147483648) (h : GR X T N La Kp Lc A S) (nx : LwN g al ro M i 3041 K S0) : LwE g al ro M i 1035 [] X T N Dr Kp Th La Lb Lc Fo St Ri Br Ro Ot S A (3 + K) (18 + S0) := by
  obtain ⟨t0, Xx, Nx, Ax, b, Sy, e1, qe, e2, qg, gr⟩ := ts14 (a1 := x_sc g (i + 1)) (a2 := x_sc g (i + 2))  h
  obtain ⟨h9, kk⟩ := nx Xx T Nx Dr Kp Th La Lb Lc Fo St Ri Br Ro (x_out Ot t0) Sy Ax gr
  exact ⟨h9, e_wide (by omega) (by omega) (k14 hst hs ho hi hL e1 qe e2 qg kk)⟩
theorem zlw15 (hst : g.1.stackTraces = false) (hs : SH al ro) (ho : (16 * 27 + 0, 21, 1) ∈ al) (hi : i + 6 ≤ x_L g) (hL : x_L g < 2147483648) (h : GR X T N La Kp Lc A S) (nx : LwN g al ro M i 3041 K S0) : LwE g al ro M i 1103 [] X T N Dr Kp Th La Lb Lc Fo St Ri Br Ro Ot S A (3 + K) (18 + S0) := by
  obtain ⟨t0, Xx, Nx, Ax, b, Sy, e1, qe, e2, qg, gr⟩ := ts15 (a1 := x_sc g (i + 1))  h
  obtain ⟨h9, kk⟩ := nx Xx T Nx Dr Kp Th La Lb Lc Fo St Ri Br Ro (x_out Ot t0) Sy Ax gr
  exact ⟨h9, e_wide (by omega) (by omega) (k15 hst hs ho hi hL e1 qe e2 qg kk)⟩
theorem zlw16 (hst : g.1.stackTraces = false) (hs : SH al ro) (ho : (16 * 27 + 0, 21, 1) ∈ al) (hi : i + 6 ≤ x_L g) (hL : x_L g < 2147483648) (h : GR X T N La Kp Lc A S) (nx : LwN g al ro M i 3041 K S0) : LwE g al ro M i 1159 [] X T N Dr Kp Th La Lb Lc Fo St Ri Br Ro Ot S A (3 + K) (18 + S0) := by
  obtain ⟨a, b, Sy, e1, e2, qg, gr⟩ := ts16   h
  obtain ⟨h9, kk⟩ := nx X T N Dr Kp Th La Lb Lc Fo St Ri Br Ro Ot Sy A gr
  exact ⟨h9, e_wide (by omega) (by omega) (k16 hst hs ho hi hL e1 e2 qg kk)⟩
theorem zlw17 (hst : g.1.stackTraces = false) (hs : SH al ro) (ho : (16 * 27 + 0, 21, 1) ∈ al) (hi : i + 6 ≤ x_L g) (hL : x_L g < 2147483648) (h : GR X T N La Kp Lc A S) (nx : LwN g al ro M i 3041 K S0) : LwE g al ro M i 1172 [] X T N Dr Kp Th La Lb Lc Fo St Ri Br Ro Ot S A (3 + K) (18 + S0) := by
  obtain ⟨t0, Thx, Lax, b, Sy, e1, qe, e2, qg, gr⟩ := ts17 (a1 := x_sc g (i + 1)) (a2 := x_sc g (i + 2)) (Th := Th) h
  obtain ⟨h9, kk⟩ := nx X T N Dr Kp Thx Lax Lb Lc Fo St Ri Br Ro (x_out Ot t0) Sy A gr
  exact ⟨h9, e_wide (by omega) (by omega) (k17 hst hs ho hi hL e1 qe e2 qg kk)⟩
theorem zlw18 (hst : g.1.stackTraces = false) (hs : SH al ro) (ho : (16 * 27 + 0, 21, 1) ∈ al) (hi : i + 6 ≤ x_L g) (hL : x_L g < 2147483648) (h : GR X T N La Kp Lc A S) (nx : LwN g al ro M i 3041 K S0) : LwE g al ro M i 1240 [] X T N Dr Kp Th La Lb Lc Fo St Ri Br Ro Ot S A (3 + K) (18 + S0) := by
  obtain ⟨t0, Thx, Lax, b, Sy, e1, qe, e2, qg, gr⟩ := ts18 (a1 := x_sc g (i + 1)) (a2 := x_sc g (i + 2)) (Th := Th) h
  obtain ⟨h9, kk⟩ := nx X T N Dr Kp Thx Lax Lb Lc Fo St Ri Br Ro (x_out Ot t0) Sy A gr
  exact ⟨h9, e_wide (by omega) (by omega) (k18 hst hs ho hi hL e1 qe e2 qg kk)⟩
theorem zlw19 (hst : g.1.stackTraces = false) (hs : SH al ro) (ho : (16 * 27 + 0, 21, 1) ∈ al) (hi : i + 6 ≤ x_L g) (hL : x_L g < 2147483648) (h : GR X T N La Kp Lc A S) (nx : LwN g al ro M i 3041 K S0) : LwE g al ro M i 1308 [] X T N Dr Kp Th La Lb Lc Fo St Ri Br Ro Ot S A (3 + K) (18 + S0) := by
  obtain ⟨t0, Thx, Lax, Fox, b, Sy, e1, qe, e2, qg, gr⟩ := ts19 (a1 := x_sc g (i + 1)) (Th := Th) (Fo := Fo) h
  obtain ⟨h9, kk⟩ := nx X T N Dr Kp Thx Lax Lb Lc Fox St Ri Br Ro (x_out Ot t0) Sy A gr
  exact ⟨h9, e_wide (by omega) (by omega) (k19 hst hs ho hi hL e1 qe e2 qg kk)⟩
theorem zlw20 (hst : g.1.stackTraces = false) (hs : SH al ro) (ho : (16 * 27 + 0, 21, 1) ∈ al) (hi : i + 6 ≤ x_L g) (hL : x_L g < 2147483648) (h : GR X T N La Kp Lc A S) (nx : LwN g al ro M i 3041 K S0) : LwE g al ro M i 1364 [] X T N Dr Kp Th La Lb Lc Fo St Ri Br Ro Ot S A (3 + K) (18 + S0) := by
  obtain ⟨a, Thx, Lax, Fox, b, Sy, e1, e2, qg, gr⟩ := ts20  (Th := Th) (Fo := Fo) h
  obtain ⟨h9, kk⟩ := nx X T N Dr Kp Thx Lax Lb Lc Fox St Ri Br Ro Ot Sy A gr
  exact ⟨h9, e_wide (by omega) (by omega) (k20 hst hs ho hi hL e1 e2 qg kk)⟩
theorem zlw21 (hst : g.1.stackTraces = false) (hs : SH al ro) (ho : (16 * 27 + 0, 21, 1) ∈ al) (hi : i + 6 ≤ x_L g) (hL : x_L g < 2147483648) (h : GR X T N La Kp Lc A S) (nx : LwN g al ro M i 3041 K S0) : LwE g al ro M i 1377 [] X T N Dr Kp Th La Lb Lc Fo St Ri Br Ro Ot S A (3 + K) (18 + S0) := by
  obtain ⟨a, Thx, Lax, Fox, b, Sy, e1, e2, qg, gr⟩ := ts21  (Th := Th) (Fo := Fo) h
  obtain ⟨h9, kk⟩ := nx X T N Dr Kp Thx Lax Lb Lc Fox St Ri Br Ro Ot Sy A gr
  exact ⟨h9, e_wide (by omega) (by omega) (k21 hst hs ho hi hL e1 e2 qg kk)⟩
theorem zlw22 (hst : g.1.stackTraces = false) (hs : SH al ro) (ho : (16 * 27 + 0, 21, 1) ∈ al) (hi : i + 6 ≤ x_L g) (hL : x_L g < 2147483648) (h : GR X T N La Kp Lc A S) (nx : LwN g al ro M i 3041 K S0) : LwE g al ro M i 1390 [] X T N Dr Kp Th La Lb Lc Fo St Ri Br Ro Ot S A (3 + K) (18 + S0) := by
  obtain ⟨a, Thx, Lax, Fox, b, Sy, e1, e2, qg, gr⟩ := ts22  (Th := Th) (Fo := Fo) h
  obtain ⟨h9, kk⟩ := nx X T N Dr Kp Thx Lax Lb Lc Fox St Ri Br Ro Ot Sy A gr
  exact ⟨h9, e_wide (by omega) (by omega) (k22 hst hs ho hi hL e1 e2 qg kk)⟩
theorem zlw23 (hst : g.1.stackTraces = false) (hs : SH al ro) (ho : (16 * 27 + 0, 21, 1) ∈ al) (hi : i + 6 ≤ x_L g) (hL : x_L g < 2147483648) (h : GR X T N La Kp Lc A S) (nx : LwN g al ro M i 3041 K S0) : LwE g al ro M i 1403 [] X T N Dr Kp Th La Lb Lc Fo St Ri Br Ro Ot S A (3 + K) (18 + S0) := by
  obtain ⟨a, Thx, Lax, b, Sy, e1, e2, qg, gr⟩ := ts23  (Th := Th) h
  obtain ⟨h9, kk⟩ := nx X T N Dr Kp Thx Lax Lb Lc Fo St Ri Br Ro Ot Sy A gr
  exact ⟨h9, e_wide (by omega) (by omega) (k23 hst hs ho hi hL e1 e2 qg kk)⟩
theorem zlw24 (hst : g.1.stackTraces = false) (hs : SH al ro) (ho : (16 * 27 + 0, 21, 1) ∈ al) (hi : i + 6 ≤ x_L g) (hL : x_L g < 2147483648) (h : GR X T N La Kp Lc A S) (nx : LwN g al ro M i 3041 K S0) : LwE g al ro M i 1416 [] X T N Dr Kp Th La Lb Lc Fo St Ri Br Ro Ot S A (3 + K) (18 + S0) := by
  obtain ⟨t0, b, Sy, e1, qe, e2, qg, gr⟩ := ts24 (a1 := x_sc g (i + 1)) (a2 := x_sc g (i + 2))  h
  obtain ⟨h9, kk⟩ := nx X T N Dr Kp Th La Lb Lc Fo St Ri Br Ro (x_out Ot t0) Sy A gr
  exact ⟨h9, e_wide (by omega) (by omega) (k24 hst hs ho hi hL e1 qe e2 qg kk)⟩
theorem zlw25 (hst : g.1.stackTraces = false) (hs : SH al ro) (ho : (16 * 27 + 0, 21, 1) ∈ al) (hi : i + 6 ≤ x_L g) (hL : x_L g < 2147483648) (h : GR X T N La Kp Lc A S) (nx : LwN g al ro M i 3041 K S0) : LwE g al ro M i 1484 [] X T N Dr Kp Th La Lb Lc Fo St Ri Br Ro Ot S A (3 + K) (18 + S0) := by
  obtain ⟨t0, Tx, Rox, b, Sy, e1, qe, e2, qg, gr⟩ := ts25 (a1 := x_sc g (i + 1)) (a2 := x_zb (x_sc g (i + 2))) (Ro := Ro) h
  obtain ⟨h9, kk⟩ := nx X Tx N Dr Kp Th La Lb Lc Fo St Ri Br Rox (x_out Ot t0) Sy A gr
  exact ⟨h9, e_wide (by omega) (by omega) (k25 hst hs ho hi hL e1 qe e2 qg kk)⟩
theorem zlw26 (hst : g.1.stackTraces = false) (hs : SH al ro) (ho : (16 * 27 + 0, 21, 1) ∈ al) (hi : i + 6 ≤ x_L g) (hL : x_L g < 2147483648) (h : GR X T N La Kp Lc A S) (nx : LwN g al ro M i 3041 K S0) : LwE g al ro M i 1568 [] X T N Dr Kp Th La Lb Lc Fo St Ri Br Ro Ot S A (3 + K) (18 + S0) := by
  obtain ⟨t0, Stx, b, Sy, e1, qe, e2, qg, gr⟩ := ts26 (a1 := x_sc g (i + 1)) (St := St) h
  obtain ⟨h9, kk⟩ := nx X T N Dr Kp Th La Lb Lc Fo Stx Ri Br Ro (x_out Ot t0) Sy A gr
  exact ⟨h9, e_wide (by omega) (by omega) (k26 hst hs ho hi hL e1 qe e2 qg kk)⟩
theorem zlw27 (hst : g.1.stackTraces = false) (hs : SH al ro) (ho : (16 * 27 + 0, 21, 1) ∈ al) (hi : i + 6 ≤ x_L g) (hL : x_L g < 2147483648) (h : GR X T N La Kp Lc A S) (nx : LwN g al ro M i 3041 K S0) : LwE g al ro M i 1624 [] X T N Dr Kp Th La Lb Lc Fo St Ri Br Ro Ot S A (3 + K) (18 + S0) := by
  obtain ⟨a, Stx, b, Sy, e1, e2, qg, gr⟩ := ts27  (St := St) h
  obtain ⟨h9, kk⟩ := nx X T N Dr Kp Th La Lb Lc Fo Stx Ri Br Ro Ot Sy A gr
  exact ⟨h9, e_wide (by omega) (by omega) (k27 hst hs ho hi hL e1 e2 qg kk)⟩
theorem zlw28 (hst : g.1.stackTraces = false) (hs : SH al ro) (ho : (16 * 27 + 0, 21, 1) ∈ al) (hi : i + 6 ≤ x_L g) (hL : x_L g < 2147483648) (h : GR X T N La Kp Lc A S) (nx : LwN g al ro M i 3041 K S0) : LwE g al ro M i 1637 [] X T N Dr Kp Th La Lb Lc Fo St Ri Br Ro Ot S A (3 + K) (18 + S0) := by
  obtain ⟨t0, b, Sy, e1, qe, e2, qg, gr⟩ := ts28 (a1 := x_sc g (i + 1))  h
  obtain ⟨h9, kk⟩ := nx X T N Dr Kp Th La Lb Lc Fo St Ri Br Ro (x_out Ot t0) Sy A gr
  exact ⟨h9, e_wide (by omega) (by omega) (k28 hst hs ho hi hL e1 qe e2 qg kk)⟩
theorem zlw29 (hst : g.1.stackTraces = false) (hs : SH al ro) (ho : (16 * 27 + 0, 21, 1) ∈ al) (hi : i + 6 ≤ x_L g) (hL : x_L g < 2147483648) (h : GR X T N La Kp Lc A S) (nx : LwN g al ro M i 3041 K S0) : LwE g al ro M i 1693 [] X T N Dr Kp Th La Lb Lc Fo St Ri Br Ro Ot S A (3 + K) (18 + S0) := by
  obtain ⟨t0, Stx, b, Sy, e1, qe, e2, qg, gr⟩ := ts29 (a1 := x_sc g (i + 1)) (a2 := x_zb (x_sc g (i + 2))) (St := St) h
  obtain ⟨h9, kk⟩ := nx X T N Dr Kp Th La Lb Lc Fo Stx Ri Br Ro (x_out Ot t0) Sy A gr
  exact ⟨h9, e_wide (by omega) (by omega) (k29 hst hs ho hi hL e1 qe e2 qg kk)⟩
theorem zlw30 (hst : g.1.stackTraces = false) (hs : SH al ro) (ho : (16 * 27 + 0, 21, 1) ∈ al) (hi : i + 6 ≤ x_L g) (hL : x_L g < 2147483648) (h : GR X T N La Kp Lc A S) (nx : LwN g al ro M i 3041 K S0) : LwE g al ro M i 1777 [] X T N Dr Kp Th La Lb Lc Fo St Ri Br Ro Ot S A (3 + K) (18 + S0) := by
  obtain ⟨a, b, Sy, e1, e2, qg, gr⟩ := ts30   h
  obtain ⟨h9, kk⟩ := nx X T N Dr Kp Th La Lb Lc Fo St Ri Br Ro Ot Sy A gr
  exact ⟨h9, e_wide (by omega) (by omega) (k30 hst hs ho hi hL e1 e2 qg kk)⟩
theorem zlw31 (hst : g.1.stackTraces = false) (hs : SH al ro) (ho : (16 * 27 + 0, 21, 1) ∈ al) (hi : i + 6 ≤ x_L g) (hL : x_L g < 2147483648) (h : GR X T N La Kp Lc A S) (nx : LwN g al ro M i 3041 K S0) : LwE g al ro M i 1790 [] X T N Dr Kp Th La Lb Lc Fo St Ri Br Ro Ot S A (3 + K) (18 + S0) := by
  obtain ⟨t0, Tx, Rix, b, Sy, e1, qe, e2, qg, gr⟩ := ts31 (a1 := x_zb (x_sc g (i + 1))) (Ri := Ri) h
  obtain ⟨h9, kk⟩ := nx X Tx N Dr Kp Th La Lb Lc Fo St Rix Br Ro (x_out Ot t0) Sy A gr
  exact ⟨h9, e_wide (by omega) (by omega) (k31 hst hs ho hi hL e1 qe e2 qg kk)⟩
theorem zlw32 (hst : g.1.stackTraces = false) (hs : SH al ro) (ho : (16 * 27 + 0, 21, 1) ∈ al) (hi : i + 6 ≤ x_L g) (hL : x_L g < 2147483648) (h : GR X T N La Kp Lc A S) (nx : LwN g al ro M i 3041 K S0) : LwE g al ro M i 1862 [] X T N Dr Kp Th La Lb Lc Fo St Ri Br Ro Ot S A (3 + K) (18 + S0) := by
  obtain ⟨t0, Tx, Rix, b, Sy, e1, qe, e2, qg, gr⟩ := ts32  (Ri := Ri) h
  obtain ⟨h9, kk⟩ := nx X Tx N Dr Kp Th La Lb Lc Fo St Rix Br Ro (x_out Ot t0) Sy A gr
  exact ⟨h9, e_wide (by omega) (by omega) (k32 hst hs ho hi hL e1 qe e2 qg kk)⟩
theorem zlw33 (hst : g.1.stackTraces = false) (hs : SH al ro) (ho : (16 * 27 + 0, 21, 1) ∈ al) (hi : i + 6 ≤ x_L g) (hL : x_L g < 2147483648) (h : GR X T N La Kp Lc A S) (nx : LwN g al ro M i 3041 K S0) : LwE g al ro M i 1906 [] X T N Dr Kp Th La Lb Lc Fo St Ri Br Ro Ot S A (3 + K) (18 + S0) := by
  obtain ⟨t0, Tx, Rix, b, Sy, e1, qe, e2, qg, gr⟩ := ts33 (a1 := x_zb (x_sc g (i + 1))) (Ri := Ri) h
  obtain ⟨h9, kk⟩ := nx X Tx N Dr Kp Th La Lb Lc Fo St Rix Br Ro (x_out Ot t0) Sy A gr
  exact ⟨h9, e_wide (by omega) (by omega) (k33 hst hs ho hi hL e1 qe e2 qg kk)⟩
theorem zlw34 (hst : g.1.stackTraces = false) (hs : SH al ro) (ho : (16 * 27 + 0, 21, 1) ∈ al) (hi : i + 6 ≤ x_L g) (hL : x_L g < 2147483648) (h : GR X T N La Kp Lc A S) (nx : LwN g al ro M i 3041 K S0) : LwE g al ro M i 1978 [] X T N Dr Kp Th La Lb Lc Fo St Ri Br Ro Ot S A (3 + K) (18 + S0) := by
  obtain ⟨t0, Tx, Rix, b, Sy, e1, qe, e2, qg, gr⟩ := ts34  (Ri := Ri) h
  obtain ⟨h9, kk⟩ := nx X Tx N Dr Kp Th La Lb Lc Fo St Rix Br Ro (x_out Ot t0) Sy A gr
  exact ⟨h9, e_wide (by omega) (by omega) (k34 hst hs ho hi hL e1 qe e2 qg kk)⟩
theorem zlw35 (hst : g.1.stackTraces = false) (hs : SH al ro) (ho : (16 * 27 + 0, 21, 1) ∈ al) (hi : i + 6 ≤ x_L g) (hL : x_L g < 2147483648) (h : GR X T N La Kp Lc A S) (nx : LwN g al ro M i 3041 K S0) : LwE g al ro M i 2022 [] X T N Dr Kp Th La Lb Lc Fo St Ri Br Ro Ot S A (3 + K) (18 + S0) := by
  obtain ⟨t0, Thx, b, Sy, e1, qe, e2, qg, gr⟩ := ts35 (a1 := x_sc g (i + 1)) (a2 := x_sc g (i + 2)) (Th := Th) h
  obtain ⟨h9, kk⟩ := nx X T N Dr Kp Thx La Lb Lc Fo St Ri Br Ro (x_out Ot t0) Sy A gr
  exact ⟨h9, e_wide (by omega) (by omega) (k35 hst hs ho hi hL e1 qe e2 qg kk)⟩
theorem zlw36 (hst : g.1.stackTraces = false) (hs : SH al ro) (ho : (16 * 27 + 0, 21, 1) ∈ al) (hi : i + 6 ≤ x_L g) (hL : x_L g < 2147483648) (h : GR X T N La Kp Lc A S) (nx : LwN g al ro M i 3041 K S0) : LwE g al ro M i 2090 [] X T N Dr Kp Th La Lb Lc Fo St Ri Br Ro Ot S A (3 + K) (18 + S0) := by
  obtain ⟨t0, b, Sy, e1, qe, e2, qg, gr⟩ := ts36 (a1 := x_sc g (i + 1))  h
  obtain ⟨h9, kk⟩ := nx X T N Dr Kp Th La Lb Lc Fo St Ri Br Ro (x_out Ot t0) Sy A gr
  exact ⟨h9, e_wide (by omega) (by omega) (k36 hst hs ho hi hL e1 qe e2 qg kk)⟩
theorem zlw37 (hst : g.1.stackTraces = false) (hs : SH al ro) (ho : (16 * 27 + 0, 21, 1) ∈ al) (hi : i + 6 ≤ x_L g) (hL : x_L g < 2147483648) (h : GR X T N La Kp Lc A S) (nx : LwN g al ro M i 3041 K S0) : LwE g al ro M i 2146 [] X T N Dr Kp Th La Lb Lc Fo St Ri Br Ro Ot S A (3 + K) (18 + S0) := by
  obtain ⟨t0, Brx, b, Sy, e1, qe, e2, qg, gr⟩ := ts37 (a1 := x_sc g (i + 1)) (Br := Br) h
  obtain ⟨h9, kk⟩ := nx X T N Dr Kp Th La Lb Lc Fo St Ri Brx Ro (x_out Ot t0) Sy A gr
  exact ⟨h9, e_wide (by omega) (by omega) (k37 hst hs ho hi hL e1 qe e2 qg kk)⟩
theorem zlw38 (hst : g.1.stackTraces = false) (hs : SH al ro) (ho : (16 * 27 + 0, 21, 1) ∈ al) (hi : i + 6 ≤ x_L g) (hL : x_L g < 2147483648) (h : GR X T N La Kp Lc A S) (nx : LwN g al ro M i 3041 K S0) : LwE g al ro M i 2202 [] X T N Dr Kp Th La Lb Lc Fo St Ri Br Ro Ot S A (3 + K) (18 + S0) := by
  obtain ⟨a, b, Sy, e1, e2, qg, gr⟩ := ts38   h
  obtain ⟨h9, kk⟩ := nx X T N Dr Kp Th La Lb Lc Fo St Ri Br Ro Ot Sy A gr
  exact ⟨h9, e_wide (by omega) (by omega) (k38 hst hs ho hi hL e1 e2 qg kk)⟩
theorem zlw39 (hst : g.1.stackTraces = false) (hs : SH al ro) (ho : (16 * 27 + 0, 21, 1) ∈ al) (hi : i + 6 ≤ x_L g) (hL : x_L g < 2147483648) (h : GR X T N La Kp Lc A S) (nx : LwN g al ro M i 3041 K S0) : LwE g al ro M i 2215 [] X T N Dr Kp Th La Lb Lc Fo St Ri Br Ro Ot S A (3 + K) (18 + S0) := by
  obtain ⟨a, b, Sy, e1, e2, qg, gr⟩ := ts39 (a1 := x_sc g (i + 1)) (ha := x_r32 _)  h
  obtain ⟨h9, kk⟩ := nx X T N Dr Kp Th La Lb Lc Fo St Ri Br Ro Ot Sy A gr
  exact ⟨h9, e_wide (by omega) (by omega) (k39 hst hs ho hi hL e1 e2 qg kk)⟩
theorem zlw40 (hst : g.1.stackTraces = false) (hs : SH al ro) (ho : (16 * 27 + 0, 21, 1) ∈ al) (hi : i + 6 ≤ x_L g) (hL : x_L g < 2147483648) (h : GR X T N La Kp Lc A S) (nx : LwN g al ro M i 3041 K S0) : LwE g al ro M i 2240 [] X T N Dr Kp Th La Lb Lc Fo St Ri Br Ro Ot S A (3 + K) (18 + S0) := by
  obtain ⟨t0, b, Sy, e1, qe, e2, qg, gr⟩ := ts40 (a1 := x_sc g (i + 1))  h
  obtain ⟨h9, kk⟩ := nx X T N Dr Kp Th La Lb Lc Fo St Ri Br Ro (x_out Ot t0) Sy A gr
  exact ⟨h9, e_wide (by omega) (by omega) (k40 hst hs ho hi hL e1 qe e2 qg kk)⟩
theorem zlw41 (hst : g.1.stackTraces = false) (hs : SH al ro) (ho : (16 * 27 + 0, 21, 1) ∈ al) (hi : i + 6 ≤ x_L g) (hL : x_L g < 2147483648) (h : GR X T N La Kp Lc A S) (nx : LwN g al ro M i 3041 K S0) : LwE g al ro M i 2296 [] X T N Dr Kp Th La Lb Lc Fo St Ri Br Ro Ot S A (3 + K) (18 + S0) := by
  obtain ⟨a, b, Sy, e1, e2, qg, gr⟩ := ts41   h
  obtain ⟨h9, kk⟩ := nx X T N Dr Kp Th La Lb Lc Fo St Ri Br Ro Ot Sy A gr
  exact ⟨h9, e_wide (by omega) (by omega) (k41 hst hs ho hi hL e1 e2 qg kk)⟩
theorem zlw42 (hst : g.1.stackTraces = false) (hs : SH al ro) (ho : (16 * 27 + 0, 21, 1) ∈ al) (hi : i + 6 ≤ x_L g) (hL : x_L g < 2147483648) (h : GR X T N La Kp Lc A S) (nx : LwN g al ro M i 3041 K S0) : LwE g al ro M i 2309 [] X T N Dr Kp Th La Lb Lc Fo St Ri Br Ro Ot S A (3 + K) (18 + S0) := by
  obtain ⟨t0, b, Sy, e1, qe, e2, qg, gr⟩ := ts42 (a1 := x_sc g (i + 1))  h
  obtain ⟨h9, kk⟩ := nx X T N Dr Kp Th La Lb Lc Fo St Ri Br Ro (x_out Ot t0) Sy A gr
  exact ⟨h9, e_wide (by omega) (by omega) (k42 hst hs ho hi hL e1 qe e2 qg kk)⟩
theorem zlw43 (hst : g.1.stackTraces = false) (hs : SH al ro) (ho : (16 * 27 + 0, 21, 1) ∈ al) (hi : i + 6 ≤ x_L g) (hL : x_L g < 2147483648) (h : GR X T N La Kp Lc A S) (nx : LwN g al ro M i 3041 K S0) : LwE g al ro M i 2365 [] X T N Dr Kp Th La Lb Lc Fo St Ri Br Ro Ot S A (3 + K) (18 + S0) := by
  obtain ⟨t0, Fox, b, Sy, e1, qe, e2, qg, gr⟩ := ts43 (a1 := x_sc g (i + 1)) (a2 := x_sc g (i + 2)) (Fo := Fo) h
  obtain ⟨h9, kk⟩ := nx X T N Dr Kp Th La Lb Lc Fox St Ri Br Ro (x_out Ot t0) Sy A gr
  exact ⟨h9, e_wide (by omega) (by omega) (k43 hst hs ho hi hL e1 qe e2 qg kk)⟩
theorem zlw44 (hst : g.1.stackTraces = false) (hs : SH al ro) (ho : (16 * 27 + 0, 21, 1) ∈ al) (hi : i + 6 ≤ x_L g) (hL : x_L g < 2147483648) (h : GR X T N La Kp Lc A S) (nx : LwN g al ro M i 3041 K S0) : LwE g al ro M i 2433 [] X T N Dr Kp Th La Lb Lc Fo St Ri Br Ro Ot S A (3 + K) (18 + S0) := by
  obtain ⟨a, b, Sy, e1, e2, qg, gr⟩ := ts44   h
  obtain ⟨h9, kk⟩ := nx X T N Dr Kp Th La Lb Lc Fo St Ri Br Ro Ot Sy A gr
  exact ⟨h9, e_wide (by omega) (by omega) (k44 hst hs ho hi hL e1 e2 qg kk)⟩
theorem zlw45 (hst : g.1.stackTraces = false) (hs : SH al ro) (ho : (16 * 27 + 0, 21, 1) ∈ al) (hi : i + 6 ≤ x_L g) (hL : x_L g < 2147483648) (h : GR X T N La Kp Lc A S) (nx : LwN g al ro M i 3041 K S0) : LwE g al ro M i 2446 [] X T N Dr Kp Th La Lb Lc Fo St Ri Br Ro Ot S A (3 + K) (18 + S0) := by
  obtain ⟨a, b, Sy, e1, e2, qg, gr⟩ := ts45   h
  obtain ⟨h9, kk⟩ := nx X T N Dr Kp Th La Lb Lc Fo St Ri Br Ro Ot Sy A gr
  exact ⟨h9, e_wide (by omega) (by omega) (k45 hst hs ho hi hL e1 e2 qg kk)⟩
theorem zlw46 (hst : g.1.stackTraces = false) (hs : SH al ro) (ho : (16 * 27 + 0, 21, 1) ∈ al) (hi : i + 6 ≤ x_L g) (hL : x_L g < 2147483648) (h : GR X T N La Kp Lc A S) (nx : LwN g al ro M i 3041 K S0) : LwE g al ro M i 2459 [] X T N Dr Kp Th La Lb Lc Fo St Ri Br Ro Ot S A (3 + K) (18 + S0) := by
  obtain ⟨a, b, Sy, e1, e2, qg, gr⟩ := ts46   h
  obtain ⟨h9, kk⟩ := nx X T N Dr Kp Th La Lb Lc Fo St Ri Br Ro Ot Sy A gr
  exact ⟨h9, e_wide (by omega) (by omega) (k46 hst hs ho hi hL e1 e2 qg kk)⟩
theorem zlw47 (hst : g.1.stackTraces = false) (hs : SH al ro) (ho : (16 * 27 + 0, 21, 1) ∈ al) (hi : i + 6 ≤ x_L g) (hL : x_L g < 2147483648) (h : GR X T N La Kp Lc A S) (nx : LwN g al ro M i 3041 K S0) : LwE g al ro M i 2472 [] X T N Dr Kp Th La Lb Lc Fo St Ri Br Ro Ot S A (3 + K) (18 + S0) := by
  obtain ⟨t0, b, Sy, e1, qe, e2, qg, gr⟩ := ts47 (a1 := x_sc g (i + 1))  h
  obtain ⟨h9, kk⟩ := nx X T N Dr Kp Th La Lb Lc Fo St Ri Br Ro (x_out Ot t0) Sy A gr
  exact ⟨h9, e_wide (by omega) (by omega) (k47 hst hs ho hi hL e1 qe e2 qg kk)⟩
theorem zlw48 (hst : g.1.stackTraces = false) (hs : SH al ro) (ho : (16 * 27 + 0, 21, 1) ∈ al) (hi : i + 6 ≤ x_L g) (hL : x_L g < 2147483648) (h : GR X T N La Kp Lc A S) (nx : LwN g al ro M i 3041 K S0) : LwE g al ro M i 2528 [] X T N Dr Kp Th La Lb Lc Fo St Ri Br Ro Ot S A (3 + K) (18 + S0) := by
  obtain ⟨a, b, Sy, e1, e2, qg, gr⟩ := ts48   h
  obtain ⟨h9, kk⟩ := nx X T N Dr Kp Th La Lb Lc Fo St Ri Br Ro Ot Sy A gr
  exact ⟨h9, e_wide (by omega) (by omega) (k48 hst hs ho hi hL e1 e2 qg kk)⟩
theorem zlw49 (hst : g.1.stackTraces = false) (hs : SH al ro) (ho : (16 * 27 + 0, 21, 1) ∈ al) (hi : i + 6 ≤ x_L g) (hL : x_L g < 2147483648) (h : GR X T N La Kp Lc A S) (nx : LwN g al ro M i 3041 K S0) : LwE g al ro M i 2541 [] X T N Dr Kp Th La Lb Lc Fo St Ri Br Ro Ot S A (3 + K) (18 + S0) := by
  obtain ⟨a, b, Sy, e1, e2, qg, gr⟩ := ts49   h
  obtain ⟨h9, kk⟩ := nx X T N Dr Kp Th La Lb Lc Fo St Ri Br Ro Ot Sy A gr
  exact ⟨h9, e_wide (by omega) (by omega) (k49 hst hs ho hi hL e1 e2 qg kk)⟩
theorem zlw50 (hst : g.1.stackTraces = false) (hs : SH al ro) (ho : (16 * 27 + 0, 21, 1) ∈ al) (hi : i + 6 ≤ x_L g) (hL : x_L g < 2147483648) (h : GR X T N La Kp Lc A S) (nx : LwN g al ro M i 3041 K S0) : LwE g al ro M i 2554 [] X T N Dr Kp Th La Lb Lc Fo St Ri Br Ro Ot S A (3 + K) (18 + S0) := by
  obtain ⟨t0, Thx, Lax, b, Sy, e1, qe, e2, qg, gr⟩ := ts50 (a1 := x_sc g (i + 1)) (a2 := x_sc g (i + 2)) (a3 := x_sc g (i + 3)) (Th := Th) h
  obtain ⟨h9, kk⟩ := nx X T N Dr Kp Thx Lax Lb Lc Fo St Ri Br Ro (x_out Ot t0) Sy A gr
  exact ⟨h9, e_wide (by omega) (by omega) (k50 hst hs ho hi hL e1 qe e2 qg kk)⟩
theorem zlw51 (hst : g.1.stackTraces = false) (hs : SH al ro) (ho : (16 * 27 + 0, 21, 1) ∈ al) (hi : i + 6 ≤ x_L g) (hL : x_L g < 2147483648) (h : GR X T N La Kp Lc A S) (nx : LwN g al ro M i 3041 K S0) : LwE g al ro M i 2634 [] X T N Dr Kp Th La Lb Lc Fo St Ri Br Ro Ot S A (3 + K) (18 + S0) := by
  obtain ⟨t0, Thx, Lax, b, Sy, e1, qe, e2, qg, gr⟩ := ts51 (a1 := x_sc g (i + 1)) (a2 := x_zb (x_sc g (i + 2))) (Th := Th) h
  obtain ⟨h9, kk⟩ := nx X T N Dr Kp Thx Lax Lb Lc Fo St Ri Br Ro (x_out Ot t0) Sy A gr
  exact ⟨h9, e_wide (by omega) (by omega) (k51 hst hs ho hi hL e1 qe e2 qg kk)⟩
theorem zlw52 (hst : g.1.stackTraces = false) (hs : SH al ro) (ho : (16 * 27 + 0, 21, 1) ∈ al) (hi : i + 6 ≤ x_L g) (hL : x_L g < 2147483648) (h : GR X T N La Kp Lc A S) (nx : LwN g al ro M i 3041 K S0) : LwE g al ro M i 2718 [] X T N Dr Kp Th La Lb Lc Fo St Ri Br Ro Ot S A (3 + K) (18 + S0) := by
  obtain ⟨t0, Thx, Lax, b, Sy, e1, qe, e2, qg, gr⟩ := ts52 (a1 := x_sc g (i + 1)) (a2 := x_zb (x_sc g (i + 2))) (Th := Th) h
  obtain ⟨h9, kk⟩ := nx X T N Dr Kp Thx Lax Lb Lc Fo St Ri Br Ro (x_out Ot t0) Sy A gr
  exact ⟨h9, e_wide (by omega) (by omega) (k52 hst hs ho hi hL e1 qe e2 qg kk)⟩
theorem zlw53 (hst : g.1.stackTraces = false) (hs : SH al ro) (ho : (16 * 27 + 0, 21, 1) ∈ al) (hi : i + 6 ≤ x_L g) (hL : x_L g < 2147483648) (h : GR X T N La Kp Lc A S) (nx : LwN g al ro M i 3041 K S0) : LwE g al ro M i 2802 [] X T N Dr Kp Th La Lb Lc Fo St Ri Br Ro Ot S A (3 + K) (18 + S0) := by
  obtain ⟨t0, b, Sy, e1, qe, e2, qg, gr⟩ := ts53 (a1 := x_sc g (i + 1)) (a2 := x_zb (x_sc g (i + 2)))  h
  obtain ⟨h9, kk⟩ := nx X T N Dr Kp Th La Lb Lc Fo St Ri Br Ro (x_out Ot t0) Sy A gr
  exact ⟨h9, e_wide (by omega) (by omega) (k53 hst hs ho hi hL e1 qe e2 qg kk)⟩
theorem zlw54 (hst : g.1.stackTraces = false) (hs : SH al ro) (ho : (16 * 27 + 0, 21, 1) ∈ al) (hi : i + 6 ≤ x_L g) (hL : x_L g < 2147483648) (h : GR X T N La Kp Lc A S) (nx : LwN g al ro M i 3041 K S0) : LwE g al ro M i 2886 [] X T N Dr Kp Th La Lb Lc Fo St Ri Br Ro Ot S A (3 + K) (18 + S0) := by
  obtain ⟨t0, b, Sy, e1, qe, e2, qg, gr⟩ := ts54 (a1 := x_sc g (i + 1)) (a2 := x_sc g (i + 2))  h
  obtain ⟨h9, kk⟩ := nx X T N Dr Kp Th La Lb Lc Fo St Ri Br Ro (x_out Ot t0) Sy A gr
  exact ⟨h9, e_wide (by omega) (by omega) (k54 hst hs ho hi hL e1 qe e2 qg kk)⟩
theorem zlw55 (hst : g.1.stackTraces = false) (hs : SH al ro) (ho : (16 * 27 + 0, 21, 1) ∈ al) (hi : i + 6 ≤ x_L g) (hL : x_L g < 2147483648) (h : GR X T N La Kp Lc A S) (nx : LwN g al ro M i 3041 K S0) : LwE g al ro M i 2954 [] X T N Dr Kp Th La Lb Lc Fo St Ri Br Ro Ot S A (3 + K) (18 + S0) := by
  obtain ⟨a, Nx, b, Sy, e1, e2, qg, gr⟩ := ts55 (a1 := x_sc g (i + 1)) (ha := x_r32 _)  h
  obtain ⟨h9, kk⟩ := nx X T Nx Dr Kp Th La Lb Lc Fo St Ri Br Ro Ot Sy A gr
  exact ⟨h9, e_wide (by omega) (by omega) (k55 hst hs ho hi hL e1 e2 qg kk)⟩
theorem zlw56 (hst : g.1.stackTraces = false) (hs : SH al ro) (ho : (16 * 27 + 0, 21, 1) ∈ al) (hi : i + 6 ≤ x_L g) (hL : x_L g < 2147483648) (h : GR X T N La Kp Lc A S) (nx : LwN g al ro M i 3041 K S0) : LwE g al ro M i 2979 [] X T N Dr Kp Th La Lb Lc Fo St Ri Br Ro Ot S A (3 + K) (18 + S0) := by
  obtain ⟨a, Xx, Nx, b, Sy, e1, e2, qg, gr⟩ := ts56   h
  obtain ⟨h9, kk⟩ := nx Xx T Nx Dr Kp Th La Lb Lc Fo St Ri Br Ro Ot Sy A gr
  exact ⟨h9, e_wide (by omega) (by omega) (k56 hst hs ho hi hL e1 e2 qg kk)⟩
theorem zlw57 (hst : g.1.stackTraces = false) (hs : SH al ro) (ho : (16 * 27 + 0, 21, 1) ∈ al) (hi : i + 6 ≤ x_L g) (hL : x_L g < 2147483648) (h : GR X T N La Kp Lc A S) (nx : LwN g al ro M i 3041 K S0) : LwE g al ro M i 2992 [] X T N Dr Kp Th La Lb Lc Fo St Ri Br Ro Ot S A (3 + K) (18 + S0) := by
  obtain ⟨Xx, Kpx, Lcx, Sy, e1, e2, gr⟩ := ts57   h
  obtain ⟨h9, kk⟩ := nx Xx T N Dr Kpx Th La Lb Lcx Fo St Ri Br Ro Ot Sy A gr
  exact ⟨h9, e_wide (by omega) (by omega) (k57 hst hs ho hi hL e1 e2 kk)⟩
theorem zlw58 (hst : g.1.stackTraces = false) (hs : SH al ro) (ho : (16 * 27 + 0, 21, 1) ∈ al) (hi : i + 6 ≤ x_L g) (hL : x_L g < 2147483648) (h : GR X T N La Kp Lc A S) (nx : LwN g al ro M i 3041 K S0) : LwE g al ro M i 3003 [] X T N Dr Kp Th La Lb Lc Fo St Ri Br Ro Ot S A (3 + K) (18 + S0) := by
  obtain ⟨a, Xx, Nx, Lax, b, Sy, e1, e2, qg, gr⟩ := ts58   h
  obtain ⟨h9, kk⟩ := nx Xx T Nx Dr Kp Th Lax Lb Lc Fo St Ri Br Ro Ot Sy A gr
  exact ⟨h9, e_wide (by omega) (by omega) (k58 hst hs ho hi hL e1 e2 qg kk)⟩
theorem zlw59 (hst : g.1.stackTraces = false) (hs : SH al ro) (ho : (16 * 27 + 0, 21, 1) ∈ al) (hi : i + 6 ≤ x_L g) (hL : x_L g < 2147483648) (h : GR X T N La Kp Lc A S) (nx : LwN g al ro M i 3041 K S0) : LwE g al ro M i 3016 [] X T N Dr Kp Th La Lb Lc Fo St Ri Br Ro Ot S A (3 + K) (18 + S0) := by
  obtain ⟨a, b, Sy, e1, e2, qg, gr⟩ := ts59 (a1 := x_sc g (i + 1))  h
  obtain ⟨h9, kk⟩ := nx X T N Dr Kp Th La Lb Lc Fo St Ri Br Ro Ot Sy A gr
  exact ⟨h9, e_wide (by omega) (by omega) (k59 hst hs ho hi hL e1 e2 qg kk)⟩
theorem zl_turn (hst : g.1.stackTraces = false) (hs : SH al ro) (ho : (16 * 27 + 0, 21, 1) ∈ al) (hL : x_L g < 2147483648) (hb : i < 2147483642) (h : GR X T N La Kp Lc A S) (nx : i + 6 ≤ x_L g → LwN g al ro M i 3041 K S0) : LwE g al ro M i 23 [] X T N Dr Kp Th La Lb Lc Fo St Ri Br Ro Ot S A (3 + K) (18 + S0) := by
  by_cases hi : i + 6 ≤ x_L g
  · obtain ⟨v, hv, ev⟩ := z_63 (x_sc g i)
    have sw : LwE g al ro M i 40 [x_i (v : Int)] X T N Dr Kp Th La Lb Lc Fo St Ri Br Ro Ot S A (3 + K) (18 + S0) := by
      by_cases w0 : v = 0
      · subst w0
        obtain ⟨h9, kk⟩ := zlw0 hst hs ho hi hL h (nx hi)
        exact ⟨h9, e_tabIn (tgt := 296) dL_law__40 (by decide) (by decide) rfl (by decide) kk⟩
      by_cases w1 : v = 1
      · subst w1
        obtain ⟨h9, kk⟩ := zlw1 hst hs ho hi hL h (nx hi)
        exact ⟨h9, e_tabIn (tgt := 369) dL_law__40 (by decide) (by decide) rfl (by decide) kk⟩
      by_cases w2 : v = 2
      · subst w2
        obtain ⟨h9, kk⟩ := zlw2 hst hs ho hi hL h (nx hi)
        exact ⟨h9, e_tabIn (tgt := 394) dL_law__40 (by decide) (by decide) rfl (by decide) kk⟩
      by_cases w3 : v = 3
      · subst w3
        obtain ⟨h9, kk⟩ := zlw3 hst hs ho hi hL h (nx hi)
        exact ⟨h9, e_tabIn (tgt := 438) dL_law__40 (by decide) (by decide) rfl (by decide) kk⟩
      by_cases w4 : v = 4
      · subst w4
        obtain ⟨h9, kk⟩ := zlw4 hst hs ho hi hL h (nx hi)
        exact ⟨h9, e_tabIn (tgt := 482) dL_law__40 (by decide) (by decide) rfl (by decide) kk⟩
      by_cases w5 : v = 5
      · subst w5
        obtain ⟨h9, kk⟩ := zlw5 hst hs ho hi hL h (nx hi)
        exact ⟨h9, e_tabIn (tgt := 495) dL_law__40 (by decide) (by decide) rfl (by decide) kk⟩
      by_cases w6 : v = 6
      · subst w6
        obtain ⟨h9, kk⟩ := zlw6 hst hs ho hi hL h (nx hi)
        exact ⟨h9, e_tabIn (tgt := 563) dL_law__40 (by decide) (by decide) rfl (by decide) kk⟩
      by_cases w7 : v = 7
      · subst w7
        obtain ⟨h9, kk⟩ := zlw7 hst hs ho hi hL h (nx hi)
        exact ⟨h9, e_tabIn (tgt := 619) dL_law__40 (by decide) (by decide) rfl (by decide) kk⟩
      by_cases w8 : v = 8
      · subst w8
        obtain ⟨h9, kk⟩ := zlw8 hst hs ho hi hL h (nx hi)
        exact ⟨h9, e_tabIn (tgt := 675) dL_law__40 (by decide) (by decide) rfl (by decide) kk⟩
      by_cases w9 : v = 9
      · subst w9
        obtain ⟨h9, kk⟩ := zlw9 hst hs ho hi hL h (nx hi)
        exact ⟨h9, e_tabIn (tgt := 731) dL_law__40 (by decide) (by decide) rfl (by decide) kk⟩
      by_cases w10 : v = 10
      · subst w10
        obtain ⟨h9, kk⟩ := zlw10 hst hs ho hi hL h (nx hi)
        exact ⟨h9, e_tabIn (tgt := 787) dL_law__40 (by decide) (by decide) rfl (by decide) kk⟩
      by_cases w11 : v = 11
      · subst w11
        obtain ⟨h9, kk⟩ := zlw11 hst hs ho hi hL h (nx hi)
        exact ⟨h9, e_tabIn (tgt := 843) dL_law__40 (by decide) (by decide) rfl (by decide) kk⟩
      by_cases w12 : v = 12
      · subst w12
        obtain ⟨h9, kk⟩ := zlw12 hst hs ho hi hL h (nx hi)
        exact ⟨h9, e_tabIn (tgt := 899) dL_law__40 (by decide) (by decide) rfl (by decide) kk⟩
      by_cases w13 : v = 13
      · subst w13
        obtain ⟨h9, kk⟩ := zlw13 hst hs ho hi hL h (nx hi)
        exact ⟨h9, e_tabIn (tgt := 967) dL_law__40 (by decide) (by decide) rfl (by decide) kk⟩
      by_cases w14 : v = 14
      · subst w14
        obtain ⟨h9, kk⟩ := zlw14 hst hs ho hi hL h (nx hi)
        exact ⟨h9, e_tabIn (tgt := 1035) dL_law__40 (by decide) (by decide) rfl (by decide) kk⟩
      by_cases w15 : v = 15
      · subst w15
        obtain ⟨h9, kk⟩ := zlw15 hst hs ho hi hL h (nx hi)
        exact ⟨h9, e_tabIn (tgt := 1103) dL_law__40 (by decide) (by decide) rfl (by decide) kk⟩
      by_cases w16 : v = 16
      · subst w16
        obtain ⟨h9, kk⟩ := zlw16 hst hs ho hi hL h (nx hi)
        exact ⟨h9, e_tabIn (tgt := 1159) dL_law__40 (by decide) (by decide) rfl (by decide) kk⟩
      by_cases w17 : v = 17
      · subst w17
        obtain ⟨h9, kk⟩ := zlw17 hst hs ho hi hL h (nx hi)
        exact ⟨h9, e_tabIn (tgt := 1172) dL_law__40 (by decide) (by decide) rfl (by decide) kk⟩
      by_cases w18 : v = 18
      · subst w18
        obtain ⟨h9, kk⟩ := zlw18 hst hs ho hi hL h (nx hi)
        exact ⟨h9, e_tabIn (tgt := 1240) dL_law__40 (by decide) (by decide) rfl (by decide) kk⟩
      by_cases w19 : v = 19
      · subst w19
        obtain ⟨h9, kk⟩ := zlw19 hst hs ho hi hL h (nx hi)
        exact ⟨h9, e_tabIn (tgt := 1308) dL_law__40 (by decide) (by decide) rfl (by decide) kk⟩
      by_cases w20 : v = 20
      · subst w20
        obtain ⟨h9, kk⟩ := zlw20 hst hs ho hi hL h (nx hi)
        exact ⟨h9, e_tabIn (tgt := 1364) dL_law__40 (by decide) (by decide) rfl (by decide) kk⟩
      by_cases w21 : v = 21
      · subst w21
        obtain ⟨h9, kk⟩ := zlw21 hst hs ho hi hL h (nx hi)
        exact ⟨h9, e_tabIn (tgt := 1377) dL_law__40 (by decide) (by decide) rfl (by decide) kk⟩
      by_cases w22 : v = 22
      · subst w22
        obtain ⟨h9, kk⟩ := zlw22 hst hs ho hi hL h (nx hi)
        exact ⟨h9, e_tabIn (tgt := 1390) dL_law__40 (by decide) (by decide) rfl (by decide) kk⟩
      by_cases w23 : v = 23
      · subst w23
        obtain ⟨h9, kk⟩ := zlw23 hst hs ho hi hL h (nx hi)
        exact ⟨h9, e_tabIn (tgt := 1403) dL_law__40 (by decide) (by decide) rfl (by decide) kk⟩
      by_cases w24 : v = 24
      · subst w24
        obtain ⟨h9, kk⟩ := zlw24 hst hs ho hi hL h (nx hi)
        exact ⟨h9, e_tabIn (tgt := 1416) dL_law__40 (by decide) (by decide) rfl (by decide) kk⟩
      by_cases w25 : v = 25
      · subst w25
        obtain ⟨h9, kk⟩ := zlw25 hst hs ho hi hL h (nx hi)
        exact ⟨h9, e_tabIn (tgt := 1484) dL_law__40 (by decide) (by decide) rfl (by decide) kk⟩
      by_cases w26 : v = 26
      · subst w26
        obtain ⟨h9, kk⟩ := zlw26 hst hs ho hi hL h (nx hi)
        exact ⟨h9, e_tabIn (tgt := 1568) dL_law__40 (by decide) (by decide) rfl (by decide) kk⟩
      by_cases w27 : v = 27
      · subst w27
        obtain ⟨h9, kk⟩ := zlw27 hst hs ho hi hL h (nx hi)
        exact ⟨h9, e_tabIn (tgt := 1624) dL_law__40 (by decide) (by decide) rfl (by decide) kk⟩
      by_cases w28 : v = 28
      · subst w28
        obtain ⟨h9, kk⟩ := zlw28 hst hs ho hi hL h (nx hi)
        exact ⟨h9, e_tabIn (tgt := 1637) dL_law__40 (by decide) (by decide) rfl (by decide) kk⟩
      by_cases w29 : v = 29
      · subst w29
        obtain ⟨h9, kk⟩ := zlw29 hst hs ho hi hL h (nx hi)
        exact ⟨h9, e_tabIn (tgt := 1693) dL_law__40 (by decide) (by decide) rfl (by decide) kk⟩
      by_cases w30 : v = 30
      · subst w30
        obtain ⟨h9, kk⟩ := zlw30 hst hs ho hi hL h (nx hi)
        exact ⟨h9, e_tabIn (tgt := 1777) dL_law__40 (by decide) (by decide) rfl (by decide) kk⟩
      by_cases w31 : v = 31
      · subst w31
        obtain ⟨h9, kk⟩ := zlw31 hst hs ho hi hL h (nx hi)
        exact ⟨h9, e_tabIn (tgt := 1790) dL_law__40 (by decide) (by decide) rfl (by decide) kk⟩
      by_cases w32 : v = 32
      · subst w32
        obtain ⟨h9, kk⟩ := zlw32 hst hs ho hi hL h (nx hi)
        exact ⟨h9, e_tabIn (tgt := 1862) dL_law__40 (by decide) (by decide) rfl (by decide) kk⟩
      by_cases w33 : v = 33
      · subst w33
        obtain ⟨h9, kk⟩ := zlw33 hst hs ho hi hL h (nx hi)
        exact ⟨h9, e_tabIn (tgt := 1906) dL_law__40 (by decide) (by decide) rfl (by decide) kk⟩
      by_cases w34 : v = 34
      · subst w34
        obtain ⟨h9, kk⟩ := zlw34 hst hs ho hi hL h (nx hi)
        exact ⟨h9, e_tabIn (tgt := 1978) dL_law__40 (by decide) (by decide) rfl (by decide) kk⟩
      by_cases w35 : v = 35
      · subst w35
        obtain ⟨h9, kk⟩ := zlw35 hst hs ho hi hL h (nx hi)
        exact ⟨h9, e_tabIn (tgt := 2022) dL_law__40 (by decide) (by decide) rfl (by decide) kk⟩
      by_cases w36 : v = 36
      · subst w36
        obtain ⟨h9, kk⟩ := zlw36 hst hs ho hi hL h (nx hi)
        exact ⟨h9, e_tabIn (tgt := 2090) dL_law__40 (by decide) (by decide) rfl (by decide) kk⟩
      by_cases w37 : v = 37
      · subst w37
        obtain ⟨h9, kk⟩ := zlw37 hst hs ho hi hL h (nx hi)
        exact ⟨h9, e_tabIn (tgt := 2146) dL_law__40 (by decide) (by decide) rfl (by decide) kk⟩
      by_cases w38 : v = 38
      · subst w38
        obtain ⟨h9, kk⟩ := zlw38 hst hs ho hi hL h (nx hi)
        exact ⟨h9, e_tabIn (tgt := 2202) dL_law__40 (by decide) (by decide) rfl (by decide) kk⟩
      by_cases w39 : v = 39
      · subst w39
        obtain ⟨h9, kk⟩ := zlw39 hst hs ho hi hL h (nx hi)
        exact ⟨h9, e_tabIn (tgt := 2215) dL_law__40 (by decide) (by decide) rfl (by decide) kk⟩
      by_cases w40 : v = 40
      · subst w40
        obtain ⟨h9, kk⟩ := zlw40 hst hs ho hi hL h (nx hi)
        exact ⟨h9, e_tabIn (tgt := 2240) dL_law__40 (by decide) (by decide) rfl (by decide) kk⟩
      by_cases w41 : v = 41
      · subst w41
        obtain ⟨h9, kk⟩ := zlw41 hst hs ho hi hL h (nx hi)
        exact ⟨h9, e_tabIn (tgt := 2296) dL_law__40 (by decide) (by decide) rfl (by decide) kk⟩
      by_cases w42 : v = 42
      · subst w42
        obtain ⟨h9, kk⟩ := zlw42 hst hs ho hi hL h (nx hi)
        exact ⟨h9, e_tabIn (tgt := 2309) dL_law__40 (by decide) (by decide) rfl (by decide) kk⟩
      by_cases w43 : v = 43
      · subst w43
        obtain ⟨h9, kk⟩ := zlw43 hst hs ho hi hL h (nx hi)
        exact ⟨h9, e_tabIn (tgt := 2365) dL_law__40 (by decide) (by decide) rfl (by decide) kk⟩
      by_cases w44 : v = 44
      · subst w44
        obtain ⟨h9, kk⟩ := zlw44 hst hs ho hi hL h (nx hi)
        exact ⟨h9, e_tabIn (tgt := 2433) dL_law__40 (by decide) (by decide) rfl (by decide) kk⟩
      by_cases w45 : v = 45
      · subst w45
        obtain ⟨h9, kk⟩ := zlw45 hst hs ho hi hL h (nx hi)
        exact ⟨h9, e_tabIn (tgt := 2446) dL_law__40 (by decide) (by decide) rfl (by decide) kk⟩
      by_cases w46 : v = 46
      · subst w46
        obtain ⟨h9, kk⟩ := zlw46 hst hs ho hi hL h (nx hi)
        exact ⟨h9, e_tabIn (tgt := 2459) dL_law__40 (by decide) (by decide) rfl (by decide) kk⟩
      by_cases w47 : v = 47
      · subst w47
        obtain ⟨h9, kk⟩ := zlw47 hst hs ho hi hL h (nx hi)
        exact ⟨h9, e_tabIn (tgt := 2472) dL_law__40 (by decide) (by decide) rfl (by decide) kk⟩
      by_cases w48 : v = 48
      · subst w48
        obtain ⟨h9, kk⟩ := zlw48 hst hs ho hi hL h (nx hi)
        exact ⟨h9, e_tabIn (tgt := 2528) dL_law__40 (by decide) (by decide) rfl (by decide) kk⟩
      by_cases w49 : v = 49
      · subst w49
        obtain ⟨h9, kk⟩ := zlw49 hst hs ho hi hL h (nx hi)
        exact ⟨h9, e_tabIn (tgt := 2541) dL_law__40 (by decide) (by decide) rfl (by decide) kk⟩
      by_cases w50 : v = 50
      · subst w50
        obtain ⟨h9, kk⟩ := zlw50 hst hs ho hi hL h (nx hi)
        exact ⟨h9, e_tabIn (tgt := 2554) dL_law__40 (by decide) (by decide) rfl (by decide) kk⟩
      by_cases w51 : v = 51
      · subst w51
        obtain ⟨h9, kk⟩ := zlw51 hst hs ho hi hL h (nx hi)
        exact ⟨h9, e_tabIn (tgt := 2634) dL_law__40 (by decide) (by decide) rfl (by decide) kk⟩
      by_cases w52 : v = 52
      · subst w52
        obtain ⟨h9, kk⟩ := zlw52 hst hs ho hi hL h (nx hi)
        exact ⟨h9, e_tabIn (tgt := 2718) dL_law__40 (by decide) (by decide) rfl (by decide) kk⟩
      by_cases w53 : v = 53
      · subst w53
        obtain ⟨h9, kk⟩ := zlw53 hst hs ho hi hL h (nx hi)
        exact ⟨h9, e_tabIn (tgt := 2802) dL_law__40 (by decide) (by decide) rfl (by decide) kk⟩
      by_cases w54 : v = 54
      · subst w54
        obtain ⟨h9, kk⟩ := zlw54 hst hs ho hi hL h (nx hi)
        exact ⟨h9, e_tabIn (tgt := 2886) dL_law__40 (by decide) (by decide) rfl (by decide) kk⟩
      by_cases w55 : v = 55
      · subst w55
        obtain ⟨h9, kk⟩ := zlw55 hst hs ho hi hL h (nx hi)
        exact ⟨h9, e_tabIn (tgt := 2954) dL_law__40 (by decide) (by decide) rfl (by decide) kk⟩
      by_cases w56 : v = 56
      · subst w56
        obtain ⟨h9, kk⟩ := zlw56 hst hs ho hi hL h (nx hi)
        exact ⟨h9, e_tabIn (tgt := 2979) dL_law__40 (by decide) (by decide) rfl (by decide) kk⟩
      by_cases w57 : v = 57
      · subst w57
        obtain ⟨h9, kk⟩ := zlw57 hst hs ho hi hL h (nx hi)
        exact ⟨h9, e_tabIn (tgt := 2992) dL_law__40 (by decide) (by decide) rfl (by decide) kk⟩
      by_cases w58 : v = 58
      · subst w58
        obtain ⟨h9, kk⟩ := zlw58 hst hs ho hi hL h (nx hi)
        exact ⟨h9, e_tabIn (tgt := 3003) dL_law__40 (by decide) (by decide) rfl (by decide) kk⟩
      by_cases w59 : v = 59
      · subst w59
        obtain ⟨h9, kk⟩ := zlw59 hst hs ho hi hL h (nx hi)
        exact ⟨h9, e_tabIn (tgt := 3016) dL_law__40 (by decide) (by decide) rfl (by decide) kk⟩
      obtain ⟨h9, kk⟩ := nx hi X T N Dr Kp Th La Lb Lc Fo St Ri Br Ro Ot S A h
      exact ⟨h9, e_tabOut (tgt := 3041) dL_law__40 (.inr (by omega)) (by decide) (e_wide (by omega) (by omega) kk)⟩
    obtain ⟨h9, kk⟩ := sw
    refine ⟨h9, ?_⟩
    refine e_iload (pc := 23) dL_law__23 rfl ?_
    refine e_aloadn (pc := 25) (i := 0) dL_law__25 rfl rfl ?_
    refine e_slen (pc := 26) dL_law__26 hL ?_
    refine e_bipush (pc := 27) dL_law__27 (by decide +kernel) (x_R rfl) ?_
    refine e_isub (pc := 29) dL_law__29 ?_
    rw [x_sub_of ⟨by omega, by omega⟩]
    refine e_icmp_gt (pc := 30) (tgt := 3047) dL_law__30 (by decide) (fun q => absurd q (by omega)) (fun _ => ?_)
    refine e_aloadn (pc := 33) (i := 0) dL_law__33 rfl rfl ?_
    refine e_iload (pc := 34) dL_law__34 rfl ?_
    refine e_sld (pc := 36) dL_law__36 (by omega) (by omega) ?_
    refine e_bipush (pc := 37) dL_law__37 (by decide +kernel) (x_R rfl) ?_
    refine e_iand (pc := 39) dL_law__39 ?_
    rw [show x_and (x_xs g ((i : Int)).toNat).toInt 63 = (v : Int) from ev]
    exact kk
  · refine ⟨(al, ro, fl (ml (x_ac M A) [1, 2, 3, 4, 5, 18, 19, 20, 21, 22, 23, 24, 25, 26, 27, 32] [X, T, N, Dr, Kp, Th, La, Lb, Lc, Fo, St, Ri, Br, Ro, Ot, S])), ?_⟩
    refine e_iload (pc := 23) dL_law__23 rfl ?_
    refine e_aloadn (pc := 25) (i := 0) dL_law__25 rfl rfl ?_
    refine e_slen (pc := 26) dL_law__26 hL ?_
    refine e_bipush (pc := 27) dL_law__27 (by decide +kernel) (x_R rfl) ?_
    refine e_isub (pc := 29) dL_law__29 ?_
    rw [x_sub_of ⟨by omega, by omega⟩]
    refine e_icmp_gt (pc := 30) (tgt := 3047) dL_law__30 (by decide) (fun _ => ?_) (fun q => absurd (by omega) q)
    refine e_iconst (pc := 3047) dL_law__3047 (x_R rfl) ?_
    refine e_wide (K0 := 0) (S0 := 0) (by omega) (by omega) ?_
    exact e_ireturn (pc := 3048) (ty := .boolean) rfl dL_law__3048 (by decide +kernel)
/-- all turns -/
theorem zl_all (hst : g.1.stackTraces = false) (hs : SH al ro) (ho : (16 * 27 + 0, 21, 1) ∈ al) (hL : x_L g < 2147483642) : ∀ r i : Nat, x_L g < i + 6 * (r + 1) → i ≤ x_L g → LwN g al ro M i 23 (3 * (r + 1)) (18 * (r + 1)) := by
  intro r
  induction r with
  | zero =>
    intro i h1 h2 X T N Dr Kp Th La Lb Lc Fo St Ri Br Ro Ot S A h
    exact zl_turn (K := 0) (S0 := 0) hst hs ho (by omega) (by omega) h (fun hi => absurd hi (by omega))
  | succ r ih =>
    intro i h1 h2 X T N Dr Kp Th La Lb Lc Fo St Ri Br Ro Ot S A h
    have zz := zl_turn (K := 3 * (r + 1)) (S0 := 18 * (r + 1)) (M := M) (i := i) (X := X) (T := T) (N := N) (Dr := Dr) (Kp := Kp) (Th := Th) (La := La) (Lb := Lb) (Lc := Lc) (Fo := Fo) (St := St) (Ri := Ri) (Br := Br) (Ro := Ro) (Ot := Ot) (S := S) hst hs ho (by omega) (by omega) h (fun hi X T N Dr Kp Th La Lb Lc Fo St Ri Br Ro Ot S A h => by
      obtain ⟨h9, kk⟩ := ih (i + 6) (by omega) hi X T N Dr Kp Th La Lb Lc Fo St Ri Br Ro Ot S A h
      refine ⟨h9, ?_⟩
      refine e_iinc (pc := 3041) (i := 4) (n := 6) (x := (i : Int)) dL_law__3041 rfl (by decide) rfl ?_
      rw [show x_add (i : Int) 6 = ((i + 6 : Nat) : Int) from n_add (b := 6) (by omega)]
      exact e_goto (pc := 3044) (tgt := 23) dL_law__3044 (by decide) kk)
    obtain ⟨h9, kk⟩ := zz
    exact ⟨h9, e_wide (by omega) (by omega) kk⟩
end ZLOOP
