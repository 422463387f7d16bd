/-! The whole state, and that each call keeps it. -/
def GR (X T N La Kp Lc : xU) (A : xA) (S : xU) : Prop := CR N (S 1) ∧ Iv (S 1) ∧ LR La (S 1) ∧ TR T S ∧ X 0 16 = S 0 12 ∧ IR X Kp Lc S ∧ AR X A S ∧ Fl S
def x_ce (l : List Nat) (E : Nat) : Int := ((l.idxOf E : Nat) : Int) + 1
theorem Ag.to {cd : Nat → Int} {l : List Nat} {o : Int ⊕ Nat} {b : Int} {S' : xU} (h : Ag cd o b S') (hE : ∀ E, o = .inr E → E ∈ l) (hc : ∀ E, E ∈ l → cd E = x_ce l E) : Ag (x_ce l) o b S' := by
  cases o with
  | inl v => exact h
  | inr E => exact (show S' 0 0 = cd E from h).trans (hc E (hE E rfl))
section GRS
variable {X T N La Kp Lc S S' X' T' N' La' Dr Th Lb Fo St Ri Br Ro : xU} {A A' : xA}
theorem TR.cg (h : TR T S) (e5 : S' 5 = S 5) (e8 : S' 0 8 = S 0 8) : TR T S' := by
  obtain ⟨n, h1, h2, h3, h4⟩ := h
  exact ⟨n, h1, h2, e8.trans h3, by rw [e5]; exact h4⟩
theorem IR.cg (h : IR X Kp Lc S) (e3 : S' 0 3 = S 0 3) (e2 : S' 2 = S 2) (ex : X' 0 13 = X 0 13) : IR X' Kp Lc S' := by
  unfold IR
  rw [e3, e2, ex]
  exact h
theorem GR.tr (h : GR X T N La Kp Lc A S) : TR T S := h.2.2.2.1
theorem GR.fa (h : GR X T N La Kp Lc A S) : X 0 16 = S 0 12 := h.2.2.2.2.1
theorem GR.ir (h : GR X T N La Kp Lc A S) : IR X Kp Lc S := h.2.2.2.2.2.1
theorem GR.ar (h : GR X T N La Kp Lc A S) : AR X A S := h.2.2.2.2.2.2.1
theorem GR.fl (h : GR X T N La Kp Lc A S) : Fl S := h.2.2.2.2.2.2.2
theorem GR.kw (h : GR X T N La Kp Lc A S) (k : Kw S S') (l : LaEq La La') : GR X T N La' Kp Lc A S' := by
  obtain ⟨k1, k2, k4, k5, k03, k06, k08, k012, kf⟩ := k
  have kk : Kw S S' := ⟨k1, k2, k4, k5, k03, k06, k08, k012, kf⟩
  exact ⟨kk.cr h.1 h.2.1, kk.iv h.2.1, h.2.2.1.mv l kk.lw, h.tr.cg k5 k08, h.fa.trans k012.symm, h.ir.cg k03 k2 rfl, h.ar.cg k4 k06 (k1 1 (by decide)) (k1 2 (by decide)), kf h.fl⟩
theorem GR.th (h : GR X T N La Kp Lc A S) {v : Int} : GR X T N La Kp Lc A (x_up S 0 0 v) := h.kw Kw.th LaEq.rf
theorem GR.fr (h : GR X T N La Kp Lc A S) (f1 : ∀ o, o ≠ 0 → o < 7 → S' o = S o) (f2 : ∀ i, i ≠ 0 → S' 0 i = S 0 i) : GR X T N La Kp Lc A S' :=
  h.kw ⟨fun i _ => by rw [f1 1 (by decide) (by decide)], f1 2 (by decide) (by decide), f1 4 (by decide) (by decide), f1 5 (by decide) (by decide), f2 3 (by decide), f2 6 (by decide), f2 8 (by decide), f2 12 (by decide), fun w => w.cg (f2 15 (by decide)) (f2 16 (by decide))⟩ LaEq.rf
theorem GR.kz (h : GR X T N La Kp Lc A S) (hT : TR T' S') (k : Kz S S') : GR X T' N La Kp Lc A S' := by
  obtain ⟨f1, f2⟩ := k
  have e1 := f1 1 (by decide) (by decide)
  refine ⟨by rw [e1]; exact h.1, by rw [e1]; exact h.2.1, by rw [e1]; exact h.2.2.1, hT, h.fa.trans (f2 12 (by decide) (by decide)).symm, h.ir.cg (f2 3 (by decide) (by decide)) (f1 2 (by decide) (by decide)) rfl, h.ar.cg (f1 4 (by decide) (by decide)) (f2 6 (by decide) (by decide)) (by rw [e1]) (by rw [e1]), h.fl.cg (f2 15 (by decide) (by decide)) (f2 16 (by decide) (by decide))⟩
theorem GR.fd (h : GR X T N La Kp Lc A S) (hT : TR T' S') (f1 : ∀ o, o ≠ 0 → o ≠ 5 → S' o = S o) (f2 : ∀ i, i ≠ 0 → i ≠ 8 → S' 0 i = S 0 i) : GR X T' N La Kp Lc A S' := by
  have e1 := f1 1 (by decide) (by decide)
  refine ⟨by rw [e1]; exact h.1, by rw [e1]; exact h.2.1, by rw [e1]; exact h.2.2.1, hT, h.fa.trans (f2 12 (by decide) (by decide)).symm, h.ir.cg (f2 3 (by decide) (by decide)) (f1 2 (by decide) (by decide)) rfl, h.ar.cg (f1 4 (by decide) (by decide)) (f2 6 (by decide) (by decide)) (by rw [e1]) (by rw [e1]), h.fl.cg (f2 15 (by decide) (by decide)) (f2 16 (by decide) (by decide))⟩
theorem GR.ac (h : GR X T N La Kp Lc A S) (a : Aft X S X' S' N' A') (l : LaEq La La') : GR X' T N' La' Kp Lc A' S' := by
  obtain ⟨a1, a2, a3, a4, ⟨k2, k5, k03, k08, k012, kf⟩, a6, a7⟩ := a
  exact ⟨a1, a2, h.2.2.1.mv l a4, h.tr.cg k5 k08, (a7 16 (by decide) (by decide)).trans (h.fa.trans k012.symm), h.ir.cg k03 k2 (a7 13 (by decide) (by decide)), a3, kf h.fl⟩
theorem ts0 {a1 : Int} {a2 : Int} {a3 : Int} {a4 : Int} {a5 : Int}  (h : GR X T N La Kp Lc A S) : ∃ (a : Int) (Tx : xU) (b : Int) (Sy : xU), G11_feed a1 a2 a3 a4 a5 T = some (a, Tx) ∧ G12_feed a1 a2 a3 a4 a5 S = some (b, Sy) ∧ a = b ∧ GR X Tx N La Kp Lc A Sy := by
  obtain ⟨r, T2, S2, e1, e2, q0, q1, q2, q3⟩ := L_feed h.tr
  exact ⟨r, T2, r, S2, e1, e2, rfl, h.fd q1 q2 q3⟩
theorem ts1 {a1 : Int}  (h : GR X T N La Kp Lc A S) : ∃ (a : Int) (Tx : xU) (b : Int) (Sy : xU), G11_end a1 T = some (a, Tx) ∧ G12_end a1 S = some (b, Sy) ∧ a = b ∧ GR X Tx N La Kp Lc A Sy := by
  obtain ⟨r, T2, S2, e1, e2, q0, q1, q2, q3⟩ := L_end h.tr
  exact ⟨r, T2, r, S2, e1, e2, rfl, h.fd q1 (fun o o0 _ => q2 o o0) q3⟩
theorem ts2  (h : GR X T N La Kp Lc A S) : ∃ (t0 : Int ⊕ Nat) (Xx : xU) (Tx : xU) (Nx : xU) (Drx : xU) (b : Int) (Sy : xU), G11_cloister X T N Dr = some (t0, Xx, Tx, Nx, Drx) ∧ (∀ E, t0 = .inr E → E ∈ ([0, 4] : List Nat)) ∧ G12_cloister S = some (b, Sy) ∧ Ag (x_ce [0, 4]) t0 b Sy ∧ GR Xx Tx Nx La Kp Lc A Sy := by
  obtain ⟨o1, X2, T2, N2, Dr2, b, S2, e1, e2, q1, q2, q3, q4, q5, q6, q7, q8, q9, q10, q11, q12⟩ := L_cloister (Dr := Dr) h.1 h.2.1 h.tr h.ar
  exact ⟨o1, X2, T2, N2, Dr2, b, S2, e1, (ez2 e1), e2, q1.to (ez2 e1) (by decide), q3, q4, h.2.2.1.mv LaEq.rf q5, q7, q10, h.ir.cg q9 q8 q11, q6, q12 h.fl⟩
theorem ts3  (h : GR X T N La Kp Lc A S) : ∃ (t0 : Int ⊕ Nat) (Xx : xU) (Tx : xU) (Lax : xU) (Lbx : xU) (b : Int) (Sy : xU), G11_law X T La Lb = some (t0, Xx, Tx, Lax, Lbx) ∧ (∀ E, t0 = .inr E → E ∈ ([0] : List Nat)) ∧ G12_law S = some (b, Sy) ∧ Ag (x_ce [0]) t0 b Sy ∧ GR Xx Tx N Lax Kp Lc A Sy := by
  obtain ⟨o1, X2, T2, La2, Lb2, b, S2, e1, e2, q1, q2, q3, q4, q5, q6, q7, q8, q9, q10, q11, q12⟩ := L_law (Lb := Lb) h.1 h.2.1 h.2.2.1 h.tr h.ar h.fl
  exact ⟨o1, X2, T2, La2, Lb2, b, S2, e1, (ez3 e1), e2, q1.to (ez3 e1) (by decide), q3, q4, q5, q7, q10, h.ir.cg q9 q8 q11, q6, q12⟩
theorem ts4  (h : GR X T N La Kp Lc A S) : ∃ (a : Int) (b : Int) (Sy : xU), G11_fault X = some a ∧ G12_fault S = some (b, Sy) ∧ a = b ∧ GR X T N La Kp Lc A Sy := by
  obtain ⟨z0, e1, e2⟩ := L_fault h.fa 
  exact ⟨z0, z0, _, e1, e2, rfl, h.th⟩
theorem ts5 {a1 : Int} {a2 : Int}  (h : GR X T N La Kp Lc A S) : ∃ (t0 : Int ⊕ Nat) (Lax : xU) (b : Int) (Sy : xU), G11_monk a1 a2 N La = some (t0, Lax) ∧ (∀ E, t0 = .inr E → E ∈ ([1, 3] : List Nat)) ∧ G12_monk a1 a2 S = some (b, Sy) ∧ Ag (x_ce [1, 3]) t0 b Sy ∧ GR X T N Lax Kp Lc A Sy := by
  obtain ⟨z0, z1, z2, z3, e1, e2, qg, qk, ql⟩ := L_monk h.1 h.2.1 h.2.2.1 
  exact ⟨z0, z1, z2, z3, e1, (ez5 e1), e2, qg.to (ez5 e1) (by decide), h.kw qk ql⟩
theorem ts6 {a1 : Int}  (h : GR X T N La Kp Lc A S) : ∃ (t0 : Int ⊕ Nat) (b : Int) (Sy : xU), G11_store a1 N = some t0 ∧ (∀ E, t0 = .inr E → E ∈ ([1] : List Nat)) ∧ G12_store a1 S = some (b, Sy) ∧ Ag (x_ce [1]) t0 b Sy ∧ GR X T N La Kp Lc A Sy := by
  obtain ⟨z0, z1, z2, e1, e2, qg⟩ := L_store h.1 h.2.1 
  exact ⟨z0, z1, _, e1, (ez6 e1), e2, qg.to (ez6 e1) (by decide), h.th⟩
theorem ts7 {a1 : Int}  (h : GR X T N La Kp Lc A S) : ∃ (t0 : Int ⊕ Nat) (b : Int) (Sy : xU), G11_season a1 N = some t0 ∧ (∀ E, t0 = .inr E → E ∈ ([1] : List Nat)) ∧ G12_season a1 S = some (b, Sy) ∧ Ag (x_ce [1]) t0 b Sy ∧ GR X T N La Kp Lc A Sy := by
  obtain ⟨z0, z1, z2, e1, e2, qg⟩ := L_season h.1 h.2.1 
  exact ⟨z0, z1, _, e1, (ez7 e1), e2, qg.to (ez7 e1) (by decide), h.th⟩
theorem ts8 {a1 : Int}  (h : GR X T N La Kp Lc A S) : ∃ (t0 : Int ⊕ Nat) (Xx : xU) (Nx : xU) (Lax : xU) (Ax : xA) (b : Int) (Sy : xU), G11_hours a1 X N La A = some (t0, Xx, Nx, Lax, Ax) ∧ (∀ E, t0 = .inr E → E ∈ ([0] : List Nat)) ∧ G12_hours a1 S = some (b, Sy) ∧ Ag (x_ce [0]) t0 b Sy ∧ GR Xx T Nx Lax Kp Lc Ax Sy := by
  obtain ⟨z0, z1, z2, z3, z4, z5, z6, e1, e2, qg, qa, ql⟩ := L_hours h.1 h.2.1 h.2.2.1 h.ar 
  exact ⟨z0, z1, z2, z3, z4, z5, z6, e1, (ez8 e1), e2, qg.to (ez8 e1) (by decide), h.ac qa ql⟩
theorem ts9 {a1 : Int}  (h : GR X T N La Kp Lc A S) : ∃ (t0 : Int ⊕ Nat) (Xx : xU) (Nx : xU) (Ax : xA) (b : Int) (Sy : xU), G11_cross a1 X N A = some (t0, Xx, Nx, Ax) ∧ (∀ E, t0 = .inr E → E ∈ ([1, 2] : List Nat)) ∧ G12_cross a1 S = some (b, Sy) ∧ Ag (x_ce [1, 2]) t0 b Sy ∧ GR Xx T Nx La Kp Lc Ax Sy := by
  obtain ⟨z0, z1, z2, z3, z4, z5, e1, e2, qg, qa⟩ := L_cross h.1 h.2.1 h.ar 
  exact ⟨z0, z1, z2, z3, z4, z5, e1, (ez9 e1), e2, qg.to (ez9 e1) (by decide), h.ac qa LaEq.rf⟩
theorem ts10 {a1 : Int}  (h : GR X T N La Kp Lc A S) : ∃ (t0 : Int ⊕ Nat) (Xx : xU) (Nx : xU) (Ax : xA) (b : Int) (Sy : xU), G11_bell a1 X N A = some (t0, Xx, Nx, Ax) ∧ (∀ E, t0 = .inr E → E ∈ ([1] : List Nat)) ∧ G12_bell a1 S = some (b, Sy) ∧ Ag (x_ce [1]) t0 b Sy ∧ GR Xx T Nx La Kp Lc Ax Sy := by
  obtain ⟨z0, z1, z2, z3, z4, z5, e1, e2, qg, qa⟩ := L_bell h.1 h.2.1 h.ar 
  exact ⟨z0, z1, z2, z3, z4, z5, e1, (ez10 e1), e2, qg.to (ez10 e1) (by decide), h.ac qa LaEq.rf⟩
theorem ts11 {a1 : Int}  (h : GR X T N La Kp Lc A S) : ∃ (t0 : Int ⊕ Nat) (Xx : xU) (Nx : xU) (Ax : xA) (b : Int) (Sy : xU), G11_mood a1 X N A = some (t0, Xx, Nx, Ax) ∧ (∀ E, t0 = .inr E → E ∈ ([0] : List Nat)) ∧ G12_mood a1 S = some (b, Sy) ∧ Ag (x_ce [0]) t0 b Sy ∧ GR Xx T Nx La Kp Lc Ax Sy := by
  obtain ⟨z0, z1, z2, z3, z4, z5, e1, e2, qg, qa⟩ := L_mood h.1 h.2.1 h.ar 
  exact ⟨z0, z1, z2, z3, z4, z5, e1, (ez11 e1), e2, qg.to (ez11 e1) (by decide), h.ac qa LaEq.rf⟩
theorem ts12 {a1 : Int} {a2 : Int}  (h : GR X T N La Kp Lc A S) : ∃ (t0 : Int ⊕ Nat) (Xx : xU) (Nx : xU) (Ax : xA) (b : Int) (Sy : xU), G11_change a1 a2 X N A = some (t0, Xx, Nx, Ax) ∧ (∀ E, t0 = .inr E → E ∈ ([1, 0] : List Nat)) ∧ G12_change a1 a2 S = some (b, Sy) ∧ Ag (x_ce [1, 0]) t0 b Sy ∧ GR Xx T Nx La Kp Lc Ax Sy := by
  obtain ⟨z0, z1, z2, z3, z4, z5, e1, e2, qg, qa⟩ := L_change h.1 h.2.1 h.ar 
  exact ⟨z0, z1, z2, z3, z4, z5, e1, (ez12 e1), e2, qg.to (ez12 e1) (by decide), h.ac qa LaEq.rf⟩
theorem ts13 {a1 : Int} {a2 : Int}  (h : GR X T N La Kp Lc A S) : ∃ (t0 : Int ⊕ Nat) (Xx : xU) (Nx : xU) (Ax : xA) (b : Int) (Sy : xU), G11_pace a1 a2 X N A = some (t0, Xx, Nx, Ax) ∧ (∀ E, t0 = .inr E → E ∈ ([1, 0] : List Nat)) ∧ G12_pace a1 a2 S = some (b, Sy) ∧ Ag (x_ce [1, 0]) t0 b Sy ∧ GR Xx T Nx La Kp Lc Ax Sy := by
  obtain ⟨z0, z1, z2, z3, z4, z5, e1, e2, qg, qa⟩ := L_pace h.1 h.2.1 h.ar 
  exact ⟨z0, z1, z2, z3, z4, z5, e1, (ez13 e1), e2, qg.to (ez13 e1) (by decide), h.ac qa LaEq.rf⟩
theorem ts14 {a1 : Int} {a2 : Int}  (h : GR X T N La Kp Lc A S) : ∃ (t0 : Int ⊕ Nat) (Xx : xU) (Nx : xU) (Ax : xA) (b : Int) (Sy : xU), G11_fill a1 a2 X N A = some (t0, Xx, Nx, Ax) ∧ (∀ E, t0 = .inr E → E ∈ ([1, 0] : List Nat)) ∧ G12_fill a1 a2 S = some (b, Sy) ∧ Ag (x_ce [1, 0]) t0 b Sy ∧ GR Xx T Nx La Kp Lc Ax Sy := by
  obtain ⟨z0, z1, z2, z3, z4, z5, e1, e2, qg, qa⟩ := L_fill h.1 h.2.1 h.ar 
  exact ⟨z0, z1, z2, z3, z4, z5, e1, (ez14 e1), e2, qg.to (ez14 e1) (by decide), h.ac qa LaEq.rf⟩
theorem ts15 {a1 : Int}  (h : GR X T N La Kp Lc A S) : ∃ (t0 : Int ⊕ Nat) (Xx : xU) (Nx : xU) (Ax : xA) (b : Int) (Sy : xU), G11_find a1 X N A = some (t0, Xx, Nx, Ax) ∧ (∀ E, t0 = .inr E → E ∈ ([1, 2] : List Nat)) ∧ G12_find a1 S = some (b, Sy) ∧ Ag (x_ce [1, 2]) t0 b Sy ∧ GR Xx T Nx La Kp Lc Ax Sy := by
  obtain ⟨z0, z1, z2, z3, z4, z5, e1, e2, qg, qa⟩ := L_find h.1 h.2.1 h.ar 
  exact ⟨z0, z1, z2, z3, z4, z5, e1, (ez15 e1), e2, qg.to (ez15 e1) (by decide), h.ac qa LaEq.rf⟩
theorem ts16  (h : GR X T N La Kp Lc A S) : ∃ (a : Int) (b : Int) (Sy : xU), G11_choir N = some a ∧ G12_choir S = some (b, Sy) ∧ a = b ∧ GR X T N La Kp Lc A Sy := by
  obtain ⟨z0, e1, e2⟩ := L_choir h.1 h.2.1 
  exact ⟨z0, z0, _, e1, e2, rfl, h.th⟩
theorem ts17 {a1 : Int} {a2 : Int}  (h : GR X T N La Kp Lc A S) : ∃ (t0 : Int ⊕ Nat) (Thx : xU) (Lax : xU) (b : Int) (Sy : xU), G11_when a1 a2 N Th La = some (t0, Thx, Lax) ∧ (∀ E, t0 = .inr E → E ∈ ([1] : List Nat)) ∧ G12_when a1 a2 S = some (b, Sy) ∧ Ag (x_ce [1]) t0 b Sy ∧ GR X T N Lax Kp Lc A Sy := by
  obtain ⟨z0, z1, z2, z3, z4, e1, e2, qg, qk, ql⟩ := L_when h.1 h.2.1 h.2.2.1 (Th := Th)
  exact ⟨z0, z1, z2, z3, z4, e1, (ez17 e1), e2, qg.to (ez17 e1) (by decide), h.kw qk ql⟩
theorem ts18 {a1 : Int} {a2 : Int}  (h : GR X T N La Kp Lc A S) : ∃ (t0 : Int ⊕ Nat) (Thx : xU) (Lax : xU) (b : Int) (Sy : xU), G11_meet a1 a2 N Th La = some (t0, Thx, Lax) ∧ (∀ E, t0 = .inr E → E ∈ ([1, 0] : List Nat)) ∧ G12_meet a1 a2 S = some (b, Sy) ∧ Ag (x_ce [1, 0]) t0 b Sy ∧ GR X T N Lax Kp Lc A Sy := by
  obtain ⟨z0, z1, z2, z3, z4, e1, e2, qg, qk, ql⟩ := L_meet h.1 h.2.1 h.2.2.1 (Th := Th)
  exact ⟨z0, z1, z2, z3, z4, e1, (ez18 e1), e2, qg.to (ez18 e1) (by decide), h.kw qk ql⟩
theorem ts19 {a1 : Int}  (h : GR X T N La Kp Lc A S) : ∃ (t0 : Int ⊕ Nat) (Thx : xU) (Lax : xU) (Fox : xU) (b : Int) (Sy : xU), G11_lates a1 N Th La Fo = some (t0, Thx, Lax, Fox) ∧ (∀ E, t0 = .inr E → E ∈ ([0] : List Nat)) ∧ G12_lates a1 S = some (b, Sy) ∧ Ag (x_ce [0]) t0 b Sy ∧ GR X T N Lax Kp Lc A Sy := by
  obtain ⟨z0, z1, z2, z3, z4, z5, e1, e2, qg, qk, ql⟩ := L_lates h.1 h.2.1 h.2.2.1 (Th := Th) (Fo := Fo)
  exact ⟨z0, z1, z2, z3, z4, z5, e1, (ez19 e1), e2, qg.to (ez19 e1) (by decide), h.kw qk ql⟩
theorem ts20  (h : GR X T N La Kp Lc A S) : ∃ (a : Int) (Thx : xU) (Lax : xU) (Fox : xU) (b : Int) (Sy : xU), G11_tardy N Th La Fo = some (a, Thx, Lax, Fox) ∧ G12_tardy S = some (b, Sy) ∧ a = b ∧ GR X T N Lax Kp Lc A Sy := by
  obtain ⟨z0, z1, z2, z3, z4, e1, e2, q0, qk, ql⟩ := L_tardy h.1 h.2.1 h.2.2.1 (Th := Th) (Fo := Fo)
  exact ⟨z0, z1, z2, z3, z0, z4, e1, e2, rfl, h.kw qk ql⟩
theorem ts21  (h : GR X T N La Kp Lc A S) : ∃ (a : Int) (Thx : xU) (Lax : xU) (Fox : xU) (b : Int) (Sy : xU), G11_ring N Th La Fo = some (a, Thx, Lax, Fox) ∧ G12_ring S = some (b, Sy) ∧ a = b ∧ GR X T N Lax Kp Lc A Sy := by
  obtain ⟨z0, z1, z2, z3, z4, e1, e2, q0, qk, ql⟩ := L_ring h.1 h.2.1 h.2.2.1 (Th := Th) (Fo := Fo)
  exact ⟨z0, z1, z2, z3, z0, z4, e1, e2, rfl, h.kw qk ql⟩
theorem ts22  (h : GR X T N La Kp Lc A S) : ∃ (a : Int) (Thx : xU) (Lax : xU) (Fox : xU) (b : Int) (Sy : xU), G11_humour N Th La Fo = some (a, Thx, Lax, Fox) ∧ G12_humour S = some (b, Sy) ∧ a = b ∧ GR X T N Lax Kp Lc A Sy := by
  obtain ⟨z0, z1, z2, z3, z4, e1, e2, q0, qk, ql⟩ := L_humour h.1 h.2.1 h.2.2.1 (Th := Th) (Fo := Fo)
  exact ⟨z0, z1, z2, z3, z0, z4, e1, e2, rfl, h.kw qk ql⟩
theorem ts23  (h : GR X T N La Kp Lc A S) : ∃ (a : Int) (Thx : xU) (Lax : xU) (b : Int) (Sy : xU), G11_starves N Th La = some (a, Thx, Lax) ∧ G12_starves S = some (b, Sy) ∧ a = b ∧ GR X T N Lax Kp Lc A Sy := by
  obtain ⟨z0, z1, z2, z3, e1, e2, q0, qk, ql⟩ := L_starves h.1 h.2.1 h.2.2.1 (Th := Th)
  exact ⟨z0, z1, z2, z0, z3, e1, e2, rfl, h.kw qk ql⟩
theorem ts24 {a1 : Int} {a2 : Int}  (h : GR X T N La Kp Lc A S) : ∃ (t0 : Int ⊕ Nat) (b : Int) (Sy : xU), G11_far a1 a2 N = some t0 ∧ (∀ E, t0 = .inr E → E ∈ ([1] : List Nat)) ∧ G12_far a1 a2 S = some (b, Sy) ∧ Ag (x_ce [1]) t0 b Sy ∧ GR X T N La Kp Lc A Sy := by
  obtain ⟨z0, z1, z2, e1, e2, qg⟩ := L_far h.1 h.2.1 
  exact ⟨z0, z1, _, e1, (ez24 e1), e2, qg.to (ez24 e1) (by decide), h.th⟩
theorem ts25 {a1 : Int} {a2 : Int}  (h : GR X T N La Kp Lc A S) : ∃ (t0 : Int ⊕ Nat) (Tx : xU) (Rox : xU) (b : Int) (Sy : xU), G11_road a1 a2 T N Ro = some (t0, Tx, Rox) ∧ (∀ E, t0 = .inr E → E ∈ ([1, 0] : List Nat)) ∧ G12_road a1 a2 S = some (b, Sy) ∧ Ag (x_ce [1, 0]) t0 b Sy ∧ GR X Tx N La Kp Lc A Sy := by
  obtain ⟨z0, z1, z2, z3, z4, e1, e2, qg, qe, qt, qz⟩ := L_road h.1 h.2.1 h.tr (Ro := Ro)
  exact ⟨z0, z1, z2, z3, z4, e1, (ez25 e1), e2, qg.to (ez25 e1) (by decide), h.kz qt qz⟩
theorem ts26 {a1 : Int}  (h : GR X T N La Kp Lc A S) : ∃ (t0 : Int ⊕ Nat) (Stx : xU) (b : Int) (Sy : xU), G11_seats a1 N St = some (t0, Stx) ∧ (∀ E, t0 = .inr E → E ∈ ([1] : List Nat)) ∧ G12_seats a1 S = some (b, Sy) ∧ Ag (x_ce [1]) t0 b Sy ∧ GR X T N La Kp Lc A Sy := by
  obtain ⟨z0, z1, z2, z3, e1, e2, qg, qe, f1, f2⟩ := L_seats h.1 h.2.1 (St := St)
  exact ⟨z0, z1, z2, z3, e1, (ez26 e1), e2, qg.to (ez26 e1) (by decide), h.fr f1 f2⟩
theorem ts27  (h : GR X T N La Kp Lc A S) : ∃ (a : Int) (Stx : xU) (b : Int) (Sy : xU), G11_shown N St = some (a, Stx) ∧ G12_shown S = some (b, Sy) ∧ a = b ∧ GR X T N La Kp Lc A Sy := by
  obtain ⟨z0, z1, e1, e2⟩ := L_shown h.1 h.2.1 (St := St)
  exact ⟨z0, z1, z0, _, e1, e2, rfl, h.th⟩
theorem ts28 {a1 : Int}  (h : GR X T N La Kp Lc A S) : ∃ (t0 : Int ⊕ Nat) (b : Int) (Sy : xU), G11_serves a1 N = some t0 ∧ (∀ E, t0 = .inr E → E ∈ ([1] : List Nat)) ∧ G12_serves a1 S = some (b, Sy) ∧ Ag (x_ce [1]) t0 b Sy ∧ GR X T N La Kp Lc A Sy := by
  obtain ⟨z0, z1, z2, e1, e2, qg⟩ := L_serves h.1 h.2.1 
  exact ⟨z0, z1, _, e1, (ez28 e1), e2, qg.to (ez28 e1) (by decide), h.th⟩
theorem ts29 {a1 : Int} {a2 : Int}  (h : GR X T N La Kp Lc A S) : ∃ (t0 : Int ⊕ Nat) (Stx : xU) (b : Int) (Sy : xU), G11_trade a1 a2 N St = some (t0, Stx) ∧ (∀ E, t0 = .inr E → E ∈ ([1] : List Nat)) ∧ G12_trade a1 a2 S = some (b, Sy) ∧ Ag (x_ce [1]) t0 b Sy ∧ GR X T N La Kp Lc A Sy := by
  obtain ⟨z0, z1, z2, z3, e1, e2, qg, qe, f1, f2⟩ := L_trade h.1 h.2.1 (St := St)
  exact ⟨z0, z1, z2, z3, e1, (ez29 e1), e2, qg.to (ez29 e1) (by decide), h.fr f1 f2⟩
theorem ts30  (h : GR X T N La Kp Lc A S) : ∃ (a : Int) (b : Int) (Sy : xU), G11_content N = some a ∧ G12_content S = some (b, Sy) ∧ a = b ∧ GR X T N La Kp Lc A Sy := by
  obtain ⟨z0, e1, e2⟩ := L_content h.1 h.2.1 
  exact ⟨z0, z0, _, e1, e2, rfl, h.th⟩
theorem ts31 {a1 : Int}  (h : GR X T N La Kp Lc A S) : ∃ (t0 : Int ⊕ Nat) (Tx : xU) (Rix : xU) (b : Int) (Sy : xU), G11_seen a1 T N Ri = some (t0, Tx, Rix) ∧ (∀ E, t0 = .inr E → E ∈ ([0] : List Nat)) ∧ G12_seen a1 S = some (b, Sy) ∧ Ag (x_ce [0]) t0 b Sy ∧ GR X Tx N La Kp Lc A Sy := by
  obtain ⟨z0, z1, z2, z3, z4, e1, e2, qg, qe, qt, qz⟩ := L_seen h.1 h.tr (Ri := Ri)
  exact ⟨z0, z1, z2, z3, z4, e1, (ez31 e1), e2, qg.to (ez31 e1) (by decide), h.kz qt qz⟩
theorem ts32  (h : GR X T N La Kp Lc A S) : ∃ (t0 : Int ⊕ Nat) (Tx : xU) (Rix : xU) (b : Int) (Sy : xU), G11_ask T N Ri = some (t0, Tx, Rix) ∧ (∀ E, t0 = .inr E → E ∈ ([0] : List Nat)) ∧ G12_ask S = some (b, Sy) ∧ Ag (x_ce [0]) t0 b Sy ∧ GR X Tx N La Kp Lc A Sy := by
  obtain ⟨z0, z1, z2, z3, z4, e1, e2, qg, qe, qt, qz⟩ := L_ask h.1 h.tr (Ri := Ri)
  exact ⟨z0, z1, z2, z3, z4, e1, (ez32 e1), e2, qg.to (ez32 e1) (by decide), h.kz qt qz⟩
theorem ts33 {a1 : Int}  (h : GR X T N La Kp Lc A S) : ∃ (t0 : Int ⊕ Nat) (Tx : xU) (Rix : xU) (b : Int) (Sy : xU), G11_rule a1 T Ri = some (t0, Tx, Rix) ∧ (∀ E, t0 = .inr E → E ∈ ([0] : List Nat)) ∧ G12_rule a1 S = some (b, Sy) ∧ Ag (x_ce [0]) t0 b Sy ∧ GR X Tx N La Kp Lc A Sy := by
  obtain ⟨z0, z1, z2, z3, z4, e1, e2, qg, qe, qt, qz⟩ := L_rule h.tr (Ri := Ri)
  exact ⟨z0, z1, z2, z3, z4, e1, (ez33 e1), e2, qg.to (ez33 e1) (by decide), h.kz qt qz⟩
theorem ts34  (h : GR X T N La Kp Lc A S) : ∃ (t0 : Int ⊕ Nat) (Tx : xU) (Rix : xU) (b : Int) (Sy : xU), G11_tells T Ri = some (t0, Tx, Rix) ∧ (∀ E, t0 = .inr E → E ∈ ([0] : List Nat)) ∧ G12_tells S = some (b, Sy) ∧ Ag (x_ce [0]) t0 b Sy ∧ GR X Tx N La Kp Lc A Sy := by
  obtain ⟨z0, z1, z2, z3, z4, e1, e2, qg, qe, qt, qz⟩ := L_tells h.tr (Ri := Ri)
  exact ⟨z0, z1, z2, z3, z4, e1, (ez34 e1), e2, qg.to (ez34 e1) (by decide), h.kz qt qz⟩
theorem ts35 {a1 : Int} {a2 : Int}  (h : GR X T N La Kp Lc A S) : ∃ (t0 : Int ⊕ Nat) (Thx : xU) (b : Int) (Sy : xU), G11_share a1 a2 N Th = some (t0, Thx) ∧ (∀ E, t0 = .inr E → E ∈ ([1, 0] : List Nat)) ∧ G12_share a1 a2 S = some (b, Sy) ∧ Ag (x_ce [1, 0]) t0 b Sy ∧ GR X T N La Kp Lc A Sy := by
  obtain ⟨z0, z1, z2, z3, e1, e2, qg, qk⟩ := L_share h.1 h.2.1 (Th := Th)
  exact ⟨z0, z1, z2, z3, e1, (ez35 e1), e2, qg.to (ez35 e1) (by decide), h.kw qk LaEq.rf⟩
theorem ts36 {a1 : Int}  (h : GR X T N La Kp Lc A S) : ∃ (t0 : Int ⊕ Nat) (b : Int) (Sy : xU), G11_feeds a1 N = some t0 ∧ (∀ E, t0 = .inr E → E ∈ ([1] : List Nat)) ∧ G12_feeds a1 S = some (b, Sy) ∧ Ag (x_ce [1]) t0 b Sy ∧ GR X T N La Kp Lc A Sy := by
  obtain ⟨z0, z1, z2, e1, e2, qg⟩ := L_feeds h.1 h.2.1 
  exact ⟨z0, z1, _, e1, (ez36 e1), e2, qg.to (ez36 e1) (by decide), h.th⟩
theorem ts37 {a1 : Int}  (h : GR X T N La Kp Lc A S) : ∃ (t0 : Int ⊕ Nat) (Brx : xU) (b : Int) (Sy : xU), G11_pairs a1 N Br = some (t0, Brx) ∧ (∀ E, t0 = .inr E → E ∈ ([1] : List Nat)) ∧ G12_pairs a1 S = some (b, Sy) ∧ Ag (x_ce [1]) t0 b Sy ∧ GR X T N La Kp Lc A Sy := by
  obtain ⟨z0, z1, z2, z3, e1, e2, qg, qe, f1, f2⟩ := L_pairs h.1 h.2.1 (Br := Br)
  exact ⟨z0, z1, z2, z3, e1, (ez37 e1), e2, qg.to (ez37 e1) (by decide), h.fr f1 f2⟩
theorem ts38  (h : GR X T N La Kp Lc A S) : ∃ (a : Int) (b : Int) (Sy : xU), G11_watch N = some a ∧ G12_watch S = some (b, Sy) ∧ a = b ∧ GR X T N La Kp Lc A Sy := by
  obtain ⟨z0, e1, e2⟩ := L_watch h.1 h.2.1 
  exact ⟨z0, z0, _, e1, e2, rfl, h.th⟩
theorem ts39 {a1 : Int} (ha : R32 a1) (h : GR X T N La Kp Lc A S) : ∃ (a : Int) (b : Int) (Sy : xU), G11_chapter a1 N = some a ∧ G12_chapter a1 S = some (b, Sy) ∧ a = b ∧ GR X T N La Kp Lc A Sy := by
  obtain ⟨z0, e1, e2⟩ := L_chapter ha h.1 h.2.1 
  exact ⟨z0, z0, _, e1, e2, rfl, h.th⟩
theorem ts40 {a1 : Int}  (h : GR X T N La Kp Lc A S) : ∃ (t0 : Int ⊕ Nat) (b : Int) (Sy : xU), G11_swings a1 N = some t0 ∧ (∀ E, t0 = .inr E → E ∈ ([1] : List Nat)) ∧ G12_swings a1 S = some (b, Sy) ∧ Ag (x_ce [1]) t0 b Sy ∧ GR X T N La Kp Lc A Sy := by
  obtain ⟨z0, z1, z2, e1, e2, qg⟩ := L_swings h.1 h.2.1 
  exact ⟨z0, z1, _, e1, (ez40 e1), e2, qg.to (ez40 e1) (by decide), h.th⟩
theorem ts41  (h : GR X T N La Kp Lc A S) : ∃ (a : Int) (b : Int) (Sy : xU), G11_elder N = some a ∧ G12_elder S = some (b, Sy) ∧ a = b ∧ GR X T N La Kp Lc A Sy := by
  obtain ⟨z0, e1, e2⟩ := L_elder h.1 h.2.1 
  exact ⟨z0, z0, _, e1, e2, rfl, h.th⟩
theorem ts42 {a1 : Int}  (h : GR X T N La Kp Lc A S) : ∃ (t0 : Int ⊕ Nat) (b : Int) (Sy : xU), G11_rests a1 N = some t0 ∧ (∀ E, t0 = .inr E → E ∈ ([1] : List Nat)) ∧ G12_rests a1 S = some (b, Sy) ∧ Ag (x_ce [1]) t0 b Sy ∧ GR X T N La Kp Lc A Sy := by
  obtain ⟨z0, z1, z2, e1, e2, qg⟩ := L_rests h.1 h.2.1 
  exact ⟨z0, z1, _, e1, (ez42 e1), e2, qg.to (ez42 e1) (by decide), h.th⟩
theorem ts43 {a1 : Int} {a2 : Int}  (h : GR X T N La Kp Lc A S) : ∃ (t0 : Int ⊕ Nat) (Fox : xU) (b : Int) (Sy : xU), G11_odds a1 a2 N Fo = some (t0, Fox) ∧ (∀ E, t0 = .inr E → E ∈ ([0] : List Nat)) ∧ G12_odds a1 a2 S = some (b, Sy) ∧ Ag (x_ce [0]) t0 b Sy ∧ GR X T N La Kp Lc A Sy := by
  obtain ⟨z0, z1, z2, z3, e1, e2, qg, qe⟩ := L_odds h.1 h.2.1 (Fo := Fo)
  exact ⟨z0, z1, z2, _, e1, (ez43 e1), e2, qg.to (ez43 e1) (by decide), h.th⟩
theorem ts44  (h : GR X T N La Kp Lc A S) : ∃ (a : Int) (b : Int) (Sy : xU), G11_empty N = some a ∧ G12_empty S = some (b, Sy) ∧ a = b ∧ GR X T N La Kp Lc A Sy := by
  obtain ⟨z0, e1, e2⟩ := L_empty h.1 h.2.1 
  exact ⟨z0, z0, _, e1, e2, rfl, h.th⟩
theorem ts45  (h : GR X T N La Kp Lc A S) : ∃ (a : Int) (b : Int) (Sy : xU), G11_throng N = some a ∧ G12_throng S = some (b, Sy) ∧ a = b ∧ GR X T N La Kp Lc A Sy := by
  obtain ⟨z0, e1, e2⟩ := L_throng h.1 h.2.1 
  exact ⟨z0, z0, _, e1, e2, rfl, h.th⟩
theorem ts46  (h : GR X T N La Kp Lc A S) : ∃ (a : Int) (b : Int) (Sy : xU), G11_gone N = some a ∧ G12_gone S = some (b, Sy) ∧ a = b ∧ GR X T N La Kp Lc A Sy := by
  obtain ⟨z0, e1, e2⟩ := L_gone h.1 h.2.1 
  exact ⟨z0, z0, _, e1, e2, rfl, h.th⟩
theorem ts47 {a1 : Int}  (h : GR X T N La Kp Lc A S) : ∃ (t0 : Int ⊕ Nat) (b : Int) (Sy : xU), G11_round a1 N = some t0 ∧ (∀ E, t0 = .inr E → E ∈ ([0] : List Nat)) ∧ G12_round a1 S = some (b, Sy) ∧ Ag (x_ce [0]) t0 b Sy ∧ GR X T N La Kp Lc A Sy := by
  obtain ⟨z0, z1, z2, e1, e2, qg⟩ := L_round h.1 h.2.1 
  exact ⟨z0, z1, _, e1, (ez47 e1), e2, qg.to (ez47 e1) (by decide), h.th⟩
theorem ts48  (h : GR X T N La Kp Lc A S) : ∃ (a : Int) (b : Int) (Sy : xU), G11_hungriest N = some a ∧ G12_hungriest S = some (b, Sy) ∧ a = b ∧ GR X T N La Kp Lc A Sy := by
  obtain ⟨z0, e1, e2⟩ := L_hungriest h.1 h.2.1 
  exact ⟨z0, z0, _, e1, e2, rfl, h.th⟩
theorem ts49  (h : GR X T N La Kp Lc A S) : ∃ (a : Int) (b : Int) (Sy : xU), G11_alike N = some a ∧ G12_alike S = some (b, Sy) ∧ a = b ∧ GR X T N La Kp Lc A Sy := by
  obtain ⟨z0, e1, e2⟩ := L_alike h.1 h.2.1 
  exact ⟨z0, z0, _, e1, e2, rfl, h.th⟩
theorem ts50 {a1 : Int} {a2 : Int} {a3 : Int}  (h : GR X T N La Kp Lc A S) : ∃ (t0 : Int ⊕ Nat) (Thx : xU) (Lax : xU) (b : Int) (Sy : xU), G11_ahead a1 a2 a3 N Th La = some (t0, Thx, Lax) ∧ (∀ E, t0 = .inr E → E ∈ ([1, 0, 3] : List Nat)) ∧ G12_ahead a1 a2 a3 S = some (b, Sy) ∧ Ag (x_ce [1, 0, 3]) t0 b Sy ∧ GR X T N Lax Kp Lc A Sy := by
  obtain ⟨z0, z1, z2, z3, z4, e1, e2, qg, qk, ql⟩ := L_ahead h.1 h.2.1 h.2.2.1 (Th := Th)
  exact ⟨z0, z1, z2, z3, z4, e1, (ez50 e1), e2, qg.to (ez50 e1) (by decide), h.kw qk ql⟩
theorem ts51 {a1 : Int} {a2 : Int}  (h : GR X T N La Kp Lc A S) : ∃ (t0 : Int ⊕ Nat) (Thx : xU) (Lax : xU) (b : Int) (Sy : xU), G11_trial a1 a2 N Th La = some (t0, Thx, Lax) ∧ (∀ E, t0 = .inr E → E ∈ ([0] : List Nat)) ∧ G12_trial a1 a2 S = some (b, Sy) ∧ Ag (x_ce [0]) t0 b Sy ∧ GR X T N Lax Kp Lc A Sy := by
  obtain ⟨z0, z1, z2, z3, z4, e1, e2, qg, qk, ql⟩ := L_trial h.1 h.2.1 h.2.2.1 (Th := Th)
  exact ⟨z0, z1, z2, z3, z4, e1, (ez51 e1), e2, qg.to (ez51 e1) (by decide), h.kw qk ql⟩
theorem ts52 {a1 : Int} {a2 : Int}  (h : GR X T N La Kp Lc A S) : ∃ (t0 : Int ⊕ Nat) (Thx : xU) (Lax : xU) (b : Int) (Sy : xU), G11_span a1 a2 N Th La = some (t0, Thx, Lax) ∧ (∀ E, t0 = .inr E → E ∈ ([0] : List Nat)) ∧ G12_span a1 a2 S = some (b, Sy) ∧ Ag (x_ce [0]) t0 b Sy ∧ GR X T N Lax Kp Lc A Sy := by
  obtain ⟨z0, z1, z2, z3, z4, e1, e2, qg, qk, ql⟩ := L_span h.1 h.2.1 h.2.2.1 (Th := Th)
  exact ⟨z0, z1, z2, z3, z4, e1, (ez52 e1), e2, qg.to (ez52 e1) (by decide), h.kw qk ql⟩
theorem ts53 {a1 : Int} {a2 : Int}  (h : GR X T N La Kp Lc A S) : ∃ (t0 : Int ⊕ Nat) (b : Int) (Sy : xU), G11_led a1 a2 N = some t0 ∧ (∀ E, t0 = .inr E → E ∈ ([1] : List Nat)) ∧ G12_led a1 a2 S = some (b, Sy) ∧ Ag (x_ce [1]) t0 b Sy ∧ GR X T N La Kp Lc A Sy := by
  obtain ⟨z0, z1, z2, e1, e2, qg⟩ := L_led h.1 h.2.1 
  exact ⟨z0, z1, _, e1, (ez53 e1), e2, qg.to (ez53 e1) (by decide), h.th⟩
theorem ts54 {a1 : Int} {a2 : Int}  (h : GR X T N La Kp Lc A S) : ∃ (t0 : Int ⊕ Nat) (b : Int) (Sy : xU), G11_log a1 a2 N = some t0 ∧ (∀ E, t0 = .inr E → E ∈ ([3] : List Nat)) ∧ G12_log a1 a2 S = some (b, Sy) ∧ Ag (x_ce [3]) t0 b Sy ∧ GR X T N La Kp Lc A Sy := by
  obtain ⟨z0, z1, z2, e1, e2, qg⟩ := L_log h.1 h.2.1 
  exact ⟨z0, z1, _, e1, (ez54 e1), e2, qg.to (ez54 e1) (by decide), h.th⟩
theorem ts55 {a1 : Int} (ha : R32 a1) (h : GR X T N La Kp Lc A S) : ∃ (a : Int) (Nx : xU) (b : Int) (Sy : xU), G11_seed a1 N = some (a, Nx) ∧ G12_seed a1 S = some (b, Sy) ∧ a = b ∧ GR X T Nx La Kp Lc A Sy := by
  obtain ⟨v, S2, e1, e2, q0, q1⟩ := L_seed ha h.1 h.2.1 h.ar
  exact ⟨v, _, v, S2, e1, e2, rfl, h.ac q1 LaEq.rf⟩
theorem ts56  (h : GR X T N La Kp Lc A S) : ∃ (a : Int) (Xx : xU) (Nx : xU) (b : Int) (Sy : xU), G11_undo X N A = some (a, Xx, Nx) ∧ G12_undo S = some (b, Sy) ∧ a = b ∧ GR Xx T Nx La Kp Lc A Sy := by
  obtain ⟨v, X2, N2, S2, e1, e2, q0, q1⟩ := L_undo h.1 h.2.1 h.ar
  exact ⟨v, X2, N2, v, S2, e1, e2, rfl, h.ac q1 LaEq.rf⟩
theorem ts57  (h : GR X T N La Kp Lc A S) : ∃ (Xx : xU) (Kpx : xU) (Lcx : xU) (Sy : xU), G11_image X N Kp La Lc = some (Xx, Kpx, Lcx) ∧ G12_image S = some Sy ∧ GR Xx T N La Kpx Lcx A Sy := by
  obtain ⟨S2, e1, e2, q0, q1, q5, q8, q12, qf, qa, qi⟩ := L_image h.1 h.2.1 h.2.2.1 h.ar (Kp := Kp) (Lc := Lc)
  exact ⟨_, _, _, S2, e1, e2, by rw [q1]; exact h.1, by rw [q1]; exact h.2.1, by rw [q1]; exact h.2.2.1, h.tr.cg q5 q8, by rw [up_i (by decide), q12]; exact h.fa, qi, qa, qf h.fl⟩
theorem ts58  (h : GR X T N La Kp Lc A S) : ∃ (a : Int) (Xx : xU) (Nx : xU) (Lax : xU) (b : Int) (Sy : xU), G11_back X N Kp La Lc = some (a, Xx, Nx, Lax) ∧ G12_back S = some (b, Sy) ∧ a = b ∧ GR Xx T Nx Lax Kp Lc A Sy := by
  obtain ⟨v, X2, N2, La2, S2, e1, e2, q0, q1, q2, q3, q4, q5, q6, q7, q8, q9, q10, q11, q12⟩ := L_back h.1 h.2.1 h.2.2.1 h.ar h.ir
  exact ⟨v, X2, N2, La2, v, S2, e1, e2, rfl, q1, q2, q3, h.tr.cg q6 q8, (q11 16 (by decide)).trans (h.fa.trans q9.symm), h.ir.cg q7 q5 (q11 13 (by decide)), q4, q10 h.fl⟩
theorem ts59 {a1 : Int}  (h : GR X T N La Kp Lc A S) : ∃ (a : Int) (b : Int) (Sy : xU), G11_count a1 X N La = some a ∧ G12_count a1 S = some (b, Sy) ∧ a = b ∧ GR X T N La Kp Lc A Sy := by
  obtain ⟨z0, e1, e2⟩ := L_count h.1 h.2.1 h.2.2.1.1 (by obtain ⟨_, _, _, q1, q2, _⟩ := h.ar; exact q1.trans q2.symm) (X := X) (La := La)
  exact ⟨z0, z0, _, e1, e2, rfl, h.th⟩
end GRS
