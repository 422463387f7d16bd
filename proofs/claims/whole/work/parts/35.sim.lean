/-! An hour, both ways: simulations. -/
/-- two loops side by side -/
theorem w_sim {σ1 ρ1 σ2 ρ2 : Type} {f1 : σ1 → Option (σ1 ⊕ ρ1)} {f2 : σ2 → Option (σ2 ⊕ ρ2)} (R : Nat → σ1 → σ2 → Prop) (Q : ρ1 → ρ2 → Prop) (n : Nat) (hn : n < xFU)
    (hs : ∀ j s1 s2, j < n → R j s1 s2 → ∃ t1 t2, f1 s1 = some (.inl t1) ∧ f2 s2 = some (.inl t2) ∧ R (j + 1) t1 t2) (he : ∀ s1 s2, R n s1 s2 → ∃ r1 r2, f1 s1 = some (.inr r1) ∧ f2 s2 = some (.inr r2) ∧ Q r1 r2)
    {s1 : σ1} {s2 : σ2} (h0 : R 0 s1 s2) : ∃ r1 r2, whl xFU f1 s1 = some r1 ∧ whl xFU f2 s2 = some r2 ∧ Q r1 r2 := by
  have key : ∀ d j s1 s2 k, j + d = n → d < k → R j s1 s2 → ∃ r1 r2, whl k f1 s1 = some r1 ∧ whl k f2 s2 = some r2 ∧ Q r1 r2 := by
    intro d
    induction d with
    | zero =>
      intro j s1 s2 k hj hk hr
      cases k with
      | zero => omega
      | succ k =>
        have : j = n := by omega
        subst this
        obtain ⟨r1, r2, e1, e2, q⟩ := he s1 s2 hr
        exact ⟨r1, r2, by rw [whl, e1], by rw [whl, e2], q⟩
    | succ d ih =>
      intro j s1 s2 k hj hk hr
      cases k with
      | zero => omega
      | succ k =>
        obtain ⟨t1, t2, e1, e2, q⟩ := hs j s1 s2 (by omega) hr
        obtain ⟨r1, r2, g1, g2, gq⟩ := ih (j + 1) t1 t2 k (by omega) (by omega) q
        exact ⟨r1, r2, by rw [whl, e1]; exact g1, by rw [whl, e2]; exact g2, gq⟩
  exact key n 0 s1 s2 xFU (by omega) hn h0
/-- the two flags of the law's reading are flags -/
def Fl (S : xU) : Prop := (S 0 15 = 0 ∨ S 0 15 = 1) ∧ (S 0 16 = 0 ∨ S 0 16 = 1)
theorem Fl.cg {S S' : xU} (h : Fl S) (e1 : S' 0 15 = S 0 15) (e2 : S' 0 16 = S 0 16) : Fl S' := by unfold Fl; rw [e1, e2]; exact h
theorem Fl.o {S : xU} {o i : Nat} {v : Int} (h : Fl S) (ho : 0 ≠ o) : Fl (x_up S o i v) := h.cg (congrFun (up_o ho) _) (congrFun (up_o ho) _)
theorem Fl.i {S : xU} {i : Nat} {v : Int} (h : Fl S) (h1 : 15 ≠ i) (h2 : 16 ≠ i) : Fl (x_up S 0 i v) := h.cg (up_i h1) (up_i h2)
/-- the reference's other rows stay -/
def Kq (S S' : xU) : Prop := S' 2 = S 2 ∧ S' 3 = S 3 ∧ S' 4 = S 4 ∧ S' 5 = S 5 ∧ S' 0 0 = S 0 0 ∧ S' 0 3 = S 0 3 ∧ S' 0 6 = S 0 6 ∧ S' 0 8 = S 0 8 ∧ S' 0 12 = S 0 12 ∧ (Fl S → Fl S')
theorem Kq.rf {S : xU} : Kq S S := ⟨rfl, rfl, rfl, rfl, rfl, rfl, rfl, rfl, rfl, fun h => h⟩
theorem Kq.tr {S S' S2 : xU} (h : Kq S S') (k : Kq S' S2) : Kq S S2 := by
  obtain ⟨a1, a2, a3, a4, a5, a6, a7, a8, a9, a10⟩ := h
  obtain ⟨b1, b2, b3, b4, b5, b6, b7, b8, b9, b10⟩ := k
  exact ⟨b1.trans a1, b2.trans a2, b3.trans a3, b4.trans a4, b5.trans a5, b6.trans a6, b7.trans a7, b8.trans a8, b9.trans a9, fun w => b10 (a10 w)⟩
theorem Kq.m {S : xU} {i : Nat} {v : Int} : Kq S (x_up S 1 i v) := ⟨up_o (by decide), up_o (by decide), up_o (by decide), up_o (by decide), congrFun (up_o (by decide)) _, congrFun (up_o (by decide)) _, congrFun (up_o (by decide)) _, congrFun (up_o (by decide)) _, congrFun (up_o (by decide)) _, fun w => w.o (by decide)⟩
theorem Kq.c {S : xU} {o i : Nat} {v : Int} (h : 6 ≤ o) : Kq S (x_up S o i v) := ⟨up_o (by omega), up_o (by omega), up_o (by omega), up_o (by omega), congrFun (up_o (by omega)) _, congrFun (up_o (by omega)) _, congrFun (up_o (by omega)) _, congrFun (up_o (by omega)) _, congrFun (up_o (by omega)) _, fun w => w.o (by omega)⟩
/-- the law in the row stays -/
def Lw (m m' : Nat → Int) : Prop := m' 1 = m 1 ∧ m' 2 = m 2 ∧ ∀ k, 372 ≤ k → k < 772 → m' k = m k
theorem Lw.rf {m : Nat → Int} : Lw m m := ⟨rfl, rfl, fun _ _ _ => rfl⟩
theorem Lw.tr {m m' m2 : Nat → Int} (h : Lw m m') (k : Lw m' m2) : Lw m m2 := ⟨k.1.trans h.1, k.2.1.trans h.2.1, fun i hi hi2 => (k.2.2 i hi hi2).trans (h.2.2 i hi hi2)⟩
theorem Lw.up {S : xU} {i : Nat} {v : Int} (h : 3 ≤ i ∧ i < 372 ∨ i = 0) : Lw (S 1) (x_up S 1 i v 1) := ⟨up_i (by omega), up_i (by omega), fun k hk _ => up_i (by omega)⟩
def LaEq (La La' : xU) : Prop := (La' 0 5 = La 0 5 ∧ La' 0 6 = La 0 6) ∧ ∀ o i, (1 ≤ o ∧ o ≤ 3 ∧ i < 12 ∨ o = 4 ∧ i < 400) → La' o i = La o i
theorem LaEq.rf {La : xU} : LaEq La La := ⟨⟨rfl, rfl⟩, fun _ _ _ => rfl⟩
theorem LaEq.tr {La La1 La2 : xU} (h : LaEq La La1) (k : LaEq La1 La2) : LaEq La La2 := ⟨⟨k.1.1.trans h.1.1, k.1.2.trans h.1.2⟩, fun o i ho => (k.2 o i ho).trans (h.2 o i ho)⟩
theorem LaEq.sy {La La1 : xU} (h : LaEq La La1) : LaEq La1 La := ⟨⟨h.1.1.symm, h.1.2.symm⟩, fun o i ho => (h.2 o i ho).symm⟩
/-- the law of the class does what the text in the row says -/
def LR (La : xU) (m0 : Nat → Int) : Prop := La 0 6 = m0 1 ∧ ∀ (La1 C S : xU) (p : Nat), LaEq La La1 → CR C (S 1) → Iv (S 1) → Lw m0 (S 1) → (p : Int) < S 1 3 →
  ∃ v La2 S2, 0 ≤ v ∧ v ≤ 15 ∧ G4_strideOf (p : Int) C La1 = some (v, La2) ∧ LaEq La La2 ∧ G12_strideOf (p : Int) S = some (v, S2) ∧ S2 1 = S 1 ∧ S2 7 = S 7 ∧ Kq S S2
theorem LR.mv {La La' : xU} {m m' : Nat → Int} (h : LR La m) (h1 : LaEq La La') (h2 : Lw m m') : LR La' m' := by
  refine ⟨?_, fun La1 C S p e1 e2 e3 e4 e5 => ?_⟩
  · rw [h1.1.2, h.1, h2.1]
  · obtain ⟨v, La2, S2, a1, a2, a3, a4, a5⟩ := h.2 La1 C S p (h1.tr e1) e2 e3 (h2.tr e4) e5
    exact ⟨v, La2, S2, a1, a2, a3, h1.sy.tr a4, a5⟩
section Q4
variable {C S La : xU} {m : Nat → Int} {n : Nat}
/-- a monk's number is put -/
theorem CR.put {p k : Nat} {v : Int} (h : CR C (S 1)) (hi : Iv (S 1)) (hp : (p : Int) < S 1 3) (hk : k < 8) : CR (x_up C 1 (7 * k + p) v) (x_up S 1 (16 + 8 * p + k) v 1) := by
  have h7 := hi.many
  obtain ⟨a1, a2, a3, a4, a5, n, a6, a7, a8⟩ := h
  have e3 : x_up S 1 (16 + 8 * p + k) v 1 3 = S 1 3 := up_i (by omega)
  refine ⟨?_, ?_, ?_, ?_, ?_, n, a6, ?_, ?_⟩
  · refine ⟨?_, ?_, ?_, ?_, ?_, ?_, ?_, ?_, ?_⟩ <;> rw [up_o (by decide), up_i (by omega)]
    · exact a1.1
    · exact a1.2.1
    · exact a1.2.2.1
    · exact a1.2.2.2.1
    · exact a1.2.2.2.2.1
    · exact a1.2.2.2.2.2.1
    · exact a1.2.2.2.2.2.2.1
    · exact a1.2.2.2.2.2.2.2.1
    · exact a1.2.2.2.2.2.2.2.2
  · intro w hw
    rw [up_o (by decide), up_i (by omega)]
    exact a2 w hw
  · intro p2 k2 hp2 hk2
    rw [e3] at hp2
    by_cases e : p2 = p ∧ k2 = k
    · obtain ⟨rfl, rfl⟩ := e
      rw [up_s, up_s]
    · rw [up_i (by omega), up_i (by omega)]
      exact a3 p2 k2 hp2 hk2
  · intro p2 k2 h1 hp2 h4 hk2
    rw [e3] at hp2
    rw [up_i (by omega)]
    exact a4 p2 k2 h1 hp2 h4 hk2
  · rw [up_o (by decide), up_i (by omega)]
    exact a5
  · rw [up_o (by decide)]
    exact a7
  · intro g hg
    rw [up_i (by omega)] at hg
    rw [up_o (by decide), up_i (by omega), up_i (by omega), up_i (by omega), up_i (by omega), up_i (by omega)]
    exact a8 g hg
theorem Iv.put {p k : Nat} {v : Int} (hi : Iv (S 1)) (hp : (p : Int) < S 1 3) (hk : k < 8) (h2 : k ≠ 2) (hv : Mk (x_up S 1 (16 + 8 * p + k) v 1) p) : Iv (x_up S 1 (16 + 8 * p + k) v 1) := by
  have h7 := hi.many
  obtain ⟨a1, a2, a3, a4, a5⟩ := hi
  have e3 : x_up S 1 (16 + 8 * p + k) v 1 3 = S 1 3 := up_i (by omega)
  refine ⟨?_, ?_, ?_, ?_, ?_⟩
  · rw [e3, up_i (by omega), up_i (by omega), up_i (by omega), up_i (by omega), up_i (by omega), up_i (by omega), up_i (by omega), up_i (by omega), up_i (by omega)]
    exact a1
  · intro w hw
    rw [up_i (by omega)]
    exact a2 w hw
  · intro p2 hp2
    rw [e3] at hp2
    by_cases e : p2 = p
    · subst e; exact hv
    · have := a3 p2 hp2
      unfold Mk at this ⊢
      rw [up_i (by omega), up_i (by omega), up_i (by omega), up_i (by omega), up_i (by omega), up_i (by omega), up_i (by omega), up_i (by omega)]
      exact this
  · intro g hg
    rw [up_i (by omega)] at hg
    have := a4 g hg
    unfold Lg at this ⊢
    rw [up_i (by omega), up_i (by omega), up_i (by omega), up_i (by omega), up_i (by omega)]
    exact this
  · intro p2 q2 hp2 hq2
    rw [e3] at hp2 hq2
    rw [up_i (by omega), up_i (by omega)]
    exact a5 p2 q2 hp2 hq2
/-- a number of the cloister itself is put: the same word for both -/
theorem CR.sc {i c : Nat} {v : Int} (h : CR C (S 1)) (hi : (c = 4 ∧ i = 0) ∨ (c = 5 ∧ i = 4) ∨ (c = 6 ∧ i = 5) ∨ (c = 7 ∧ i = 6) ∨ (c = 8 ∧ i = 7) ∨ (c = 9 ∧ i = 8) ∨ (c = 10 ∧ i = 9) ∨ (c = 11 ∧ i = 11)) : CR (x_up C 0 c v) (x_up S 1 i v 1) := by
  obtain ⟨a1, a2, a3, a4, a5, n, a6, a7, a8⟩ := h
  have e3 : x_up S 1 i v 1 3 = S 1 3 := up_i (by omega)
  refine ⟨?_, ?_, ?_, ?_, ?_, n, a6, ?_, ?_⟩
  · obtain ⟨b1, b2, b3, b4, b5, b6, b7, b8, b9⟩ := a1
    rcases hi with ⟨rfl, rfl⟩ | ⟨rfl, rfl⟩ | ⟨rfl, rfl⟩ | ⟨rfl, rfl⟩ | ⟨rfl, rfl⟩ | ⟨rfl, rfl⟩ | ⟨rfl, rfl⟩ | ⟨rfl, rfl⟩ <;> simp [x_up, b1, b2, b3, b4, b5, b6, b7, b8, b9]
  · intro w hw
    rw [up_o (by decide), up_i (by omega)]
    exact a2 w hw
  · intro p2 k2 hp2 hk2
    rw [e3] at hp2
    rw [up_o (by decide), up_i (by omega)]
    exact a3 p2 k2 hp2 hk2
  · intro p2 k2 h1 hp2 h4 hk2
    rw [e3] at hp2
    rw [up_o (by decide)]
    exact a4 p2 k2 h1 hp2 h4 hk2
  · rw [up_o (by decide), up_i (by omega)]
    exact a5
  · rw [up_o (by decide)]
    exact a7
  · intro g hg
    rw [up_i (by omega)] at hg
    rw [up_o (by decide), up_i (by omega), up_i (by omega), up_i (by omega), up_i (by omega), up_i (by omega)]
    exact a8 g hg
theorem Iv.sc {i : Nat} {v : Int} (hi : Iv (S 1)) (h : (i = 0 ∧ 0 ≤ v ∧ v ≤ 12) ∨ (i = 4 ∧ 0 ≤ v ∧ v < 24) ∨ (i = 5 ∧ 0 ≤ v ∧ v ≤ 9999) ∨ (i = 6 ∧ 0 ≤ v ∧ v < 16) ∨ (i = 7 ∧ 0 ≤ v ∧ v < 5) ∨ (i = 8 ∧ 0 ≤ v ∧ v ≤ 100) ∨ (i = 9 ∧ 0 ≤ v ∧ v ≤ 20) ∨ (i = 11 ∧ R32 v)) : Iv (x_up S 1 i v 1) := by
  obtain ⟨a1, a2, a3, a4, a5⟩ := hi
  have e3 : x_up S 1 i v 1 3 = S 1 3 := up_i (by omega)
  refine ⟨?_, ?_, ?_, ?_, ?_⟩
  · rcases h with ⟨rfl, h1, h2⟩ | ⟨rfl, h1, h2⟩ | ⟨rfl, h1, h2⟩ | ⟨rfl, h1, h2⟩ | ⟨rfl, h1, h2⟩ | ⟨rfl, h1, h2⟩ | ⟨rfl, h1, h2⟩ | ⟨rfl, h1⟩ <;> simp only [x_up] <;> simp <;> refine ⟨?_, ?_, ?_, ?_, ?_, ?_, ?_, ?_, ?_, ?_⟩ <;> first | exact ⟨h1, h2⟩ | exact h1 | exact a1.1 | exact a1.2.1 | exact a1.2.2.1 | exact a1.2.2.2.1 | exact a1.2.2.2.2.1 | exact a1.2.2.2.2.2.1 | exact a1.2.2.2.2.2.2.1 | exact a1.2.2.2.2.2.2.2.1 | exact a1.2.2.2.2.2.2.2.2.1 | exact a1.2.2.2.2.2.2.2.2.2
  · intro w hw
    rw [up_i (by omega)]
    exact a2 w hw
  · intro p2 hp2
    rw [e3] at hp2
    have := a3 p2 hp2
    unfold Mk at this ⊢
    rw [up_i (by omega), up_i (by omega), up_i (by omega), up_i (by omega), up_i (by omega), up_i (by omega), up_i (by omega), up_i (by omega)]
    exact this
  · intro g hg
    rw [up_i (by omega)] at hg
    have := a4 g hg
    unfold Lg at this ⊢
    rw [up_i (by omega), up_i (by omega), up_i (by omega), up_i (by omega), up_i (by omega)]
    exact this
  · intro p2 q2 hp2 hq2
    rw [e3] at hp2 hq2
    rw [up_i (by omega), up_i (by omega)]
    exact a5 p2 q2 hp2 hq2
/-- a store is put -/
theorem CR.st {w : Nat} {v : Int} (h : CR C (S 1)) (hw : w < 4) : CR (x_up C 2 w v) (x_up S 1 (12 + w) v 1) := by
  obtain ⟨a1, a2, a3, a4, a5, n, a6, a7, a8⟩ := h
  have e3 : x_up S 1 (12 + w) v 1 3 = S 1 3 := up_i (by omega)
  refine ⟨?_, ?_, ?_, ?_, ?_, n, a6, ?_, ?_⟩
  · rw [up_o (by decide), up_i (by omega), up_i (by omega), up_i (by omega), up_i (by omega), up_i (by omega), up_i (by omega), up_i (by omega), up_i (by omega), up_i (by omega)]
    exact a1
  · intro w2 hw2
    by_cases e : w2 = w
    · subst e; rw [up_s, up_s]
    · rw [up_i e, up_i (by omega)]
      exact a2 w2 hw2
  · intro p2 k2 hp2 hk2
    rw [e3] at hp2
    rw [up_o (by decide), up_i (by omega)]
    exact a3 p2 k2 hp2 hk2
  · intro p2 k2 h1 hp2 h4 hk2
    rw [e3] at hp2
    rw [up_o (by decide)]
    exact a4 p2 k2 h1 hp2 h4 hk2
  · rw [up_o (by decide), up_i (by omega)]
    exact a5
  · rw [up_o (by decide)]
    exact a7
  · intro g hg
    rw [up_i (by omega)] at hg
    rw [up_o (by decide), up_i (by omega), up_i (by omega), up_i (by omega), up_i (by omega), up_i (by omega)]
    exact a8 g hg
theorem Iv.pst {w : Nat} {v : Int} (hi : Iv (S 1)) (hw : w < 4) (hv : 0 ≤ v ∧ v ≤ 999) : Iv (x_up S 1 (12 + w) v 1) := by
  obtain ⟨a1, a2, a3, a4, a5⟩ := hi
  have e3 : x_up S 1 (12 + w) v 1 3 = S 1 3 := up_i (by omega)
  refine ⟨?_, ?_, ?_, ?_, ?_⟩
  · rw [e3, up_i (by omega), up_i (by omega), up_i (by omega), up_i (by omega), up_i (by omega), up_i (by omega), up_i (by omega), up_i (by omega), up_i (by omega)]
    exact a1
  · intro w2 hw2
    by_cases e : w2 = w
    · subst e; rw [up_s]; exact hv
    · rw [up_i (by omega)]
      exact a2 w2 hw2
  · intro p2 hp2
    rw [e3] at hp2
    have := a3 p2 hp2
    unfold Mk at this ⊢
    rw [up_i (by omega), up_i (by omega), up_i (by omega), up_i (by omega), up_i (by omega), up_i (by omega), up_i (by omega), up_i (by omega)]
    exact this
  · intro g hg
    rw [up_i (by omega)] at hg
    have := a4 g hg
    unfold Lg at this ⊢
    rw [up_i (by omega), up_i (by omega), up_i (by omega), up_i (by omega), up_i (by omega)]
    exact this
  · intro p2 q2 hp2 hq2
    rw [e3] at hp2 hq2
    rw [up_i (by omega), up_i (by omega)]
    exact a5 p2 q2 hp2 hq2
end Q4
