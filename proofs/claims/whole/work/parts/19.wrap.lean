/-! The law's calls of the class: what they answer. -/
/-- the number that the law has of an answer: 0, or the place of what was thrown -/
def x_wc (l : List Nat) (o : Int ⊕ Nat) : Int := match o with
  | .inl _ => 0
  | .inr E => ((l.idxOf E : Nat) : Int) + 1
def x_out (Ot : xU) (o : Int ⊕ Nat) : xU := match o with
  | .inl v => x_up Ot 0 0 (x_i2l v)
  | .inr _ => Ot
theorem xmH_cloister (ix : Nat) (h : Cond.methodLink RL ix yL_cloister ∈ x_big) : x_LH RL ix yL_cloister cL_cloister 3 (some .int) [(0, 8, 11, 13), (0, 8, 14, 15)] 2 := ⟨h, (x_inB (x_t3 (List.mem_of_getElem? (i := 179) rfl)) rfl), (x_inB (x_t1 (List.mem_of_getElem? (i := 0) rfl)) rfl), (x_inB (x_t3 (List.mem_of_getElem? (i := 180) rfl)) rfl), ⟨by decide +kernel, by decide +kernel⟩, (by unfold x_ar; decide +kernel), by decide⟩
set_option maxRecDepth 100000 in
set_option maxHeartbeats 4000000 in
theorem c_L_cloister {g : xG} {al : List (Nat × Nat × Nat)} {ro : Nat → Nat → Option Nat} (hst : g.1.stackTraces = false) (hs : SH al ro) (ho : (16 * 27 + 0, 21, 1) ∈ al) {M : Nat → xU} {X : xU} {T : xU} {N : xU} {Dr : xU} {Ot : xU} {t : ((Int ⊕ Nat) × xU × xU × xU × xU)} (hG : G11_cloister X T N Dr = some t) (hE : ∀ E, t.1 = .inr E → E ∈ ([0, 4] : List Nat)) :
    CalH g yL_cloister cL_cloister 3 (some .int) [(0, 8, 11, 13), (0, 8, 14, 15)] 13 [x_r (16 * 1 + 0), x_r (16 * 27 + 0)] (al, ro, fl (ml M [1, 2, 3, 4, 27] [X, T, N, Dr, Ot])) 1 6 (.inl (some (x_i (x_wc [0, 4] t.1)))) (al, ro, fl (ml M [1, 2, 3, 4, 27] [t.2.1, t.2.2.1, t.2.2.2.1, t.2.2.2.2, (x_out Ot t.1)])) := by
  have hn : ([1, 2, 3, 4, 27] : List Nat).Nodup := by decide
  refine calH_of_ev (by decide) (x_c1 rfl) (Nat.le_of_ble_eq_true rfl) hst ?_
  show Ev g _ _ _ _ _ _ 0 [some (x_r (16 * 1 + 0)), some (x_r (16 * 27 + 0)), none] [] (al, ro, fl (ml M [1, 2, 3, 4, 27] [X, T, N, Dr, Ot])) _ _ _ _
  obtain ⟨t0, t1, t2, t3, t4⟩ := t
  refine e_aloadn (pc := 0) (i := 1) dL_cloister_0 rfl rfl ?_
  refine e_iconst (pc := 1) dL_cloister_1 (x_R rfl) ?_
  refine e_aloadn (pc := 2) (i := 0) dL_cloister_2 rfl rfl ?_
  cases t0 with
  | inl v =>
    refine e_invV (pc := 3) (K1 := 1) (S1 := 6) (K := 0) (S := 0) (dd2 := 12) (av := []) (st := [x_i 0, x_r (16 * 27 + 0)]) (id := 16 * 1 + 0) dL_cloister_3 xmL_7 rfl (Or.inl ⟨9, 17, TX11, (sa_1_0 hs), rfl, by decide⟩) (f_cal (M := M) (us2 := [1, 2, 3, 4]) [0, 1, 2, 3] hn rfl (And.intro rfl (And.intro rfl (And.intro rfl (And.intro rfl trivial)))) rfl rfl rfl (c_X11_cloister hst hs hG)) (by decide) (Nat.le_of_ble_eq_true rfl) (Or.inl rfl) ?_
    show Ev g _ _ _ _ _ _ 6 [some (x_r (16 * 1 + 0)), some (x_r (16 * 27 + 0)), none] [x_i v, x_i 0, x_r (16 * 27 + 0)] (al, ro, fl (ml M [1, 2, 3, 4, 27] [t1, t2, t3, t4, Ot])) _ _ _ _
    refine e_i2l (pc := 6) dL_cloister_6 ?_
    refine f_last (pc := 7) (k := 4) (u := 27) (q := 0) (len := 1) dL_cloister_7 ho (by decide) hn rfl rfl rfl (by decide) ?_
    show Ev g _ _ _ _ _ _ 8 [some (x_r (16 * 1 + 0)), some (x_r (16 * 27 + 0)), none] [] (al, ro, fl (ml M [1, 2, 3, 4, 27] [t1, t2, t3, t4, (x_up Ot 0 0 (x_i2l v))])) _ _ _ _
    refine e_goto (pc := 8) (tgt := 17) dL_cloister_8 (by decide) ?_
    refine e_iconst (pc := 17) dL_cloister_17 (x_R rfl) ?_
    exact e_ireturn rfl dL_cloister_18 rfl
  | inr E =>
    have hE2 := hE E rfl
    simp only [List.mem_cons, List.not_mem_nil, or_false] at hE2
    rcases hE2 with rfl | rfl
    · refine e_invVC (pc := 3) (K1 := 1) (S1 := 6) (K := 0) (S := 0) (dd2 := 12) (av := []) (st := [x_i 0, x_r (16 * 27 + 0)]) (id := 16 * 1 + 0) (i1 := 2) (hp := 11) dL_cloister_3 xmL_7 rfl (Or.inl ⟨9, 17, TX11, (sa_1_0 hs), rfl, by decide⟩) (f_cal (M := M) (us2 := [1, 2, 3, 4]) [0, 1, 2, 3] hn rfl (And.intro rfl (And.intro rfl (And.intro rfl (And.intro rfl trivial)))) rfl rfl rfl (c_X11_cloister hst hs hG)) (by decide) (Nat.le_of_ble_eq_true rfl) ([]) ([⟨0, 8, 14, 15⟩]) (⟨0, 8, 11, 13⟩) rfl (fun z hz => absurd hz List.not_mem_nil) rfl (by decide) (by decide) xlL_13 xe_0 rfl dL_cloister_11 rfl (by decide) rfl rfl ?_
      show Ev g _ _ _ _ _ _ 12 [some (x_r (16 * 1 + 0)), some (x_r (16 * 27 + 0)), none] [] (al, ro, fl (ml M [1, 2, 3, 4, 27] [t1, t2, t3, t4, Ot])) _ _ _ _
      refine e_iconst (pc := 12) dL_cloister_12 (x_R rfl) ?_
      exact e_ireturn rfl dL_cloister_13 rfl
    · refine e_invVC (pc := 3) (K1 := 1) (S1 := 6) (K := 0) (S := 0) (dd2 := 12) (av := []) (st := [x_i 0, x_r (16 * 27 + 0)]) (id := 16 * 1 + 0) (i1 := 2) (hp := 14) dL_cloister_3 xmL_7 rfl (Or.inl ⟨9, 17, TX11, (sa_1_0 hs), rfl, by decide⟩) (f_cal (M := M) (us2 := [1, 2, 3, 4]) [0, 1, 2, 3] hn rfl (And.intro rfl (And.intro rfl (And.intro rfl (And.intro rfl trivial)))) rfl rfl rfl (c_X11_cloister hst hs hG)) (by decide) (Nat.le_of_ble_eq_true rfl) ([⟨0, 8, 11, 13⟩]) ([]) (⟨0, 8, 14, 15⟩) rfl (List.forall_mem_cons.mpr ⟨Or.inr ⟨by decide, 0, by decide, by decide, xlL_13⟩, (fun _ h => absurd h List.not_mem_nil)⟩) rfl (by decide) (by decide) xlL_15 xe_4 rfl dL_cloister_14 rfl (by decide) rfl rfl ?_
      show Ev g _ _ _ _ _ _ 15 [some (x_r (16 * 1 + 0)), some (x_r (16 * 27 + 0)), none] [] (al, ro, fl (ml M [1, 2, 3, 4, 27] [t1, t2, t3, t4, Ot])) _ _ _ _
      refine e_iconst (pc := 15) dL_cloister_15 (x_R rfl) ?_
      exact e_ireturn rfl dL_cloister_16 rfl
theorem xmH_law (ix : Nat) (h : Cond.methodLink RL ix yL_law ∈ x_big) : x_LH RL ix yL_law cL_law 3 (some .int) [(0, 8, 11, 13)] 2 := ⟨h, (x_inB (x_t4 (List.mem_of_getElem? (i := 190) rfl)) rfl), (x_inB (x_t1 (List.mem_of_getElem? (i := 0) rfl)) rfl), (x_inB (x_t4 (List.mem_of_getElem? (i := 191) rfl)) rfl), ⟨by decide +kernel, by decide +kernel⟩, (by unfold x_ar; decide +kernel), by decide⟩
set_option maxRecDepth 100000 in
set_option maxHeartbeats 4000000 in
theorem c_L_law {g : xG} {al : List (Nat × Nat × Nat)} {ro : Nat → Nat → Option Nat} (hst : g.1.stackTraces = false) (hs : SH al ro) (ho : (16 * 27 + 0, 21, 1) ∈ al) {M : Nat → xU} {X : xU} {T : xU} {La : xU} {Lb : xU} {Ot : xU} {t : ((Int ⊕ Nat) × xU × xU × xU × xU)} (hG : G11_law X T La Lb = some t) (hE : ∀ E, t.1 = .inr E → E ∈ ([0] : List Nat)) :
    CalH g yL_law cL_law 3 (some .int) [(0, 8, 11, 13)] 33 [x_r (16 * 1 + 0), x_r (16 * 27 + 0)] (al, ro, fl (ml M [1, 2, 19, 20, 27] [X, T, La, Lb, Ot])) 1 6 (.inl (some (x_i (x_wc [0] t.1)))) (al, ro, fl (ml M [1, 2, 19, 20, 27] [t.2.1, t.2.2.1, t.2.2.2.1, t.2.2.2.2, (x_out Ot t.1)])) := by
  have hn : ([1, 2, 19, 20, 27] : List Nat).Nodup := by decide
  refine calH_of_ev (by decide) (x_c1 rfl) (Nat.le_of_ble_eq_true rfl) hst ?_
  show Ev g _ _ _ _ _ _ 0 [some (x_r (16 * 1 + 0)), some (x_r (16 * 27 + 0)), none] [] (al, ro, fl (ml M [1, 2, 19, 20, 27] [X, T, La, Lb, Ot])) _ _ _ _
  obtain ⟨t0, t1, t2, t3, t4⟩ := t
  refine e_aloadn (pc := 0) (i := 1) dL_law_0 rfl rfl ?_
  refine e_iconst (pc := 1) dL_law_1 (x_R rfl) ?_
  refine e_aloadn (pc := 2) (i := 0) dL_law_2 rfl rfl ?_
  cases t0 with
  | inl v =>
    refine e_invV (pc := 3) (K1 := 1) (S1 := 6) (K := 0) (S := 0) (dd2 := 32) (av := []) (st := [x_i 0, x_r (16 * 27 + 0)]) (id := 16 * 1 + 0) dL_law_3 xmL_17 rfl (Or.inl ⟨9, 17, TX11, (sa_1_0 hs), rfl, by decide⟩) (f_cal (M := M) (us2 := [1, 2, 19, 20]) [0, 1, 2, 3] hn rfl (And.intro rfl (And.intro rfl (And.intro rfl (And.intro rfl trivial)))) rfl rfl rfl (c_X11_law hst hs hG)) (by decide) (Nat.le_of_ble_eq_true rfl) (Or.inl rfl) ?_
    show Ev g _ _ _ _ _ _ 6 [some (x_r (16 * 1 + 0)), some (x_r (16 * 27 + 0)), none] [x_i v, x_i 0, x_r (16 * 27 + 0)] (al, ro, fl (ml M [1, 2, 19, 20, 27] [t1, t2, t3, t4, Ot])) _ _ _ _
    refine e_i2l (pc := 6) dL_law_6 ?_
    refine f_last (pc := 7) (k := 4) (u := 27) (q := 0) (len := 1) dL_law_7 ho (by decide) hn rfl rfl rfl (by decide) ?_
    show Ev g _ _ _ _ _ _ 8 [some (x_r (16 * 1 + 0)), some (x_r (16 * 27 + 0)), none] [] (al, ro, fl (ml M [1, 2, 19, 20, 27] [t1, t2, t3, t4, (x_up Ot 0 0 (x_i2l v))])) _ _ _ _
    refine e_goto (pc := 8) (tgt := 14) dL_law_8 (by decide) ?_
    refine e_iconst (pc := 14) dL_law_14 (x_R rfl) ?_
    exact e_ireturn rfl dL_law_15 rfl
  | inr E =>
    have hE2 := hE E rfl
    simp only [List.mem_cons, List.not_mem_nil, or_false] at hE2
    subst hE2
    · refine e_invVC (pc := 3) (K1 := 1) (S1 := 6) (K := 0) (S := 0) (dd2 := 32) (av := []) (st := [x_i 0, x_r (16 * 27 + 0)]) (id := 16 * 1 + 0) (i1 := 2) (hp := 11) dL_law_3 xmL_17 rfl (Or.inl ⟨9, 17, TX11, (sa_1_0 hs), rfl, by decide⟩) (f_cal (M := M) (us2 := [1, 2, 19, 20]) [0, 1, 2, 3] hn rfl (And.intro rfl (And.intro rfl (And.intro rfl (And.intro rfl trivial)))) rfl rfl rfl (c_X11_law hst hs hG)) (by decide) (Nat.le_of_ble_eq_true rfl) ([]) ([]) (⟨0, 8, 11, 13⟩) rfl (fun z hz => absurd hz List.not_mem_nil) rfl (by decide) (by decide) xlL_13 xe_0 rfl dL_law_11 rfl (by decide) rfl rfl ?_
      show Ev g _ _ _ _ _ _ 12 [some (x_r (16 * 1 + 0)), some (x_r (16 * 27 + 0)), none] [] (al, ro, fl (ml M [1, 2, 19, 20, 27] [t1, t2, t3, t4, Ot])) _ _ _ _
      refine e_iconst (pc := 12) dL_law_12 (x_R rfl) ?_
      exact e_ireturn rfl dL_law_13 rfl
theorem xmH_monk (ix : Nat) (h : Cond.methodLink RL ix yL_monk ∈ x_big) : x_LH RL ix yL_monk cL_monk 5 (some .int) [(0, 10, 13, 24), (0, 10, 17, 26)] 4 := ⟨h, (x_inB (x_t5 (List.mem_of_getElem? (i := 18) rfl)) rfl), (x_inB (x_t1 (List.mem_of_getElem? (i := 0) rfl)) rfl), (x_inB (x_t5 (List.mem_of_getElem? (i := 19) rfl)) rfl), ⟨by decide +kernel, by decide +kernel⟩, (by unfold x_ar; decide +kernel), by decide⟩
set_option maxRecDepth 100000 in
set_option maxHeartbeats 4000000 in
theorem c_L_monk {g : xG} {al : List (Nat × Nat × Nat)} {ro : Nat → Nat → Option Nat} (hst : g.1.stackTraces = false) (hs : SH al ro) (ho : (16 * 27 + 0, 21, 1) ∈ al) {M : Nat → xU} {a : Int} {b : Int} {N : xU} {La : xU} {Ot : xU} {t : ((Int ⊕ Nat) × xU)} (hG : G11_monk a b N La = some t) (hE : ∀ E, t.1 = .inr E → E ∈ ([1, 3] : List Nat)) :
    CalH g yL_monk cL_monk 5 (some .int) [(0, 10, 13, 24), (0, 10, 17, 26)] 4 [x_r (16 * 1 + 0), x_i a, x_i b, x_r (16 * 27 + 0)] (al, ro, fl (ml M [3, 19, 27] [N, La, Ot])) 2 12 (.inl (some (x_i (x_wc [1, 3] t.1)))) (al, ro, fl (ml M [3, 19, 27] [N, t.2, (x_out Ot t.1)])) := by
  have hn : ([3, 19, 27] : List Nat).Nodup := by decide
  refine calH_of_ev (by decide) (x_c1 rfl) (Nat.le_of_ble_eq_true rfl) hst ?_
  show Ev g _ _ _ _ _ _ 0 [some (x_r (16 * 1 + 0)), some (x_i a), some (x_i b), some (x_r (16 * 27 + 0)), none] [] (al, ro, fl (ml M [3, 19, 27] [N, La, Ot])) _ _ _ _
  obtain ⟨t0, t1⟩ := t
  refine e_aloadn (pc := 0) (i := 3) dL_monk_0 rfl rfl ?_
  refine e_iconst (pc := 1) dL_monk_1 (x_R rfl) ?_
  refine e_aloadn (pc := 2) (i := 0) dL_monk_2 rfl rfl ?_
  refine e_iloadn (pc := 3) (i := 1) dL_monk_3 rfl rfl ?_
  refine e_iloadn (pc := 4) (i := 2) dL_monk_4 rfl rfl ?_
  cases t0 with
  | inl v =>
    refine e_invV (pc := 5) (K1 := 2) (S1 := 12) (K := 0) (S := 0) (dd2 := 3) (av := [x_i a, x_i b]) (st := [x_i 0, x_r (16 * 27 + 0)]) (id := 16 * 1 + 0) dL_monk_5 xmL_20 rfl (Or.inl ⟨9, 17, TX11, (sa_1_0 hs), rfl, by decide⟩) (f_cal (M := M) (us2 := [3, 19]) [0, 1] hn rfl (And.intro rfl (And.intro rfl trivial)) rfl rfl rfl (c_X11_monk hst hs hG)) (by decide) (Nat.le_of_ble_eq_true rfl) (Or.inl rfl) ?_
    show Ev g _ _ _ _ _ _ 8 [some (x_r (16 * 1 + 0)), some (x_i a), some (x_i b), some (x_r (16 * 27 + 0)), none] [x_i v, x_i 0, x_r (16 * 27 + 0)] (al, ro, fl (ml M [3, 19, 27] [N, t1, Ot])) _ _ _ _
    refine e_i2l (pc := 8) dL_monk_8 ?_
    refine f_last (pc := 9) (k := 2) (u := 27) (q := 0) (len := 1) dL_monk_9 ho (by decide) hn rfl rfl rfl (by decide) ?_
    show Ev g _ _ _ _ _ _ 10 [some (x_r (16 * 1 + 0)), some (x_i a), some (x_i b), some (x_r (16 * 27 + 0)), none] [] (al, ro, fl (ml M [3, 19, 27] [N, t1, (x_up Ot 0 0 (x_i2l v))])) _ _ _ _
    refine e_goto (pc := 10) (tgt := 21) dL_monk_10 (by decide) ?_
    refine e_iconst (pc := 21) dL_monk_21 (x_R rfl) ?_
    exact e_ireturn rfl dL_monk_22 rfl
  | inr E =>
    have hE2 := hE E rfl
    simp only [List.mem_cons, List.not_mem_nil, or_false] at hE2
    rcases hE2 with rfl | rfl
    · refine e_invVC2 (pc := 5) (K1 := 2) (S1 := 12) (K := 0) (S := 0) (dd2 := 3) (av := [x_i a, x_i b]) (st := [x_i 0, x_r (16 * 27 + 0)]) (id := 16 * 1 + 0) (i1 := 4) (hp := 13) dL_monk_5 xmL_20 rfl (Or.inl ⟨9, 17, TX11, (sa_1_0 hs), rfl, by decide⟩) (f_cal (M := M) (us2 := [3, 19]) [0, 1] hn rfl (And.intro rfl (And.intro rfl trivial)) rfl rfl rfl (c_X11_monk hst hs hG)) (by decide) (Nat.le_of_ble_eq_true rfl) ([]) ([⟨0, 10, 17, 26⟩]) (⟨0, 10, 13, 24⟩) rfl (fun z hz => absurd hz List.not_mem_nil) rfl (by decide) (by decide) xlL_24 xe_1 rfl dL_monk_13 (by decide) rfl rfl ?_
      show Ev g _ _ _ _ _ _ 15 [some (x_r (16 * 1 + 0)), some (x_i a), some (x_i b), some (x_r (16 * 27 + 0)), none] [] (al, ro, fl (ml M [3, 19, 27] [N, t1, Ot])) _ _ _ _
      refine e_iconst (pc := 15) dL_monk_15 (x_R rfl) ?_
      exact e_ireturn rfl dL_monk_16 rfl
    · refine e_invVC2 (pc := 5) (K1 := 2) (S1 := 12) (K := 0) (S := 0) (dd2 := 3) (av := [x_i a, x_i b]) (st := [x_i 0, x_r (16 * 27 + 0)]) (id := 16 * 1 + 0) (i1 := 4) (hp := 17) dL_monk_5 xmL_20 rfl (Or.inl ⟨9, 17, TX11, (sa_1_0 hs), rfl, by decide⟩) (f_cal (M := M) (us2 := [3, 19]) [0, 1] hn rfl (And.intro rfl (And.intro rfl trivial)) rfl rfl rfl (c_X11_monk hst hs hG)) (by decide) (Nat.le_of_ble_eq_true rfl) ([⟨0, 10, 13, 24⟩]) ([]) (⟨0, 10, 17, 26⟩) rfl (List.forall_mem_cons.mpr ⟨Or.inr ⟨by decide, 1, by decide, by decide, xlL_24⟩, (fun _ h => absurd h List.not_mem_nil)⟩) rfl (by decide) (by decide) xlL_26 xe_3 rfl dL_monk_17 (by decide) rfl rfl ?_
      show Ev g _ _ _ _ _ _ 19 [some (x_r (16 * 1 + 0)), some (x_i a), some (x_i b), some (x_r (16 * 27 + 0)), none] [] (al, ro, fl (ml M [3, 19, 27] [N, t1, Ot])) _ _ _ _
      refine e_iconst (pc := 19) dL_monk_19 (x_R rfl) ?_
      exact e_ireturn rfl dL_monk_20 rfl
theorem xmH_store (ix : Nat) (h : Cond.methodLink RL ix yL_store ∈ x_big) : x_LH RL ix yL_store cL_store 4 (some .int) [(0, 9, 12, 24)] 3 := ⟨h, (x_inB (x_t5 (List.mem_of_getElem? (i := 67) rfl)) rfl), (x_inB (x_t1 (List.mem_of_getElem? (i := 0) rfl)) rfl), (x_inB (x_t5 (List.mem_of_getElem? (i := 68) rfl)) rfl), ⟨by decide +kernel, by decide +kernel⟩, (by unfold x_ar; decide +kernel), by decide⟩
set_option maxRecDepth 100000 in
set_option maxHeartbeats 4000000 in
theorem c_L_store {g : xG} {al : List (Nat × Nat × Nat)} {ro : Nat → Nat → Option Nat} (hst : g.1.stackTraces = false) (hs : SH al ro) (ho : (16 * 27 + 0, 21, 1) ∈ al) {M : Nat → xU} {a : Int} {N : xU} {Ot : xU} {t : (Int ⊕ Nat)} (hG : G11_store a N = some t) (hE : ∀ E, t = .inr E → E ∈ ([1] : List Nat)) :
    CalH g yL_store cL_store 4 (some .int) [(0, 9, 12, 24)] 2 [x_r (16 * 1 + 0), x_i a, x_r (16 * 27 + 0)] (al, ro, fl (ml M [3, 27] [N, Ot])) 1 6 (.inl (some (x_i (x_wc [1] t)))) (al, ro, fl (ml M [3, 27] [N, (x_out Ot t)])) := by
  have hn : ([3, 27] : List Nat).Nodup := by decide
  refine calH_of_ev (by decide) (x_c1 rfl) (Nat.le_of_ble_eq_true rfl) hst ?_
  show Ev g _ _ _ _ _ _ 0 [some (x_r (16 * 1 + 0)), some (x_i a), some (x_r (16 * 27 + 0)), none] [] (al, ro, fl (ml M [3, 27] [N, Ot])) _ _ _ _
  refine e_aloadn (pc := 0) (i := 2) dL_store_0 rfl rfl ?_
  refine e_iconst (pc := 1) dL_store_1 (x_R rfl) ?_
  refine e_aloadn (pc := 2) (i := 0) dL_store_2 rfl rfl ?_
  refine e_iloadn (pc := 3) (i := 1) dL_store_3 rfl rfl ?_
  cases t with
  | inl v =>
    refine e_invV (pc := 4) (K1 := 1) (S1 := 6) (K := 0) (S := 0) (dd2 := 1) (av := [x_i a]) (st := [x_i 0, x_r (16 * 27 + 0)]) (id := 16 * 1 + 0) dL_store_4 xmL_28 rfl (Or.inl ⟨9, 17, TX11, (sa_1_0 hs), rfl, by decide⟩) (f_cal (M := M) (us2 := [3]) [0] hn rfl (And.intro rfl trivial) rfl rfl rfl (c_X11_store hst hs hG)) (by decide) (Nat.le_of_ble_eq_true rfl) (Or.inl rfl) ?_
    show Ev g _ _ _ _ _ _ 7 [some (x_r (16 * 1 + 0)), some (x_i a), some (x_r (16 * 27 + 0)), none] [x_i v, x_i 0, x_r (16 * 27 + 0)] (al, ro, fl (ml M [3, 27] [N, Ot])) _ _ _ _
    refine e_i2l (pc := 7) dL_store_7 ?_
    refine f_last (pc := 8) (k := 1) (u := 27) (q := 0) (len := 1) dL_store_8 ho (by decide) hn rfl rfl rfl (by decide) ?_
    show Ev g _ _ _ _ _ _ 9 [some (x_r (16 * 1 + 0)), some (x_i a), some (x_r (16 * 27 + 0)), none] [] (al, ro, fl (ml M [3, 27] [N, (x_up Ot 0 0 (x_i2l v))])) _ _ _ _
    refine e_goto (pc := 9) (tgt := 15) dL_store_9 (by decide) ?_
    refine e_iconst (pc := 15) dL_store_15 (x_R rfl) ?_
    exact e_ireturn rfl dL_store_16 rfl
  | inr E =>
    have hE2 := hE E rfl
    simp only [List.mem_cons, List.not_mem_nil, or_false] at hE2
    subst hE2
    · refine e_invVC (pc := 4) (K1 := 1) (S1 := 6) (K := 0) (S := 0) (dd2 := 1) (av := [x_i a]) (st := [x_i 0, x_r (16 * 27 + 0)]) (id := 16 * 1 + 0) (i1 := 3) (hp := 12) dL_store_4 xmL_28 rfl (Or.inl ⟨9, 17, TX11, (sa_1_0 hs), rfl, by decide⟩) (f_cal (M := M) (us2 := [3]) [0] hn rfl (And.intro rfl trivial) rfl rfl rfl (c_X11_store hst hs hG)) (by decide) (Nat.le_of_ble_eq_true rfl) ([]) ([]) (⟨0, 9, 12, 24⟩) rfl (fun z hz => absurd hz List.not_mem_nil) rfl (by decide) (by decide) xlL_24 xe_1 rfl dL_store_12 rfl (by decide) rfl rfl ?_
      show Ev g _ _ _ _ _ _ 13 [some (x_r (16 * 1 + 0)), some (x_i a), some (x_r (16 * 27 + 0)), none] [] (al, ro, fl (ml M [3, 27] [N, Ot])) _ _ _ _
      refine e_iconst (pc := 13) dL_store_13 (x_R rfl) ?_
      exact e_ireturn rfl dL_store_14 rfl
theorem xmH_season (ix : Nat) (h : Cond.methodLink RL ix yL_season ∈ x_big) : x_LH RL ix yL_season cL_season 4 (some .int) [(0, 9, 12, 24)] 3 := ⟨h, (x_inB (x_t5 (List.mem_of_getElem? (i := 78) rfl)) rfl), (x_inB (x_t1 (List.mem_of_getElem? (i := 0) rfl)) rfl), (x_inB (x_t5 (List.mem_of_getElem? (i := 79) rfl)) rfl), ⟨by decide +kernel, by decide +kernel⟩, (by unfold x_ar; decide +kernel), by decide⟩
set_option maxRecDepth 100000 in
set_option maxHeartbeats 4000000 in
theorem c_L_season {g : xG} {al : List (Nat × Nat × Nat)} {ro : Nat → Nat → Option Nat} (hst : g.1.stackTraces = false) (hs : SH al ro) (ho : (16 * 27 + 0, 21, 1) ∈ al) {M : Nat → xU} {a : Int} {N : xU} {Ot : xU} {t : (Int ⊕ Nat)} (hG : G11_season a N = some t) (hE : ∀ E, t = .inr E → E ∈ ([1] : List Nat)) :
    CalH g yL_season cL_season 4 (some .int) [(0, 9, 12, 24)] 2 [x_r (16 * 1 + 0), x_i a, x_r (16 * 27 + 0)] (al, ro, fl (ml M [3, 27] [N, Ot])) 1 6 (.inl (some (x_i (x_wc [1] t)))) (al, ro, fl (ml M [3, 27] [N, (x_out Ot t)])) := by
  have hn : ([3, 27] : List Nat).Nodup := by decide
  refine calH_of_ev (by decide) (x_c1 rfl) (Nat.le_of_ble_eq_true rfl) hst ?_
  show Ev g _ _ _ _ _ _ 0 [some (x_r (16 * 1 + 0)), some (x_i a), some (x_r (16 * 27 + 0)), none] [] (al, ro, fl (ml M [3, 27] [N, Ot])) _ _ _ _
  refine e_aloadn (pc := 0) (i := 2) dL_season_0 rfl rfl ?_
  refine e_iconst (pc := 1) dL_season_1 (x_R rfl) ?_
  refine e_aloadn (pc := 2) (i := 0) dL_season_2 rfl rfl ?_
  refine e_iloadn (pc := 3) (i := 1) dL_season_3 rfl rfl ?_
  cases t with
  | inl v =>
    refine e_invV (pc := 4) (K1 := 1) (S1 := 6) (K := 0) (S := 0) (dd2 := 1) (av := [x_i a]) (st := [x_i 0, x_r (16 * 27 + 0)]) (id := 16 * 1 + 0) dL_season_4 xmL_32 rfl (Or.inl ⟨9, 17, TX11, (sa_1_0 hs), rfl, by decide⟩) (f_cal (M := M) (us2 := [3]) [0] hn rfl (And.intro rfl trivial) rfl rfl rfl (c_X11_season hst hs hG)) (by decide) (Nat.le_of_ble_eq_true rfl) (Or.inl rfl) ?_
    show Ev g _ _ _ _ _ _ 7 [some (x_r (16 * 1 + 0)), some (x_i a), some (x_r (16 * 27 + 0)), none] [x_i v, x_i 0, x_r (16 * 27 + 0)] (al, ro, fl (ml M [3, 27] [N, Ot])) _ _ _ _
    refine e_i2l (pc := 7) dL_season_7 ?_
    refine f_last (pc := 8) (k := 1) (u := 27) (q := 0) (len := 1) dL_season_8 ho (by decide) hn rfl rfl rfl (by decide) ?_
    show Ev g _ _ _ _ _ _ 9 [some (x_r (16 * 1 + 0)), some (x_i a), some (x_r (16 * 27 + 0)), none] [] (al, ro, fl (ml M [3, 27] [N, (x_up Ot 0 0 (x_i2l v))])) _ _ _ _
    refine e_goto (pc := 9) (tgt := 15) dL_season_9 (by decide) ?_
    refine e_iconst (pc := 15) dL_season_15 (x_R rfl) ?_
    exact e_ireturn rfl dL_season_16 rfl
  | inr E =>
    have hE2 := hE E rfl
    simp only [List.mem_cons, List.not_mem_nil, or_false] at hE2
    subst hE2
    · refine e_invVC (pc := 4) (K1 := 1) (S1 := 6) (K := 0) (S := 0) (dd2 := 1) (av := [x_i a]) (st := [x_i 0, x_r (16 * 27 + 0)]) (id := 16 * 1 + 0) (i1 := 3) (hp := 12) dL_season_4 xmL_32 rfl (Or.inl ⟨9, 17, TX11, (sa_1_0 hs), rfl, by decide⟩) (f_cal (M := M) (us2 := [3]) [0] hn rfl (And.intro rfl trivial) rfl rfl rfl (c_X11_season hst hs hG)) (by decide) (Nat.le_of_ble_eq_true rfl) ([]) ([]) (⟨0, 9, 12, 24⟩) rfl (fun z hz => absurd hz List.not_mem_nil) rfl (by decide) (by decide) xlL_24 xe_1 rfl dL_season_12 rfl (by decide) rfl rfl ?_
      show Ev g _ _ _ _ _ _ 13 [some (x_r (16 * 1 + 0)), some (x_i a), some (x_r (16 * 27 + 0)), none] [] (al, ro, fl (ml M [3, 27] [N, Ot])) _ _ _ _
      refine e_iconst (pc := 13) dL_season_13 (x_R rfl) ?_
      exact e_ireturn rfl dL_season_14 rfl
theorem xmH_hours (ix : Nat) (h : Cond.methodLink RL ix yL_hours ∈ x_big) : x_LH RL ix yL_hours cL_hours 4 (some .int) [(0, 9, 12, 13)] 3 := ⟨h, (x_inB (x_t5 (List.mem_of_getElem? (i := 89) rfl)) rfl), (x_inB (x_t1 (List.mem_of_getElem? (i := 0) rfl)) rfl), (x_inB (x_t5 (List.mem_of_getElem? (i := 90) rfl)) rfl), ⟨by decide +kernel, by decide +kernel⟩, (by unfold x_ar; decide +kernel), by decide⟩
set_option maxRecDepth 100000 in
set_option maxHeartbeats 4000000 in
theorem c_L_hours {g : xG} {al : List (Nat × Nat × Nat)} {ro : Nat → Nat → Option Nat} (hst : g.1.stackTraces = false) (hs : SH al ro) (ho : (16 * 27 + 0, 21, 1) ∈ al) {M : Nat → xU} {a : Int} {X : xU} {N : xU} {La : xU} {A : xA} {Ot : xU} {t : ((Int ⊕ Nat) × xU × xU × xU × xA)} (hG : G11_hours a X N La A = some t) (hE : ∀ E, t.1 = .inr E → E ∈ ([0] : List Nat)) :
    CalH g yL_hours cL_hours 4 (some .int) [(0, 9, 12, 13)] 6 [x_r (16 * 1 + 0), x_i a, x_r (16 * 27 + 0)] (al, ro, fl (ml (x_ac M A) [1, 3, 19, 27] [X, N, La, Ot])) 1 6 (.inl (some (x_i (x_wc [0] t.1)))) (al, ro, fl (ml (x_ac M t.2.2.2.2) [1, 3, 19, 27] [t.2.1, t.2.2.1, t.2.2.2.1, (x_out Ot t.1)])) := by
  have hn : ([1, 3, 19, 27] : List Nat).Nodup := by decide
  refine calH_of_ev (by decide) (x_c1 rfl) (Nat.le_of_ble_eq_true rfl) hst ?_
  show Ev g _ _ _ _ _ _ 0 [some (x_r (16 * 1 + 0)), some (x_i a), some (x_r (16 * 27 + 0)), none] [] (al, ro, fl (ml (x_ac M A) [1, 3, 19, 27] [X, N, La, Ot])) _ _ _ _
  obtain ⟨t0, t1, t2, t3, t4⟩ := t
  refine e_aloadn (pc := 0) (i := 2) dL_hours_0 rfl rfl ?_
  refine e_iconst (pc := 1) dL_hours_1 (x_R rfl) ?_
  refine e_aloadn (pc := 2) (i := 0) dL_hours_2 rfl rfl ?_
  refine e_iloadn (pc := 3) (i := 1) dL_hours_3 rfl rfl ?_
  cases t0 with
  | inl v =>
    refine e_invV (pc := 4) (K1 := 1) (S1 := 6) (K := 0) (S := 0) (dd2 := 5) (av := [x_i a]) (st := [x_i 0, x_r (16 * 27 + 0)]) (id := 16 * 1 + 0) dL_hours_4 xmL_35 rfl (Or.inl ⟨9, 17, TX11, (sa_1_0 hs), rfl, by decide⟩) (f_calA (us2 := [1, 3, 19]) [0, 1, 2] hn rfl (And.intro rfl (And.intro rfl (And.intro rfl trivial))) rfl rfl rfl rfl (c_X11_hours hst hs hG)) (by decide) (Nat.le_of_ble_eq_true rfl) (Or.inl rfl) ?_
    show Ev g _ _ _ _ _ _ 7 [some (x_r (16 * 1 + 0)), some (x_i a), some (x_r (16 * 27 + 0)), none] [x_i v, x_i 0, x_r (16 * 27 + 0)] (al, ro, fl (ml (x_ac M t4) [1, 3, 19, 27] [t1, t2, t3, Ot])) _ _ _ _
    refine e_i2l (pc := 7) dL_hours_7 ?_
    refine f_last (pc := 8) (k := 3) (u := 27) (q := 0) (len := 1) dL_hours_8 ho (by decide) hn rfl rfl rfl (by decide) ?_
    show Ev g _ _ _ _ _ _ 9 [some (x_r (16 * 1 + 0)), some (x_i a), some (x_r (16 * 27 + 0)), none] [] (al, ro, fl (ml (x_ac M t4) [1, 3, 19, 27] [t1, t2, t3, (x_up Ot 0 0 (x_i2l v))])) _ _ _ _
    refine e_goto (pc := 9) (tgt := 15) dL_hours_9 (by decide) ?_
    refine e_iconst (pc := 15) dL_hours_15 (x_R rfl) ?_
    exact e_ireturn rfl dL_hours_16 rfl
  | inr E =>
    have hE2 := hE E rfl
    simp only [List.mem_cons, List.not_mem_nil, or_false] at hE2
    subst hE2
    · refine e_invVC (pc := 4) (K1 := 1) (S1 := 6) (K := 0) (S := 0) (dd2 := 5) (av := [x_i a]) (st := [x_i 0, x_r (16 * 27 + 0)]) (id := 16 * 1 + 0) (i1 := 3) (hp := 12) dL_hours_4 xmL_35 rfl (Or.inl ⟨9, 17, TX11, (sa_1_0 hs), rfl, by decide⟩) (f_calA (us2 := [1, 3, 19]) [0, 1, 2] hn rfl (And.intro rfl (And.intro rfl (And.intro rfl trivial))) rfl rfl rfl rfl (c_X11_hours hst hs hG)) (by decide) (Nat.le_of_ble_eq_true rfl) ([]) ([]) (⟨0, 9, 12, 13⟩) rfl (fun z hz => absurd hz List.not_mem_nil) rfl (by decide) (by decide) xlL_13 xe_0 rfl dL_hours_12 rfl (by decide) rfl rfl ?_
      show Ev g _ _ _ _ _ _ 13 [some (x_r (16 * 1 + 0)), some (x_i a), some (x_r (16 * 27 + 0)), none] [] (al, ro, fl (ml (x_ac M t4) [1, 3, 19, 27] [t1, t2, t3, Ot])) _ _ _ _
      refine e_iconst (pc := 13) dL_hours_13 (x_R rfl) ?_
      exact e_ireturn rfl dL_hours_14 rfl
theorem xmH_cross (ix : Nat) (h : Cond.methodLink RL ix yL_cross ∈ x_big) : x_LH RL ix yL_cross cL_cross 4 (some .int) [(0, 9, 12, 24), (0, 9, 15, 41)] 3 := ⟨h, (x_inB (x_t5 (List.mem_of_getElem? (i := 102) rfl)) rfl), (x_inB (x_t1 (List.mem_of_getElem? (i := 0) rfl)) rfl), (x_inB (x_t5 (List.mem_of_getElem? (i := 103) rfl)) rfl), ⟨by decide +kernel, by decide +kernel⟩, (by unfold x_ar; decide +kernel), by decide⟩
set_option maxRecDepth 100000 in
set_option maxHeartbeats 4000000 in
theorem c_L_cross {g : xG} {al : List (Nat × Nat × Nat)} {ro : Nat → Nat → Option Nat} (hst : g.1.stackTraces = false) (hs : SH al ro) (ho : (16 * 27 + 0, 21, 1) ∈ al) {M : Nat → xU} {a : Int} {X : xU} {N : xU} {A : xA} {Ot : xU} {t : ((Int ⊕ Nat) × xU × xU × xA)} (hG : G11_cross a X N A = some t) (hE : ∀ E, t.1 = .inr E → E ∈ ([1, 2] : List Nat)) :
    CalH g yL_cross cL_cross 4 (some .int) [(0, 9, 12, 24), (0, 9, 15, 41)] 5 [x_r (16 * 1 + 0), x_i a, x_r (16 * 27 + 0)] (al, ro, fl (ml (x_ac M A) [1, 3, 27] [X, N, Ot])) 2 12 (.inl (some (x_i (x_wc [1, 2] t.1)))) (al, ro, fl (ml (x_ac M t.2.2.2) [1, 3, 27] [t.2.1, t.2.2.1, (x_out Ot t.1)])) := by
  have hn : ([1, 3, 27] : List Nat).Nodup := by decide
  refine calH_of_ev (by decide) (x_c1 rfl) (Nat.le_of_ble_eq_true rfl) hst ?_
  show Ev g _ _ _ _ _ _ 0 [some (x_r (16 * 1 + 0)), some (x_i a), some (x_r (16 * 27 + 0)), none] [] (al, ro, fl (ml (x_ac M A) [1, 3, 27] [X, N, Ot])) _ _ _ _
  obtain ⟨t0, t1, t2, t3⟩ := t
  refine e_aloadn (pc := 0) (i := 2) dL_cross_0 rfl rfl ?_
  refine e_iconst (pc := 1) dL_cross_1 (x_R rfl) ?_
  refine e_aloadn (pc := 2) (i := 0) dL_cross_2 rfl rfl ?_
  refine e_iloadn (pc := 3) (i := 1) dL_cross_3 rfl rfl ?_
  cases t0 with
  | inl v =>
    refine e_invV (pc := 4) (K1 := 2) (S1 := 12) (K := 0) (S := 0) (dd2 := 4) (av := [x_i a]) (st := [x_i 0, x_r (16 * 27 + 0)]) (id := 16 * 1 + 0) dL_cross_4 xmL_38 rfl (Or.inl ⟨9, 17, TX11, (sa_1_0 hs), rfl, by decide⟩) (f_calA (us2 := [1, 3]) [0, 1] hn rfl (And.intro rfl (And.intro rfl trivial)) rfl rfl rfl rfl (c_X11_cross hst hs hG)) (by decide) (Nat.le_of_ble_eq_true rfl) (Or.inl rfl) ?_
    show Ev g _ _ _ _ _ _ 7 [some (x_r (16 * 1 + 0)), some (x_i a), some (x_r (16 * 27 + 0)), none] [x_i v, x_i 0, x_r (16 * 27 + 0)] (al, ro, fl (ml (x_ac M t3) [1, 3, 27] [t1, t2, Ot])) _ _ _ _
    refine e_i2l (pc := 7) dL_cross_7 ?_
    refine f_last (pc := 8) (k := 2) (u := 27) (q := 0) (len := 1) dL_cross_8 ho (by decide) hn rfl rfl rfl (by decide) ?_
    show Ev g _ _ _ _ _ _ 9 [some (x_r (16 * 1 + 0)), some (x_i a), some (x_r (16 * 27 + 0)), none] [] (al, ro, fl (ml (x_ac M t3) [1, 3, 27] [t1, t2, (x_up Ot 0 0 (x_i2l v))])) _ _ _ _
    refine e_goto (pc := 9) (tgt := 18) dL_cross_9 (by decide) ?_
    refine e_iconst (pc := 18) dL_cross_18 (x_R rfl) ?_
    exact e_ireturn rfl dL_cross_19 rfl
  | inr E =>
    have hE2 := hE E rfl
    simp only [List.mem_cons, List.not_mem_nil, or_false] at hE2
    rcases hE2 with rfl | rfl
    · refine e_invVC (pc := 4) (K1 := 2) (S1 := 12) (K := 0) (S := 0) (dd2 := 4) (av := [x_i a]) (st := [x_i 0, x_r (16 * 27 + 0)]) (id := 16 * 1 + 0) (i1 := 3) (hp := 12) dL_cross_4 xmL_38 rfl (Or.inl ⟨9, 17, TX11, (sa_1_0 hs), rfl, by decide⟩) (f_calA (us2 := [1, 3]) [0, 1] hn rfl (And.intro rfl (And.intro rfl trivial)) rfl rfl rfl rfl (c_X11_cross hst hs hG)) (by decide) (Nat.le_of_ble_eq_true rfl) ([]) ([⟨0, 9, 15, 41⟩]) (⟨0, 9, 12, 24⟩) rfl (fun z hz => absurd hz List.not_mem_nil) rfl (by decide) (by decide) xlL_24 xe_1 rfl dL_cross_12 rfl (by decide) rfl rfl ?_
      show Ev g _ _ _ _ _ _ 13 [some (x_r (16 * 1 + 0)), some (x_i a), some (x_r (16 * 27 + 0)), none] [] (al, ro, fl (ml (x_ac M t3) [1, 3, 27] [t1, t2, Ot])) _ _ _ _
      refine e_iconst (pc := 13) dL_cross_13 (x_R rfl) ?_
      exact e_ireturn rfl dL_cross_14 rfl
    · refine e_invVC (pc := 4) (K1 := 2) (S1 := 12) (K := 0) (S := 0) (dd2 := 4) (av := [x_i a]) (st := [x_i 0, x_r (16 * 27 + 0)]) (id := 16 * 1 + 0) (i1 := 3) (hp := 15) dL_cross_4 xmL_38 rfl (Or.inl ⟨9, 17, TX11, (sa_1_0 hs), rfl, by decide⟩) (f_calA (us2 := [1, 3]) [0, 1] hn rfl (And.intro rfl (And.intro rfl trivial)) rfl rfl rfl rfl (c_X11_cross hst hs hG)) (by decide) (Nat.le_of_ble_eq_true rfl) ([⟨0, 9, 12, 24⟩]) ([]) (⟨0, 9, 15, 41⟩) rfl (List.forall_mem_cons.mpr ⟨Or.inr ⟨by decide, 1, by decide, by decide, xlL_24⟩, (fun _ h => absurd h List.not_mem_nil)⟩) rfl (by decide) (by decide) xlL_41 xe_2 rfl dL_cross_15 rfl (by decide) rfl rfl ?_
      show Ev g _ _ _ _ _ _ 16 [some (x_r (16 * 1 + 0)), some (x_i a), some (x_r (16 * 27 + 0)), none] [] (al, ro, fl (ml (x_ac M t3) [1, 3, 27] [t1, t2, Ot])) _ _ _ _
      refine e_iconst (pc := 16) dL_cross_16 (x_R rfl) ?_
      exact e_ireturn rfl dL_cross_17 rfl
theorem xmH_bell (ix : Nat) (h : Cond.methodLink RL ix yL_bell ∈ x_big) : x_LH RL ix yL_bell cL_bell 4 (some .int) [(0, 9, 12, 24)] 3 := ⟨h, (x_inB (x_t5 (List.mem_of_getElem? (i := 126) rfl)) rfl), (x_inB (x_t1 (List.mem_of_getElem? (i := 0) rfl)) rfl), (x_inB (x_t5 (List.mem_of_getElem? (i := 127) rfl)) rfl), ⟨by decide +kernel, by decide +kernel⟩, (by unfold x_ar; decide +kernel), by decide⟩
set_option maxRecDepth 100000 in
set_option maxHeartbeats 4000000 in
theorem c_L_bell {g : xG} {al : List (Nat × Nat × Nat)} {ro : Nat → Nat → Option Nat} (hst : g.1.stackTraces = false) (hs : SH al ro) (ho : (16 * 27 + 0, 21, 1) ∈ al) {M : Nat → xU} {a : Int} {X : xU} {N : xU} {A : xA} {Ot : xU} {t : ((Int ⊕ Nat) × xU × xU × xA)} (hG : G11_bell a X N A = some t) (hE : ∀ E, t.1 = .inr E → E ∈ ([1] : List Nat)) :
    CalH g yL_bell cL_bell 4 (some .int) [(0, 9, 12, 24)] 5 [x_r (16 * 1 + 0), x_i a, x_r (16 * 27 + 0)] (al, ro, fl (ml (x_ac M A) [1, 3, 27] [X, N, Ot])) 1 6 (.inl (some (x_i (x_wc [1] t.1)))) (al, ro, fl (ml (x_ac M t.2.2.2) [1, 3, 27] [t.2.1, t.2.2.1, (x_out Ot t.1)])) := by
  have hn : ([1, 3, 27] : List Nat).Nodup := by decide
  refine calH_of_ev (by decide) (x_c1 rfl) (Nat.le_of_ble_eq_true rfl) hst ?_
  show Ev g _ _ _ _ _ _ 0 [some (x_r (16 * 1 + 0)), some (x_i a), some (x_r (16 * 27 + 0)), none] [] (al, ro, fl (ml (x_ac M A) [1, 3, 27] [X, N, Ot])) _ _ _ _
  obtain ⟨t0, t1, t2, t3⟩ := t
  refine e_aloadn (pc := 0) (i := 2) dL_bell_0 rfl rfl ?_
  refine e_iconst (pc := 1) dL_bell_1 (x_R rfl) ?_
  refine e_aloadn (pc := 2) (i := 0) dL_bell_2 rfl rfl ?_
  refine e_iloadn (pc := 3) (i := 1) dL_bell_3 rfl rfl ?_
  cases t0 with
  | inl v =>
    refine e_invV (pc := 4) (K1 := 1) (S1 := 6) (K := 0) (S := 0) (dd2 := 4) (av := [x_i a]) (st := [x_i 0, x_r (16 * 27 + 0)]) (id := 16 * 1 + 0) dL_bell_4 xmL_43 rfl (Or.inl ⟨9, 17, TX11, (sa_1_0 hs), rfl, by decide⟩) (f_calA (us2 := [1, 3]) [0, 1] hn rfl (And.intro rfl (And.intro rfl trivial)) rfl rfl rfl rfl (c_X11_bell hst hs hG)) (by decide) (Nat.le_of_ble_eq_true rfl) (Or.inl rfl) ?_
    show Ev g _ _ _ _ _ _ 7 [some (x_r (16 * 1 + 0)), some (x_i a), some (x_r (16 * 27 + 0)), none] [x_i v, x_i 0, x_r (16 * 27 + 0)] (al, ro, fl (ml (x_ac M t3) [1, 3, 27] [t1, t2, Ot])) _ _ _ _
    refine e_i2l (pc := 7) dL_bell_7 ?_
    refine f_last (pc := 8) (k := 2) (u := 27) (q := 0) (len := 1) dL_bell_8 ho (by decide) hn rfl rfl rfl (by decide) ?_
    show Ev g _ _ _ _ _ _ 9 [some (x_r (16 * 1 + 0)), some (x_i a), some (x_r (16 * 27 + 0)), none] [] (al, ro, fl (ml (x_ac M t3) [1, 3, 27] [t1, t2, (x_up Ot 0 0 (x_i2l v))])) _ _ _ _
    refine e_goto (pc := 9) (tgt := 15) dL_bell_9 (by decide) ?_
    refine e_iconst (pc := 15) dL_bell_15 (x_R rfl) ?_
    exact e_ireturn rfl dL_bell_16 rfl
  | inr E =>
    have hE2 := hE E rfl
    simp only [List.mem_cons, List.not_mem_nil, or_false] at hE2
    subst hE2
    · refine e_invVC (pc := 4) (K1 := 1) (S1 := 6) (K := 0) (S := 0) (dd2 := 4) (av := [x_i a]) (st := [x_i 0, x_r (16 * 27 + 0)]) (id := 16 * 1 + 0) (i1 := 3) (hp := 12) dL_bell_4 xmL_43 rfl (Or.inl ⟨9, 17, TX11, (sa_1_0 hs), rfl, by decide⟩) (f_calA (us2 := [1, 3]) [0, 1] hn rfl (And.intro rfl (And.intro rfl trivial)) rfl rfl rfl rfl (c_X11_bell hst hs hG)) (by decide) (Nat.le_of_ble_eq_true rfl) ([]) ([]) (⟨0, 9, 12, 24⟩) rfl (fun z hz => absurd hz List.not_mem_nil) rfl (by decide) (by decide) xlL_24 xe_1 rfl dL_bell_12 rfl (by decide) rfl rfl ?_
      show Ev g _ _ _ _ _ _ 13 [some (x_r (16 * 1 + 0)), some (x_i a), some (x_r (16 * 27 + 0)), none] [] (al, ro, fl (ml (x_ac M t3) [1, 3, 27] [t1, t2, Ot])) _ _ _ _
      refine e_iconst (pc := 13) dL_bell_13 (x_R rfl) ?_
      exact e_ireturn rfl dL_bell_14 rfl
theorem xmH_mood (ix : Nat) (h : Cond.methodLink RL ix yL_mood ∈ x_big) : x_LH RL ix yL_mood cL_mood 4 (some .int) [(0, 9, 12, 13)] 3 := ⟨h, (x_inB (x_t5 (List.mem_of_getElem? (i := 133) rfl)) rfl), (x_inB (x_t1 (List.mem_of_getElem? (i := 0) rfl)) rfl), (x_inB (x_t5 (List.mem_of_getElem? (i := 134) rfl)) rfl), ⟨by decide +kernel, by decide +kernel⟩, (by unfold x_ar; decide +kernel), by decide⟩
set_option maxRecDepth 100000 in
set_option maxHeartbeats 4000000 in
theorem c_L_mood {g : xG} {al : List (Nat × Nat × Nat)} {ro : Nat → Nat → Option Nat} (hst : g.1.stackTraces = false) (hs : SH al ro) (ho : (16 * 27 + 0, 21, 1) ∈ al) {M : Nat → xU} {a : Int} {X : xU} {N : xU} {A : xA} {Ot : xU} {t : ((Int ⊕ Nat) × xU × xU × xA)} (hG : G11_mood a X N A = some t) (hE : ∀ E, t.1 = .inr E → E ∈ ([0] : List Nat)) :
    CalH g yL_mood cL_mood 4 (some .int) [(0, 9, 12, 13)] 5 [x_r (16 * 1 + 0), x_i a, x_r (16 * 27 + 0)] (al, ro, fl (ml (x_ac M A) [1, 3, 27] [X, N, Ot])) 1 6 (.inl (some (x_i (x_wc [0] t.1)))) (al, ro, fl (ml (x_ac M t.2.2.2) [1, 3, 27] [t.2.1, t.2.2.1, (x_out Ot t.1)])) := by
  have hn : ([1, 3, 27] : List Nat).Nodup := by decide
  refine calH_of_ev (by decide) (x_c1 rfl) (Nat.le_of_ble_eq_true rfl) hst ?_
  show Ev g _ _ _ _ _ _ 0 [some (x_r (16 * 1 + 0)), some (x_i a), some (x_r (16 * 27 + 0)), none] [] (al, ro, fl (ml (x_ac M A) [1, 3, 27] [X, N, Ot])) _ _ _ _
  obtain ⟨t0, t1, t2, t3⟩ := t
  refine e_aloadn (pc := 0) (i := 2) dL_mood_0 rfl rfl ?_
  refine e_iconst (pc := 1) dL_mood_1 (x_R rfl) ?_
  refine e_aloadn (pc := 2) (i := 0) dL_mood_2 rfl rfl ?_
  refine e_iloadn (pc := 3) (i := 1) dL_mood_3 rfl rfl ?_
  cases t0 with
  | inl v =>
    refine e_invV (pc := 4) (K1 := 1) (S1 := 6) (K := 0) (S := 0) (dd2 := 4) (av := [x_i a]) (st := [x_i 0, x_r (16 * 27 + 0)]) (id := 16 * 1 + 0) dL_mood_4 xmL_46 rfl (Or.inl ⟨9, 17, TX11, (sa_1_0 hs), rfl, by decide⟩) (f_calA (us2 := [1, 3]) [0, 1] hn rfl (And.intro rfl (And.intro rfl trivial)) rfl rfl rfl rfl (c_X11_mood hst hs hG)) (by decide) (Nat.le_of_ble_eq_true rfl) (Or.inl rfl) ?_
    show Ev g _ _ _ _ _ _ 7 [some (x_r (16 * 1 + 0)), some (x_i a), some (x_r (16 * 27 + 0)), none] [x_i v, x_i 0, x_r (16 * 27 + 0)] (al, ro, fl (ml (x_ac M t3) [1, 3, 27] [t1, t2, Ot])) _ _ _ _
    refine e_i2l (pc := 7) dL_mood_7 ?_
    refine f_last (pc := 8) (k := 2) (u := 27) (q := 0) (len := 1) dL_mood_8 ho (by decide) hn rfl rfl rfl (by decide) ?_
    show Ev g _ _ _ _ _ _ 9 [some (x_r (16 * 1 + 0)), some (x_i a), some (x_r (16 * 27 + 0)), none] [] (al, ro, fl (ml (x_ac M t3) [1, 3, 27] [t1, t2, (x_up Ot 0 0 (x_i2l v))])) _ _ _ _
    refine e_goto (pc := 9) (tgt := 15) dL_mood_9 (by decide) ?_
    refine e_iconst (pc := 15) dL_mood_15 (x_R rfl) ?_
    exact e_ireturn rfl dL_mood_16 rfl
  | inr E =>
    have hE2 := hE E rfl
    simp only [List.mem_cons, List.not_mem_nil, or_false] at hE2
    subst hE2
    · refine e_invVC (pc := 4) (K1 := 1) (S1 := 6) (K := 0) (S := 0) (dd2 := 4) (av := [x_i a]) (st := [x_i 0, x_r (16 * 27 + 0)]) (id := 16 * 1 + 0) (i1 := 3) (hp := 12) dL_mood_4 xmL_46 rfl (Or.inl ⟨9, 17, TX11, (sa_1_0 hs), rfl, by decide⟩) (f_calA (us2 := [1, 3]) [0, 1] hn rfl (And.intro rfl (And.intro rfl trivial)) rfl rfl rfl rfl (c_X11_mood hst hs hG)) (by decide) (Nat.le_of_ble_eq_true rfl) ([]) ([]) (⟨0, 9, 12, 13⟩) rfl (fun z hz => absurd hz List.not_mem_nil) rfl (by decide) (by decide) xlL_13 xe_0 rfl dL_mood_12 rfl (by decide) rfl rfl ?_
      show Ev g _ _ _ _ _ _ 13 [some (x_r (16 * 1 + 0)), some (x_i a), some (x_r (16 * 27 + 0)), none] [] (al, ro, fl (ml (x_ac M t3) [1, 3, 27] [t1, t2, Ot])) _ _ _ _
      refine e_iconst (pc := 13) dL_mood_13 (x_R rfl) ?_
      exact e_ireturn rfl dL_mood_14 rfl
theorem xmH_change (ix : Nat) (h : Cond.methodLink RL ix yL_change ∈ x_big) : x_LH RL ix yL_change cL_change 5 (some .int) [(0, 10, 13, 24), (0, 10, 17, 13)] 4 := ⟨h, (x_inB (x_t5 (List.mem_of_getElem? (i := 143) rfl)) rfl), (x_inB (x_t1 (List.mem_of_getElem? (i := 0) rfl)) rfl), (x_inB (x_t5 (List.mem_of_getElem? (i := 144) rfl)) rfl), ⟨by decide +kernel, by decide +kernel⟩, (by unfold x_ar; decide +kernel), by decide⟩
set_option maxRecDepth 100000 in
set_option maxHeartbeats 4000000 in
theorem c_L_change {g : xG} {al : List (Nat × Nat × Nat)} {ro : Nat → Nat → Option Nat} (hst : g.1.stackTraces = false) (hs : SH al ro) (ho : (16 * 27 + 0, 21, 1) ∈ al) {M : Nat → xU} {a : Int} {b : Int} {X : xU} {N : xU} {A : xA} {Ot : xU} {t : ((Int ⊕ Nat) × xU × xU × xA)} (hG : G11_change a b X N A = some t) (hE : ∀ E, t.1 = .inr E → E ∈ ([1, 0] : List Nat)) :
    CalH g yL_change cL_change 5 (some .int) [(0, 10, 13, 24), (0, 10, 17, 13)] 5 [x_r (16 * 1 + 0), x_i a, x_i b, x_r (16 * 27 + 0)] (al, ro, fl (ml (x_ac M A) [1, 3, 27] [X, N, Ot])) 3 18 (.inl (some (x_i (x_wc [1, 0] t.1)))) (al, ro, fl (ml (x_ac M t.2.2.2) [1, 3, 27] [t.2.1, t.2.2.1, (x_out Ot t.1)])) := by
  have hn : ([1, 3, 27] : List Nat).Nodup := by decide
  refine calH_of_ev (by decide) (x_c1 rfl) (Nat.le_of_ble_eq_true rfl) hst ?_
  show Ev g _ _ _ _ _ _ 0 [some (x_r (16 * 1 + 0)), some (x_i a), some (x_i b), some (x_r (16 * 27 + 0)), none] [] (al, ro, fl (ml (x_ac M A) [1, 3, 27] [X, N, Ot])) _ _ _ _
  obtain ⟨t0, t1, t2, t3⟩ := t
  refine e_aloadn (pc := 0) (i := 3) dL_change_0 rfl rfl ?_
  refine e_iconst (pc := 1) dL_change_1 (x_R rfl) ?_
  refine e_aloadn (pc := 2) (i := 0) dL_change_2 rfl rfl ?_
  refine e_iloadn (pc := 3) (i := 1) dL_change_3 rfl rfl ?_
  refine e_iloadn (pc := 4) (i := 2) dL_change_4 rfl rfl ?_
  cases t0 with
  | inl v =>
    refine e_invV (pc := 5) (K1 := 3) (S1 := 18) (K := 0) (S := 0) (dd2 := 4) (av := [x_i a, x_i b]) (st := [x_i 0, x_r (16 * 27 + 0)]) (id := 16 * 1 + 0) dL_change_5 xmL_49 rfl (Or.inl ⟨9, 17, TX11, (sa_1_0 hs), rfl, by decide⟩) (f_calA (us2 := [1, 3]) [0, 1] hn rfl (And.intro rfl (And.intro rfl trivial)) rfl rfl rfl rfl (c_X11_change hst hs hG)) (by decide) (Nat.le_of_ble_eq_true rfl) (Or.inl rfl) ?_
    show Ev g _ _ _ _ _ _ 8 [some (x_r (16 * 1 + 0)), some (x_i a), some (x_i b), some (x_r (16 * 27 + 0)), none] [x_i v, x_i 0, x_r (16 * 27 + 0)] (al, ro, fl (ml (x_ac M t3) [1, 3, 27] [t1, t2, Ot])) _ _ _ _
    refine e_i2l (pc := 8) dL_change_8 ?_
    refine f_last (pc := 9) (k := 2) (u := 27) (q := 0) (len := 1) dL_change_9 ho (by decide) hn rfl rfl rfl (by decide) ?_
    show Ev g _ _ _ _ _ _ 10 [some (x_r (16 * 1 + 0)), some (x_i a), some (x_i b), some (x_r (16 * 27 + 0)), none] [] (al, ro, fl (ml (x_ac M t3) [1, 3, 27] [t1, t2, (x_up Ot 0 0 (x_i2l v))])) _ _ _ _
    refine e_goto (pc := 10) (tgt := 21) dL_change_10 (by decide) ?_
    refine e_iconst (pc := 21) dL_change_21 (x_R rfl) ?_
    exact e_ireturn rfl dL_change_22 rfl
  | inr E =>
    have hE2 := hE E rfl
    simp only [List.mem_cons, List.not_mem_nil, or_false] at hE2
    rcases hE2 with rfl | rfl
    · refine e_invVC2 (pc := 5) (K1 := 3) (S1 := 18) (K := 0) (S := 0) (dd2 := 4) (av := [x_i a, x_i b]) (st := [x_i 0, x_r (16 * 27 + 0)]) (id := 16 * 1 + 0) (i1 := 4) (hp := 13) dL_change_5 xmL_49 rfl (Or.inl ⟨9, 17, TX11, (sa_1_0 hs), rfl, by decide⟩) (f_calA (us2 := [1, 3]) [0, 1] hn rfl (And.intro rfl (And.intro rfl trivial)) rfl rfl rfl rfl (c_X11_change hst hs hG)) (by decide) (Nat.le_of_ble_eq_true rfl) ([]) ([⟨0, 10, 17, 13⟩]) (⟨0, 10, 13, 24⟩) rfl (fun z hz => absurd hz List.not_mem_nil) rfl (by decide) (by decide) xlL_24 xe_1 rfl dL_change_13 (by decide) rfl rfl ?_
      show Ev g _ _ _ _ _ _ 15 [some (x_r (16 * 1 + 0)), some (x_i a), some (x_i b), some (x_r (16 * 27 + 0)), none] [] (al, ro, fl (ml (x_ac M t3) [1, 3, 27] [t1, t2, Ot])) _ _ _ _
      refine e_iconst (pc := 15) dL_change_15 (x_R rfl) ?_
      exact e_ireturn rfl dL_change_16 rfl
    · refine e_invVC2 (pc := 5) (K1 := 3) (S1 := 18) (K := 0) (S := 0) (dd2 := 4) (av := [x_i a, x_i b]) (st := [x_i 0, x_r (16 * 27 + 0)]) (id := 16 * 1 + 0) (i1 := 4) (hp := 17) dL_change_5 xmL_49 rfl (Or.inl ⟨9, 17, TX11, (sa_1_0 hs), rfl, by decide⟩) (f_calA (us2 := [1, 3]) [0, 1] hn rfl (And.intro rfl (And.intro rfl trivial)) rfl rfl rfl rfl (c_X11_change hst hs hG)) (by decide) (Nat.le_of_ble_eq_true rfl) ([⟨0, 10, 13, 24⟩]) ([]) (⟨0, 10, 17, 13⟩) rfl (List.forall_mem_cons.mpr ⟨Or.inr ⟨by decide, 1, by decide, by decide, xlL_24⟩, (fun _ h => absurd h List.not_mem_nil)⟩) rfl (by decide) (by decide) xlL_13 xe_0 rfl dL_change_17 (by decide) rfl rfl ?_
      show Ev g _ _ _ _ _ _ 19 [some (x_r (16 * 1 + 0)), some (x_i a), some (x_i b), some (x_r (16 * 27 + 0)), none] [] (al, ro, fl (ml (x_ac M t3) [1, 3, 27] [t1, t2, Ot])) _ _ _ _
      refine e_iconst (pc := 19) dL_change_19 (x_R rfl) ?_
      exact e_ireturn rfl dL_change_20 rfl
theorem xmH_pace (ix : Nat) (h : Cond.methodLink RL ix yL_pace ∈ x_big) : x_LH RL ix yL_pace cL_pace 5 (some .int) [(0, 10, 13, 24), (0, 10, 17, 13)] 4 := ⟨h, (x_inB (x_t5 (List.mem_of_getElem? (i := 154) rfl)) rfl), (x_inB (x_t1 (List.mem_of_getElem? (i := 0) rfl)) rfl), (x_inB (x_t5 (List.mem_of_getElem? (i := 155) rfl)) rfl), ⟨by decide +kernel, by decide +kernel⟩, (by unfold x_ar; decide +kernel), by decide⟩
set_option maxRecDepth 100000 in
set_option maxHeartbeats 4000000 in
theorem c_L_pace {g : xG} {al : List (Nat × Nat × Nat)} {ro : Nat → Nat → Option Nat} (hst : g.1.stackTraces = false) (hs : SH al ro) (ho : (16 * 27 + 0, 21, 1) ∈ al) {M : Nat → xU} {a : Int} {b : Int} {X : xU} {N : xU} {A : xA} {Ot : xU} {t : ((Int ⊕ Nat) × xU × xU × xA)} (hG : G11_pace a b X N A = some t) (hE : ∀ E, t.1 = .inr E → E ∈ ([1, 0] : List Nat)) :
    CalH g yL_pace cL_pace 5 (some .int) [(0, 10, 13, 24), (0, 10, 17, 13)] 5 [x_r (16 * 1 + 0), x_i a, x_i b, x_r (16 * 27 + 0)] (al, ro, fl (ml (x_ac M A) [1, 3, 27] [X, N, Ot])) 2 12 (.inl (some (x_i (x_wc [1, 0] t.1)))) (al, ro, fl (ml (x_ac M t.2.2.2) [1, 3, 27] [t.2.1, t.2.2.1, (x_out Ot t.1)])) := by
  have hn : ([1, 3, 27] : List Nat).Nodup := by decide
  refine calH_of_ev (by decide) (x_c1 rfl) (Nat.le_of_ble_eq_true rfl) hst ?_
  show Ev g _ _ _ _ _ _ 0 [some (x_r (16 * 1 + 0)), some (x_i a), some (x_i b), some (x_r (16 * 27 + 0)), none] [] (al, ro, fl (ml (x_ac M A) [1, 3, 27] [X, N, Ot])) _ _ _ _
  obtain ⟨t0, t1, t2, t3⟩ := t
  refine e_aloadn (pc := 0) (i := 3) dL_pace_0 rfl rfl ?_
  refine e_iconst (pc := 1) dL_pace_1 (x_R rfl) ?_
  refine e_aloadn (pc := 2) (i := 0) dL_pace_2 rfl rfl ?_
  refine e_iloadn (pc := 3) (i := 1) dL_pace_3 rfl rfl ?_
  refine e_iloadn (pc := 4) (i := 2) dL_pace_4 rfl rfl ?_
  cases t0 with
  | inl v =>
    refine e_invV (pc := 5) (K1 := 2) (S1 := 12) (K := 0) (S := 0) (dd2 := 4) (av := [x_i a, x_i b]) (st := [x_i 0, x_r (16 * 27 + 0)]) (id := 16 * 1 + 0) dL_pace_5 xmL_52 rfl (Or.inl ⟨9, 17, TX11, (sa_1_0 hs), rfl, by decide⟩) (f_calA (us2 := [1, 3]) [0, 1] hn rfl (And.intro rfl (And.intro rfl trivial)) rfl rfl rfl rfl (c_X11_pace hst hs hG)) (by decide) (Nat.le_of_ble_eq_true rfl) (Or.inl rfl) ?_
    show Ev g _ _ _ _ _ _ 8 [some (x_r (16 * 1 + 0)), some (x_i a), some (x_i b), some (x_r (16 * 27 + 0)), none] [x_i v, x_i 0, x_r (16 * 27 + 0)] (al, ro, fl (ml (x_ac M t3) [1, 3, 27] [t1, t2, Ot])) _ _ _ _
    refine e_i2l (pc := 8) dL_pace_8 ?_
    refine f_last (pc := 9) (k := 2) (u := 27) (q := 0) (len := 1) dL_pace_9 ho (by decide) hn rfl rfl rfl (by decide) ?_
    show Ev g _ _ _ _ _ _ 10 [some (x_r (16 * 1 + 0)), some (x_i a), some (x_i b), some (x_r (16 * 27 + 0)), none] [] (al, ro, fl (ml (x_ac M t3) [1, 3, 27] [t1, t2, (x_up Ot 0 0 (x_i2l v))])) _ _ _ _
    refine e_goto (pc := 10) (tgt := 21) dL_pace_10 (by decide) ?_
    refine e_iconst (pc := 21) dL_pace_21 (x_R rfl) ?_
    exact e_ireturn rfl dL_pace_22 rfl
  | inr E =>
    have hE2 := hE E rfl
    simp only [List.mem_cons, List.not_mem_nil, or_false] at hE2
    rcases hE2 with rfl | rfl
    · refine e_invVC2 (pc := 5) (K1 := 2) (S1 := 12) (K := 0) (S := 0) (dd2 := 4) (av := [x_i a, x_i b]) (st := [x_i 0, x_r (16 * 27 + 0)]) (id := 16 * 1 + 0) (i1 := 4) (hp := 13) dL_pace_5 xmL_52 rfl (Or.inl ⟨9, 17, TX11, (sa_1_0 hs), rfl, by decide⟩) (f_calA (us2 := [1, 3]) [0, 1] hn rfl (And.intro rfl (And.intro rfl trivial)) rfl rfl rfl rfl (c_X11_pace hst hs hG)) (by decide) (Nat.le_of_ble_eq_true rfl) ([]) ([⟨0, 10, 17, 13⟩]) (⟨0, 10, 13, 24⟩) rfl (fun z hz => absurd hz List.not_mem_nil) rfl (by decide) (by decide) xlL_24 xe_1 rfl dL_pace_13 (by decide) rfl rfl ?_
      show Ev g _ _ _ _ _ _ 15 [some (x_r (16 * 1 + 0)), some (x_i a), some (x_i b), some (x_r (16 * 27 + 0)), none] [] (al, ro, fl (ml (x_ac M t3) [1, 3, 27] [t1, t2, Ot])) _ _ _ _
      refine e_iconst (pc := 15) dL_pace_15 (x_R rfl) ?_
      exact e_ireturn rfl dL_pace_16 rfl
    · refine e_invVC2 (pc := 5) (K1 := 2) (S1 := 12) (K := 0) (S := 0) (dd2 := 4) (av := [x_i a, x_i b]) (st := [x_i 0, x_r (16 * 27 + 0)]) (id := 16 * 1 + 0) (i1 := 4) (hp := 17) dL_pace_5 xmL_52 rfl (Or.inl ⟨9, 17, TX11, (sa_1_0 hs), rfl, by decide⟩) (f_calA (us2 := [1, 3]) [0, 1] hn rfl (And.intro rfl (And.intro rfl trivial)) rfl rfl rfl rfl (c_X11_pace hst hs hG)) (by decide) (Nat.le_of_ble_eq_true rfl) ([⟨0, 10, 13, 24⟩]) ([]) (⟨0, 10, 17, 13⟩) rfl (List.forall_mem_cons.mpr ⟨Or.inr ⟨by decide, 1, by decide, by decide, xlL_24⟩, (fun _ h => absurd h List.not_mem_nil)⟩) rfl (by decide) (by decide) xlL_13 xe_0 rfl dL_pace_17 (by decide) rfl rfl ?_
      show Ev g _ _ _ _ _ _ 19 [some (x_r (16 * 1 + 0)), some (x_i a), some (x_i b), some (x_r (16 * 27 + 0)), none] [] (al, ro, fl (ml (x_ac M t3) [1, 3, 27] [t1, t2, Ot])) _ _ _ _
      refine e_iconst (pc := 19) dL_pace_19 (x_R rfl) ?_
      exact e_ireturn rfl dL_pace_20 rfl
theorem xmH_fill (ix : Nat) (h : Cond.methodLink RL ix yL_fill ∈ x_big) : x_LH RL ix yL_fill cL_fill 5 (some .int) [(0, 10, 13, 24), (0, 10, 17, 13)] 4 := ⟨h, (x_inB (x_t5 (List.mem_of_getElem? (i := 161) rfl)) rfl), (x_inB (x_t1 (List.mem_of_getElem? (i := 0) rfl)) rfl), (x_inB (x_t5 (List.mem_of_getElem? (i := 162) rfl)) rfl), ⟨by decide +kernel, by decide +kernel⟩, (by unfold x_ar; decide +kernel), by decide⟩
set_option maxRecDepth 100000 in
set_option maxHeartbeats 4000000 in
theorem c_L_fill {g : xG} {al : List (Nat × Nat × Nat)} {ro : Nat → Nat → Option Nat} (hst : g.1.stackTraces = false) (hs : SH al ro) (ho : (16 * 27 + 0, 21, 1) ∈ al) {M : Nat → xU} {a : Int} {b : Int} {X : xU} {N : xU} {A : xA} {Ot : xU} {t : ((Int ⊕ Nat) × xU × xU × xA)} (hG : G11_fill a b X N A = some t) (hE : ∀ E, t.1 = .inr E → E ∈ ([1, 0] : List Nat)) :
    CalH g yL_fill cL_fill 5 (some .int) [(0, 10, 13, 24), (0, 10, 17, 13)] 5 [x_r (16 * 1 + 0), x_i a, x_i b, x_r (16 * 27 + 0)] (al, ro, fl (ml (x_ac M A) [1, 3, 27] [X, N, Ot])) 2 12 (.inl (some (x_i (x_wc [1, 0] t.1)))) (al, ro, fl (ml (x_ac M t.2.2.2) [1, 3, 27] [t.2.1, t.2.2.1, (x_out Ot t.1)])) := by
  have hn : ([1, 3, 27] : List Nat).Nodup := by decide
  refine calH_of_ev (by decide) (x_c1 rfl) (Nat.le_of_ble_eq_true rfl) hst ?_
  show Ev g _ _ _ _ _ _ 0 [some (x_r (16 * 1 + 0)), some (x_i a), some (x_i b), some (x_r (16 * 27 + 0)), none] [] (al, ro, fl (ml (x_ac M A) [1, 3, 27] [X, N, Ot])) _ _ _ _
  obtain ⟨t0, t1, t2, t3⟩ := t
  refine e_aloadn (pc := 0) (i := 3) dL_fill_0 rfl rfl ?_
  refine e_iconst (pc := 1) dL_fill_1 (x_R rfl) ?_
  refine e_aloadn (pc := 2) (i := 0) dL_fill_2 rfl rfl ?_
  refine e_iloadn (pc := 3) (i := 1) dL_fill_3 rfl rfl ?_
  refine e_iloadn (pc := 4) (i := 2) dL_fill_4 rfl rfl ?_
  cases t0 with
  | inl v =>
    refine e_invV (pc := 5) (K1 := 2) (S1 := 12) (K := 0) (S := 0) (dd2 := 4) (av := [x_i a, x_i b]) (st := [x_i 0, x_r (16 * 27 + 0)]) (id := 16 * 1 + 0) dL_fill_5 xmL_55 rfl (Or.inl ⟨9, 17, TX11, (sa_1_0 hs), rfl, by decide⟩) (f_calA (us2 := [1, 3]) [0, 1] hn rfl (And.intro rfl (And.intro rfl trivial)) rfl rfl rfl rfl (c_X11_fill hst hs hG)) (by decide) (Nat.le_of_ble_eq_true rfl) (Or.inl rfl) ?_
    show Ev g _ _ _ _ _ _ 8 [some (x_r (16 * 1 + 0)), some (x_i a), some (x_i b), some (x_r (16 * 27 + 0)), none] [x_i v, x_i 0, x_r (16 * 27 + 0)] (al, ro, fl (ml (x_ac M t3) [1, 3, 27] [t1, t2, Ot])) _ _ _ _
    refine e_i2l (pc := 8) dL_fill_8 ?_
    refine f_last (pc := 9) (k := 2) (u := 27) (q := 0) (len := 1) dL_fill_9 ho (by decide) hn rfl rfl rfl (by decide) ?_
    show Ev g _ _ _ _ _ _ 10 [some (x_r (16 * 1 + 0)), some (x_i a), some (x_i b), some (x_r (16 * 27 + 0)), none] [] (al, ro, fl (ml (x_ac M t3) [1, 3, 27] [t1, t2, (x_up Ot 0 0 (x_i2l v))])) _ _ _ _
    refine e_goto (pc := 10) (tgt := 21) dL_fill_10 (by decide) ?_
    refine e_iconst (pc := 21) dL_fill_21 (x_R rfl) ?_
    exact e_ireturn rfl dL_fill_22 rfl
  | inr E =>
    have hE2 := hE E rfl
    simp only [List.mem_cons, List.not_mem_nil, or_false] at hE2
    rcases hE2 with rfl | rfl
    · refine e_invVC2 (pc := 5) (K1 := 2) (S1 := 12) (K := 0) (S := 0) (dd2 := 4) (av := [x_i a, x_i b]) (st := [x_i 0, x_r (16 * 27 + 0)]) (id := 16 * 1 + 0) (i1 := 4) (hp := 13) dL_fill_5 xmL_55 rfl (Or.inl ⟨9, 17, TX11, (sa_1_0 hs), rfl, by decide⟩) (f_calA (us2 := [1, 3]) [0, 1] hn rfl (And.intro rfl (And.intro rfl trivial)) rfl rfl rfl rfl (c_X11_fill hst hs hG)) (by decide) (Nat.le_of_ble_eq_true rfl) ([]) ([⟨0, 10, 17, 13⟩]) (⟨0, 10, 13, 24⟩) rfl (fun z hz => absurd hz List.not_mem_nil) rfl (by decide) (by decide) xlL_24 xe_1 rfl dL_fill_13 (by decide) rfl rfl ?_
      show Ev g _ _ _ _ _ _ 15 [some (x_r (16 * 1 + 0)), some (x_i a), some (x_i b), some (x_r (16 * 27 + 0)), none] [] (al, ro, fl (ml (x_ac M t3) [1, 3, 27] [t1, t2, Ot])) _ _ _ _
      refine e_iconst (pc := 15) dL_fill_15 (x_R rfl) ?_
      exact e_ireturn rfl dL_fill_16 rfl
    · refine e_invVC2 (pc := 5) (K1 := 2) (S1 := 12) (K := 0) (S := 0) (dd2 := 4) (av := [x_i a, x_i b]) (st := [x_i 0, x_r (16 * 27 + 0)]) (id := 16 * 1 + 0) (i1 := 4) (hp := 17) dL_fill_5 xmL_55 rfl (Or.inl ⟨9, 17, TX11, (sa_1_0 hs), rfl, by decide⟩) (f_calA (us2 := [1, 3]) [0, 1] hn rfl (And.intro rfl (And.intro rfl trivial)) rfl rfl rfl rfl (c_X11_fill hst hs hG)) (by decide) (Nat.le_of_ble_eq_true rfl) ([⟨0, 10, 13, 24⟩]) ([]) (⟨0, 10, 17, 13⟩) rfl (List.forall_mem_cons.mpr ⟨Or.inr ⟨by decide, 1, by decide, by decide, xlL_24⟩, (fun _ h => absurd h List.not_mem_nil)⟩) rfl (by decide) (by decide) xlL_13 xe_0 rfl dL_fill_17 (by decide) rfl rfl ?_
      show Ev g _ _ _ _ _ _ 19 [some (x_r (16 * 1 + 0)), some (x_i a), some (x_i b), some (x_r (16 * 27 + 0)), none] [] (al, ro, fl (ml (x_ac M t3) [1, 3, 27] [t1, t2, Ot])) _ _ _ _
      refine e_iconst (pc := 19) dL_fill_19 (x_R rfl) ?_
      exact e_ireturn rfl dL_fill_20 rfl
theorem xmH_find (ix : Nat) (h : Cond.methodLink RL ix yL_find ∈ x_big) : x_LH RL ix yL_find cL_find 4 (some .int) [(0, 9, 12, 24), (0, 9, 15, 41)] 3 := ⟨h, (x_inB (x_t5 (List.mem_of_getElem? (i := 169) rfl)) rfl), (x_inB (x_t1 (List.mem_of_getElem? (i := 0) rfl)) rfl), (x_inB (x_t5 (List.mem_of_getElem? (i := 170) rfl)) rfl), ⟨by decide +kernel, by decide +kernel⟩, (by unfold x_ar; decide +kernel), by decide⟩
set_option maxRecDepth 100000 in
set_option maxHeartbeats 4000000 in
theorem c_L_find {g : xG} {al : List (Nat × Nat × Nat)} {ro : Nat → Nat → Option Nat} (hst : g.1.stackTraces = false) (hs : SH al ro) (ho : (16 * 27 + 0, 21, 1) ∈ al) {M : Nat → xU} {a : Int} {X : xU} {N : xU} {A : xA} {Ot : xU} {t : ((Int ⊕ Nat) × xU × xU × xA)} (hG : G11_find a X N A = some t) (hE : ∀ E, t.1 = .inr E → E ∈ ([1, 2] : List Nat)) :
    CalH g yL_find cL_find 4 (some .int) [(0, 9, 12, 24), (0, 9, 15, 41)] 5 [x_r (16 * 1 + 0), x_i a, x_r (16 * 27 + 0)] (al, ro, fl (ml (x_ac M A) [1, 3, 27] [X, N, Ot])) 2 12 (.inl (some (x_i (x_wc [1, 2] t.1)))) (al, ro, fl (ml (x_ac M t.2.2.2) [1, 3, 27] [t.2.1, t.2.2.1, (x_out Ot t.1)])) := by
  have hn : ([1, 3, 27] : List Nat).Nodup := by decide
  refine calH_of_ev (by decide) (x_c1 rfl) (Nat.le_of_ble_eq_true rfl) hst ?_
  show Ev g _ _ _ _ _ _ 0 [some (x_r (16 * 1 + 0)), some (x_i a), some (x_r (16 * 27 + 0)), none] [] (al, ro, fl (ml (x_ac M A) [1, 3, 27] [X, N, Ot])) _ _ _ _
  obtain ⟨t0, t1, t2, t3⟩ := t
  refine e_aloadn (pc := 0) (i := 2) dL_find_0 rfl rfl ?_
  refine e_iconst (pc := 1) dL_find_1 (x_R rfl) ?_
  refine e_aloadn (pc := 2) (i := 0) dL_find_2 rfl rfl ?_
  refine e_iloadn (pc := 3) (i := 1) dL_find_3 rfl rfl ?_
  cases t0 with
  | inl v =>
    refine e_invV (pc := 4) (K1 := 2) (S1 := 12) (K := 0) (S := 0) (dd2 := 4) (av := [x_i a]) (st := [x_i 0, x_r (16 * 27 + 0)]) (id := 16 * 1 + 0) dL_find_4 xmL_58 rfl (Or.inl ⟨9, 17, TX11, (sa_1_0 hs), rfl, by decide⟩) (f_calA (us2 := [1, 3]) [0, 1] hn rfl (And.intro rfl (And.intro rfl trivial)) rfl rfl rfl rfl (c_X11_find hst hs hG)) (by decide) (Nat.le_of_ble_eq_true rfl) (Or.inl rfl) ?_
    show Ev g _ _ _ _ _ _ 7 [some (x_r (16 * 1 + 0)), some (x_i a), some (x_r (16 * 27 + 0)), none] [x_i v, x_i 0, x_r (16 * 27 + 0)] (al, ro, fl (ml (x_ac M t3) [1, 3, 27] [t1, t2, Ot])) _ _ _ _
    refine e_i2l (pc := 7) dL_find_7 ?_
    refine f_last (pc := 8) (k := 2) (u := 27) (q := 0) (len := 1) dL_find_8 ho (by decide) hn rfl rfl rfl (by decide) ?_
    show Ev g _ _ _ _ _ _ 9 [some (x_r (16 * 1 + 0)), some (x_i a), some (x_r (16 * 27 + 0)), none] [] (al, ro, fl (ml (x_ac M t3) [1, 3, 27] [t1, t2, (x_up Ot 0 0 (x_i2l v))])) _ _ _ _
    refine e_goto (pc := 9) (tgt := 18) dL_find_9 (by decide) ?_
    refine e_iconst (pc := 18) dL_find_18 (x_R rfl) ?_
    exact e_ireturn rfl dL_find_19 rfl
  | inr E =>
    have hE2 := hE E rfl
    simp only [List.mem_cons, List.not_mem_nil, or_false] at hE2
    rcases hE2 with rfl | rfl
    · refine e_invVC (pc := 4) (K1 := 2) (S1 := 12) (K := 0) (S := 0) (dd2 := 4) (av := [x_i a]) (st := [x_i 0, x_r (16 * 27 + 0)]) (id := 16 * 1 + 0) (i1 := 3) (hp := 12) dL_find_4 xmL_58 rfl (Or.inl ⟨9, 17, TX11, (sa_1_0 hs), rfl, by decide⟩) (f_calA (us2 := [1, 3]) [0, 1] hn rfl (And.intro rfl (And.intro rfl trivial)) rfl rfl rfl rfl (c_X11_find hst hs hG)) (by decide) (Nat.le_of_ble_eq_true rfl) ([]) ([⟨0, 9, 15, 41⟩]) (⟨0, 9, 12, 24⟩) rfl (fun z hz => absurd hz List.not_mem_nil) rfl (by decide) (by decide) xlL_24 xe_1 rfl dL_find_12 rfl (by decide) rfl rfl ?_
      show Ev g _ _ _ _ _ _ 13 [some (x_r (16 * 1 + 0)), some (x_i a), some (x_r (16 * 27 + 0)), none] [] (al, ro, fl (ml (x_ac M t3) [1, 3, 27] [t1, t2, Ot])) _ _ _ _
      refine e_iconst (pc := 13) dL_find_13 (x_R rfl) ?_
      exact e_ireturn rfl dL_find_14 rfl
    · refine e_invVC (pc := 4) (K1 := 2) (S1 := 12) (K := 0) (S := 0) (dd2 := 4) (av := [x_i a]) (st := [x_i 0, x_r (16 * 27 + 0)]) (id := 16 * 1 + 0) (i1 := 3) (hp := 15) dL_find_4 xmL_58 rfl (Or.inl ⟨9, 17, TX11, (sa_1_0 hs), rfl, by decide⟩) (f_calA (us2 := [1, 3]) [0, 1] hn rfl (And.intro rfl (And.intro rfl trivial)) rfl rfl rfl rfl (c_X11_find hst hs hG)) (by decide) (Nat.le_of_ble_eq_true rfl) ([⟨0, 9, 12, 24⟩]) ([]) (⟨0, 9, 15, 41⟩) rfl (List.forall_mem_cons.mpr ⟨Or.inr ⟨by decide, 1, by decide, by decide, xlL_24⟩, (fun _ h => absurd h List.not_mem_nil)⟩) rfl (by decide) (by decide) xlL_41 xe_2 rfl dL_find_15 rfl (by decide) rfl rfl ?_
      show Ev g _ _ _ _ _ _ 16 [some (x_r (16 * 1 + 0)), some (x_i a), some (x_r (16 * 27 + 0)), none] [] (al, ro, fl (ml (x_ac M t3) [1, 3, 27] [t1, t2, Ot])) _ _ _ _
      refine e_iconst (pc := 16) dL_find_16 (x_R rfl) ?_
      exact e_ireturn rfl dL_find_17 rfl
theorem xmH_when (ix : Nat) (h : Cond.methodLink RL ix yL_when ∈ x_big) : x_LH RL ix yL_when cL_when 5 (some .int) [(0, 10, 13, 24)] 4 := ⟨h, (x_inB (x_t5 (List.mem_of_getElem? (i := 176) rfl)) rfl), (x_inB (x_t1 (List.mem_of_getElem? (i := 0) rfl)) rfl), (x_inB (x_t5 (List.mem_of_getElem? (i := 177) rfl)) rfl), ⟨by decide +kernel, by decide +kernel⟩, (by unfold x_ar; decide +kernel), by decide⟩
set_option maxRecDepth 100000 in
set_option maxHeartbeats 4000000 in
theorem c_L_when {g : xG} {al : List (Nat × Nat × Nat)} {ro : Nat → Nat → Option Nat} (hst : g.1.stackTraces = false) (hs : SH al ro) (ho : (16 * 27 + 0, 21, 1) ∈ al) {M : Nat → xU} {a : Int} {b : Int} {N : xU} {Th : xU} {La : xU} {Ot : xU} {t : ((Int ⊕ Nat) × xU × xU)} (hG : G11_when a b N Th La = some t) (hE : ∀ E, t.1 = .inr E → E ∈ ([1] : List Nat)) :
    CalH g yL_when cL_when 5 (some .int) [(0, 10, 13, 24)] 7 [x_r (16 * 1 + 0), x_i a, x_i b, x_r (16 * 27 + 0)] (al, ro, fl (ml M [3, 18, 19, 27] [N, Th, La, Ot])) 2 12 (.inl (some (x_i (x_wc [1] t.1)))) (al, ro, fl (ml M [3, 18, 19, 27] [N, t.2.1, t.2.2, (x_out Ot t.1)])) := by
  have hn : ([3, 18, 19, 27] : List Nat).Nodup := by decide
  refine calH_of_ev (by decide) (x_c1 rfl) (Nat.le_of_ble_eq_true rfl) hst ?_
  show Ev g _ _ _ _ _ _ 0 [some (x_r (16 * 1 + 0)), some (x_i a), some (x_i b), some (x_r (16 * 27 + 0)), none] [] (al, ro, fl (ml M [3, 18, 19, 27] [N, Th, La, Ot])) _ _ _ _
  obtain ⟨t0, t1, t2⟩ := t
  refine e_aloadn (pc := 0) (i := 3) dL_when_0 rfl rfl ?_
  refine e_iconst (pc := 1) dL_when_1 (x_R rfl) ?_
  refine e_aloadn (pc := 2) (i := 0) dL_when_2 rfl rfl ?_
  refine e_iloadn (pc := 3) (i := 1) dL_when_3 rfl rfl ?_
  refine e_iloadn (pc := 4) (i := 2) dL_when_4 rfl rfl ?_
  cases t0 with
  | inl v =>
    refine e_invV (pc := 5) (K1 := 2) (S1 := 12) (K := 0) (S := 0) (dd2 := 6) (av := [x_i a, x_i b]) (st := [x_i 0, x_r (16 * 27 + 0)]) (id := 16 * 1 + 0) dL_when_5 xmL_61 rfl (Or.inl ⟨9, 17, TX11, (sa_1_0 hs), rfl, by decide⟩) (f_cal (M := M) (us2 := [3, 18, 19]) [0, 1, 2] hn rfl (And.intro rfl (And.intro rfl (And.intro rfl trivial))) rfl rfl rfl (c_X11_when hst hs hG)) (by decide) (Nat.le_of_ble_eq_true rfl) (Or.inl rfl) ?_
    show Ev g _ _ _ _ _ _ 8 [some (x_r (16 * 1 + 0)), some (x_i a), some (x_i b), some (x_r (16 * 27 + 0)), none] [x_i v, x_i 0, x_r (16 * 27 + 0)] (al, ro, fl (ml M [3, 18, 19, 27] [N, t1, t2, Ot])) _ _ _ _
    refine e_i2l (pc := 8) dL_when_8 ?_
    refine f_last (pc := 9) (k := 3) (u := 27) (q := 0) (len := 1) dL_when_9 ho (by decide) hn rfl rfl rfl (by decide) ?_
    show Ev g _ _ _ _ _ _ 10 [some (x_r (16 * 1 + 0)), some (x_i a), some (x_i b), some (x_r (16 * 27 + 0)), none] [] (al, ro, fl (ml M [3, 18, 19, 27] [N, t1, t2, (x_up Ot 0 0 (x_i2l v))])) _ _ _ _
    refine e_goto (pc := 10) (tgt := 17) dL_when_10 (by decide) ?_
    refine e_iconst (pc := 17) dL_when_17 (x_R rfl) ?_
    exact e_ireturn rfl dL_when_18 rfl
  | inr E =>
    have hE2 := hE E rfl
    simp only [List.mem_cons, List.not_mem_nil, or_false] at hE2
    subst hE2
    · refine e_invVC2 (pc := 5) (K1 := 2) (S1 := 12) (K := 0) (S := 0) (dd2 := 6) (av := [x_i a, x_i b]) (st := [x_i 0, x_r (16 * 27 + 0)]) (id := 16 * 1 + 0) (i1 := 4) (hp := 13) dL_when_5 xmL_61 rfl (Or.inl ⟨9, 17, TX11, (sa_1_0 hs), rfl, by decide⟩) (f_cal (M := M) (us2 := [3, 18, 19]) [0, 1, 2] hn rfl (And.intro rfl (And.intro rfl (And.intro rfl trivial))) rfl rfl rfl (c_X11_when hst hs hG)) (by decide) (Nat.le_of_ble_eq_true rfl) ([]) ([]) (⟨0, 10, 13, 24⟩) rfl (fun z hz => absurd hz List.not_mem_nil) rfl (by decide) (by decide) xlL_24 xe_1 rfl dL_when_13 (by decide) rfl rfl ?_
      show Ev g _ _ _ _ _ _ 15 [some (x_r (16 * 1 + 0)), some (x_i a), some (x_i b), some (x_r (16 * 27 + 0)), none] [] (al, ro, fl (ml M [3, 18, 19, 27] [N, t1, t2, Ot])) _ _ _ _
      refine e_iconst (pc := 15) dL_when_15 (x_R rfl) ?_
      exact e_ireturn rfl dL_when_16 rfl
theorem xmH_meet (ix : Nat) (h : Cond.methodLink RL ix yL_meet ∈ x_big) : x_LH RL ix yL_meet cL_meet 5 (some .int) [(0, 10, 13, 24), (0, 10, 17, 13)] 4 := ⟨h, (x_inB (x_t5 (List.mem_of_getElem? (i := 188) rfl)) rfl), (x_inB (x_t1 (List.mem_of_getElem? (i := 0) rfl)) rfl), (x_inB (x_t5 (List.mem_of_getElem? (i := 189) rfl)) rfl), ⟨by decide +kernel, by decide +kernel⟩, (by unfold x_ar; decide +kernel), by decide⟩
set_option maxRecDepth 100000 in
set_option maxHeartbeats 4000000 in
theorem c_L_meet {g : xG} {al : List (Nat × Nat × Nat)} {ro : Nat → Nat → Option Nat} (hst : g.1.stackTraces = false) (hs : SH al ro) (ho : (16 * 27 + 0, 21, 1) ∈ al) {M : Nat → xU} {a : Int} {b : Int} {N : xU} {Th : xU} {La : xU} {Ot : xU} {t : ((Int ⊕ Nat) × xU × xU)} (hG : G11_meet a b N Th La = some t) (hE : ∀ E, t.1 = .inr E → E ∈ ([1, 0] : List Nat)) :
    CalH g yL_meet cL_meet 5 (some .int) [(0, 10, 13, 24), (0, 10, 17, 13)] 7 [x_r (16 * 1 + 0), x_i a, x_i b, x_r (16 * 27 + 0)] (al, ro, fl (ml M [3, 18, 19, 27] [N, Th, La, Ot])) 3 18 (.inl (some (x_i (x_wc [1, 0] t.1)))) (al, ro, fl (ml M [3, 18, 19, 27] [N, t.2.1, t.2.2, (x_out Ot t.1)])) := by
  have hn : ([3, 18, 19, 27] : List Nat).Nodup := by decide
  refine calH_of_ev (by decide) (x_c1 rfl) (Nat.le_of_ble_eq_true rfl) hst ?_
  show Ev g _ _ _ _ _ _ 0 [some (x_r (16 * 1 + 0)), some (x_i a), some (x_i b), some (x_r (16 * 27 + 0)), none] [] (al, ro, fl (ml M [3, 18, 19, 27] [N, Th, La, Ot])) _ _ _ _
  obtain ⟨t0, t1, t2⟩ := t
  refine e_aloadn (pc := 0) (i := 3) dL_meet_0 rfl rfl ?_
  refine e_iconst (pc := 1) dL_meet_1 (x_R rfl) ?_
  refine e_aloadn (pc := 2) (i := 0) dL_meet_2 rfl rfl ?_
  refine e_iloadn (pc := 3) (i := 1) dL_meet_3 rfl rfl ?_
  refine e_iloadn (pc := 4) (i := 2) dL_meet_4 rfl rfl ?_
  cases t0 with
  | inl v =>
    refine e_invV (pc := 5) (K1 := 3) (S1 := 18) (K := 0) (S := 0) (dd2 := 6) (av := [x_i a, x_i b]) (st := [x_i 0, x_r (16 * 27 + 0)]) (id := 16 * 1 + 0) dL_meet_5 xmL_64 rfl (Or.inl ⟨9, 17, TX11, (sa_1_0 hs), rfl, by decide⟩) (f_cal (M := M) (us2 := [3, 18, 19]) [0, 1, 2] hn rfl (And.intro rfl (And.intro rfl (And.intro rfl trivial))) rfl rfl rfl (c_X11_meet hst hs hG)) (by decide) (Nat.le_of_ble_eq_true rfl) (Or.inl rfl) ?_
    show Ev g _ _ _ _ _ _ 8 [some (x_r (16 * 1 + 0)), some (x_i a), some (x_i b), some (x_r (16 * 27 + 0)), none] [x_i v, x_i 0, x_r (16 * 27 + 0)] (al, ro, fl (ml M [3, 18, 19, 27] [N, t1, t2, Ot])) _ _ _ _
    refine e_i2l (pc := 8) dL_meet_8 ?_
    refine f_last (pc := 9) (k := 3) (u := 27) (q := 0) (len := 1) dL_meet_9 ho (by decide) hn rfl rfl rfl (by decide) ?_
    show Ev g _ _ _ _ _ _ 10 [some (x_r (16 * 1 + 0)), some (x_i a), some (x_i b), some (x_r (16 * 27 + 0)), none] [] (al, ro, fl (ml M [3, 18, 19, 27] [N, t1, t2, (x_up Ot 0 0 (x_i2l v))])) _ _ _ _
    refine e_goto (pc := 10) (tgt := 21) dL_meet_10 (by decide) ?_
    refine e_iconst (pc := 21) dL_meet_21 (x_R rfl) ?_
    exact e_ireturn rfl dL_meet_22 rfl
  | inr E =>
    have hE2 := hE E rfl
    simp only [List.mem_cons, List.not_mem_nil, or_false] at hE2
    rcases hE2 with rfl | rfl
    · refine e_invVC2 (pc := 5) (K1 := 3) (S1 := 18) (K := 0) (S := 0) (dd2 := 6) (av := [x_i a, x_i b]) (st := [x_i 0, x_r (16 * 27 + 0)]) (id := 16 * 1 + 0) (i1 := 4) (hp := 13) dL_meet_5 xmL_64 rfl (Or.inl ⟨9, 17, TX11, (sa_1_0 hs), rfl, by decide⟩) (f_cal (M := M) (us2 := [3, 18, 19]) [0, 1, 2] hn rfl (And.intro rfl (And.intro rfl (And.intro rfl trivial))) rfl rfl rfl (c_X11_meet hst hs hG)) (by decide) (Nat.le_of_ble_eq_true rfl) ([]) ([⟨0, 10, 17, 13⟩]) (⟨0, 10, 13, 24⟩) rfl (fun z hz => absurd hz List.not_mem_nil) rfl (by decide) (by decide) xlL_24 xe_1 rfl dL_meet_13 (by decide) rfl rfl ?_
      show Ev g _ _ _ _ _ _ 15 [some (x_r (16 * 1 + 0)), some (x_i a), some (x_i b), some (x_r (16 * 27 + 0)), none] [] (al, ro, fl (ml M [3, 18, 19, 27] [N, t1, t2, Ot])) _ _ _ _
      refine e_iconst (pc := 15) dL_meet_15 (x_R rfl) ?_
      exact e_ireturn rfl dL_meet_16 rfl
    · refine e_invVC2 (pc := 5) (K1 := 3) (S1 := 18) (K := 0) (S := 0) (dd2 := 6) (av := [x_i a, x_i b]) (st := [x_i 0, x_r (16 * 27 + 0)]) (id := 16 * 1 + 0) (i1 := 4) (hp := 17) dL_meet_5 xmL_64 rfl (Or.inl ⟨9, 17, TX11, (sa_1_0 hs), rfl, by decide⟩) (f_cal (M := M) (us2 := [3, 18, 19]) [0, 1, 2] hn rfl (And.intro rfl (And.intro rfl (And.intro rfl trivial))) rfl rfl rfl (c_X11_meet hst hs hG)) (by decide) (Nat.le_of_ble_eq_true rfl) ([⟨0, 10, 13, 24⟩]) ([]) (⟨0, 10, 17, 13⟩) rfl (List.forall_mem_cons.mpr ⟨Or.inr ⟨by decide, 1, by decide, by decide, xlL_24⟩, (fun _ h => absurd h List.not_mem_nil)⟩) rfl (by decide) (by decide) xlL_13 xe_0 rfl dL_meet_17 (by decide) rfl rfl ?_
      show Ev g _ _ _ _ _ _ 19 [some (x_r (16 * 1 + 0)), some (x_i a), some (x_i b), some (x_r (16 * 27 + 0)), none] [] (al, ro, fl (ml M [3, 18, 19, 27] [N, t1, t2, Ot])) _ _ _ _
      refine e_iconst (pc := 19) dL_meet_19 (x_R rfl) ?_
      exact e_ireturn rfl dL_meet_20 rfl
theorem xmH_lates (ix : Nat) (h : Cond.methodLink RL ix yL_lates ∈ x_big) : x_LH RL ix yL_lates cL_lates 4 (some .int) [(0, 9, 12, 13)] 3 := ⟨h, (x_inB (x_t5 (List.mem_of_getElem? (i := 201) rfl)) rfl), (x_inB (x_t1 (List.mem_of_getElem? (i := 0) rfl)) rfl), (x_inB (x_t5 (List.mem_of_getElem? (i := 202) rfl)) rfl), ⟨by decide +kernel, by decide +kernel⟩, (by unfold x_ar; decide +kernel), by decide⟩
set_option maxRecDepth 100000 in
set_option maxHeartbeats 4000000 in
theorem c_L_lates {g : xG} {al : List (Nat × Nat × Nat)} {ro : Nat → Nat → Option Nat} (hst : g.1.stackTraces = false) (hs : SH al ro) (ho : (16 * 27 + 0, 21, 1) ∈ al) {M : Nat → xU} {a : Int} {N : xU} {Th : xU} {La : xU} {Fo : xU} {Ot : xU} {t : ((Int ⊕ Nat) × xU × xU × xU)} (hG : G11_lates a N Th La Fo = some t) (hE : ∀ E, t.1 = .inr E → E ∈ ([0] : List Nat)) :
    CalH g yL_lates cL_lates 4 (some .int) [(0, 9, 12, 13)] 7 [x_r (16 * 1 + 0), x_i a, x_r (16 * 27 + 0)] (al, ro, fl (ml M [3, 18, 19, 22, 27] [N, Th, La, Fo, Ot])) 1 6 (.inl (some (x_i (x_wc [0] t.1)))) (al, ro, fl (ml M [3, 18, 19, 22, 27] [N, t.2.1, t.2.2.1, t.2.2.2, (x_out Ot t.1)])) := by
  have hn : ([3, 18, 19, 22, 27] : List Nat).Nodup := by decide
  refine calH_of_ev (by decide) (x_c1 rfl) (Nat.le_of_ble_eq_true rfl) hst ?_
  show Ev g _ _ _ _ _ _ 0 [some (x_r (16 * 1 + 0)), some (x_i a), some (x_r (16 * 27 + 0)), none] [] (al, ro, fl (ml M [3, 18, 19, 22, 27] [N, Th, La, Fo, Ot])) _ _ _ _
  obtain ⟨t0, t1, t2, t3⟩ := t
  refine e_aloadn (pc := 0) (i := 2) dL_lates_0 rfl rfl ?_
  refine e_iconst (pc := 1) dL_lates_1 (x_R rfl) ?_
  refine e_aloadn (pc := 2) (i := 0) dL_lates_2 rfl rfl ?_
  refine e_iloadn (pc := 3) (i := 1) dL_lates_3 rfl rfl ?_
  cases t0 with
  | inl v =>
    refine e_invV (pc := 4) (K1 := 1) (S1 := 6) (K := 0) (S := 0) (dd2 := 6) (av := [x_i a]) (st := [x_i 0, x_r (16 * 27 + 0)]) (id := 16 * 1 + 0) dL_lates_4 xmL_67 rfl (Or.inl ⟨9, 17, TX11, (sa_1_0 hs), rfl, by decide⟩) (f_cal (M := M) (us2 := [3, 18, 19, 22]) [0, 1, 2, 3] hn rfl (And.intro rfl (And.intro rfl (And.intro rfl (And.intro rfl trivial)))) rfl rfl rfl (c_X11_lates hst hs hG)) (by decide) (Nat.le_of_ble_eq_true rfl) (Or.inl rfl) ?_
    show Ev g _ _ _ _ _ _ 7 [some (x_r (16 * 1 + 0)), some (x_i a), some (x_r (16 * 27 + 0)), none] [x_i v, x_i 0, x_r (16 * 27 + 0)] (al, ro, fl (ml M [3, 18, 19, 22, 27] [N, t1, t2, t3, Ot])) _ _ _ _
    refine e_i2l (pc := 7) dL_lates_7 ?_
    refine f_last (pc := 8) (k := 4) (u := 27) (q := 0) (len := 1) dL_lates_8 ho (by decide) hn rfl rfl rfl (by decide) ?_
    show Ev g _ _ _ _ _ _ 9 [some (x_r (16 * 1 + 0)), some (x_i a), some (x_r (16 * 27 + 0)), none] [] (al, ro, fl (ml M [3, 18, 19, 22, 27] [N, t1, t2, t3, (x_up Ot 0 0 (x_i2l v))])) _ _ _ _
    refine e_goto (pc := 9) (tgt := 15) dL_lates_9 (by decide) ?_
    refine e_iconst (pc := 15) dL_lates_15 (x_R rfl) ?_
    exact e_ireturn rfl dL_lates_16 rfl
  | inr E =>
    have hE2 := hE E rfl
    simp only [List.mem_cons, List.not_mem_nil, or_false] at hE2
    subst hE2
    · refine e_invVC (pc := 4) (K1 := 1) (S1 := 6) (K := 0) (S := 0) (dd2 := 6) (av := [x_i a]) (st := [x_i 0, x_r (16 * 27 + 0)]) (id := 16 * 1 + 0) (i1 := 3) (hp := 12) dL_lates_4 xmL_67 rfl (Or.inl ⟨9, 17, TX11, (sa_1_0 hs), rfl, by decide⟩) (f_cal (M := M) (us2 := [3, 18, 19, 22]) [0, 1, 2, 3] hn rfl (And.intro rfl (And.intro rfl (And.intro rfl (And.intro rfl trivial)))) rfl rfl rfl (c_X11_lates hst hs hG)) (by decide) (Nat.le_of_ble_eq_true rfl) ([]) ([]) (⟨0, 9, 12, 13⟩) rfl (fun z hz => absurd hz List.not_mem_nil) rfl (by decide) (by decide) xlL_13 xe_0 rfl dL_lates_12 rfl (by decide) rfl rfl ?_
      show Ev g _ _ _ _ _ _ 13 [some (x_r (16 * 1 + 0)), some (x_i a), some (x_r (16 * 27 + 0)), none] [] (al, ro, fl (ml M [3, 18, 19, 22, 27] [N, t1, t2, t3, Ot])) _ _ _ _
      refine e_iconst (pc := 13) dL_lates_13 (x_R rfl) ?_
      exact e_ireturn rfl dL_lates_14 rfl
theorem xmH_far (ix : Nat) (h : Cond.methodLink RL ix yL_far ∈ x_big) : x_LH RL ix yL_far cL_far 5 (some .int) [(0, 10, 13, 24)] 4 := ⟨h, (x_inB (x_t5 (List.mem_of_getElem? (i := 208) rfl)) rfl), (x_inB (x_t1 (List.mem_of_getElem? (i := 0) rfl)) rfl), (x_inB (x_t5 (List.mem_of_getElem? (i := 209) rfl)) rfl), ⟨by decide +kernel, by decide +kernel⟩, (by unfold x_ar; decide +kernel), by decide⟩
set_option maxRecDepth 100000 in
set_option maxHeartbeats 4000000 in
theorem c_L_far {g : xG} {al : List (Nat × Nat × Nat)} {ro : Nat → Nat → Option Nat} (hst : g.1.stackTraces = false) (hs : SH al ro) (ho : (16 * 27 + 0, 21, 1) ∈ al) {M : Nat → xU} {a : Int} {b : Int} {N : xU} {Ot : xU} {t : (Int ⊕ Nat)} (hG : G11_far a b N = some t) (hE : ∀ E, t = .inr E → E ∈ ([1] : List Nat)) :
    CalH g yL_far cL_far 5 (some .int) [(0, 10, 13, 24)] 4 [x_r (16 * 1 + 0), x_i a, x_i b, x_r (16 * 27 + 0)] (al, ro, fl (ml M [3, 27] [N, Ot])) 2 12 (.inl (some (x_i (x_wc [1] t)))) (al, ro, fl (ml M [3, 27] [N, (x_out Ot t)])) := by
  have hn : ([3, 27] : List Nat).Nodup := by decide
  refine calH_of_ev (by decide) (x_c1 rfl) (Nat.le_of_ble_eq_true rfl) hst ?_
  show Ev g _ _ _ _ _ _ 0 [some (x_r (16 * 1 + 0)), some (x_i a), some (x_i b), some (x_r (16 * 27 + 0)), none] [] (al, ro, fl (ml M [3, 27] [N, Ot])) _ _ _ _
  refine e_aloadn (pc := 0) (i := 3) dL_far_0 rfl rfl ?_
  refine e_iconst (pc := 1) dL_far_1 (x_R rfl) ?_
  refine e_aloadn (pc := 2) (i := 0) dL_far_2 rfl rfl ?_
  refine e_iloadn (pc := 3) (i := 1) dL_far_3 rfl rfl ?_
  refine e_iloadn (pc := 4) (i := 2) dL_far_4 rfl rfl ?_
  cases t with
  | inl v =>
    refine e_invV (pc := 5) (K1 := 2) (S1 := 12) (K := 0) (S := 0) (dd2 := 3) (av := [x_i a, x_i b]) (st := [x_i 0, x_r (16 * 27 + 0)]) (id := 16 * 1 + 0) dL_far_5 xmL_70 rfl (Or.inl ⟨9, 17, TX11, (sa_1_0 hs), rfl, by decide⟩) (f_cal (M := M) (us2 := [3]) [0] hn rfl (And.intro rfl trivial) rfl rfl rfl (c_X11_far hst hs hG)) (by decide) (Nat.le_of_ble_eq_true rfl) (Or.inl rfl) ?_
    show Ev g _ _ _ _ _ _ 8 [some (x_r (16 * 1 + 0)), some (x_i a), some (x_i b), some (x_r (16 * 27 + 0)), none] [x_i v, x_i 0, x_r (16 * 27 + 0)] (al, ro, fl (ml M [3, 27] [N, Ot])) _ _ _ _
    refine e_i2l (pc := 8) dL_far_8 ?_
    refine f_last (pc := 9) (k := 1) (u := 27) (q := 0) (len := 1) dL_far_9 ho (by decide) hn rfl rfl rfl (by decide) ?_
    show Ev g _ _ _ _ _ _ 10 [some (x_r (16 * 1 + 0)), some (x_i a), some (x_i b), some (x_r (16 * 27 + 0)), none] [] (al, ro, fl (ml M [3, 27] [N, (x_up Ot 0 0 (x_i2l v))])) _ _ _ _
    refine e_goto (pc := 10) (tgt := 17) dL_far_10 (by decide) ?_
    refine e_iconst (pc := 17) dL_far_17 (x_R rfl) ?_
    exact e_ireturn rfl dL_far_18 rfl
  | inr E =>
    have hE2 := hE E rfl
    simp only [List.mem_cons, List.not_mem_nil, or_false] at hE2
    subst hE2
    · refine e_invVC2 (pc := 5) (K1 := 2) (S1 := 12) (K := 0) (S := 0) (dd2 := 3) (av := [x_i a, x_i b]) (st := [x_i 0, x_r (16 * 27 + 0)]) (id := 16 * 1 + 0) (i1 := 4) (hp := 13) dL_far_5 xmL_70 rfl (Or.inl ⟨9, 17, TX11, (sa_1_0 hs), rfl, by decide⟩) (f_cal (M := M) (us2 := [3]) [0] hn rfl (And.intro rfl trivial) rfl rfl rfl (c_X11_far hst hs hG)) (by decide) (Nat.le_of_ble_eq_true rfl) ([]) ([]) (⟨0, 10, 13, 24⟩) rfl (fun z hz => absurd hz List.not_mem_nil) rfl (by decide) (by decide) xlL_24 xe_1 rfl dL_far_13 (by decide) rfl rfl ?_
      show Ev g _ _ _ _ _ _ 15 [some (x_r (16 * 1 + 0)), some (x_i a), some (x_i b), some (x_r (16 * 27 + 0)), none] [] (al, ro, fl (ml M [3, 27] [N, Ot])) _ _ _ _
      refine e_iconst (pc := 15) dL_far_15 (x_R rfl) ?_
      exact e_ireturn rfl dL_far_16 rfl
theorem xmH_road (ix : Nat) (h : Cond.methodLink RL ix yL_road ∈ x_big) : x_LH RL ix yL_road cL_road 5 (some .int) [(0, 10, 13, 24), (0, 10, 17, 13)] 4 := ⟨h, (x_inB (x_t5 (List.mem_of_getElem? (i := 221) rfl)) rfl), (x_inB (x_t1 (List.mem_of_getElem? (i := 0) rfl)) rfl), (x_inB (x_t5 (List.mem_of_getElem? (i := 222) rfl)) rfl), ⟨by decide +kernel, by decide +kernel⟩, (by unfold x_ar; decide +kernel), by decide⟩
set_option maxRecDepth 100000 in
set_option maxHeartbeats 4000000 in
theorem c_L_road {g : xG} {al : List (Nat × Nat × Nat)} {ro : Nat → Nat → Option Nat} (hst : g.1.stackTraces = false) (hs : SH al ro) (ho : (16 * 27 + 0, 21, 1) ∈ al) {M : Nat → xU} {a : Int} {b : Int} {T : xU} {N : xU} {Ro : xU} {Ot : xU} {t : ((Int ⊕ Nat) × xU × xU)} (hG : G11_road a b T N Ro = some t) (hE : ∀ E, t.1 = .inr E → E ∈ ([1, 0] : List Nat)) :
    CalH g yL_road cL_road 5 (some .int) [(0, 10, 13, 24), (0, 10, 17, 13)] 8 [x_r (16 * 1 + 0), x_i a, x_i b, x_r (16 * 27 + 0)] (al, ro, fl (ml M [2, 3, 26, 27] [T, N, Ro, Ot])) 2 12 (.inl (some (x_i (x_wc [1, 0] t.1)))) (al, ro, fl (ml M [2, 3, 26, 27] [t.2.1, N, t.2.2, (x_out Ot t.1)])) := by
  have hn : ([2, 3, 26, 27] : List Nat).Nodup := by decide
  refine calH_of_ev (by decide) (x_c1 rfl) (Nat.le_of_ble_eq_true rfl) hst ?_
  show Ev g _ _ _ _ _ _ 0 [some (x_r (16 * 1 + 0)), some (x_i a), some (x_i b), some (x_r (16 * 27 + 0)), none] [] (al, ro, fl (ml M [2, 3, 26, 27] [T, N, Ro, Ot])) _ _ _ _
  obtain ⟨t0, t1, t2⟩ := t
  refine e_aloadn (pc := 0) (i := 3) dL_road_0 rfl rfl ?_
  refine e_iconst (pc := 1) dL_road_1 (x_R rfl) ?_
  refine e_aloadn (pc := 2) (i := 0) dL_road_2 rfl rfl ?_
  refine e_iloadn (pc := 3) (i := 1) dL_road_3 rfl rfl ?_
  refine e_iloadn (pc := 4) (i := 2) dL_road_4 rfl rfl ?_
  cases t0 with
  | inl v =>
    refine e_invV (pc := 5) (K1 := 2) (S1 := 12) (K := 0) (S := 0) (dd2 := 7) (av := [x_i a, x_i b]) (st := [x_i 0, x_r (16 * 27 + 0)]) (id := 16 * 1 + 0) dL_road_5 xmL_73 rfl (Or.inl ⟨9, 17, TX11, (sa_1_0 hs), rfl, by decide⟩) (f_cal (M := M) (us2 := [2, 3, 26]) [0, 1, 2] hn rfl (And.intro rfl (And.intro rfl (And.intro rfl trivial))) rfl rfl rfl (c_X11_road hst hs hG)) (by decide) (Nat.le_of_ble_eq_true rfl) (Or.inl rfl) ?_
    show Ev g _ _ _ _ _ _ 8 [some (x_r (16 * 1 + 0)), some (x_i a), some (x_i b), some (x_r (16 * 27 + 0)), none] [x_i v, x_i 0, x_r (16 * 27 + 0)] (al, ro, fl (ml M [2, 3, 26, 27] [t1, N, t2, Ot])) _ _ _ _
    refine e_i2l (pc := 8) dL_road_8 ?_
    refine f_last (pc := 9) (k := 3) (u := 27) (q := 0) (len := 1) dL_road_9 ho (by decide) hn rfl rfl rfl (by decide) ?_
    show Ev g _ _ _ _ _ _ 10 [some (x_r (16 * 1 + 0)), some (x_i a), some (x_i b), some (x_r (16 * 27 + 0)), none] [] (al, ro, fl (ml M [2, 3, 26, 27] [t1, N, t2, (x_up Ot 0 0 (x_i2l v))])) _ _ _ _
    refine e_goto (pc := 10) (tgt := 21) dL_road_10 (by decide) ?_
    refine e_iconst (pc := 21) dL_road_21 (x_R rfl) ?_
    exact e_ireturn rfl dL_road_22 rfl
  | inr E =>
    have hE2 := hE E rfl
    simp only [List.mem_cons, List.not_mem_nil, or_false] at hE2
    rcases hE2 with rfl | rfl
    · refine e_invVC2 (pc := 5) (K1 := 2) (S1 := 12) (K := 0) (S := 0) (dd2 := 7) (av := [x_i a, x_i b]) (st := [x_i 0, x_r (16 * 27 + 0)]) (id := 16 * 1 + 0) (i1 := 4) (hp := 13) dL_road_5 xmL_73 rfl (Or.inl ⟨9, 17, TX11, (sa_1_0 hs), rfl, by decide⟩) (f_cal (M := M) (us2 := [2, 3, 26]) [0, 1, 2] hn rfl (And.intro rfl (And.intro rfl (And.intro rfl trivial))) rfl rfl rfl (c_X11_road hst hs hG)) (by decide) (Nat.le_of_ble_eq_true rfl) ([]) ([⟨0, 10, 17, 13⟩]) (⟨0, 10, 13, 24⟩) rfl (fun z hz => absurd hz List.not_mem_nil) rfl (by decide) (by decide) xlL_24 xe_1 rfl dL_road_13 (by decide) rfl rfl ?_
      show Ev g _ _ _ _ _ _ 15 [some (x_r (16 * 1 + 0)), some (x_i a), some (x_i b), some (x_r (16 * 27 + 0)), none] [] (al, ro, fl (ml M [2, 3, 26, 27] [t1, N, t2, Ot])) _ _ _ _
      refine e_iconst (pc := 15) dL_road_15 (x_R rfl) ?_
      exact e_ireturn rfl dL_road_16 rfl
    · refine e_invVC2 (pc := 5) (K1 := 2) (S1 := 12) (K := 0) (S := 0) (dd2 := 7) (av := [x_i a, x_i b]) (st := [x_i 0, x_r (16 * 27 + 0)]) (id := 16 * 1 + 0) (i1 := 4) (hp := 17) dL_road_5 xmL_73 rfl (Or.inl ⟨9, 17, TX11, (sa_1_0 hs), rfl, by decide⟩) (f_cal (M := M) (us2 := [2, 3, 26]) [0, 1, 2] hn rfl (And.intro rfl (And.intro rfl (And.intro rfl trivial))) rfl rfl rfl (c_X11_road hst hs hG)) (by decide) (Nat.le_of_ble_eq_true rfl) ([⟨0, 10, 13, 24⟩]) ([]) (⟨0, 10, 17, 13⟩) rfl (List.forall_mem_cons.mpr ⟨Or.inr ⟨by decide, 1, by decide, by decide, xlL_24⟩, (fun _ h => absurd h List.not_mem_nil)⟩) rfl (by decide) (by decide) xlL_13 xe_0 rfl dL_road_17 (by decide) rfl rfl ?_
      show Ev g _ _ _ _ _ _ 19 [some (x_r (16 * 1 + 0)), some (x_i a), some (x_i b), some (x_r (16 * 27 + 0)), none] [] (al, ro, fl (ml M [2, 3, 26, 27] [t1, N, t2, Ot])) _ _ _ _
      refine e_iconst (pc := 19) dL_road_19 (x_R rfl) ?_
      exact e_ireturn rfl dL_road_20 rfl
theorem xmH_seats (ix : Nat) (h : Cond.methodLink RL ix yL_seats ∈ x_big) : x_LH RL ix yL_seats cL_seats 4 (some .int) [(0, 9, 12, 24)] 3 := ⟨h, (x_inB (x_t6 (List.mem_of_getElem? (i := 14) rfl)) rfl), (x_inB (x_t1 (List.mem_of_getElem? (i := 0) rfl)) rfl), (x_inB (x_t6 (List.mem_of_getElem? (i := 15) rfl)) rfl), ⟨by decide +kernel, by decide +kernel⟩, (by unfold x_ar; decide +kernel), by decide⟩
set_option maxRecDepth 100000 in
set_option maxHeartbeats 4000000 in
theorem c_L_seats {g : xG} {al : List (Nat × Nat × Nat)} {ro : Nat → Nat → Option Nat} (hst : g.1.stackTraces = false) (hs : SH al ro) (ho : (16 * 27 + 0, 21, 1) ∈ al) {M : Nat → xU} {a : Int} {N : xU} {St : xU} {Ot : xU} {t : ((Int ⊕ Nat) × xU)} (hG : G11_seats a N St = some t) (hE : ∀ E, t.1 = .inr E → E ∈ ([1] : List Nat)) :
    CalH g yL_seats cL_seats 4 (some .int) [(0, 9, 12, 24)] 5 [x_r (16 * 1 + 0), x_i a, x_r (16 * 27 + 0)] (al, ro, fl (ml M [3, 23, 27] [N, St, Ot])) 1 6 (.inl (some (x_i (x_wc [1] t.1)))) (al, ro, fl (ml M [3, 23, 27] [N, t.2, (x_out Ot t.1)])) := by
  have hn : ([3, 23, 27] : List Nat).Nodup := by decide
  refine calH_of_ev (by decide) (x_c1 rfl) (Nat.le_of_ble_eq_true rfl) hst ?_
  show Ev g _ _ _ _ _ _ 0 [some (x_r (16 * 1 + 0)), some (x_i a), some (x_r (16 * 27 + 0)), none] [] (al, ro, fl (ml M [3, 23, 27] [N, St, Ot])) _ _ _ _
  obtain ⟨t0, t1⟩ := t
  refine e_aloadn (pc := 0) (i := 2) dL_seats_0 rfl rfl ?_
  refine e_iconst (pc := 1) dL_seats_1 (x_R rfl) ?_
  refine e_aloadn (pc := 2) (i := 0) dL_seats_2 rfl rfl ?_
  refine e_iloadn (pc := 3) (i := 1) dL_seats_3 rfl rfl ?_
  cases t0 with
  | inl v =>
    refine e_invV (pc := 4) (K1 := 1) (S1 := 6) (K := 0) (S := 0) (dd2 := 4) (av := [x_i a]) (st := [x_i 0, x_r (16 * 27 + 0)]) (id := 16 * 1 + 0) dL_seats_4 xmL_77 rfl (Or.inl ⟨9, 17, TX11, (sa_1_0 hs), rfl, by decide⟩) (f_cal (M := M) (us2 := [3, 23]) [0, 1] hn rfl (And.intro rfl (And.intro rfl trivial)) rfl rfl rfl (c_X11_seats hst hs hG)) (by decide) (Nat.le_of_ble_eq_true rfl) (Or.inl rfl) ?_
    show Ev g _ _ _ _ _ _ 7 [some (x_r (16 * 1 + 0)), some (x_i a), some (x_r (16 * 27 + 0)), none] [x_i v, x_i 0, x_r (16 * 27 + 0)] (al, ro, fl (ml M [3, 23, 27] [N, t1, Ot])) _ _ _ _
    refine e_i2l (pc := 7) dL_seats_7 ?_
    refine f_last (pc := 8) (k := 2) (u := 27) (q := 0) (len := 1) dL_seats_8 ho (by decide) hn rfl rfl rfl (by decide) ?_
    show Ev g _ _ _ _ _ _ 9 [some (x_r (16 * 1 + 0)), some (x_i a), some (x_r (16 * 27 + 0)), none] [] (al, ro, fl (ml M [3, 23, 27] [N, t1, (x_up Ot 0 0 (x_i2l v))])) _ _ _ _
    refine e_goto (pc := 9) (tgt := 15) dL_seats_9 (by decide) ?_
    refine e_iconst (pc := 15) dL_seats_15 (x_R rfl) ?_
    exact e_ireturn rfl dL_seats_16 rfl
  | inr E =>
    have hE2 := hE E rfl
    simp only [List.mem_cons, List.not_mem_nil, or_false] at hE2
    subst hE2
    · refine e_invVC (pc := 4) (K1 := 1) (S1 := 6) (K := 0) (S := 0) (dd2 := 4) (av := [x_i a]) (st := [x_i 0, x_r (16 * 27 + 0)]) (id := 16 * 1 + 0) (i1 := 3) (hp := 12) dL_seats_4 xmL_77 rfl (Or.inl ⟨9, 17, TX11, (sa_1_0 hs), rfl, by decide⟩) (f_cal (M := M) (us2 := [3, 23]) [0, 1] hn rfl (And.intro rfl (And.intro rfl trivial)) rfl rfl rfl (c_X11_seats hst hs hG)) (by decide) (Nat.le_of_ble_eq_true rfl) ([]) ([]) (⟨0, 9, 12, 24⟩) rfl (fun z hz => absurd hz List.not_mem_nil) rfl (by decide) (by decide) xlL_24 xe_1 rfl dL_seats_12 rfl (by decide) rfl rfl ?_
      show Ev g _ _ _ _ _ _ 13 [some (x_r (16 * 1 + 0)), some (x_i a), some (x_r (16 * 27 + 0)), none] [] (al, ro, fl (ml M [3, 23, 27] [N, t1, Ot])) _ _ _ _
      refine e_iconst (pc := 13) dL_seats_13 (x_R rfl) ?_
      exact e_ireturn rfl dL_seats_14 rfl
theorem xmH_serves (ix : Nat) (h : Cond.methodLink RL ix yL_serves ∈ x_big) : x_LH RL ix yL_serves cL_serves 4 (some .int) [(0, 9, 12, 24)] 3 := ⟨h, (x_inB (x_t6 (List.mem_of_getElem? (i := 39) rfl)) rfl), (x_inB (x_t1 (List.mem_of_getElem? (i := 0) rfl)) rfl), (x_inB (x_t6 (List.mem_of_getElem? (i := 40) rfl)) rfl), ⟨by decide +kernel, by decide +kernel⟩, (by unfold x_ar; decide +kernel), by decide⟩
set_option maxRecDepth 100000 in
set_option maxHeartbeats 4000000 in
theorem c_L_serves {g : xG} {al : List (Nat × Nat × Nat)} {ro : Nat → Nat → Option Nat} (hst : g.1.stackTraces = false) (hs : SH al ro) (ho : (16 * 27 + 0, 21, 1) ∈ al) {M : Nat → xU} {a : Int} {N : xU} {Ot : xU} {t : (Int ⊕ Nat)} (hG : G11_serves a N = some t) (hE : ∀ E, t = .inr E → E ∈ ([1] : List Nat)) :
    CalH g yL_serves cL_serves 4 (some .int) [(0, 9, 12, 24)] 3 [x_r (16 * 1 + 0), x_i a, x_r (16 * 27 + 0)] (al, ro, fl (ml M [3, 27] [N, Ot])) 1 6 (.inl (some (x_i (x_wc [1] t)))) (al, ro, fl (ml M [3, 27] [N, (x_out Ot t)])) := by
  have hn : ([3, 27] : List Nat).Nodup := by decide
  refine calH_of_ev (by decide) (x_c1 rfl) (Nat.le_of_ble_eq_true rfl) hst ?_
  show Ev g _ _ _ _ _ _ 0 [some (x_r (16 * 1 + 0)), some (x_i a), some (x_r (16 * 27 + 0)), none] [] (al, ro, fl (ml M [3, 27] [N, Ot])) _ _ _ _
  refine e_aloadn (pc := 0) (i := 2) dL_serves_0 rfl rfl ?_
  refine e_iconst (pc := 1) dL_serves_1 (x_R rfl) ?_
  refine e_aloadn (pc := 2) (i := 0) dL_serves_2 rfl rfl ?_
  refine e_iloadn (pc := 3) (i := 1) dL_serves_3 rfl rfl ?_
  cases t with
  | inl v =>
    refine e_invV (pc := 4) (K1 := 1) (S1 := 6) (K := 0) (S := 0) (dd2 := 2) (av := [x_i a]) (st := [x_i 0, x_r (16 * 27 + 0)]) (id := 16 * 1 + 0) dL_serves_4 xmL_80 rfl (Or.inl ⟨9, 17, TX11, (sa_1_0 hs), rfl, by decide⟩) (f_cal (M := M) (us2 := [3]) [0] hn rfl (And.intro rfl trivial) rfl rfl rfl (c_X11_serves hst hs hG)) (by decide) (Nat.le_of_ble_eq_true rfl) (Or.inl rfl) ?_
    show Ev g _ _ _ _ _ _ 7 [some (x_r (16 * 1 + 0)), some (x_i a), some (x_r (16 * 27 + 0)), none] [x_i v, x_i 0, x_r (16 * 27 + 0)] (al, ro, fl (ml M [3, 27] [N, Ot])) _ _ _ _
    refine e_i2l (pc := 7) dL_serves_7 ?_
    refine f_last (pc := 8) (k := 1) (u := 27) (q := 0) (len := 1) dL_serves_8 ho (by decide) hn rfl rfl rfl (by decide) ?_
    show Ev g _ _ _ _ _ _ 9 [some (x_r (16 * 1 + 0)), some (x_i a), some (x_r (16 * 27 + 0)), none] [] (al, ro, fl (ml M [3, 27] [N, (x_up Ot 0 0 (x_i2l v))])) _ _ _ _
    refine e_goto (pc := 9) (tgt := 15) dL_serves_9 (by decide) ?_
    refine e_iconst (pc := 15) dL_serves_15 (x_R rfl) ?_
    exact e_ireturn rfl dL_serves_16 rfl
  | inr E =>
    have hE2 := hE E rfl
    simp only [List.mem_cons, List.not_mem_nil, or_false] at hE2
    subst hE2
    · refine e_invVC (pc := 4) (K1 := 1) (S1 := 6) (K := 0) (S := 0) (dd2 := 2) (av := [x_i a]) (st := [x_i 0, x_r (16 * 27 + 0)]) (id := 16 * 1 + 0) (i1 := 3) (hp := 12) dL_serves_4 xmL_80 rfl (Or.inl ⟨9, 17, TX11, (sa_1_0 hs), rfl, by decide⟩) (f_cal (M := M) (us2 := [3]) [0] hn rfl (And.intro rfl trivial) rfl rfl rfl (c_X11_serves hst hs hG)) (by decide) (Nat.le_of_ble_eq_true rfl) ([]) ([]) (⟨0, 9, 12, 24⟩) rfl (fun z hz => absurd hz List.not_mem_nil) rfl (by decide) (by decide) xlL_24 xe_1 rfl dL_serves_12 rfl (by decide) rfl rfl ?_
      show Ev g _ _ _ _ _ _ 13 [some (x_r (16 * 1 + 0)), some (x_i a), some (x_r (16 * 27 + 0)), none] [] (al, ro, fl (ml M [3, 27] [N, Ot])) _ _ _ _
      refine e_iconst (pc := 13) dL_serves_13 (x_R rfl) ?_
      exact e_ireturn rfl dL_serves_14 rfl
theorem xmH_trade (ix : Nat) (h : Cond.methodLink RL ix yL_trade ∈ x_big) : x_LH RL ix yL_trade cL_trade 5 (some .int) [(0, 10, 13, 24)] 4 := ⟨h, (x_inB (x_t6 (List.mem_of_getElem? (i := 46) rfl)) rfl), (x_inB (x_t1 (List.mem_of_getElem? (i := 0) rfl)) rfl), (x_inB (x_t6 (List.mem_of_getElem? (i := 47) rfl)) rfl), ⟨by decide +kernel, by decide +kernel⟩, (by unfold x_ar; decide +kernel), by decide⟩
set_option maxRecDepth 100000 in
set_option maxHeartbeats 4000000 in
theorem c_L_trade {g : xG} {al : List (Nat × Nat × Nat)} {ro : Nat → Nat → Option Nat} (hst : g.1.stackTraces = false) (hs : SH al ro) (ho : (16 * 27 + 0, 21, 1) ∈ al) {M : Nat → xU} {a : Int} {b : Int} {N : xU} {St : xU} {Ot : xU} {t : ((Int ⊕ Nat) × xU)} (hG : G11_trade a b N St = some t) (hE : ∀ E, t.1 = .inr E → E ∈ ([1] : List Nat)) :
    CalH g yL_trade cL_trade 5 (some .int) [(0, 10, 13, 24)] 6 [x_r (16 * 1 + 0), x_i a, x_i b, x_r (16 * 27 + 0)] (al, ro, fl (ml M [3, 23, 27] [N, St, Ot])) 1 6 (.inl (some (x_i (x_wc [1] t.1)))) (al, ro, fl (ml M [3, 23, 27] [N, t.2, (x_out Ot t.1)])) := by
  have hn : ([3, 23, 27] : List Nat).Nodup := by decide
  refine calH_of_ev (by decide) (x_c1 rfl) (Nat.le_of_ble_eq_true rfl) hst ?_
  show Ev g _ _ _ _ _ _ 0 [some (x_r (16 * 1 + 0)), some (x_i a), some (x_i b), some (x_r (16 * 27 + 0)), none] [] (al, ro, fl (ml M [3, 23, 27] [N, St, Ot])) _ _ _ _
  obtain ⟨t0, t1⟩ := t
  refine e_aloadn (pc := 0) (i := 3) dL_trade_0 rfl rfl ?_
  refine e_iconst (pc := 1) dL_trade_1 (x_R rfl) ?_
  refine e_aloadn (pc := 2) (i := 0) dL_trade_2 rfl rfl ?_
  refine e_iloadn (pc := 3) (i := 1) dL_trade_3 rfl rfl ?_
  refine e_iloadn (pc := 4) (i := 2) dL_trade_4 rfl rfl ?_
  cases t0 with
  | inl v =>
    refine e_invV (pc := 5) (K1 := 1) (S1 := 6) (K := 0) (S := 0) (dd2 := 5) (av := [x_i a, x_i b]) (st := [x_i 0, x_r (16 * 27 + 0)]) (id := 16 * 1 + 0) dL_trade_5 xmL_83 rfl (Or.inl ⟨9, 17, TX11, (sa_1_0 hs), rfl, by decide⟩) (f_cal (M := M) (us2 := [3, 23]) [0, 1] hn rfl (And.intro rfl (And.intro rfl trivial)) rfl rfl rfl (c_X11_trade hst hs hG)) (by decide) (Nat.le_of_ble_eq_true rfl) (Or.inl rfl) ?_
    show Ev g _ _ _ _ _ _ 8 [some (x_r (16 * 1 + 0)), some (x_i a), some (x_i b), some (x_r (16 * 27 + 0)), none] [x_i v, x_i 0, x_r (16 * 27 + 0)] (al, ro, fl (ml M [3, 23, 27] [N, t1, Ot])) _ _ _ _
    refine e_i2l (pc := 8) dL_trade_8 ?_
    refine f_last (pc := 9) (k := 2) (u := 27) (q := 0) (len := 1) dL_trade_9 ho (by decide) hn rfl rfl rfl (by decide) ?_
    show Ev g _ _ _ _ _ _ 10 [some (x_r (16 * 1 + 0)), some (x_i a), some (x_i b), some (x_r (16 * 27 + 0)), none] [] (al, ro, fl (ml M [3, 23, 27] [N, t1, (x_up Ot 0 0 (x_i2l v))])) _ _ _ _
    refine e_goto (pc := 10) (tgt := 17) dL_trade_10 (by decide) ?_
    refine e_iconst (pc := 17) dL_trade_17 (x_R rfl) ?_
    exact e_ireturn rfl dL_trade_18 rfl
  | inr E =>
    have hE2 := hE E rfl
    simp only [List.mem_cons, List.not_mem_nil, or_false] at hE2
    subst hE2
    · refine e_invVC2 (pc := 5) (K1 := 1) (S1 := 6) (K := 0) (S := 0) (dd2 := 5) (av := [x_i a, x_i b]) (st := [x_i 0, x_r (16 * 27 + 0)]) (id := 16 * 1 + 0) (i1 := 4) (hp := 13) dL_trade_5 xmL_83 rfl (Or.inl ⟨9, 17, TX11, (sa_1_0 hs), rfl, by decide⟩) (f_cal (M := M) (us2 := [3, 23]) [0, 1] hn rfl (And.intro rfl (And.intro rfl trivial)) rfl rfl rfl (c_X11_trade hst hs hG)) (by decide) (Nat.le_of_ble_eq_true rfl) ([]) ([]) (⟨0, 10, 13, 24⟩) rfl (fun z hz => absurd hz List.not_mem_nil) rfl (by decide) (by decide) xlL_24 xe_1 rfl dL_trade_13 (by decide) rfl rfl ?_
      show Ev g _ _ _ _ _ _ 15 [some (x_r (16 * 1 + 0)), some (x_i a), some (x_i b), some (x_r (16 * 27 + 0)), none] [] (al, ro, fl (ml M [3, 23, 27] [N, t1, Ot])) _ _ _ _
      refine e_iconst (pc := 15) dL_trade_15 (x_R rfl) ?_
      exact e_ireturn rfl dL_trade_16 rfl
theorem xmH_seen (ix : Nat) (h : Cond.methodLink RL ix yL_seen ∈ x_big) : x_LH RL ix yL_seen cL_seen 4 (some .int) [(0, 9, 12, 13)] 3 := ⟨h, (x_inB (x_t6 (List.mem_of_getElem? (i := 79) rfl)) rfl), (x_inB (x_t1 (List.mem_of_getElem? (i := 0) rfl)) rfl), (x_inB (x_t6 (List.mem_of_getElem? (i := 80) rfl)) rfl), ⟨by decide +kernel, by decide +kernel⟩, (by unfold x_ar; decide +kernel), by decide⟩
set_option maxRecDepth 100000 in
set_option maxHeartbeats 4000000 in
theorem c_L_seen {g : xG} {al : List (Nat × Nat × Nat)} {ro : Nat → Nat → Option Nat} (hst : g.1.stackTraces = false) (hs : SH al ro) (ho : (16 * 27 + 0, 21, 1) ∈ al) {M : Nat → xU} {a : Int} {T : xU} {N : xU} {Ri : xU} {Ot : xU} {t : ((Int ⊕ Nat) × xU × xU)} (hG : G11_seen a T N Ri = some t) (hE : ∀ E, t.1 = .inr E → E ∈ ([0] : List Nat)) :
    CalH g yL_seen cL_seen 4 (some .int) [(0, 9, 12, 13)] 6 [x_r (16 * 1 + 0), x_i a, x_r (16 * 27 + 0)] (al, ro, fl (ml M [2, 3, 24, 27] [T, N, Ri, Ot])) 1 6 (.inl (some (x_i (x_wc [0] t.1)))) (al, ro, fl (ml M [2, 3, 24, 27] [t.2.1, N, t.2.2, (x_out Ot t.1)])) := by
  have hn : ([2, 3, 24, 27] : List Nat).Nodup := by decide
  refine calH_of_ev (by decide) (x_c1 rfl) (Nat.le_of_ble_eq_true rfl) hst ?_
  show Ev g _ _ _ _ _ _ 0 [some (x_r (16 * 1 + 0)), some (x_i a), some (x_r (16 * 27 + 0)), none] [] (al, ro, fl (ml M [2, 3, 24, 27] [T, N, Ri, Ot])) _ _ _ _
  obtain ⟨t0, t1, t2⟩ := t
  refine e_aloadn (pc := 0) (i := 2) dL_seen_0 rfl rfl ?_
  refine e_iconst (pc := 1) dL_seen_1 (x_R rfl) ?_
  refine e_aloadn (pc := 2) (i := 0) dL_seen_2 rfl rfl ?_
  refine e_iloadn (pc := 3) (i := 1) dL_seen_3 rfl rfl ?_
  cases t0 with
  | inl v =>
    refine e_invV (pc := 4) (K1 := 1) (S1 := 6) (K := 0) (S := 0) (dd2 := 5) (av := [x_i a]) (st := [x_i 0, x_r (16 * 27 + 0)]) (id := 16 * 1 + 0) dL_seen_4 xmL_86 rfl (Or.inl ⟨9, 17, TX11, (sa_1_0 hs), rfl, by decide⟩) (f_cal (M := M) (us2 := [2, 3, 24]) [0, 1, 2] hn rfl (And.intro rfl (And.intro rfl (And.intro rfl trivial))) rfl rfl rfl (c_X11_seen hst hs hG)) (by decide) (Nat.le_of_ble_eq_true rfl) (Or.inl rfl) ?_
    show Ev g _ _ _ _ _ _ 7 [some (x_r (16 * 1 + 0)), some (x_i a), some (x_r (16 * 27 + 0)), none] [x_i v, x_i 0, x_r (16 * 27 + 0)] (al, ro, fl (ml M [2, 3, 24, 27] [t1, N, t2, Ot])) _ _ _ _
    refine e_i2l (pc := 7) dL_seen_7 ?_
    refine f_last (pc := 8) (k := 3) (u := 27) (q := 0) (len := 1) dL_seen_8 ho (by decide) hn rfl rfl rfl (by decide) ?_
    show Ev g _ _ _ _ _ _ 9 [some (x_r (16 * 1 + 0)), some (x_i a), some (x_r (16 * 27 + 0)), none] [] (al, ro, fl (ml M [2, 3, 24, 27] [t1, N, t2, (x_up Ot 0 0 (x_i2l v))])) _ _ _ _
    refine e_goto (pc := 9) (tgt := 15) dL_seen_9 (by decide) ?_
    refine e_iconst (pc := 15) dL_seen_15 (x_R rfl) ?_
    exact e_ireturn rfl dL_seen_16 rfl
  | inr E =>
    have hE2 := hE E rfl
    simp only [List.mem_cons, List.not_mem_nil, or_false] at hE2
    subst hE2
    · refine e_invVC (pc := 4) (K1 := 1) (S1 := 6) (K := 0) (S := 0) (dd2 := 5) (av := [x_i a]) (st := [x_i 0, x_r (16 * 27 + 0)]) (id := 16 * 1 + 0) (i1 := 3) (hp := 12) dL_seen_4 xmL_86 rfl (Or.inl ⟨9, 17, TX11, (sa_1_0 hs), rfl, by decide⟩) (f_cal (M := M) (us2 := [2, 3, 24]) [0, 1, 2] hn rfl (And.intro rfl (And.intro rfl (And.intro rfl trivial))) rfl rfl rfl (c_X11_seen hst hs hG)) (by decide) (Nat.le_of_ble_eq_true rfl) ([]) ([]) (⟨0, 9, 12, 13⟩) rfl (fun z hz => absurd hz List.not_mem_nil) rfl (by decide) (by decide) xlL_13 xe_0 rfl dL_seen_12 rfl (by decide) rfl rfl ?_
      show Ev g _ _ _ _ _ _ 13 [some (x_r (16 * 1 + 0)), some (x_i a), some (x_r (16 * 27 + 0)), none] [] (al, ro, fl (ml M [2, 3, 24, 27] [t1, N, t2, Ot])) _ _ _ _
      refine e_iconst (pc := 13) dL_seen_13 (x_R rfl) ?_
      exact e_ireturn rfl dL_seen_14 rfl
theorem xmH_ask (ix : Nat) (h : Cond.methodLink RL ix yL_ask ∈ x_big) : x_LH RL ix yL_ask cL_ask 3 (some .int) [(0, 8, 11, 13)] 2 := ⟨h, (x_inB (x_t6 (List.mem_of_getElem? (i := 115) rfl)) rfl), (x_inB (x_t1 (List.mem_of_getElem? (i := 0) rfl)) rfl), (x_inB (x_t6 (List.mem_of_getElem? (i := 116) rfl)) rfl), ⟨by decide +kernel, by decide +kernel⟩, (by unfold x_ar; decide +kernel), by decide⟩
set_option maxRecDepth 100000 in
set_option maxHeartbeats 4000000 in
theorem c_L_ask {g : xG} {al : List (Nat × Nat × Nat)} {ro : Nat → Nat → Option Nat} (hst : g.1.stackTraces = false) (hs : SH al ro) (ho : (16 * 27 + 0, 21, 1) ∈ al) {M : Nat → xU} {T : xU} {N : xU} {Ri : xU} {Ot : xU} {t : ((Int ⊕ Nat) × xU × xU)} (hG : G11_ask T N Ri = some t) (hE : ∀ E, t.1 = .inr E → E ∈ ([0] : List Nat)) :
    CalH g yL_ask cL_ask 3 (some .int) [(0, 8, 11, 13)] 6 [x_r (16 * 1 + 0), x_r (16 * 27 + 0)] (al, ro, fl (ml M [2, 3, 24, 27] [T, N, Ri, Ot])) 1 6 (.inl (some (x_i (x_wc [0] t.1)))) (al, ro, fl (ml M [2, 3, 24, 27] [t.2.1, N, t.2.2, (x_out Ot t.1)])) := by
  have hn : ([2, 3, 24, 27] : List Nat).Nodup := by decide
  refine calH_of_ev (by decide) (x_c1 rfl) (Nat.le_of_ble_eq_true rfl) hst ?_
  show Ev g _ _ _ _ _ _ 0 [some (x_r (16 * 1 + 0)), some (x_r (16 * 27 + 0)), none] [] (al, ro, fl (ml M [2, 3, 24, 27] [T, N, Ri, Ot])) _ _ _ _
  obtain ⟨t0, t1, t2⟩ := t
  refine e_aloadn (pc := 0) (i := 1) dL_ask_0 rfl rfl ?_
  refine e_iconst (pc := 1) dL_ask_1 (x_R rfl) ?_
  refine e_aloadn (pc := 2) (i := 0) dL_ask_2 rfl rfl ?_
  cases t0 with
  | inl v =>
    refine e_invV (pc := 3) (K1 := 1) (S1 := 6) (K := 0) (S := 0) (dd2 := 5) (av := []) (st := [x_i 0, x_r (16 * 27 + 0)]) (id := 16 * 1 + 0) dL_ask_3 xmL_90 rfl (Or.inl ⟨9, 17, TX11, (sa_1_0 hs), rfl, by decide⟩) (f_cal (M := M) (us2 := [2, 3, 24]) [0, 1, 2] hn rfl (And.intro rfl (And.intro rfl (And.intro rfl trivial))) rfl rfl rfl (c_X11_ask hst hs hG)) (by decide) (Nat.le_of_ble_eq_true rfl) (Or.inl rfl) ?_
    show Ev g _ _ _ _ _ _ 6 [some (x_r (16 * 1 + 0)), some (x_r (16 * 27 + 0)), none] [x_i v, x_i 0, x_r (16 * 27 + 0)] (al, ro, fl (ml M [2, 3, 24, 27] [t1, N, t2, Ot])) _ _ _ _
    refine e_i2l (pc := 6) dL_ask_6 ?_
    refine f_last (pc := 7) (k := 3) (u := 27) (q := 0) (len := 1) dL_ask_7 ho (by decide) hn rfl rfl rfl (by decide) ?_
    show Ev g _ _ _ _ _ _ 8 [some (x_r (16 * 1 + 0)), some (x_r (16 * 27 + 0)), none] [] (al, ro, fl (ml M [2, 3, 24, 27] [t1, N, t2, (x_up Ot 0 0 (x_i2l v))])) _ _ _ _
    refine e_goto (pc := 8) (tgt := 14) dL_ask_8 (by decide) ?_
    refine e_iconst (pc := 14) dL_ask_14 (x_R rfl) ?_
    exact e_ireturn rfl dL_ask_15 rfl
  | inr E =>
    have hE2 := hE E rfl
    simp only [List.mem_cons, List.not_mem_nil, or_false] at hE2
    subst hE2
    · refine e_invVC (pc := 3) (K1 := 1) (S1 := 6) (K := 0) (S := 0) (dd2 := 5) (av := []) (st := [x_i 0, x_r (16 * 27 + 0)]) (id := 16 * 1 + 0) (i1 := 2) (hp := 11) dL_ask_3 xmL_90 rfl (Or.inl ⟨9, 17, TX11, (sa_1_0 hs), rfl, by decide⟩) (f_cal (M := M) (us2 := [2, 3, 24]) [0, 1, 2] hn rfl (And.intro rfl (And.intro rfl (And.intro rfl trivial))) rfl rfl rfl (c_X11_ask hst hs hG)) (by decide) (Nat.le_of_ble_eq_true rfl) ([]) ([]) (⟨0, 8, 11, 13⟩) rfl (fun z hz => absurd hz List.not_mem_nil) rfl (by decide) (by decide) xlL_13 xe_0 rfl dL_ask_11 rfl (by decide) rfl rfl ?_
      show Ev g _ _ _ _ _ _ 12 [some (x_r (16 * 1 + 0)), some (x_r (16 * 27 + 0)), none] [] (al, ro, fl (ml M [2, 3, 24, 27] [t1, N, t2, Ot])) _ _ _ _
      refine e_iconst (pc := 12) dL_ask_12 (x_R rfl) ?_
      exact e_ireturn rfl dL_ask_13 rfl
theorem xmH_rule (ix : Nat) (h : Cond.methodLink RL ix yL_rule ∈ x_big) : x_LH RL ix yL_rule cL_rule 4 (some .int) [(0, 9, 12, 13)] 3 := ⟨h, (x_inB (x_t6 (List.mem_of_getElem? (i := 132) rfl)) rfl), (x_inB (x_t1 (List.mem_of_getElem? (i := 0) rfl)) rfl), (x_inB (x_t6 (List.mem_of_getElem? (i := 133) rfl)) rfl), ⟨by decide +kernel, by decide +kernel⟩, (by unfold x_ar; decide +kernel), by decide⟩
set_option maxRecDepth 100000 in
set_option maxHeartbeats 4000000 in
theorem c_L_rule {g : xG} {al : List (Nat × Nat × Nat)} {ro : Nat → Nat → Option Nat} (hst : g.1.stackTraces = false) (hs : SH al ro) (ho : (16 * 27 + 0, 21, 1) ∈ al) {M : Nat → xU} {a : Int} {T : xU} {Ri : xU} {Ot : xU} {t : ((Int ⊕ Nat) × xU × xU)} (hG : G11_rule a T Ri = some t) (hE : ∀ E, t.1 = .inr E → E ∈ ([0] : List Nat)) :
    CalH g yL_rule cL_rule 4 (some .int) [(0, 9, 12, 13)] 6 [x_r (16 * 1 + 0), x_i a, x_r (16 * 27 + 0)] (al, ro, fl (ml M [2, 24, 27] [T, Ri, Ot])) 1 6 (.inl (some (x_i (x_wc [0] t.1)))) (al, ro, fl (ml M [2, 24, 27] [t.2.1, t.2.2, (x_out Ot t.1)])) := by
  have hn : ([2, 24, 27] : List Nat).Nodup := by decide
  refine calH_of_ev (by decide) (x_c1 rfl) (Nat.le_of_ble_eq_true rfl) hst ?_
  show Ev g _ _ _ _ _ _ 0 [some (x_r (16 * 1 + 0)), some (x_i a), some (x_r (16 * 27 + 0)), none] [] (al, ro, fl (ml M [2, 24, 27] [T, Ri, Ot])) _ _ _ _
  obtain ⟨t0, t1, t2⟩ := t
  refine e_aloadn (pc := 0) (i := 2) dL_rule_0 rfl rfl ?_
  refine e_iconst (pc := 1) dL_rule_1 (x_R rfl) ?_
  refine e_aloadn (pc := 2) (i := 0) dL_rule_2 rfl rfl ?_
  refine e_iloadn (pc := 3) (i := 1) dL_rule_3 rfl rfl ?_
  cases t0 with
  | inl v =>
    refine e_invV (pc := 4) (K1 := 1) (S1 := 6) (K := 0) (S := 0) (dd2 := 5) (av := [x_i a]) (st := [x_i 0, x_r (16 * 27 + 0)]) (id := 16 * 1 + 0) dL_rule_4 xmL_93 rfl (Or.inl ⟨9, 17, TX11, (sa_1_0 hs), rfl, by decide⟩) (f_cal (M := M) (us2 := [2, 24]) [0, 1] hn rfl (And.intro rfl (And.intro rfl trivial)) rfl rfl rfl (c_X11_rule hst hs hG)) (by decide) (Nat.le_of_ble_eq_true rfl) (Or.inl rfl) ?_
    show Ev g _ _ _ _ _ _ 7 [some (x_r (16 * 1 + 0)), some (x_i a), some (x_r (16 * 27 + 0)), none] [x_i v, x_i 0, x_r (16 * 27 + 0)] (al, ro, fl (ml M [2, 24, 27] [t1, t2, Ot])) _ _ _ _
    refine e_i2l (pc := 7) dL_rule_7 ?_
    refine f_last (pc := 8) (k := 2) (u := 27) (q := 0) (len := 1) dL_rule_8 ho (by decide) hn rfl rfl rfl (by decide) ?_
    show Ev g _ _ _ _ _ _ 9 [some (x_r (16 * 1 + 0)), some (x_i a), some (x_r (16 * 27 + 0)), none] [] (al, ro, fl (ml M [2, 24, 27] [t1, t2, (x_up Ot 0 0 (x_i2l v))])) _ _ _ _
    refine e_goto (pc := 9) (tgt := 15) dL_rule_9 (by decide) ?_
    refine e_iconst (pc := 15) dL_rule_15 (x_R rfl) ?_
    exact e_ireturn rfl dL_rule_16 rfl
  | inr E =>
    have hE2 := hE E rfl
    simp only [List.mem_cons, List.not_mem_nil, or_false] at hE2
    subst hE2
    · refine e_invVC (pc := 4) (K1 := 1) (S1 := 6) (K := 0) (S := 0) (dd2 := 5) (av := [x_i a]) (st := [x_i 0, x_r (16 * 27 + 0)]) (id := 16 * 1 + 0) (i1 := 3) (hp := 12) dL_rule_4 xmL_93 rfl (Or.inl ⟨9, 17, TX11, (sa_1_0 hs), rfl, by decide⟩) (f_cal (M := M) (us2 := [2, 24]) [0, 1] hn rfl (And.intro rfl (And.intro rfl trivial)) rfl rfl rfl (c_X11_rule hst hs hG)) (by decide) (Nat.le_of_ble_eq_true rfl) ([]) ([]) (⟨0, 9, 12, 13⟩) rfl (fun z hz => absurd hz List.not_mem_nil) rfl (by decide) (by decide) xlL_13 xe_0 rfl dL_rule_12 rfl (by decide) rfl rfl ?_
      show Ev g _ _ _ _ _ _ 13 [some (x_r (16 * 1 + 0)), some (x_i a), some (x_r (16 * 27 + 0)), none] [] (al, ro, fl (ml M [2, 24, 27] [t1, t2, Ot])) _ _ _ _
      refine e_iconst (pc := 13) dL_rule_13 (x_R rfl) ?_
      exact e_ireturn rfl dL_rule_14 rfl
theorem xmH_tells (ix : Nat) (h : Cond.methodLink RL ix yL_tells ∈ x_big) : x_LH RL ix yL_tells cL_tells 3 (some .int) [(0, 8, 11, 13)] 2 := ⟨h, (x_inB (x_t6 (List.mem_of_getElem? (i := 147) rfl)) rfl), (x_inB (x_t1 (List.mem_of_getElem? (i := 0) rfl)) rfl), (x_inB (x_t6 (List.mem_of_getElem? (i := 148) rfl)) rfl), ⟨by decide +kernel, by decide +kernel⟩, (by unfold x_ar; decide +kernel), by decide⟩
set_option maxRecDepth 100000 in
set_option maxHeartbeats 4000000 in
theorem c_L_tells {g : xG} {al : List (Nat × Nat × Nat)} {ro : Nat → Nat → Option Nat} (hst : g.1.stackTraces = false) (hs : SH al ro) (ho : (16 * 27 + 0, 21, 1) ∈ al) {M : Nat → xU} {T : xU} {Ri : xU} {Ot : xU} {t : ((Int ⊕ Nat) × xU × xU)} (hG : G11_tells T Ri = some t) (hE : ∀ E, t.1 = .inr E → E ∈ ([0] : List Nat)) :
    CalH g yL_tells cL_tells 3 (some .int) [(0, 8, 11, 13)] 6 [x_r (16 * 1 + 0), x_r (16 * 27 + 0)] (al, ro, fl (ml M [2, 24, 27] [T, Ri, Ot])) 1 6 (.inl (some (x_i (x_wc [0] t.1)))) (al, ro, fl (ml M [2, 24, 27] [t.2.1, t.2.2, (x_out Ot t.1)])) := by
  have hn : ([2, 24, 27] : List Nat).Nodup := by decide
  refine calH_of_ev (by decide) (x_c1 rfl) (Nat.le_of_ble_eq_true rfl) hst ?_
  show Ev g _ _ _ _ _ _ 0 [some (x_r (16 * 1 + 0)), some (x_r (16 * 27 + 0)), none] [] (al, ro, fl (ml M [2, 24, 27] [T, Ri, Ot])) _ _ _ _
  obtain ⟨t0, t1, t2⟩ := t
  refine e_aloadn (pc := 0) (i := 1) dL_tells_0 rfl rfl ?_
  refine e_iconst (pc := 1) dL_tells_1 (x_R rfl) ?_
  refine e_aloadn (pc := 2) (i := 0) dL_tells_2 rfl rfl ?_
  cases t0 with
  | inl v =>
    refine e_invV (pc := 3) (K1 := 1) (S1 := 6) (K := 0) (S := 0) (dd2 := 5) (av := []) (st := [x_i 0, x_r (16 * 27 + 0)]) (id := 16 * 1 + 0) dL_tells_3 xmL_96 rfl (Or.inl ⟨9, 17, TX11, (sa_1_0 hs), rfl, by decide⟩) (f_cal (M := M) (us2 := [2, 24]) [0, 1] hn rfl (And.intro rfl (And.intro rfl trivial)) rfl rfl rfl (c_X11_tells hst hs hG)) (by decide) (Nat.le_of_ble_eq_true rfl) (Or.inl rfl) ?_
    show Ev g _ _ _ _ _ _ 6 [some (x_r (16 * 1 + 0)), some (x_r (16 * 27 + 0)), none] [x_i v, x_i 0, x_r (16 * 27 + 0)] (al, ro, fl (ml M [2, 24, 27] [t1, t2, Ot])) _ _ _ _
    refine e_i2l (pc := 6) dL_tells_6 ?_
    refine f_last (pc := 7) (k := 2) (u := 27) (q := 0) (len := 1) dL_tells_7 ho (by decide) hn rfl rfl rfl (by decide) ?_
    show Ev g _ _ _ _ _ _ 8 [some (x_r (16 * 1 + 0)), some (x_r (16 * 27 + 0)), none] [] (al, ro, fl (ml M [2, 24, 27] [t1, t2, (x_up Ot 0 0 (x_i2l v))])) _ _ _ _
    refine e_goto (pc := 8) (tgt := 14) dL_tells_8 (by decide) ?_
    refine e_iconst (pc := 14) dL_tells_14 (x_R rfl) ?_
    exact e_ireturn rfl dL_tells_15 rfl
  | inr E =>
    have hE2 := hE E rfl
    simp only [List.mem_cons, List.not_mem_nil, or_false] at hE2
    subst hE2
    · refine e_invVC (pc := 3) (K1 := 1) (S1 := 6) (K := 0) (S := 0) (dd2 := 5) (av := []) (st := [x_i 0, x_r (16 * 27 + 0)]) (id := 16 * 1 + 0) (i1 := 2) (hp := 11) dL_tells_3 xmL_96 rfl (Or.inl ⟨9, 17, TX11, (sa_1_0 hs), rfl, by decide⟩) (f_cal (M := M) (us2 := [2, 24]) [0, 1] hn rfl (And.intro rfl (And.intro rfl trivial)) rfl rfl rfl (c_X11_tells hst hs hG)) (by decide) (Nat.le_of_ble_eq_true rfl) ([]) ([]) (⟨0, 8, 11, 13⟩) rfl (fun z hz => absurd hz List.not_mem_nil) rfl (by decide) (by decide) xlL_13 xe_0 rfl dL_tells_11 rfl (by decide) rfl rfl ?_
      show Ev g _ _ _ _ _ _ 12 [some (x_r (16 * 1 + 0)), some (x_r (16 * 27 + 0)), none] [] (al, ro, fl (ml M [2, 24, 27] [t1, t2, Ot])) _ _ _ _
      refine e_iconst (pc := 12) dL_tells_12 (x_R rfl) ?_
      exact e_ireturn rfl dL_tells_13 rfl
theorem xmH_share (ix : Nat) (h : Cond.methodLink RL ix yL_share ∈ x_big) : x_LH RL ix yL_share cL_share 5 (some .int) [(0, 10, 13, 24), (0, 10, 17, 13)] 4 := ⟨h, (x_inB (x_t6 (List.mem_of_getElem? (i := 154) rfl)) rfl), (x_inB (x_t1 (List.mem_of_getElem? (i := 0) rfl)) rfl), (x_inB (x_t6 (List.mem_of_getElem? (i := 155) rfl)) rfl), ⟨by decide +kernel, by decide +kernel⟩, (by unfold x_ar; decide +kernel), by decide⟩
set_option maxRecDepth 100000 in
set_option maxHeartbeats 4000000 in
theorem c_L_share {g : xG} {al : List (Nat × Nat × Nat)} {ro : Nat → Nat → Option Nat} (hst : g.1.stackTraces = false) (hs : SH al ro) (ho : (16 * 27 + 0, 21, 1) ∈ al) {M : Nat → xU} {a : Int} {b : Int} {N : xU} {Th : xU} {Ot : xU} {t : ((Int ⊕ Nat) × xU)} (hG : G11_share a b N Th = some t) (hE : ∀ E, t.1 = .inr E → E ∈ ([1, 0] : List Nat)) :
    CalH g yL_share cL_share 5 (some .int) [(0, 10, 13, 24), (0, 10, 17, 13)] 5 [x_r (16 * 1 + 0), x_i a, x_i b, x_r (16 * 27 + 0)] (al, ro, fl (ml M [3, 18, 27] [N, Th, Ot])) 2 12 (.inl (some (x_i (x_wc [1, 0] t.1)))) (al, ro, fl (ml M [3, 18, 27] [N, t.2, (x_out Ot t.1)])) := by
  have hn : ([3, 18, 27] : List Nat).Nodup := by decide
  refine calH_of_ev (by decide) (x_c1 rfl) (Nat.le_of_ble_eq_true rfl) hst ?_
  show Ev g _ _ _ _ _ _ 0 [some (x_r (16 * 1 + 0)), some (x_i a), some (x_i b), some (x_r (16 * 27 + 0)), none] [] (al, ro, fl (ml M [3, 18, 27] [N, Th, Ot])) _ _ _ _
  obtain ⟨t0, t1⟩ := t
  refine e_aloadn (pc := 0) (i := 3) dL_share_0 rfl rfl ?_
  refine e_iconst (pc := 1) dL_share_1 (x_R rfl) ?_
  refine e_aloadn (pc := 2) (i := 0) dL_share_2 rfl rfl ?_
  refine e_iloadn (pc := 3) (i := 1) dL_share_3 rfl rfl ?_
  refine e_iloadn (pc := 4) (i := 2) dL_share_4 rfl rfl ?_
  cases t0 with
  | inl v =>
    refine e_invV (pc := 5) (K1 := 2) (S1 := 12) (K := 0) (S := 0) (dd2 := 4) (av := [x_i a, x_i b]) (st := [x_i 0, x_r (16 * 27 + 0)]) (id := 16 * 1 + 0) dL_share_5 xmL_99 rfl (Or.inl ⟨9, 17, TX11, (sa_1_0 hs), rfl, by decide⟩) (f_cal (M := M) (us2 := [3, 18]) [0, 1] hn rfl (And.intro rfl (And.intro rfl trivial)) rfl rfl rfl (c_X11_share hst hs hG)) (by decide) (Nat.le_of_ble_eq_true rfl) (Or.inl rfl) ?_
    show Ev g _ _ _ _ _ _ 8 [some (x_r (16 * 1 + 0)), some (x_i a), some (x_i b), some (x_r (16 * 27 + 0)), none] [x_i v, x_i 0, x_r (16 * 27 + 0)] (al, ro, fl (ml M [3, 18, 27] [N, t1, Ot])) _ _ _ _
    refine e_i2l (pc := 8) dL_share_8 ?_
    refine f_last (pc := 9) (k := 2) (u := 27) (q := 0) (len := 1) dL_share_9 ho (by decide) hn rfl rfl rfl (by decide) ?_
    show Ev g _ _ _ _ _ _ 10 [some (x_r (16 * 1 + 0)), some (x_i a), some (x_i b), some (x_r (16 * 27 + 0)), none] [] (al, ro, fl (ml M [3, 18, 27] [N, t1, (x_up Ot 0 0 (x_i2l v))])) _ _ _ _
    refine e_goto (pc := 10) (tgt := 21) dL_share_10 (by decide) ?_
    refine e_iconst (pc := 21) dL_share_21 (x_R rfl) ?_
    exact e_ireturn rfl dL_share_22 rfl
  | inr E =>
    have hE2 := hE E rfl
    simp only [List.mem_cons, List.not_mem_nil, or_false] at hE2
    rcases hE2 with rfl | rfl
    · refine e_invVC2 (pc := 5) (K1 := 2) (S1 := 12) (K := 0) (S := 0) (dd2 := 4) (av := [x_i a, x_i b]) (st := [x_i 0, x_r (16 * 27 + 0)]) (id := 16 * 1 + 0) (i1 := 4) (hp := 13) dL_share_5 xmL_99 rfl (Or.inl ⟨9, 17, TX11, (sa_1_0 hs), rfl, by decide⟩) (f_cal (M := M) (us2 := [3, 18]) [0, 1] hn rfl (And.intro rfl (And.intro rfl trivial)) rfl rfl rfl (c_X11_share hst hs hG)) (by decide) (Nat.le_of_ble_eq_true rfl) ([]) ([⟨0, 10, 17, 13⟩]) (⟨0, 10, 13, 24⟩) rfl (fun z hz => absurd hz List.not_mem_nil) rfl (by decide) (by decide) xlL_24 xe_1 rfl dL_share_13 (by decide) rfl rfl ?_
      show Ev g _ _ _ _ _ _ 15 [some (x_r (16 * 1 + 0)), some (x_i a), some (x_i b), some (x_r (16 * 27 + 0)), none] [] (al, ro, fl (ml M [3, 18, 27] [N, t1, Ot])) _ _ _ _
      refine e_iconst (pc := 15) dL_share_15 (x_R rfl) ?_
      exact e_ireturn rfl dL_share_16 rfl
    · refine e_invVC2 (pc := 5) (K1 := 2) (S1 := 12) (K := 0) (S := 0) (dd2 := 4) (av := [x_i a, x_i b]) (st := [x_i 0, x_r (16 * 27 + 0)]) (id := 16 * 1 + 0) (i1 := 4) (hp := 17) dL_share_5 xmL_99 rfl (Or.inl ⟨9, 17, TX11, (sa_1_0 hs), rfl, by decide⟩) (f_cal (M := M) (us2 := [3, 18]) [0, 1] hn rfl (And.intro rfl (And.intro rfl trivial)) rfl rfl rfl (c_X11_share hst hs hG)) (by decide) (Nat.le_of_ble_eq_true rfl) ([⟨0, 10, 13, 24⟩]) ([]) (⟨0, 10, 17, 13⟩) rfl (List.forall_mem_cons.mpr ⟨Or.inr ⟨by decide, 1, by decide, by decide, xlL_24⟩, (fun _ h => absurd h List.not_mem_nil)⟩) rfl (by decide) (by decide) xlL_13 xe_0 rfl dL_share_17 (by decide) rfl rfl ?_
      show Ev g _ _ _ _ _ _ 19 [some (x_r (16 * 1 + 0)), some (x_i a), some (x_i b), some (x_r (16 * 27 + 0)), none] [] (al, ro, fl (ml M [3, 18, 27] [N, t1, Ot])) _ _ _ _
      refine e_iconst (pc := 19) dL_share_19 (x_R rfl) ?_
      exact e_ireturn rfl dL_share_20 rfl
theorem xmH_feeds (ix : Nat) (h : Cond.methodLink RL ix yL_feeds ∈ x_big) : x_LH RL ix yL_feeds cL_feeds 4 (some .int) [(0, 9, 12, 24)] 3 := ⟨h, (x_inB (x_t6 (List.mem_of_getElem? (i := 165) rfl)) rfl), (x_inB (x_t1 (List.mem_of_getElem? (i := 0) rfl)) rfl), (x_inB (x_t6 (List.mem_of_getElem? (i := 166) rfl)) rfl), ⟨by decide +kernel, by decide +kernel⟩, (by unfold x_ar; decide +kernel), by decide⟩
set_option maxRecDepth 100000 in
set_option maxHeartbeats 4000000 in
theorem c_L_feeds {g : xG} {al : List (Nat × Nat × Nat)} {ro : Nat → Nat → Option Nat} (hst : g.1.stackTraces = false) (hs : SH al ro) (ho : (16 * 27 + 0, 21, 1) ∈ al) {M : Nat → xU} {a : Int} {N : xU} {Ot : xU} {t : (Int ⊕ Nat)} (hG : G11_feeds a N = some t) (hE : ∀ E, t = .inr E → E ∈ ([1] : List Nat)) :
    CalH g yL_feeds cL_feeds 4 (some .int) [(0, 9, 12, 24)] 3 [x_r (16 * 1 + 0), x_i a, x_r (16 * 27 + 0)] (al, ro, fl (ml M [3, 27] [N, Ot])) 1 6 (.inl (some (x_i (x_wc [1] t)))) (al, ro, fl (ml M [3, 27] [N, (x_out Ot t)])) := by
  have hn : ([3, 27] : List Nat).Nodup := by decide
  refine calH_of_ev (by decide) (x_c1 rfl) (Nat.le_of_ble_eq_true rfl) hst ?_
  show Ev g _ _ _ _ _ _ 0 [some (x_r (16 * 1 + 0)), some (x_i a), some (x_r (16 * 27 + 0)), none] [] (al, ro, fl (ml M [3, 27] [N, Ot])) _ _ _ _
  refine e_aloadn (pc := 0) (i := 2) dL_feeds_0 rfl rfl ?_
  refine e_iconst (pc := 1) dL_feeds_1 (x_R rfl) ?_
  refine e_aloadn (pc := 2) (i := 0) dL_feeds_2 rfl rfl ?_
  refine e_iloadn (pc := 3) (i := 1) dL_feeds_3 rfl rfl ?_
  cases t with
  | inl v =>
    refine e_invV (pc := 4) (K1 := 1) (S1 := 6) (K := 0) (S := 0) (dd2 := 2) (av := [x_i a]) (st := [x_i 0, x_r (16 * 27 + 0)]) (id := 16 * 1 + 0) dL_feeds_4 xmL_102 rfl (Or.inl ⟨9, 17, TX11, (sa_1_0 hs), rfl, by decide⟩) (f_cal (M := M) (us2 := [3]) [0] hn rfl (And.intro rfl trivial) rfl rfl rfl (c_X11_feeds hst hs hG)) (by decide) (Nat.le_of_ble_eq_true rfl) (Or.inl rfl) ?_
    show Ev g _ _ _ _ _ _ 7 [some (x_r (16 * 1 + 0)), some (x_i a), some (x_r (16 * 27 + 0)), none] [x_i v, x_i 0, x_r (16 * 27 + 0)] (al, ro, fl (ml M [3, 27] [N, Ot])) _ _ _ _
    refine e_i2l (pc := 7) dL_feeds_7 ?_
    refine f_last (pc := 8) (k := 1) (u := 27) (q := 0) (len := 1) dL_feeds_8 ho (by decide) hn rfl rfl rfl (by decide) ?_
    show Ev g _ _ _ _ _ _ 9 [some (x_r (16 * 1 + 0)), some (x_i a), some (x_r (16 * 27 + 0)), none] [] (al, ro, fl (ml M [3, 27] [N, (x_up Ot 0 0 (x_i2l v))])) _ _ _ _
    refine e_goto (pc := 9) (tgt := 15) dL_feeds_9 (by decide) ?_
    refine e_iconst (pc := 15) dL_feeds_15 (x_R rfl) ?_
    exact e_ireturn rfl dL_feeds_16 rfl
  | inr E =>
    have hE2 := hE E rfl
    simp only [List.mem_cons, List.not_mem_nil, or_false] at hE2
    subst hE2
    · refine e_invVC (pc := 4) (K1 := 1) (S1 := 6) (K := 0) (S := 0) (dd2 := 2) (av := [x_i a]) (st := [x_i 0, x_r (16 * 27 + 0)]) (id := 16 * 1 + 0) (i1 := 3) (hp := 12) dL_feeds_4 xmL_102 rfl (Or.inl ⟨9, 17, TX11, (sa_1_0 hs), rfl, by decide⟩) (f_cal (M := M) (us2 := [3]) [0] hn rfl (And.intro rfl trivial) rfl rfl rfl (c_X11_feeds hst hs hG)) (by decide) (Nat.le_of_ble_eq_true rfl) ([]) ([]) (⟨0, 9, 12, 24⟩) rfl (fun z hz => absurd hz List.not_mem_nil) rfl (by decide) (by decide) xlL_24 xe_1 rfl dL_feeds_12 rfl (by decide) rfl rfl ?_
      show Ev g _ _ _ _ _ _ 13 [some (x_r (16 * 1 + 0)), some (x_i a), some (x_r (16 * 27 + 0)), none] [] (al, ro, fl (ml M [3, 27] [N, Ot])) _ _ _ _
      refine e_iconst (pc := 13) dL_feeds_13 (x_R rfl) ?_
      exact e_ireturn rfl dL_feeds_14 rfl
theorem xmH_pairs (ix : Nat) (h : Cond.methodLink RL ix yL_pairs ∈ x_big) : x_LH RL ix yL_pairs cL_pairs 4 (some .int) [(0, 9, 12, 24)] 3 := ⟨h, (x_inB (x_t6 (List.mem_of_getElem? (i := 172) rfl)) rfl), (x_inB (x_t1 (List.mem_of_getElem? (i := 0) rfl)) rfl), (x_inB (x_t6 (List.mem_of_getElem? (i := 173) rfl)) rfl), ⟨by decide +kernel, by decide +kernel⟩, (by unfold x_ar; decide +kernel), by decide⟩
set_option maxRecDepth 100000 in
set_option maxHeartbeats 4000000 in
theorem c_L_pairs {g : xG} {al : List (Nat × Nat × Nat)} {ro : Nat → Nat → Option Nat} (hst : g.1.stackTraces = false) (hs : SH al ro) (ho : (16 * 27 + 0, 21, 1) ∈ al) {M : Nat → xU} {a : Int} {N : xU} {Br : xU} {Ot : xU} {t : ((Int ⊕ Nat) × xU)} (hG : G11_pairs a N Br = some t) (hE : ∀ E, t.1 = .inr E → E ∈ ([1] : List Nat)) :
    CalH g yL_pairs cL_pairs 4 (some .int) [(0, 9, 12, 24)] 5 [x_r (16 * 1 + 0), x_i a, x_r (16 * 27 + 0)] (al, ro, fl (ml M [3, 25, 27] [N, Br, Ot])) 1 6 (.inl (some (x_i (x_wc [1] t.1)))) (al, ro, fl (ml M [3, 25, 27] [N, t.2, (x_out Ot t.1)])) := by
  have hn : ([3, 25, 27] : List Nat).Nodup := by decide
  refine calH_of_ev (by decide) (x_c1 rfl) (Nat.le_of_ble_eq_true rfl) hst ?_
  show Ev g _ _ _ _ _ _ 0 [some (x_r (16 * 1 + 0)), some (x_i a), some (x_r (16 * 27 + 0)), none] [] (al, ro, fl (ml M [3, 25, 27] [N, Br, Ot])) _ _ _ _
  obtain ⟨t0, t1⟩ := t
  refine e_aloadn (pc := 0) (i := 2) dL_pairs_0 rfl rfl ?_
  refine e_iconst (pc := 1) dL_pairs_1 (x_R rfl) ?_
  refine e_aloadn (pc := 2) (i := 0) dL_pairs_2 rfl rfl ?_
  refine e_iloadn (pc := 3) (i := 1) dL_pairs_3 rfl rfl ?_
  cases t0 with
  | inl v =>
    refine e_invV (pc := 4) (K1 := 1) (S1 := 6) (K := 0) (S := 0) (dd2 := 4) (av := [x_i a]) (st := [x_i 0, x_r (16 * 27 + 0)]) (id := 16 * 1 + 0) dL_pairs_4 xmL_105 rfl (Or.inl ⟨9, 17, TX11, (sa_1_0 hs), rfl, by decide⟩) (f_cal (M := M) (us2 := [3, 25]) [0, 1] hn rfl (And.intro rfl (And.intro rfl trivial)) rfl rfl rfl (c_X11_pairs hst hs hG)) (by decide) (Nat.le_of_ble_eq_true rfl) (Or.inl rfl) ?_
    show Ev g _ _ _ _ _ _ 7 [some (x_r (16 * 1 + 0)), some (x_i a), some (x_r (16 * 27 + 0)), none] [x_i v, x_i 0, x_r (16 * 27 + 0)] (al, ro, fl (ml M [3, 25, 27] [N, t1, Ot])) _ _ _ _
    refine e_i2l (pc := 7) dL_pairs_7 ?_
    refine f_last (pc := 8) (k := 2) (u := 27) (q := 0) (len := 1) dL_pairs_8 ho (by decide) hn rfl rfl rfl (by decide) ?_
    show Ev g _ _ _ _ _ _ 9 [some (x_r (16 * 1 + 0)), some (x_i a), some (x_r (16 * 27 + 0)), none] [] (al, ro, fl (ml M [3, 25, 27] [N, t1, (x_up Ot 0 0 (x_i2l v))])) _ _ _ _
    refine e_goto (pc := 9) (tgt := 15) dL_pairs_9 (by decide) ?_
    refine e_iconst (pc := 15) dL_pairs_15 (x_R rfl) ?_
    exact e_ireturn rfl dL_pairs_16 rfl
  | inr E =>
    have hE2 := hE E rfl
    simp only [List.mem_cons, List.not_mem_nil, or_false] at hE2
    subst hE2
    · refine e_invVC (pc := 4) (K1 := 1) (S1 := 6) (K := 0) (S := 0) (dd2 := 4) (av := [x_i a]) (st := [x_i 0, x_r (16 * 27 + 0)]) (id := 16 * 1 + 0) (i1 := 3) (hp := 12) dL_pairs_4 xmL_105 rfl (Or.inl ⟨9, 17, TX11, (sa_1_0 hs), rfl, by decide⟩) (f_cal (M := M) (us2 := [3, 25]) [0, 1] hn rfl (And.intro rfl (And.intro rfl trivial)) rfl rfl rfl (c_X11_pairs hst hs hG)) (by decide) (Nat.le_of_ble_eq_true rfl) ([]) ([]) (⟨0, 9, 12, 24⟩) rfl (fun z hz => absurd hz List.not_mem_nil) rfl (by decide) (by decide) xlL_24 xe_1 rfl dL_pairs_12 rfl (by decide) rfl rfl ?_
      show Ev g _ _ _ _ _ _ 13 [some (x_r (16 * 1 + 0)), some (x_i a), some (x_r (16 * 27 + 0)), none] [] (al, ro, fl (ml M [3, 25, 27] [N, t1, Ot])) _ _ _ _
      refine e_iconst (pc := 13) dL_pairs_13 (x_R rfl) ?_
      exact e_ireturn rfl dL_pairs_14 rfl
theorem xmH_swings (ix : Nat) (h : Cond.methodLink RL ix yL_swings ∈ x_big) : x_LH RL ix yL_swings cL_swings 4 (some .int) [(0, 9, 12, 24)] 3 := ⟨h, (x_inB (x_t6 (List.mem_of_getElem? (i := 201) rfl)) rfl), (x_inB (x_t1 (List.mem_of_getElem? (i := 0) rfl)) rfl), (x_inB (x_t6 (List.mem_of_getElem? (i := 202) rfl)) rfl), ⟨by decide +kernel, by decide +kernel⟩, (by unfold x_ar; decide +kernel), by decide⟩
set_option maxRecDepth 100000 in
set_option maxHeartbeats 4000000 in
theorem c_L_swings {g : xG} {al : List (Nat × Nat × Nat)} {ro : Nat → Nat → Option Nat} (hst : g.1.stackTraces = false) (hs : SH al ro) (ho : (16 * 27 + 0, 21, 1) ∈ al) {M : Nat → xU} {a : Int} {N : xU} {Ot : xU} {t : (Int ⊕ Nat)} (hG : G11_swings a N = some t) (hE : ∀ E, t = .inr E → E ∈ ([1] : List Nat)) :
    CalH g yL_swings cL_swings 4 (some .int) [(0, 9, 12, 24)] 5 [x_r (16 * 1 + 0), x_i a, x_r (16 * 27 + 0)] (al, ro, fl (ml M [3, 27] [N, Ot])) 1 6 (.inl (some (x_i (x_wc [1] t)))) (al, ro, fl (ml M [3, 27] [N, (x_out Ot t)])) := by
  have hn : ([3, 27] : List Nat).Nodup := by decide
  refine calH_of_ev (by decide) (x_c1 rfl) (Nat.le_of_ble_eq_true rfl) hst ?_
  show Ev g _ _ _ _ _ _ 0 [some (x_r (16 * 1 + 0)), some (x_i a), some (x_r (16 * 27 + 0)), none] [] (al, ro, fl (ml M [3, 27] [N, Ot])) _ _ _ _
  refine e_aloadn (pc := 0) (i := 2) dL_swings_0 rfl rfl ?_
  refine e_iconst (pc := 1) dL_swings_1 (x_R rfl) ?_
  refine e_aloadn (pc := 2) (i := 0) dL_swings_2 rfl rfl ?_
  refine e_iloadn (pc := 3) (i := 1) dL_swings_3 rfl rfl ?_
  cases t with
  | inl v =>
    refine e_invV (pc := 4) (K1 := 1) (S1 := 6) (K := 0) (S := 0) (dd2 := 4) (av := [x_i a]) (st := [x_i 0, x_r (16 * 27 + 0)]) (id := 16 * 1 + 0) dL_swings_4 xmL_108 rfl (Or.inl ⟨9, 17, TX11, (sa_1_0 hs), rfl, by decide⟩) (f_cal (M := M) (us2 := [3]) [0] hn rfl (And.intro rfl trivial) rfl rfl rfl (c_X11_swings hst hs hG)) (by decide) (Nat.le_of_ble_eq_true rfl) (Or.inl rfl) ?_
    show Ev g _ _ _ _ _ _ 7 [some (x_r (16 * 1 + 0)), some (x_i a), some (x_r (16 * 27 + 0)), none] [x_i v, x_i 0, x_r (16 * 27 + 0)] (al, ro, fl (ml M [3, 27] [N, Ot])) _ _ _ _
    refine e_i2l (pc := 7) dL_swings_7 ?_
    refine f_last (pc := 8) (k := 1) (u := 27) (q := 0) (len := 1) dL_swings_8 ho (by decide) hn rfl rfl rfl (by decide) ?_
    show Ev g _ _ _ _ _ _ 9 [some (x_r (16 * 1 + 0)), some (x_i a), some (x_r (16 * 27 + 0)), none] [] (al, ro, fl (ml M [3, 27] [N, (x_up Ot 0 0 (x_i2l v))])) _ _ _ _
    refine e_goto (pc := 9) (tgt := 15) dL_swings_9 (by decide) ?_
    refine e_iconst (pc := 15) dL_swings_15 (x_R rfl) ?_
    exact e_ireturn rfl dL_swings_16 rfl
  | inr E =>
    have hE2 := hE E rfl
    simp only [List.mem_cons, List.not_mem_nil, or_false] at hE2
    subst hE2
    · refine e_invVC (pc := 4) (K1 := 1) (S1 := 6) (K := 0) (S := 0) (dd2 := 4) (av := [x_i a]) (st := [x_i 0, x_r (16 * 27 + 0)]) (id := 16 * 1 + 0) (i1 := 3) (hp := 12) dL_swings_4 xmL_108 rfl (Or.inl ⟨9, 17, TX11, (sa_1_0 hs), rfl, by decide⟩) (f_cal (M := M) (us2 := [3]) [0] hn rfl (And.intro rfl trivial) rfl rfl rfl (c_X11_swings hst hs hG)) (by decide) (Nat.le_of_ble_eq_true rfl) ([]) ([]) (⟨0, 9, 12, 24⟩) rfl (fun z hz => absurd hz List.not_mem_nil) rfl (by decide) (by decide) xlL_24 xe_1 rfl dL_swings_12 rfl (by decide) rfl rfl ?_
      show Ev g _ _ _ _ _ _ 13 [some (x_r (16 * 1 + 0)), some (x_i a), some (x_r (16 * 27 + 0)), none] [] (al, ro, fl (ml M [3, 27] [N, Ot])) _ _ _ _
      refine e_iconst (pc := 13) dL_swings_13 (x_R rfl) ?_
      exact e_ireturn rfl dL_swings_14 rfl
theorem xmH_rests (ix : Nat) (h : Cond.methodLink RL ix yL_rests ∈ x_big) : x_LH RL ix yL_rests cL_rests 4 (some .int) [(0, 9, 12, 24)] 3 := ⟨h, (x_inB (x_t6 (List.mem_of_getElem? (i := 209) rfl)) rfl), (x_inB (x_t1 (List.mem_of_getElem? (i := 0) rfl)) rfl), (x_inB (x_t6 (List.mem_of_getElem? (i := 210) rfl)) rfl), ⟨by decide +kernel, by decide +kernel⟩, (by unfold x_ar; decide +kernel), by decide⟩
set_option maxRecDepth 100000 in
set_option maxHeartbeats 4000000 in
theorem c_L_rests {g : xG} {al : List (Nat × Nat × Nat)} {ro : Nat → Nat → Option Nat} (hst : g.1.stackTraces = false) (hs : SH al ro) (ho : (16 * 27 + 0, 21, 1) ∈ al) {M : Nat → xU} {a : Int} {N : xU} {Ot : xU} {t : (Int ⊕ Nat)} (hG : G11_rests a N = some t) (hE : ∀ E, t = .inr E → E ∈ ([1] : List Nat)) :
    CalH g yL_rests cL_rests 4 (some .int) [(0, 9, 12, 24)] 5 [x_r (16 * 1 + 0), x_i a, x_r (16 * 27 + 0)] (al, ro, fl (ml M [3, 27] [N, Ot])) 1 6 (.inl (some (x_i (x_wc [1] t)))) (al, ro, fl (ml M [3, 27] [N, (x_out Ot t)])) := by
  have hn : ([3, 27] : List Nat).Nodup := by decide
  refine calH_of_ev (by decide) (x_c1 rfl) (Nat.le_of_ble_eq_true rfl) hst ?_
  show Ev g _ _ _ _ _ _ 0 [some (x_r (16 * 1 + 0)), some (x_i a), some (x_r (16 * 27 + 0)), none] [] (al, ro, fl (ml M [3, 27] [N, Ot])) _ _ _ _
  refine e_aloadn (pc := 0) (i := 2) dL_rests_0 rfl rfl ?_
  refine e_iconst (pc := 1) dL_rests_1 (x_R rfl) ?_
  refine e_aloadn (pc := 2) (i := 0) dL_rests_2 rfl rfl ?_
  refine e_iloadn (pc := 3) (i := 1) dL_rests_3 rfl rfl ?_
  cases t with
  | inl v =>
    refine e_invV (pc := 4) (K1 := 1) (S1 := 6) (K := 0) (S := 0) (dd2 := 4) (av := [x_i a]) (st := [x_i 0, x_r (16 * 27 + 0)]) (id := 16 * 1 + 0) dL_rests_4 xmL_111 rfl (Or.inl ⟨9, 17, TX11, (sa_1_0 hs), rfl, by decide⟩) (f_cal (M := M) (us2 := [3]) [0] hn rfl (And.intro rfl trivial) rfl rfl rfl (c_X11_rests hst hs hG)) (by decide) (Nat.le_of_ble_eq_true rfl) (Or.inl rfl) ?_
    show Ev g _ _ _ _ _ _ 7 [some (x_r (16 * 1 + 0)), some (x_i a), some (x_r (16 * 27 + 0)), none] [x_i v, x_i 0, x_r (16 * 27 + 0)] (al, ro, fl (ml M [3, 27] [N, Ot])) _ _ _ _
    refine e_i2l (pc := 7) dL_rests_7 ?_
    refine f_last (pc := 8) (k := 1) (u := 27) (q := 0) (len := 1) dL_rests_8 ho (by decide) hn rfl rfl rfl (by decide) ?_
    show Ev g _ _ _ _ _ _ 9 [some (x_r (16 * 1 + 0)), some (x_i a), some (x_r (16 * 27 + 0)), none] [] (al, ro, fl (ml M [3, 27] [N, (x_up Ot 0 0 (x_i2l v))])) _ _ _ _
    refine e_goto (pc := 9) (tgt := 15) dL_rests_9 (by decide) ?_
    refine e_iconst (pc := 15) dL_rests_15 (x_R rfl) ?_
    exact e_ireturn rfl dL_rests_16 rfl
  | inr E =>
    have hE2 := hE E rfl
    simp only [List.mem_cons, List.not_mem_nil, or_false] at hE2
    subst hE2
    · refine e_invVC (pc := 4) (K1 := 1) (S1 := 6) (K := 0) (S := 0) (dd2 := 4) (av := [x_i a]) (st := [x_i 0, x_r (16 * 27 + 0)]) (id := 16 * 1 + 0) (i1 := 3) (hp := 12) dL_rests_4 xmL_111 rfl (Or.inl ⟨9, 17, TX11, (sa_1_0 hs), rfl, by decide⟩) (f_cal (M := M) (us2 := [3]) [0] hn rfl (And.intro rfl trivial) rfl rfl rfl (c_X11_rests hst hs hG)) (by decide) (Nat.le_of_ble_eq_true rfl) ([]) ([]) (⟨0, 9, 12, 24⟩) rfl (fun z hz => absurd hz List.not_mem_nil) rfl (by decide) (by decide) xlL_24 xe_1 rfl dL_rests_12 rfl (by decide) rfl rfl ?_
      show Ev g _ _ _ _ _ _ 13 [some (x_r (16 * 1 + 0)), some (x_i a), some (x_r (16 * 27 + 0)), none] [] (al, ro, fl (ml M [3, 27] [N, Ot])) _ _ _ _
      refine e_iconst (pc := 13) dL_rests_13 (x_R rfl) ?_
      exact e_ireturn rfl dL_rests_14 rfl
theorem xmH_odds (ix : Nat) (h : Cond.methodLink RL ix yL_odds ∈ x_big) : x_LH RL ix yL_odds cL_odds 5 (some .int) [(0, 10, 13, 13)] 4 := ⟨h, (x_inB (x_t6 (List.mem_of_getElem? (i := 226) rfl)) rfl), (x_inB (x_t1 (List.mem_of_getElem? (i := 0) rfl)) rfl), (x_inB (x_t6 (List.mem_of_getElem? (i := 227) rfl)) rfl), ⟨by decide +kernel, by decide +kernel⟩, (by unfold x_ar; decide +kernel), by decide⟩
set_option maxRecDepth 100000 in
set_option maxHeartbeats 4000000 in
theorem c_L_odds {g : xG} {al : List (Nat × Nat × Nat)} {ro : Nat → Nat → Option Nat} (hst : g.1.stackTraces = false) (hs : SH al ro) (ho : (16 * 27 + 0, 21, 1) ∈ al) {M : Nat → xU} {a : Int} {b : Int} {N : xU} {Fo : xU} {Ot : xU} {t : ((Int ⊕ Nat) × xU)} (hG : G11_odds a b N Fo = some t) (hE : ∀ E, t.1 = .inr E → E ∈ ([0] : List Nat)) :
    CalH g yL_odds cL_odds 5 (some .int) [(0, 10, 13, 13)] 2 [x_r (16 * 1 + 0), x_i a, x_i b, x_r (16 * 27 + 0)] (al, ro, fl (ml M [3, 22, 27] [N, Fo, Ot])) 2 12 (.inl (some (x_i (x_wc [0] t.1)))) (al, ro, fl (ml M [3, 22, 27] [N, t.2, (x_out Ot t.1)])) := by
  have hn : ([3, 22, 27] : List Nat).Nodup := by decide
  refine calH_of_ev (by decide) (x_c1 rfl) (Nat.le_of_ble_eq_true rfl) hst ?_
  show Ev g _ _ _ _ _ _ 0 [some (x_r (16 * 1 + 0)), some (x_i a), some (x_i b), some (x_r (16 * 27 + 0)), none] [] (al, ro, fl (ml M [3, 22, 27] [N, Fo, Ot])) _ _ _ _
  obtain ⟨t0, t1⟩ := t
  refine e_aloadn (pc := 0) (i := 3) dL_odds_0 rfl rfl ?_
  refine e_iconst (pc := 1) dL_odds_1 (x_R rfl) ?_
  refine e_aloadn (pc := 2) (i := 0) dL_odds_2 rfl rfl ?_
  refine e_iloadn (pc := 3) (i := 1) dL_odds_3 rfl rfl ?_
  refine e_iloadn (pc := 4) (i := 2) dL_odds_4 rfl rfl ?_
  cases t0 with
  | inl v =>
    refine e_invV (pc := 5) (K1 := 2) (S1 := 12) (K := 0) (S := 0) (dd2 := 1) (av := [x_i a, x_i b]) (st := [x_i 0, x_r (16 * 27 + 0)]) (id := 16 * 1 + 0) dL_odds_5 xmL_114 rfl (Or.inl ⟨9, 17, TX11, (sa_1_0 hs), rfl, by decide⟩) (f_cal (M := M) (us2 := [3, 22]) [0, 1] hn rfl (And.intro rfl (And.intro rfl trivial)) rfl rfl rfl (c_X11_odds hst hs hG)) (by decide) (Nat.le_of_ble_eq_true rfl) (Or.inl rfl) ?_
    show Ev g _ _ _ _ _ _ 8 [some (x_r (16 * 1 + 0)), some (x_i a), some (x_i b), some (x_r (16 * 27 + 0)), none] [x_i v, x_i 0, x_r (16 * 27 + 0)] (al, ro, fl (ml M [3, 22, 27] [N, t1, Ot])) _ _ _ _
    refine e_i2l (pc := 8) dL_odds_8 ?_
    refine f_last (pc := 9) (k := 2) (u := 27) (q := 0) (len := 1) dL_odds_9 ho (by decide) hn rfl rfl rfl (by decide) ?_
    show Ev g _ _ _ _ _ _ 10 [some (x_r (16 * 1 + 0)), some (x_i a), some (x_i b), some (x_r (16 * 27 + 0)), none] [] (al, ro, fl (ml M [3, 22, 27] [N, t1, (x_up Ot 0 0 (x_i2l v))])) _ _ _ _
    refine e_goto (pc := 10) (tgt := 17) dL_odds_10 (by decide) ?_
    refine e_iconst (pc := 17) dL_odds_17 (x_R rfl) ?_
    exact e_ireturn rfl dL_odds_18 rfl
  | inr E =>
    have hE2 := hE E rfl
    simp only [List.mem_cons, List.not_mem_nil, or_false] at hE2
    subst hE2
    · refine e_invVC2 (pc := 5) (K1 := 2) (S1 := 12) (K := 0) (S := 0) (dd2 := 1) (av := [x_i a, x_i b]) (st := [x_i 0, x_r (16 * 27 + 0)]) (id := 16 * 1 + 0) (i1 := 4) (hp := 13) dL_odds_5 xmL_114 rfl (Or.inl ⟨9, 17, TX11, (sa_1_0 hs), rfl, by decide⟩) (f_cal (M := M) (us2 := [3, 22]) [0, 1] hn rfl (And.intro rfl (And.intro rfl trivial)) rfl rfl rfl (c_X11_odds hst hs hG)) (by decide) (Nat.le_of_ble_eq_true rfl) ([]) ([]) (⟨0, 10, 13, 13⟩) rfl (fun z hz => absurd hz List.not_mem_nil) rfl (by decide) (by decide) xlL_13 xe_0 rfl dL_odds_13 (by decide) rfl rfl ?_
      show Ev g _ _ _ _ _ _ 15 [some (x_r (16 * 1 + 0)), some (x_i a), some (x_i b), some (x_r (16 * 27 + 0)), none] [] (al, ro, fl (ml M [3, 22, 27] [N, t1, Ot])) _ _ _ _
      refine e_iconst (pc := 15) dL_odds_15 (x_R rfl) ?_
      exact e_ireturn rfl dL_odds_16 rfl
theorem xmH_round (ix : Nat) (h : Cond.methodLink RL ix yL_round ∈ x_big) : x_LH RL ix yL_round cL_round 4 (some .int) [(0, 9, 12, 13)] 3 := ⟨h, (x_inB (x_t6 (List.mem_of_getElem? (i := 239) rfl)) rfl), (x_inB (x_t1 (List.mem_of_getElem? (i := 0) rfl)) rfl), (x_inB (x_t7 (List.mem_of_getElem? (i := 0) rfl)) rfl), ⟨by decide +kernel, by decide +kernel⟩, (by unfold x_ar; decide +kernel), by decide⟩
set_option maxRecDepth 100000 in
set_option maxHeartbeats 4000000 in
theorem c_L_round {g : xG} {al : List (Nat × Nat × Nat)} {ro : Nat → Nat → Option Nat} (hst : g.1.stackTraces = false) (hs : SH al ro) (ho : (16 * 27 + 0, 21, 1) ∈ al) {M : Nat → xU} {a : Int} {N : xU} {Ot : xU} {t : (Int ⊕ Nat)} (hG : G11_round a N = some t) (hE : ∀ E, t = .inr E → E ∈ ([0] : List Nat)) :
    CalH g yL_round cL_round 4 (some .int) [(0, 9, 12, 13)] 2 [x_r (16 * 1 + 0), x_i a, x_r (16 * 27 + 0)] (al, ro, fl (ml M [3, 27] [N, Ot])) 1 6 (.inl (some (x_i (x_wc [0] t)))) (al, ro, fl (ml M [3, 27] [N, (x_out Ot t)])) := by
  have hn : ([3, 27] : List Nat).Nodup := by decide
  refine calH_of_ev (by decide) (x_c1 rfl) (Nat.le_of_ble_eq_true rfl) hst ?_
  show Ev g _ _ _ _ _ _ 0 [some (x_r (16 * 1 + 0)), some (x_i a), some (x_r (16 * 27 + 0)), none] [] (al, ro, fl (ml M [3, 27] [N, Ot])) _ _ _ _
  refine e_aloadn (pc := 0) (i := 2) dL_round_0 rfl rfl ?_
  refine e_iconst (pc := 1) dL_round_1 (x_R rfl) ?_
  refine e_aloadn (pc := 2) (i := 0) dL_round_2 rfl rfl ?_
  refine e_iloadn (pc := 3) (i := 1) dL_round_3 rfl rfl ?_
  cases t with
  | inl v =>
    refine e_invV (pc := 4) (K1 := 1) (S1 := 6) (K := 0) (S := 0) (dd2 := 1) (av := [x_i a]) (st := [x_i 0, x_r (16 * 27 + 0)]) (id := 16 * 1 + 0) dL_round_4 xmL_117 rfl (Or.inl ⟨9, 17, TX11, (sa_1_0 hs), rfl, by decide⟩) (f_cal (M := M) (us2 := [3]) [0] hn rfl (And.intro rfl trivial) rfl rfl rfl (c_X11_round hst hs hG)) (by decide) (Nat.le_of_ble_eq_true rfl) (Or.inl rfl) ?_
    show Ev g _ _ _ _ _ _ 7 [some (x_r (16 * 1 + 0)), some (x_i a), some (x_r (16 * 27 + 0)), none] [x_i v, x_i 0, x_r (16 * 27 + 0)] (al, ro, fl (ml M [3, 27] [N, Ot])) _ _ _ _
    refine e_i2l (pc := 7) dL_round_7 ?_
    refine f_last (pc := 8) (k := 1) (u := 27) (q := 0) (len := 1) dL_round_8 ho (by decide) hn rfl rfl rfl (by decide) ?_
    show Ev g _ _ _ _ _ _ 9 [some (x_r (16 * 1 + 0)), some (x_i a), some (x_r (16 * 27 + 0)), none] [] (al, ro, fl (ml M [3, 27] [N, (x_up Ot 0 0 (x_i2l v))])) _ _ _ _
    refine e_goto (pc := 9) (tgt := 15) dL_round_9 (by decide) ?_
    refine e_iconst (pc := 15) dL_round_15 (x_R rfl) ?_
    exact e_ireturn rfl dL_round_16 rfl
  | inr E =>
    have hE2 := hE E rfl
    simp only [List.mem_cons, List.not_mem_nil, or_false] at hE2
    subst hE2
    · refine e_invVC (pc := 4) (K1 := 1) (S1 := 6) (K := 0) (S := 0) (dd2 := 1) (av := [x_i a]) (st := [x_i 0, x_r (16 * 27 + 0)]) (id := 16 * 1 + 0) (i1 := 3) (hp := 12) dL_round_4 xmL_117 rfl (Or.inl ⟨9, 17, TX11, (sa_1_0 hs), rfl, by decide⟩) (f_cal (M := M) (us2 := [3]) [0] hn rfl (And.intro rfl trivial) rfl rfl rfl (c_X11_round hst hs hG)) (by decide) (Nat.le_of_ble_eq_true rfl) ([]) ([]) (⟨0, 9, 12, 13⟩) rfl (fun z hz => absurd hz List.not_mem_nil) rfl (by decide) (by decide) xlL_13 xe_0 rfl dL_round_12 rfl (by decide) rfl rfl ?_
      show Ev g _ _ _ _ _ _ 13 [some (x_r (16 * 1 + 0)), some (x_i a), some (x_r (16 * 27 + 0)), none] [] (al, ro, fl (ml M [3, 27] [N, Ot])) _ _ _ _
      refine e_iconst (pc := 13) dL_round_13 (x_R rfl) ?_
      exact e_ireturn rfl dL_round_14 rfl
theorem xmH_ahead (ix : Nat) (h : Cond.methodLink RL ix yL_ahead ∈ x_big) : x_LH RL ix yL_ahead cL_ahead 6 (some .int) [(0, 12, 15, 24), (0, 12, 19, 13), (0, 12, 23, 26)] 5 := ⟨h, (x_inB (x_t7 (List.mem_of_getElem? (i := 6) rfl)) rfl), (x_inB (x_t1 (List.mem_of_getElem? (i := 0) rfl)) rfl), (x_inB (x_t7 (List.mem_of_getElem? (i := 7) rfl)) rfl), ⟨by decide +kernel, by decide +kernel⟩, (by unfold x_ar; decide +kernel), by decide⟩
set_option maxRecDepth 100000 in
set_option maxHeartbeats 4000000 in
theorem c_L_ahead {g : xG} {al : List (Nat × Nat × Nat)} {ro : Nat → Nat → Option Nat} (hst : g.1.stackTraces = false) (hs : SH al ro) (ho : (16 * 27 + 0, 21, 1) ∈ al) {M : Nat → xU} {a : Int} {b : Int} {c : Int} {N : xU} {Th : xU} {La : xU} {Ot : xU} {t : ((Int ⊕ Nat) × xU × xU)} (hG : G11_ahead a b c N Th La = some t) (hE : ∀ E, t.1 = .inr E → E ∈ ([1, 0, 3] : List Nat)) :
    CalH g yL_ahead cL_ahead 6 (some .int) [(0, 12, 15, 24), (0, 12, 19, 13), (0, 12, 23, 26)] 7 [x_r (16 * 1 + 0), x_i a, x_i b, x_i c, x_r (16 * 27 + 0)] (al, ro, fl (ml M [3, 18, 19, 27] [N, Th, La, Ot])) 3 18 (.inl (some (x_i (x_wc [1, 0, 3] t.1)))) (al, ro, fl (ml M [3, 18, 19, 27] [N, t.2.1, t.2.2, (x_out Ot t.1)])) := by
  have hn : ([3, 18, 19, 27] : List Nat).Nodup := by decide
  refine calH_of_ev (by decide) (x_c1 rfl) (Nat.le_of_ble_eq_true rfl) hst ?_
  show Ev g _ _ _ _ _ _ 0 [some (x_r (16 * 1 + 0)), some (x_i a), some (x_i b), some (x_i c), some (x_r (16 * 27 + 0)), none] [] (al, ro, fl (ml M [3, 18, 19, 27] [N, Th, La, Ot])) _ _ _ _
  obtain ⟨t0, t1, t2⟩ := t
  refine e_aload (pc := 0) (i := 4) dL_ahead_0 rfl ?_
  refine e_iconst (pc := 2) dL_ahead_2 (x_R rfl) ?_
  refine e_aloadn (pc := 3) (i := 0) dL_ahead_3 rfl rfl ?_
  refine e_iloadn (pc := 4) (i := 1) dL_ahead_4 rfl rfl ?_
  refine e_iloadn (pc := 5) (i := 2) dL_ahead_5 rfl rfl ?_
  refine e_iloadn (pc := 6) (i := 3) dL_ahead_6 rfl rfl ?_
  cases t0 with
  | inl v =>
    refine e_invV (pc := 7) (K1 := 3) (S1 := 18) (K := 0) (S := 0) (dd2 := 6) (av := [x_i a, x_i b, x_i c]) (st := [x_i 0, x_r (16 * 27 + 0)]) (id := 16 * 1 + 0) dL_ahead_7 xmL_120 rfl (Or.inl ⟨9, 17, TX11, (sa_1_0 hs), rfl, by decide⟩) (f_cal (M := M) (us2 := [3, 18, 19]) [0, 1, 2] hn rfl (And.intro rfl (And.intro rfl (And.intro rfl trivial))) rfl rfl rfl (c_X11_ahead hst hs hG)) (by decide) (Nat.le_of_ble_eq_true rfl) (Or.inl rfl) ?_
    show Ev g _ _ _ _ _ _ 10 [some (x_r (16 * 1 + 0)), some (x_i a), some (x_i b), some (x_i c), some (x_r (16 * 27 + 0)), none] [x_i v, x_i 0, x_r (16 * 27 + 0)] (al, ro, fl (ml M [3, 18, 19, 27] [N, t1, t2, Ot])) _ _ _ _
    refine e_i2l (pc := 10) dL_ahead_10 ?_
    refine f_last (pc := 11) (k := 3) (u := 27) (q := 0) (len := 1) dL_ahead_11 ho (by decide) hn rfl rfl rfl (by decide) ?_
    show Ev g _ _ _ _ _ _ 12 [some (x_r (16 * 1 + 0)), some (x_i a), some (x_i b), some (x_i c), some (x_r (16 * 27 + 0)), none] [] (al, ro, fl (ml M [3, 18, 19, 27] [N, t1, t2, (x_up Ot 0 0 (x_i2l v))])) _ _ _ _
    refine e_goto (pc := 12) (tgt := 27) dL_ahead_12 (by decide) ?_
    refine e_iconst (pc := 27) dL_ahead_27 (x_R rfl) ?_
    exact e_ireturn rfl dL_ahead_28 rfl
  | inr E =>
    have hE2 := hE E rfl
    simp only [List.mem_cons, List.not_mem_nil, or_false] at hE2
    rcases hE2 with rfl | rfl | rfl
    · refine e_invVC2 (pc := 7) (K1 := 3) (S1 := 18) (K := 0) (S := 0) (dd2 := 6) (av := [x_i a, x_i b, x_i c]) (st := [x_i 0, x_r (16 * 27 + 0)]) (id := 16 * 1 + 0) (i1 := 5) (hp := 15) dL_ahead_7 xmL_120 rfl (Or.inl ⟨9, 17, TX11, (sa_1_0 hs), rfl, by decide⟩) (f_cal (M := M) (us2 := [3, 18, 19]) [0, 1, 2] hn rfl (And.intro rfl (And.intro rfl (And.intro rfl trivial))) rfl rfl rfl (c_X11_ahead hst hs hG)) (by decide) (Nat.le_of_ble_eq_true rfl) ([]) ([⟨0, 12, 19, 13⟩, ⟨0, 12, 23, 26⟩]) (⟨0, 12, 15, 24⟩) rfl (fun z hz => absurd hz List.not_mem_nil) rfl (by decide) (by decide) xlL_24 xe_1 rfl dL_ahead_15 (by decide) rfl rfl ?_
      show Ev g _ _ _ _ _ _ 17 [some (x_r (16 * 1 + 0)), some (x_i a), some (x_i b), some (x_i c), some (x_r (16 * 27 + 0)), none] [] (al, ro, fl (ml M [3, 18, 19, 27] [N, t1, t2, Ot])) _ _ _ _
      refine e_iconst (pc := 17) dL_ahead_17 (x_R rfl) ?_
      exact e_ireturn rfl dL_ahead_18 rfl
    · refine e_invVC2 (pc := 7) (K1 := 3) (S1 := 18) (K := 0) (S := 0) (dd2 := 6) (av := [x_i a, x_i b, x_i c]) (st := [x_i 0, x_r (16 * 27 + 0)]) (id := 16 * 1 + 0) (i1 := 5) (hp := 19) dL_ahead_7 xmL_120 rfl (Or.inl ⟨9, 17, TX11, (sa_1_0 hs), rfl, by decide⟩) (f_cal (M := M) (us2 := [3, 18, 19]) [0, 1, 2] hn rfl (And.intro rfl (And.intro rfl (And.intro rfl trivial))) rfl rfl rfl (c_X11_ahead hst hs hG)) (by decide) (Nat.le_of_ble_eq_true rfl) ([⟨0, 12, 15, 24⟩]) ([⟨0, 12, 23, 26⟩]) (⟨0, 12, 19, 13⟩) rfl (List.forall_mem_cons.mpr ⟨Or.inr ⟨by decide, 1, by decide, by decide, xlL_24⟩, (fun _ h => absurd h List.not_mem_nil)⟩) rfl (by decide) (by decide) xlL_13 xe_0 rfl dL_ahead_19 (by decide) rfl rfl ?_
      show Ev g _ _ _ _ _ _ 21 [some (x_r (16 * 1 + 0)), some (x_i a), some (x_i b), some (x_i c), some (x_r (16 * 27 + 0)), none] [] (al, ro, fl (ml M [3, 18, 19, 27] [N, t1, t2, Ot])) _ _ _ _
      refine e_iconst (pc := 21) dL_ahead_21 (x_R rfl) ?_
      exact e_ireturn rfl dL_ahead_22 rfl
    · refine e_invVC2 (pc := 7) (K1 := 3) (S1 := 18) (K := 0) (S := 0) (dd2 := 6) (av := [x_i a, x_i b, x_i c]) (st := [x_i 0, x_r (16 * 27 + 0)]) (id := 16 * 1 + 0) (i1 := 5) (hp := 23) dL_ahead_7 xmL_120 rfl (Or.inl ⟨9, 17, TX11, (sa_1_0 hs), rfl, by decide⟩) (f_cal (M := M) (us2 := [3, 18, 19]) [0, 1, 2] hn rfl (And.intro rfl (And.intro rfl (And.intro rfl trivial))) rfl rfl rfl (c_X11_ahead hst hs hG)) (by decide) (Nat.le_of_ble_eq_true rfl) ([⟨0, 12, 15, 24⟩, ⟨0, 12, 19, 13⟩]) ([]) (⟨0, 12, 23, 26⟩) rfl (List.forall_mem_cons.mpr ⟨Or.inr ⟨by decide, 1, by decide, by decide, xlL_24⟩, (List.forall_mem_cons.mpr ⟨Or.inr ⟨by decide, 0, by decide, by decide, xlL_13⟩, (fun _ h => absurd h List.not_mem_nil)⟩)⟩) rfl (by decide) (by decide) xlL_26 xe_3 rfl dL_ahead_23 (by decide) rfl rfl ?_
      show Ev g _ _ _ _ _ _ 25 [some (x_r (16 * 1 + 0)), some (x_i a), some (x_i b), some (x_i c), some (x_r (16 * 27 + 0)), none] [] (al, ro, fl (ml M [3, 18, 19, 27] [N, t1, t2, Ot])) _ _ _ _
      refine e_iconst (pc := 25) dL_ahead_25 (x_R rfl) ?_
      exact e_ireturn rfl dL_ahead_26 rfl
theorem xmH_trial (ix : Nat) (h : Cond.methodLink RL ix yL_trial ∈ x_big) : x_LH RL ix yL_trial cL_trial 5 (some .int) [(0, 10, 13, 13)] 4 := ⟨h, (x_inB (x_t7 (List.mem_of_getElem? (i := 17) rfl)) rfl), (x_inB (x_t1 (List.mem_of_getElem? (i := 0) rfl)) rfl), (x_inB (x_t7 (List.mem_of_getElem? (i := 18) rfl)) rfl), ⟨by decide +kernel, by decide +kernel⟩, (by unfold x_ar; decide +kernel), by decide⟩
set_option maxRecDepth 100000 in
set_option maxHeartbeats 4000000 in
theorem c_L_trial {g : xG} {al : List (Nat × Nat × Nat)} {ro : Nat → Nat → Option Nat} (hst : g.1.stackTraces = false) (hs : SH al ro) (ho : (16 * 27 + 0, 21, 1) ∈ al) {M : Nat → xU} {a : Int} {b : Int} {N : xU} {Th : xU} {La : xU} {Ot : xU} {t : ((Int ⊕ Nat) × xU × xU)} (hG : G11_trial a b N Th La = some t) (hE : ∀ E, t.1 = .inr E → E ∈ ([0] : List Nat)) :
    CalH g yL_trial cL_trial 5 (some .int) [(0, 10, 13, 13)] 7 [x_r (16 * 1 + 0), x_i a, x_i b, x_r (16 * 27 + 0)] (al, ro, fl (ml M [3, 18, 19, 27] [N, Th, La, Ot])) 1 6 (.inl (some (x_i (x_wc [0] t.1)))) (al, ro, fl (ml M [3, 18, 19, 27] [N, t.2.1, t.2.2, (x_out Ot t.1)])) := by
  have hn : ([3, 18, 19, 27] : List Nat).Nodup := by decide
  refine calH_of_ev (by decide) (x_c1 rfl) (Nat.le_of_ble_eq_true rfl) hst ?_
  show Ev g _ _ _ _ _ _ 0 [some (x_r (16 * 1 + 0)), some (x_i a), some (x_i b), some (x_r (16 * 27 + 0)), none] [] (al, ro, fl (ml M [3, 18, 19, 27] [N, Th, La, Ot])) _ _ _ _
  obtain ⟨t0, t1, t2⟩ := t
  refine e_aloadn (pc := 0) (i := 3) dL_trial_0 rfl rfl ?_
  refine e_iconst (pc := 1) dL_trial_1 (x_R rfl) ?_
  refine e_aloadn (pc := 2) (i := 0) dL_trial_2 rfl rfl ?_
  refine e_iloadn (pc := 3) (i := 1) dL_trial_3 rfl rfl ?_
  refine e_iloadn (pc := 4) (i := 2) dL_trial_4 rfl rfl ?_
  cases t0 with
  | inl v =>
    refine e_invV (pc := 5) (K1 := 1) (S1 := 6) (K := 0) (S := 0) (dd2 := 6) (av := [x_i a, x_i b]) (st := [x_i 0, x_r (16 * 27 + 0)]) (id := 16 * 1 + 0) dL_trial_5 xmL_124 rfl (Or.inl ⟨9, 17, TX11, (sa_1_0 hs), rfl, by decide⟩) (f_cal (M := M) (us2 := [3, 18, 19]) [0, 1, 2] hn rfl (And.intro rfl (And.intro rfl (And.intro rfl trivial))) rfl rfl rfl (c_X11_trial hst hs hG)) (by decide) (Nat.le_of_ble_eq_true rfl) (Or.inl rfl) ?_
    show Ev g _ _ _ _ _ _ 8 [some (x_r (16 * 1 + 0)), some (x_i a), some (x_i b), some (x_r (16 * 27 + 0)), none] [x_i v, x_i 0, x_r (16 * 27 + 0)] (al, ro, fl (ml M [3, 18, 19, 27] [N, t1, t2, Ot])) _ _ _ _
    refine e_i2l (pc := 8) dL_trial_8 ?_
    refine f_last (pc := 9) (k := 3) (u := 27) (q := 0) (len := 1) dL_trial_9 ho (by decide) hn rfl rfl rfl (by decide) ?_
    show Ev g _ _ _ _ _ _ 10 [some (x_r (16 * 1 + 0)), some (x_i a), some (x_i b), some (x_r (16 * 27 + 0)), none] [] (al, ro, fl (ml M [3, 18, 19, 27] [N, t1, t2, (x_up Ot 0 0 (x_i2l v))])) _ _ _ _
    refine e_goto (pc := 10) (tgt := 17) dL_trial_10 (by decide) ?_
    refine e_iconst (pc := 17) dL_trial_17 (x_R rfl) ?_
    exact e_ireturn rfl dL_trial_18 rfl
  | inr E =>
    have hE2 := hE E rfl
    simp only [List.mem_cons, List.not_mem_nil, or_false] at hE2
    subst hE2
    · refine e_invVC2 (pc := 5) (K1 := 1) (S1 := 6) (K := 0) (S := 0) (dd2 := 6) (av := [x_i a, x_i b]) (st := [x_i 0, x_r (16 * 27 + 0)]) (id := 16 * 1 + 0) (i1 := 4) (hp := 13) dL_trial_5 xmL_124 rfl (Or.inl ⟨9, 17, TX11, (sa_1_0 hs), rfl, by decide⟩) (f_cal (M := M) (us2 := [3, 18, 19]) [0, 1, 2] hn rfl (And.intro rfl (And.intro rfl (And.intro rfl trivial))) rfl rfl rfl (c_X11_trial hst hs hG)) (by decide) (Nat.le_of_ble_eq_true rfl) ([]) ([]) (⟨0, 10, 13, 13⟩) rfl (fun z hz => absurd hz List.not_mem_nil) rfl (by decide) (by decide) xlL_13 xe_0 rfl dL_trial_13 (by decide) rfl rfl ?_
      show Ev g _ _ _ _ _ _ 15 [some (x_r (16 * 1 + 0)), some (x_i a), some (x_i b), some (x_r (16 * 27 + 0)), none] [] (al, ro, fl (ml M [3, 18, 19, 27] [N, t1, t2, Ot])) _ _ _ _
      refine e_iconst (pc := 15) dL_trial_15 (x_R rfl) ?_
      exact e_ireturn rfl dL_trial_16 rfl
theorem xmH_span (ix : Nat) (h : Cond.methodLink RL ix yL_span ∈ x_big) : x_LH RL ix yL_span cL_span 5 (some .int) [(0, 10, 13, 13)] 4 := ⟨h, (x_inB (x_t7 (List.mem_of_getElem? (i := 24) rfl)) rfl), (x_inB (x_t1 (List.mem_of_getElem? (i := 0) rfl)) rfl), (x_inB (x_t7 (List.mem_of_getElem? (i := 25) rfl)) rfl), ⟨by decide +kernel, by decide +kernel⟩, (by unfold x_ar; decide +kernel), by decide⟩
set_option maxRecDepth 100000 in
set_option maxHeartbeats 4000000 in
theorem c_L_span {g : xG} {al : List (Nat × Nat × Nat)} {ro : Nat → Nat → Option Nat} (hst : g.1.stackTraces = false) (hs : SH al ro) (ho : (16 * 27 + 0, 21, 1) ∈ al) {M : Nat → xU} {a : Int} {b : Int} {N : xU} {Th : xU} {La : xU} {Ot : xU} {t : ((Int ⊕ Nat) × xU × xU)} (hG : G11_span a b N Th La = some t) (hE : ∀ E, t.1 = .inr E → E ∈ ([0] : List Nat)) :
    CalH g yL_span cL_span 5 (some .int) [(0, 10, 13, 13)] 8 [x_r (16 * 1 + 0), x_i a, x_i b, x_r (16 * 27 + 0)] (al, ro, fl (ml M [3, 18, 19, 27] [N, Th, La, Ot])) 1 6 (.inl (some (x_i (x_wc [0] t.1)))) (al, ro, fl (ml M [3, 18, 19, 27] [N, t.2.1, t.2.2, (x_out Ot t.1)])) := by
  have hn : ([3, 18, 19, 27] : List Nat).Nodup := by decide
  refine calH_of_ev (by decide) (x_c1 rfl) (Nat.le_of_ble_eq_true rfl) hst ?_
  show Ev g _ _ _ _ _ _ 0 [some (x_r (16 * 1 + 0)), some (x_i a), some (x_i b), some (x_r (16 * 27 + 0)), none] [] (al, ro, fl (ml M [3, 18, 19, 27] [N, Th, La, Ot])) _ _ _ _
  obtain ⟨t0, t1, t2⟩ := t
  refine e_aloadn (pc := 0) (i := 3) dL_span_0 rfl rfl ?_
  refine e_iconst (pc := 1) dL_span_1 (x_R rfl) ?_
  refine e_aloadn (pc := 2) (i := 0) dL_span_2 rfl rfl ?_
  refine e_iloadn (pc := 3) (i := 1) dL_span_3 rfl rfl ?_
  refine e_iloadn (pc := 4) (i := 2) dL_span_4 rfl rfl ?_
  cases t0 with
  | inl v =>
    refine e_invV (pc := 5) (K1 := 1) (S1 := 6) (K := 0) (S := 0) (dd2 := 7) (av := [x_i a, x_i b]) (st := [x_i 0, x_r (16 * 27 + 0)]) (id := 16 * 1 + 0) dL_span_5 xmL_127 rfl (Or.inl ⟨9, 17, TX11, (sa_1_0 hs), rfl, by decide⟩) (f_cal (M := M) (us2 := [3, 18, 19]) [0, 1, 2] hn rfl (And.intro rfl (And.intro rfl (And.intro rfl trivial))) rfl rfl rfl (c_X11_span hst hs hG)) (by decide) (Nat.le_of_ble_eq_true rfl) (Or.inl rfl) ?_
    show Ev g _ _ _ _ _ _ 8 [some (x_r (16 * 1 + 0)), some (x_i a), some (x_i b), some (x_r (16 * 27 + 0)), none] [x_i v, x_i 0, x_r (16 * 27 + 0)] (al, ro, fl (ml M [3, 18, 19, 27] [N, t1, t2, Ot])) _ _ _ _
    refine e_i2l (pc := 8) dL_span_8 ?_
    refine f_last (pc := 9) (k := 3) (u := 27) (q := 0) (len := 1) dL_span_9 ho (by decide) hn rfl rfl rfl (by decide) ?_
    show Ev g _ _ _ _ _ _ 10 [some (x_r (16 * 1 + 0)), some (x_i a), some (x_i b), some (x_r (16 * 27 + 0)), none] [] (al, ro, fl (ml M [3, 18, 19, 27] [N, t1, t2, (x_up Ot 0 0 (x_i2l v))])) _ _ _ _
    refine e_goto (pc := 10) (tgt := 17) dL_span_10 (by decide) ?_
    refine e_iconst (pc := 17) dL_span_17 (x_R rfl) ?_
    exact e_ireturn rfl dL_span_18 rfl
  | inr E =>
    have hE2 := hE E rfl
    simp only [List.mem_cons, List.not_mem_nil, or_false] at hE2
    subst hE2
    · refine e_invVC2 (pc := 5) (K1 := 1) (S1 := 6) (K := 0) (S := 0) (dd2 := 7) (av := [x_i a, x_i b]) (st := [x_i 0, x_r (16 * 27 + 0)]) (id := 16 * 1 + 0) (i1 := 4) (hp := 13) dL_span_5 xmL_127 rfl (Or.inl ⟨9, 17, TX11, (sa_1_0 hs), rfl, by decide⟩) (f_cal (M := M) (us2 := [3, 18, 19]) [0, 1, 2] hn rfl (And.intro rfl (And.intro rfl (And.intro rfl trivial))) rfl rfl rfl (c_X11_span hst hs hG)) (by decide) (Nat.le_of_ble_eq_true rfl) ([]) ([]) (⟨0, 10, 13, 13⟩) rfl (fun z hz => absurd hz List.not_mem_nil) rfl (by decide) (by decide) xlL_13 xe_0 rfl dL_span_13 (by decide) rfl rfl ?_
      show Ev g _ _ _ _ _ _ 15 [some (x_r (16 * 1 + 0)), some (x_i a), some (x_i b), some (x_r (16 * 27 + 0)), none] [] (al, ro, fl (ml M [3, 18, 19, 27] [N, t1, t2, Ot])) _ _ _ _
      refine e_iconst (pc := 15) dL_span_15 (x_R rfl) ?_
      exact e_ireturn rfl dL_span_16 rfl
theorem xmH_led (ix : Nat) (h : Cond.methodLink RL ix yL_led ∈ x_big) : x_LH RL ix yL_led cL_led 5 (some .int) [(0, 10, 13, 24)] 4 := ⟨h, (x_inB (x_t7 (List.mem_of_getElem? (i := 38) rfl)) rfl), (x_inB (x_t1 (List.mem_of_getElem? (i := 0) rfl)) rfl), (x_inB (x_t7 (List.mem_of_getElem? (i := 39) rfl)) rfl), ⟨by decide +kernel, by decide +kernel⟩, (by unfold x_ar; decide +kernel), by decide⟩
set_option maxRecDepth 100000 in
set_option maxHeartbeats 4000000 in
theorem c_L_led {g : xG} {al : List (Nat × Nat × Nat)} {ro : Nat → Nat → Option Nat} (hst : g.1.stackTraces = false) (hs : SH al ro) (ho : (16 * 27 + 0, 21, 1) ∈ al) {M : Nat → xU} {a : Int} {b : Int} {N : xU} {Ot : xU} {t : (Int ⊕ Nat)} (hG : G11_led a b N = some t) (hE : ∀ E, t = .inr E → E ∈ ([1] : List Nat)) :
    CalH g yL_led cL_led 5 (some .int) [(0, 10, 13, 24)] 4 [x_r (16 * 1 + 0), x_i a, x_i b, x_r (16 * 27 + 0)] (al, ro, fl (ml M [3, 27] [N, Ot])) 1 6 (.inl (some (x_i (x_wc [1] t)))) (al, ro, fl (ml M [3, 27] [N, (x_out Ot t)])) := by
  have hn : ([3, 27] : List Nat).Nodup := by decide
  refine calH_of_ev (by decide) (x_c1 rfl) (Nat.le_of_ble_eq_true rfl) hst ?_
  show Ev g _ _ _ _ _ _ 0 [some (x_r (16 * 1 + 0)), some (x_i a), some (x_i b), some (x_r (16 * 27 + 0)), none] [] (al, ro, fl (ml M [3, 27] [N, Ot])) _ _ _ _
  refine e_aloadn (pc := 0) (i := 3) dL_led_0 rfl rfl ?_
  refine e_iconst (pc := 1) dL_led_1 (x_R rfl) ?_
  refine e_aloadn (pc := 2) (i := 0) dL_led_2 rfl rfl ?_
  refine e_iloadn (pc := 3) (i := 1) dL_led_3 rfl rfl ?_
  refine e_iloadn (pc := 4) (i := 2) dL_led_4 rfl rfl ?_
  cases t with
  | inl v =>
    refine e_invV (pc := 5) (K1 := 1) (S1 := 6) (K := 0) (S := 0) (dd2 := 3) (av := [x_i a, x_i b]) (st := [x_i 0, x_r (16 * 27 + 0)]) (id := 16 * 1 + 0) dL_led_5 xmL_130 rfl (Or.inl ⟨9, 17, TX11, (sa_1_0 hs), rfl, by decide⟩) (f_cal (M := M) (us2 := [3]) [0] hn rfl (And.intro rfl trivial) rfl rfl rfl (c_X11_led hst hs hG)) (by decide) (Nat.le_of_ble_eq_true rfl) (Or.inl rfl) ?_
    show Ev g _ _ _ _ _ _ 8 [some (x_r (16 * 1 + 0)), some (x_i a), some (x_i b), some (x_r (16 * 27 + 0)), none] [x_i v, x_i 0, x_r (16 * 27 + 0)] (al, ro, fl (ml M [3, 27] [N, Ot])) _ _ _ _
    refine e_i2l (pc := 8) dL_led_8 ?_
    refine f_last (pc := 9) (k := 1) (u := 27) (q := 0) (len := 1) dL_led_9 ho (by decide) hn rfl rfl rfl (by decide) ?_
    show Ev g _ _ _ _ _ _ 10 [some (x_r (16 * 1 + 0)), some (x_i a), some (x_i b), some (x_r (16 * 27 + 0)), none] [] (al, ro, fl (ml M [3, 27] [N, (x_up Ot 0 0 (x_i2l v))])) _ _ _ _
    refine e_goto (pc := 10) (tgt := 17) dL_led_10 (by decide) ?_
    refine e_iconst (pc := 17) dL_led_17 (x_R rfl) ?_
    exact e_ireturn rfl dL_led_18 rfl
  | inr E =>
    have hE2 := hE E rfl
    simp only [List.mem_cons, List.not_mem_nil, or_false] at hE2
    subst hE2
    · refine e_invVC2 (pc := 5) (K1 := 1) (S1 := 6) (K := 0) (S := 0) (dd2 := 3) (av := [x_i a, x_i b]) (st := [x_i 0, x_r (16 * 27 + 0)]) (id := 16 * 1 + 0) (i1 := 4) (hp := 13) dL_led_5 xmL_130 rfl (Or.inl ⟨9, 17, TX11, (sa_1_0 hs), rfl, by decide⟩) (f_cal (M := M) (us2 := [3]) [0] hn rfl (And.intro rfl trivial) rfl rfl rfl (c_X11_led hst hs hG)) (by decide) (Nat.le_of_ble_eq_true rfl) ([]) ([]) (⟨0, 10, 13, 24⟩) rfl (fun z hz => absurd hz List.not_mem_nil) rfl (by decide) (by decide) xlL_24 xe_1 rfl dL_led_13 (by decide) rfl rfl ?_
      show Ev g _ _ _ _ _ _ 15 [some (x_r (16 * 1 + 0)), some (x_i a), some (x_i b), some (x_r (16 * 27 + 0)), none] [] (al, ro, fl (ml M [3, 27] [N, Ot])) _ _ _ _
      refine e_iconst (pc := 15) dL_led_15 (x_R rfl) ?_
      exact e_ireturn rfl dL_led_16 rfl
theorem xmH_log (ix : Nat) (h : Cond.methodLink RL ix yL_log ∈ x_big) : x_LH RL ix yL_log cL_log 5 (some .int) [(0, 10, 13, 26)] 4 := ⟨h, (x_inB (x_t7 (List.mem_of_getElem? (i := 58) rfl)) rfl), (x_inB (x_t1 (List.mem_of_getElem? (i := 0) rfl)) rfl), (x_inB (x_t7 (List.mem_of_getElem? (i := 59) rfl)) rfl), ⟨by decide +kernel, by decide +kernel⟩, (by unfold x_ar; decide +kernel), by decide⟩
set_option maxRecDepth 100000 in
set_option maxHeartbeats 4000000 in
theorem c_L_log {g : xG} {al : List (Nat × Nat × Nat)} {ro : Nat → Nat → Option Nat} (hst : g.1.stackTraces = false) (hs : SH al ro) (ho : (16 * 27 + 0, 21, 1) ∈ al) {M : Nat → xU} {a : Int} {b : Int} {N : xU} {Ot : xU} {t : (Int ⊕ Nat)} (hG : G11_log a b N = some t) (hE : ∀ E, t = .inr E → E ∈ ([3] : List Nat)) :
    CalH g yL_log cL_log 5 (some .int) [(0, 10, 13, 26)] 3 [x_r (16 * 1 + 0), x_i a, x_i b, x_r (16 * 27 + 0)] (al, ro, fl (ml M [3, 27] [N, Ot])) 1 6 (.inl (some (x_i (x_wc [3] t)))) (al, ro, fl (ml M [3, 27] [N, (x_out Ot t)])) := by
  have hn : ([3, 27] : List Nat).Nodup := by decide
  refine calH_of_ev (by decide) (x_c1 rfl) (Nat.le_of_ble_eq_true rfl) hst ?_
  show Ev g _ _ _ _ _ _ 0 [some (x_r (16 * 1 + 0)), some (x_i a), some (x_i b), some (x_r (16 * 27 + 0)), none] [] (al, ro, fl (ml M [3, 27] [N, Ot])) _ _ _ _
  refine e_aloadn (pc := 0) (i := 3) dL_log_0 rfl rfl ?_
  refine e_iconst (pc := 1) dL_log_1 (x_R rfl) ?_
  refine e_aloadn (pc := 2) (i := 0) dL_log_2 rfl rfl ?_
  refine e_iloadn (pc := 3) (i := 1) dL_log_3 rfl rfl ?_
  refine e_iloadn (pc := 4) (i := 2) dL_log_4 rfl rfl ?_
  cases t with
  | inl v =>
    refine e_invV (pc := 5) (K1 := 1) (S1 := 6) (K := 0) (S := 0) (dd2 := 2) (av := [x_i a, x_i b]) (st := [x_i 0, x_r (16 * 27 + 0)]) (id := 16 * 1 + 0) dL_log_5 xmL_133 rfl (Or.inl ⟨9, 17, TX11, (sa_1_0 hs), rfl, by decide⟩) (f_cal (M := M) (us2 := [3]) [0] hn rfl (And.intro rfl trivial) rfl rfl rfl (c_X11_log hst hs hG)) (by decide) (Nat.le_of_ble_eq_true rfl) (Or.inl rfl) ?_
    show Ev g _ _ _ _ _ _ 8 [some (x_r (16 * 1 + 0)), some (x_i a), some (x_i b), some (x_r (16 * 27 + 0)), none] [x_i v, x_i 0, x_r (16 * 27 + 0)] (al, ro, fl (ml M [3, 27] [N, Ot])) _ _ _ _
    refine e_i2l (pc := 8) dL_log_8 ?_
    refine f_last (pc := 9) (k := 1) (u := 27) (q := 0) (len := 1) dL_log_9 ho (by decide) hn rfl rfl rfl (by decide) ?_
    show Ev g _ _ _ _ _ _ 10 [some (x_r (16 * 1 + 0)), some (x_i a), some (x_i b), some (x_r (16 * 27 + 0)), none] [] (al, ro, fl (ml M [3, 27] [N, (x_up Ot 0 0 (x_i2l v))])) _ _ _ _
    refine e_goto (pc := 10) (tgt := 17) dL_log_10 (by decide) ?_
    refine e_iconst (pc := 17) dL_log_17 (x_R rfl) ?_
    exact e_ireturn rfl dL_log_18 rfl
  | inr E =>
    have hE2 := hE E rfl
    simp only [List.mem_cons, List.not_mem_nil, or_false] at hE2
    subst hE2
    · refine e_invVC2 (pc := 5) (K1 := 1) (S1 := 6) (K := 0) (S := 0) (dd2 := 2) (av := [x_i a, x_i b]) (st := [x_i 0, x_r (16 * 27 + 0)]) (id := 16 * 1 + 0) (i1 := 4) (hp := 13) dL_log_5 xmL_133 rfl (Or.inl ⟨9, 17, TX11, (sa_1_0 hs), rfl, by decide⟩) (f_cal (M := M) (us2 := [3]) [0] hn rfl (And.intro rfl trivial) rfl rfl rfl (c_X11_log hst hs hG)) (by decide) (Nat.le_of_ble_eq_true rfl) ([]) ([]) (⟨0, 10, 13, 26⟩) rfl (fun z hz => absurd hz List.not_mem_nil) rfl (by decide) (by decide) xlL_26 xe_3 rfl dL_log_13 (by decide) rfl rfl ?_
      show Ev g _ _ _ _ _ _ 15 [some (x_r (16 * 1 + 0)), some (x_i a), some (x_i b), some (x_r (16 * 27 + 0)), none] [] (al, ro, fl (ml M [3, 27] [N, Ot])) _ _ _ _
      refine e_iconst (pc := 15) dL_log_15 (x_R rfl) ?_
      exact e_ireturn rfl dL_log_16 rfl
