/-! Rows copied; the acts. -/
theorem u_s_id {M : Nat → xU} {u : Nat} {S : xU} (h : M u = S) : u_s M u S = M := by
  funext v
  by_cases hv : v = u
  · subst hv; rw [u_s_same, h]
  · rw [u_s_ne hv]
theorem x_ac_ml {A : xA} : ∀ (us : List Nat) {M : Nat → xU} (ss : List xU), us.all (fun u => decide (u < 6) || decide (17 < u)) = true → ml (x_ac M A) us ss = x_ac (ml M us ss) A := by
  intro us
  induction us with
  | nil => intro M ss _; rfl
  | cons u t ih =>
    intro M ss h
    cases ss with
    | nil => rfl
    | cons S ss =>
      rw [List.all_cons, Bool.and_eq_true, Bool.or_eq_true, decide_eq_true_eq, decide_eq_true_eq] at h
      rw [ml, ml, ← ih ss h.2]
      congr 1
      funext v
      simp only [u_s, x_ac]
      by_cases h1 : v = u
      · subst h1
        have h3 : ¬ (6 ≤ v ∧ v ≤ 17) := by omega
        simp [h3]
      · simp [h1]
theorem x_ac_in {A : xA} {M : Nat → xU} {us : List Nat} {ss : List xU} {u : Nat} (h : us.all (fun u => decide (u < 6) || decide (17 < u)) = true) (hu : 6 ≤ u ∧ u ≤ 17) : ml (x_ac M A) us ss u = A u := by
  rw [x_ac_ml us ss h, x_ac, if_pos hu]
theorem x_ac_set {A : xA} {M : Nat → xU} {us : List Nat} {ss : List xU} {u : Nat} {C : xU} (h : us.all (fun u => decide (u < 6) || decide (17 < u)) = true) (hu : 6 ≤ u ∧ u ≤ 17) : u_s (ml (x_ac M A) us ss) u C = ml (x_ac M (x_aw A u C)) us ss := by
  rw [x_ac_ml us ss h, x_ac_ml us ss h]
  funext v
  unfold u_s x_ac x_aw
  by_cases h1 : v = u
  · subst h1; rw [if_pos rfl, if_pos hu, if_pos rfl]
  · rw [if_neg h1]
    by_cases h2 : 6 ≤ v ∧ v ≤ 17
    · rw [if_pos h2, if_pos h2, if_neg h1]
    · rw [if_neg h2, if_neg h2]
theorem sw_a0 {al : List (Nat × Nat × Nat)} {ro : Nat → Nat → Option Nat} (hs : SH al ro) {u : Nat} (hu : 19 ≤ u ∧ u ≤ 21) : (16 * u + 0, 3, 7) ∈ al := by
  rcases (show u = 19 ∨ u = 20 ∨ u = 21 by omega) with rfl | rfl | rfl
  · exact sa_19_0 hs
  · exact sa_20_0 hs
  · exact sa_21_0 hs
theorem sw_a1 {al : List (Nat × Nat × Nat)} {ro : Nat → Nat → Option Nat} (hs : SH al ro) {u : Nat} (hu : 19 ≤ u ∧ u ≤ 21) : (16 * u + 1, 20, 12) ∈ al := by
  rcases (show u = 19 ∨ u = 20 ∨ u = 21 by omega) with rfl | rfl | rfl
  · exact sa_19_1 hs
  · exact sa_20_1 hs
  · exact sa_21_1 hs
theorem sw_a2 {al : List (Nat × Nat × Nat)} {ro : Nat → Nat → Option Nat} (hs : SH al ro) {u : Nat} (hu : 19 ≤ u ∧ u ≤ 21) : (16 * u + 2, 20, 12) ∈ al := by
  rcases (show u = 19 ∨ u = 20 ∨ u = 21 by omega) with rfl | rfl | rfl
  · exact sa_19_2 hs
  · exact sa_20_2 hs
  · exact sa_21_2 hs
theorem sw_a3 {al : List (Nat × Nat × Nat)} {ro : Nat → Nat → Option Nat} (hs : SH al ro) {u : Nat} (hu : 19 ≤ u ∧ u ≤ 21) : (16 * u + 3, 20, 12) ∈ al := by
  rcases (show u = 19 ∨ u = 20 ∨ u = 21 by omega) with rfl | rfl | rfl
  · exact sa_19_3 hs
  · exact sa_20_3 hs
  · exact sa_21_3 hs
theorem sw_a4 {al : List (Nat × Nat × Nat)} {ro : Nat → Nat → Option Nat} (hs : SH al ro) {u : Nat} (hu : 19 ≤ u ∧ u ≤ 21) : (16 * u + 4, 20, 400) ∈ al := by
  rcases (show u = 19 ∨ u = 20 ∨ u = 21 by omega) with rfl | rfl | rfl
  · exact sa_19_4 hs
  · exact sa_20_4 hs
  · exact sa_21_4 hs
theorem sw_a5 {al : List (Nat × Nat × Nat)} {ro : Nat → Nat → Option Nat} (hs : SH al ro) {u : Nat} (hu : 19 ≤ u ∧ u ≤ 21) : (16 * u + 5, 20, 8) ∈ al := by
  rcases (show u = 19 ∨ u = 20 ∨ u = 21 by omega) with rfl | rfl | rfl
  · exact sa_19_5 hs
  · exact sa_20_5 hs
  · exact sa_21_5 hs
theorem sw_r0_0 {al : List (Nat × Nat × Nat)} {ro : Nat → Nat → Option Nat} (hs : SH al ro) {u : Nat} (hu : 19 ≤ u ∧ u ≤ 21) : ro (16 * u + 0) 0 = some (16 * u + 1) := by
  rcases (show u = 19 ∨ u = 20 ∨ u = 21 by omega) with rfl | rfl | rfl
  · exact sr_19_0_0 hs
  · exact sr_20_0_0 hs
  · exact sr_21_0_0 hs
theorem sw_r0_1 {al : List (Nat × Nat × Nat)} {ro : Nat → Nat → Option Nat} (hs : SH al ro) {u : Nat} (hu : 19 ≤ u ∧ u ≤ 21) : ro (16 * u + 0) 1 = some (16 * u + 2) := by
  rcases (show u = 19 ∨ u = 20 ∨ u = 21 by omega) with rfl | rfl | rfl
  · exact sr_19_0_1 hs
  · exact sr_20_0_1 hs
  · exact sr_21_0_1 hs
theorem sw_r0_2 {al : List (Nat × Nat × Nat)} {ro : Nat → Nat → Option Nat} (hs : SH al ro) {u : Nat} (hu : 19 ≤ u ∧ u ≤ 21) : ro (16 * u + 0) 2 = some (16 * u + 3) := by
  rcases (show u = 19 ∨ u = 20 ∨ u = 21 by omega) with rfl | rfl | rfl
  · exact sr_19_0_2 hs
  · exact sr_20_0_2 hs
  · exact sr_21_0_2 hs
theorem sw_r0_3 {al : List (Nat × Nat × Nat)} {ro : Nat → Nat → Option Nat} (hs : SH al ro) {u : Nat} (hu : 19 ≤ u ∧ u ≤ 21) : ro (16 * u + 0) 3 = some (16 * u + 4) := by
  rcases (show u = 19 ∨ u = 20 ∨ u = 21 by omega) with rfl | rfl | rfl
  · exact sr_19_0_3 hs
  · exact sr_20_0_3 hs
  · exact sr_21_0_3 hs
theorem sw_r0_4 {al : List (Nat × Nat × Nat)} {ro : Nat → Nat → Option Nat} (hs : SH al ro) {u : Nat} (hu : 19 ≤ u ∧ u ≤ 21) : ro (16 * u + 0) 4 = some (16 * u + 5) := by
  rcases (show u = 19 ∨ u = 20 ∨ u = 21 by omega) with rfl | rfl | rfl
  · exact sr_19_0_4 hs
  · exact sr_20_0_4 hs
  · exact sr_21_0_4 hs
section XHAND
variable {g : xG} {al : List (Nat × Nat × Nat)} {ro : Nat → Nat → Option Nat} {M : Nat → xU} {us : List Nat} {ss : List xU}
/-- a call of what uses the acts -/
theorem f_calA {A A' : xA} {nm2 : MethodName} {cc2 : ByteArray} {nL2 dd2 K1 S1 : Nat} {rt2 : Option FieldType} {av : List xV} {o1 : xO} {us2 : List Nat} {ss2 ss2' : List xU} (js : List Nat) (hn : us.Nodup) (hl : us.length = ss.length) (hk : ml_ok us js us2) (h2 : js.length = ss2.length) (h3 : js.length = ss2'.length) (hp : ml_put ss js ss2 = ss)
    (hd : (us ++ us2).all (fun u => decide (u < 6) || decide (17 < u)) = true)
    (hM : ∀ {M2 : Nat → xU}, Cal g nm2 cc2 nL2 rt2 dd2 av (al, ro, fl (ml (x_ac M2 A) us2 ss2)) K1 S1 o1 (al, ro, fl (ml (x_ac M2 A') us2 ss2'))) : Cal g nm2 cc2 nL2 rt2 dd2 av (al, ro, fl (ml (x_ac M A) us ss)) K1 S1 o1 (al, ro, fl (ml (x_ac M A') us (ml_put ss js ss2'))) := by
  rw [List.all_append, Bool.and_eq_true] at hd
  have q := hM (M2 := ml M us ss)
  rw [← x_ac_ml us ss hd.1, ← x_ac_ml us ss hd.1, ml_call hn js us2 ss2 ss hl hk h2, ml_call hn js us2 ss2' ss hl hk h3, hp] at q
  exact q
theorem p_copyRow0 (hst : g.1.stackTraces = false) {μ : xM} {a b n : Nat} (ha : (a, 20, n) ∈ al) (hb : (b, 20, n) ∈ al) (hab : a ≠ b) (hn : n < 2147483648) :
    Cal g yX11_copyRow cX11_copyRow 3 none 0 [x_r a, x_r b] (al, ro, μ) 0 0 (.inl none) (al, ro, fun i j => if i = b ∧ j < n then μ a j else μ i j) := by
  refine cal_of_ev (plainFor_of_name (by decide)) (x_c1 rfl) (Nat.le_of_ble_eq_true rfl) hst ?_
  show Ev g _ _ _ _ _ _ 0 [some (x_r a), some (x_r b), none] [] (al, ro, μ) _ _ _ _
  refine e_iconst (pc := 0) dX11_copyRow_0 (x_R rfl) ?_
  refine e_istoren (pc := 1) (i := 2) dX11_copyRow_1 rfl (by decide) rfl ?_
  have key : ∀ d k : Nat, k + d = n → Ev g yX11_copyRow cX11_copyRow 3 none [] 0 2 [some (x_r a), some (x_r b), some (x_i (k : Int))] [] (al, ro, fun i j => if i = b ∧ j < k then μ a j else μ i j) 0 0 (.inl none) (al, ro, fun i j => if i = b ∧ j < n then μ a j else μ i j) := by
    intro d
    induction d with
    | zero =>
      intro k hk
      have hk2 : k = n := by omega
      subst hk2
      refine e_iloadn (pc := 2) (i := 2) dX11_copyRow_2 rfl rfl ?_
      refine e_aloadn (pc := 3) (i := 0) dX11_copyRow_3 rfl rfl ?_
      refine e_alen_i (pc := 4) (id := a) (len := k) dX11_copyRow_4 ha hn ?_
      refine e_icmp_ge (pc := 5) (tgt := 26) dX11_copyRow_5 (by decide) (fun _ => ?_) (fun q => absurd q (by omega))
      exact e_return rfl dX11_copyRow_26
    | succ d ih =>
      intro k hk
      refine e_iloadn (pc := 2) (i := 2) dX11_copyRow_2 rfl rfl ?_
      refine e_aloadn (pc := 3) (i := 0) dX11_copyRow_3 rfl rfl ?_
      refine e_alen_i (pc := 4) (id := a) (len := n) dX11_copyRow_4 ha hn ?_
      refine e_icmp_ge (pc := 5) (tgt := 26) dX11_copyRow_5 (by decide) (fun q => absurd q (by omega)) (fun _ => ?_)
      refine e_iloadn (pc := 8) (i := 2) dX11_copyRow_8 rfl rfl ?_
      refine e_aloadn (pc := 9) (i := 1) dX11_copyRow_9 rfl rfl ?_
      refine e_alen_i (pc := 10) (id := b) (len := n) dX11_copyRow_10 hb hn ?_
      refine e_icmp_ge (pc := 11) (tgt := 26) dX11_copyRow_11 (by decide) (fun q => absurd q (by omega)) (fun _ => ?_)
      refine e_aloadn (pc := 14) (i := 1) dX11_copyRow_14 rfl rfl ?_
      refine e_iloadn (pc := 15) (i := 2) dX11_copyRow_15 rfl rfl ?_
      refine e_aloadn (pc := 16) (i := 0) dX11_copyRow_16 rfl rfl ?_
      refine e_iloadn (pc := 17) (i := 2) dX11_copyRow_17 rfl rfl ?_
      refine e_iaload (pc := 18) (id := a) (len := n) dX11_copyRow_18 ha (by omega) (by omega) ?_
      refine e_iastore (pc := 19) (id := b) (len := n) dX11_copyRow_19 hb (by omega) (by omega) ?_
      refine e_iinc (pc := 20) dX11_copyRow_20 rfl (by decide) rfl ?_
      refine e_goto (pc := 23) (tgt := 2) dX11_copyRow_23 (by decide) ?_
      have e1 : x_add (k : Int) 1 = ((k + 1 : Nat) : Int) := by rw [x_add_of ⟨by omega, by omega⟩]; omega
      have e2 : x_up (fun i j => if i = b ∧ j < k then μ a j else μ i j) b (k : Int).toNat ((fun i j => if i = b ∧ j < k then μ a j else μ i j) a (k : Int).toNat) = fun i j => if i = b ∧ j < k + 1 then μ a j else μ i j := by
        funext i j
        have hk2 : (k : Int).toNat = k := rfl
        simp only [x_up, hk2]
        by_cases h1 : i = b
        · subst h1
          by_cases h2 : j = k
          · subst h2; simp [hab]
          · by_cases h3 : j < k
            · simp [h2, h3, show j < k + 1 by omega]
            · simp [h2, h3, show ¬ j < k + 1 by omega]
        · simp [h1]
      show Ev g _ _ _ _ _ _ 2 [some (x_r a), some (x_r b), some (x_i (x_add (k : Int) 1))] [] (al, ro, x_up (fun i j => if i = b ∧ j < k then μ a j else μ i j) b (k : Int).toNat ((fun i j => if i = b ∧ j < k then μ a j else μ i j) a (k : Int).toNat)) _ _ _ _
      rw [e1, e2]
      exact ih (k + 1) (by omega)
  have := key n 0 (by omega)
  rw [show (fun (i j : Nat) => if i = b ∧ j < 0 then μ a j else μ i j) = μ by funext i j; rw [if_neg (by omega)]] at this
  exact this
theorem p_copyRow (hst : g.1.stackTraces = false) {k j u q v r n : Nat} {U V : xU} (ha : (16 * u + q, 20, n) ∈ al) (hb : (16 * v + r, 20, n) ∈ al) (hnd : us.Nodup) (hl : us.length = ss.length) (hu : us[k]? = some u) (hs : ss[k]? = some U) (hv : us[j]? = some v) (hs2 : ss[j]? = some V) (hkj : k ≠ j) (hq : q < 16) (hr : r < 16) (hn : n < 2147483648) :
    Cal g yX11_copyRow cX11_copyRow 3 none 0 [x_r (16 * u + q), x_r (16 * v + r)] (al, ro, fl (ml M us ss)) 0 0 (.inl none) (al, ro, fl (ml M us (ss.set j (x_cp V r U q n)))) := by
  have huv : u ≠ v := by
    intro e
    subst e
    obtain ⟨h1, h2⟩ := List.getElem?_eq_some_iff.mp hu
    obtain ⟨h3, h4⟩ := List.getElem?_eq_some_iff.mp hv
    exact hkj ((List.getElem_inj hnd).mp (h2.trans h4.symm))
  have key := p_copyRow0 (g := g) (ro := ro) hst (μ := fl (ml M us ss)) ha hb (show 16 * u + q ≠ 16 * v + r by omega) hn
  have e : (fun i j2 => if i = 16 * v + r ∧ j2 < n then fl (ml M us ss) (16 * u + q) j2 else fl (ml M us ss) i j2) = fl (ml M us (ss.set j (x_cp V r U q n))) := by
    funext i j2
    rw [fl_get hq, ml_at hnd hu hs, ← ml_up hnd hl hv]
    unfold fl u_s x_cp
    by_cases h1 : i / 16 = v
    · rw [if_pos h1, h1, ml_at hnd hv hs2]
      by_cases h2 : i % 16 = r
      · have h3 : i = 16 * v + r := by omega
        by_cases h4 : j2 < n
        · rw [if_pos ⟨h3, h4⟩, if_pos ⟨h2, h4⟩]
        · rw [if_neg (fun z => h4 z.2), if_neg (fun z => h4 z.2)]
      · have h3 : i ≠ 16 * v + r := by omega
        rw [if_neg (fun z => h3 z.1), if_neg (fun z => h2 z.1)]
    · have h3 : i ≠ 16 * v + r := by omega
      rw [if_neg (fun z => h3 z.1), if_neg h1]
  rw [e] at key
  exact key
theorem x_acr (hs : SH al ro) {k : Nat} (hk : k < 12) : ro (16 * 1 + 1) k = some (16 * (6 + k) + 0) := by
  rcases (show k = 0 ∨ k = 1 ∨ k = 2 ∨ k = 3 ∨ k = 4 ∨ k = 5 ∨ k = 6 ∨ k = 7 ∨ k = 8 ∨ k = 9 ∨ k = 10 ∨ k = 11 by omega) with rfl | rfl | rfl | rfl | rfl | rfl | rfl | rfl | rfl | rfl | rfl | rfl
  · exact sr_1_1_0 hs
  · exact sr_1_1_1 hs
  · exact sr_1_1_2 hs
  · exact sr_1_1_3 hs
  · exact sr_1_1_4 hs
  · exact sr_1_1_5 hs
  · exact sr_1_1_6 hs
  · exact sr_1_1_7 hs
  · exact sr_1_1_8 hs
  · exact sr_1_1_9 hs
  · exact sr_1_1_10 hs
  · exact sr_1_1_11 hs
theorem x_mod12 (a : Int) : 0 ≤ x_mod a 12 ∧ x_mod a 12 < 12 := ⟨Int.emod_nonneg _ (by decide), Int.emod_lt_of_pos _ (by decide)⟩
/-- the place of an act -/
def x_pl (X : xU) (p : Int) : Nat := (x_mod (x_add (X 0 14) p) 12).toNat
theorem x_pl_lt (X : xU) (p : Int) : x_pl X p < 12 := by have := x_mod12 (x_add (X 0 14) p); unfold x_pl; omega
theorem p_actAt (hst : g.1.stackTraces = false) (hs : SH al ro) {X N : xU} {p : Int} : Cal g yX11_actAt cX11_actAt 3 (some (.object "SeasonWalks$Cloister")) 1 [x_r (16 * 1 + 0), x_i p] (al, ro, fl (ml M [1, 3] [X, N])) 0 0 (.inl (some (x_r (16 * (6 + x_pl X p) + 0)))) (al, ro, fl (ml M [1, 3] [X, N])) := by
  have hn : ([1, 3] : List Nat).Nodup := by decide
  have hm := x_mod12 (x_add (X 0 14) p)
  refine cal_of_ev (plainFor_of_name (by decide)) (x_c1 rfl) (Nat.le_of_ble_eq_true rfl) hst ?_
  show Ev g _ _ _ _ _ _ 0 [some (x_r (16 * 1 + 0)), some (x_i p), none] [] (al, ro, fl (ml M [1, 3] [X, N])) _ _ _ _
  refine e_aloadn (pc := 0) (i := 0) dX11_actAt_0 rfl rfl ?_
  refine f_geti (pc := 1) (k := 0) (u := 1) (q := 0) dX11_actAt_1 xf11_382 (sa_1_0 hs) rfl hn rfl rfl (by decide) ?_
  refine e_iloadn (pc := 4) (i := 1) dX11_actAt_4 rfl rfl ?_
  refine e_iadd (pc := 5) dX11_actAt_5 ?_
  refine e_bipush (pc := 6) dX11_actAt_6 (by decide +kernel) (x_R rfl) ?_
  refine e_invS (pc := 8) (K1 := 0) (S1 := 0) (K := 0) (S := 0) (dd2 := 0) (av := [x_i (x_add (X 0 14) p), x_i 12]) (st := []) dX11_actAt_8 xmX11_385 rfl (p_floorMod hst hs (by decide)) (by decide) (Nat.le_of_ble_eq_true rfl) (Or.inl rfl) ?_
  show Ev g _ _ _ _ _ _ 11 [some (x_r (16 * 1 + 0)), some (x_i p), none] [x_i (x_mod (x_add (X 0 14) p) 12)] (al, ro, fl (ml M [1, 3] [X, N])) _ _ _ _
  refine e_istoren (pc := 11) (i := 2) dX11_actAt_11 rfl (by decide) rfl ?_
  show Ev g _ _ _ _ _ _ 12 [some (x_r (16 * 1 + 0)), some (x_i p), some (x_i (x_mod (x_add (X 0 14) p) 12))] [] (al, ro, fl (ml M [1, 3] [X, N])) _ _ _ _
  refine e_iloadn (pc := 12) (i := 2) dX11_actAt_12 rfl rfl ?_
  refine e_aloadn (pc := 13) (i := 0) dX11_actAt_13 rfl rfl ?_
  refine f_getr (pc := 14) (u := 1) (q := 0) dX11_actAt_14 xf11_42 (sa_1_0 hs) rfl (sr_1_0_7 hs) ?_
  refine e_alen_a (pc := 17) (id := 16 * 1 + 1) (len := 12) dX11_actAt_17 (sa_1_1 hs) (by decide) ?_
  refine e_icmp_ge (pc := 18) (tgt := 30) dX11_actAt_18 (by decide) (fun q => absurd q (by omega)) (fun _ => ?_)
  refine e_aloadn (pc := 21) (i := 0) dX11_actAt_21 rfl rfl ?_
  refine f_getr (pc := 22) (u := 1) (q := 0) dX11_actAt_22 xf11_42 (sa_1_0 hs) rfl (sr_1_0_7 hs) ?_
  refine e_iloadn (pc := 25) (i := 2) dX11_actAt_25 rfl rfl ?_
  refine e_aaload (pc := 26) (id := 16 * 1 + 1) (len := 12) dX11_actAt_26 (sa_1_1 hs) hm.1 hm.2 (x_acr hs (x_pl_lt X p)) ?_
  refine e_goto (pc := 27) (tgt := 31) dX11_actAt_27 (by decide) ?_
  exact e_areturn (r := some (16 * (6 + x_pl X p) + 0)) rfl dX11_actAt_31 (Or.inl ⟨_, rfl⟩)
end XHAND
