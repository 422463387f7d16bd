/-! A constructor's call with the script among the locals. -/
def x_v9 (al : List (Nat × Nat × Nat)) (L : xK) : Prop := ∀ (i n : Nat), L[i]? = some (some (x_r n)) → n ∈ al.map (·.1) ∨ n = 1
theorem x_v9D {al : List (Nat × Nat × Nat)} {L : xK} (h : (L.all fun v => match v with | some (.inr (.inl (some n))) => decide (n ∈ al.map (·.1)) || decide (n = 1) | _ => true) = true) : x_v9 al L := by
  intro i n hi
  have := List.all_eq_true.mp h _ (List.mem_of_getElem? hi)
  simpa [x_r] using this
theorem x_kept9 {g : xG} {ad ad1 : Nat → Nat} {h h1 : xH} {H H1 : Heap} {L : xK} {st : List xV} (hx : x_ext ad ad1 h.1 h1.1) (hW : x_W g ad h H) (hW1 : x_W g ad1 h1 H1) (hL : x_v9 h.1 L) (hS : x_vS h.1 st) :
    (∀ (i : Nat) (v : xV), L[i]? = some (some v) → x_cv ad1 v = x_cv ad v) ∧ st.map (x_cv ad1) = st.map (x_cv ad) := by
  have e1 : ad1 1 = ad 1 := hW1.2.2.2.2.2.2.1.trans hW.2.2.2.2.2.2.1.symm
  have hcv : ∀ v : xV, (∀ n, v = x_r n → ad1 n = ad n) → x_cv ad1 v = x_cv ad v := by
    intro v hv
    rcases v with x | r | x
    · rfl
    · cases r with
      | none => rfl
      | some n => simp [x_cv, hv n rfl]
    · rfl
  refine ⟨fun i v hi => hcv v (fun n hn => ?_), List.map_congr_left fun v hv => hcv v (fun n hn => (hx.1 n (hS n (hn ▸ hv))).2)⟩
  rcases hL i n (by rw [hi, hn]) with q | q
  · exact (hx.1 n q).2
  · rw [q]; exact e1
section XCALL
variable {g : xG} {nm : MethodName} {cc : ByteArray} {nL : Nat} {rt : Option FieldType} {hh : xHH} {dd pc : Nat} {L : xK} {st : List xV} {h h' : xH} {K S : Nat} {o : xO}
variable {p : Program} {e : Env} {R : Room} {s : State} {m : MethodId} {args : Array Value} {below : List Frame} {meth : Method} {c : Code} {Q : State → Prop} {ad : Nat → Nat} {H : Heap} {locs : List Loc} {cells slots : Nat} {ls : Array Slot}
theorem x_back9 {stk : List Value} {st0 : List xV} {vo : Option xV} {aa : Array Value} {h1 : xH} {K1 S1 : Nat} (hr : vx_Run p g.1 e R s m args below meth c H locs cells slots K1 S1 (F0 m pc ls stk) (st.map (x_cv ad)) (x_Q g ad h.1 h1 (.inl vo) aa) (x_X g ad h.1 h1 (.inl vo)) (x_A g))
    (Z : x_Z g nm cc nL rt hh dd L st0 h (K1 + K) (S1 + S) o h' p e R s m args below meth c Q ad H locs cells slots ls) (hst : ∀ v ∈ st, x_ok v) (hv : x_v9 h.1 L ∧ x_vS h.1 st)
    (k : Ev g nm cc nL rt hh dd (pc + 3) L (vo.toList ++ st) h1 K S o h') : W p g.1 e R s m args below meth c H locs cells slots Q (F0 m pc ls stk) := by
  intro T hT X
  rcases hr T hT X with ⟨v, st₀, t, T', Lo, h0, X', hL, e1, e2, ⟨hF, ad1, hx, hW, hoc, hok⟩, go⟩ | ⟨q, st₀, t, T', Lo, E, ce, h0, X', hL, e1, e2, hX, -⟩
  · cases hoc
    obtain ⟨k1, k2, k3⟩ := vx_keep h0 e1 Z.2.2.1 (fun _ _ q => q) (fun _ q => q) hL hF
    obtain ⟨kL, kst⟩ := x_kept9 hx Z.2.1 hW hv.1 hv.2
    have Z2 := Z.behind (st := vo.toList ++ st) hx (show x_W g ad1 h1 T'.heap by rw [e1]; exact hW) k3 kL (fun w hw => by
      rcases List.mem_append.mp hw with hw | hw
      · cases vo with
        | none => exact absurd hw List.not_mem_nil
        | some z =>
          have : w = z := by simpa using hw
          subst this
          exact hok w rfl
      · exact hst w hw)
    obtain ⟨t2, a1, b1⟩ := k p e R s m args below meth c Q ad1 T'.heap _ _ _ ls Z2 T' rfl X'
    refine ⟨t2, go t2 ?_, b1⟩
    rw [List.map_append, kst] at a1
    cases vo <;> exact a1
  · exact absurd hX id
theorem e_invI9 {nm2 : MethodName} {cc2 : ByteArray} {nL2 dd2 idx id K1 S1 : Nat} {av stk : List xV} {h1 : xH} (hd : decode cc pc = .ok (.invokespecial idx, 3)) (hl : x_LI nm.cls idx nm2 cc2 nL2 av.length) (hst : stk = av.reverse ++ x_r id :: st)
    (hM : Cal g nm2 cc2 nL2 none dd2 (x_r id :: av) h K1 S1 (.inl none) h1) (hdd : dd2 + 1 ≤ dd) (hcat : (st.map x_cat).sum ≤ 8)
    (hv : x_v9 h.1 L ∧ x_vS h.1 st) (k : Ev g nm cc nL rt hh dd (pc + 3) L st h1 K S o h') : Ev g nm cc nL rt hh dd pc L stk h (K1 + K) (S1 + S) o h' := by
  intro p e R s m args below meth c Q ad H locs cells slots ls Z
  have hok : ∀ v ∈ x_r id :: av, x_ok v := by
    intro v hv
    rcases List.mem_cons.mp hv with hv | hv
    · subst hv; trivial
    · exact Z.2.2.2.2.1 v (by rw [hst]; simp [hv])
  obtain ⟨hlk, w1, w3, w4, w5, w6, w7, w8⟩ := hl
  have hts := Z.1.2.2.2.2.2.1
  have hR := Z.2.2.2.2.2.2.1
  have hc1 := Z.2.2.2.2.2.2.2.1
  have hs1 := Z.2.2.2.2.2.2.2.2.1
  have hp : PreS s H (va_Pc ((x_r id :: av).map (x_cv ad)) (x_Pre g ad h)) (.ref (ad id) :: av.map (x_cv ad)) := ⟨x_blind, fun U hU hW => ⟨rfl, Z.preU U hU hW⟩⟩
  have hstack : stk.map (x_cv ad) = (av.map (x_cv ad)).reverse ++ .ref (ad id) :: st.map (x_cv ad) := by rw [hst]; simp [x_cv, x_r, va_rf]
  have hcats : 2 * (F0 m pc ls (stk.map (x_cv ad))).monitorRoom + ((st.map (x_cv ad)).map fun v => v.category).sum ≤ 8 := by rw [x_cats]; show 2 * 0 + _ ≤ 8; omega
  have hfr : (x_rm dd2 K1 S1).frames + 1 ≤ R.frames := by show dd2 + 12 + 1 ≤ _; omega
  have hlo : 8 + (nL2 + 11) + (x_rm dd2 K1 S1).locals ≤ R.locals := by show 8 + (nL2 + 11) + (64 * dd2 + 600) ≤ _; omega
  have hln : (av.map (x_cv ad)).length = av.length := by simp
  refine x_back9 (vo := none) (st := st) (st0 := stk) (h1 := h1) (aa := (Value.ref (ad id) :: av.map (x_cv ad)).toArray) ?_ Z (fun v hv => Z.2.2.2.2.1 v (by rw [hst]; simp [hv])) hv k
  rcases hlk with hlk | ⟨host, hlk⟩
  · exact vx_runI (Ts := x_big) ⟨Z.x, Z.b, Z.1.2.2.2.1, Z.1.2.2.2.2.1, hts⟩ (hM hok ad) ⟨⟨rfl, rfl, hfr, hlo, x_pay hts w4, List.mem_cons_self, hts _ w4, hts _ w3, w5, w6.of, hts _ hlk⟩, w8, hts _ w1⟩ hp rfl hln Z.sz hstack hcats hd ⟨by omega, by omega⟩
  · exact vx_runIN (host := host) (Ts := x_big) ⟨Z.x, Z.b, Z.1.2.2.2.1, Z.1.2.2.2.2.1, hts⟩ (hM hok ad) ⟨⟨⟨rfl, rfl, hfr, hlo, x_pay hts w4, List.mem_cons_self⟩, hts _ w4, hts _ w3, w5, w6.of, va_Nw.use rfl (Z.1.2.2.2.2.2.2.2.2.1.2.2.2.2.2.2.2.1 _ hlk)⟩, w8, hts _ w1⟩ hp rfl hln Z.sz hstack hcats hd ⟨by omega, by omega⟩
end XCALL
/-! The law from its start . -/
def mu0 : xM := fun _ _ => 0
def ro0 : Nat → Nat → Option Nat := fun _ _ => none
def muS : xM := x_nw (m12 (x_nw (m11 (x_nw mu0 (16 * 1 + 0))) (16 * 32 + 0))) (16 * 27 + 0)
def roS : Nat → Nat → Option Nat := x_nwr (r12 (x_nwr (r11 (x_nwr ro0 (16 * 1 + 0))) (16 * 32 + 0))) (16 * 27 + 0)
def alS : List (Nat × Nat × Nat) := x_KL.take 135 ++ [(16 * 27 + 0, 21, 1)]
/-- the units at the start -/
def UU (u : Nat) : xU := fun o i => muS (16 * u + o) i
theorem ml_same {U : Nat → xU} : ∀ us : List Nat, ml U us (us.map U) = U := by
  intro us
  induction us with
  | nil => rfl
  | cons u us ih =>
    have e : u_s U u (U u) = U := by
      funext v
      by_cases h : v = u
      · subst h; exact u_s_same
      · exact u_s_ne h
    show ml (u_s U u (U u)) us (us.map U) = U
    rw [e]
    exact ih
theorem ac_same : x_ac UU UU = UU := by
  funext v
  show (if 6 ≤ v ∧ v ≤ 17 then UU v else UU v) = UU v
  by_cases h : 6 ≤ v ∧ v ≤ 17
  · rw [if_pos h]
  · rw [if_neg h]
theorem mu_U : fl (ml (x_ac UU UU) [1, 2, 3, 4, 5, 18, 19, 20, 21, 22, 23, 24, 25, 26, 27, 32] [UU 1, UU 2, UU 3, UU 4, UU 5, UU 18, UU 19, UU 20, UU 21, UU 22, UU 23, UU 24, UU 25, UU 26, UU 27, UU 32]) = muS := by
  have e := ml_same (U := UU) [1, 2, 3, 4, 5, 18, 19, 20, 21, 22, 23, 24, 25, 26, 27, 32]
  rw [ac_same]
  refine (congrArg fl e).trans ?_
  funext id i
  show muS (16 * (id / 16) + id % 16) i = muS id i
  rw [show 16 * (id / 16) + id % 16 = id by omega]
theorem sh_S : SH alS roS := ⟨by decide +kernel, by decide +kernel⟩
set_option maxRecDepth 100000 in
set_option maxHeartbeats 4000000 in
theorem zst1 (i : Nat) : UU 3 1 i = 0 := rfl
theorem gr_S : GR (UU 1) (UU 2) (UU 3) (UU 19) (UU 5) (UU 21) UU (UU 32) := by
  refine gr_start (by decide +kernel) (by decide +kernel) (by decide +kernel) (by decide +kernel) (by decide +kernel) (by decide +kernel) (by decide +kernel) (by decide +kernel) (by decide +kernel) (by decide +kernel) zst1 (by decide +kernel) (by decide +kernel) (by decide +kernel) (by decide +kernel) (by decide +kernel) (by decide +kernel) (by decide +kernel) (by decide +kernel) (by decide +kernel) (by decide +kernel) (by decide +kernel) (by decide +kernel) (by decide +kernel) (by decide +kernel) (by decide +kernel) (by decide +kernel) (by decide +kernel) (by decide +kernel) (by decide +kernel) (by decide +kernel) (by decide +kernel) (by decide +kernel) (by decide +kernel) (by decide +kernel) (by decide +kernel)
theorem law_start {g : xG} (hst : g.1.stackTraces = false) (hL : x_L g ≤ 3072) : ∃ h', Ev g yL_law_ cL_law_ 7 (some .boolean) [] 60 0 [some (x_r 1), none, none, none, none, none, none] [] ([], ro0, mu0) 601024 7293034 (.inl (some (x_i 1))) h' := by
  obtain ⟨h9, kk⟩ := zl_all (M := UU) (al := alS) (ro := roS) hst sh_S (by decide +kernel) (by omega) 512 0 (by omega) (by omega) (UU 1) (UU 2) (UU 3) (UU 4) (UU 5) (UU 18) (UU 19) (UU 20) (UU 21) (UU 22) (UU 23) (UU 24) (UU 25) (UU 26) (UU 27) (UU 32) UU gr_S
  rw [mu_U] at kk
  refine ⟨h9, ?_⟩
  refine e_new (pc := 0) (K := 601023) (S := 7293017) (N := 17) (id := 16 * 1 + 0) dL_law__0 xnL_8 (x_frD (al := []) (by decide +kernel)) rfl rfl ?_
  show Ev g _ _ _ _ _ _ 3 [some (x_r 1), none, none, none, none, none, none] [x_r (16 * 1 + 0)] (x_KL.take 1, x_nwr ro0 (16 * 1 + 0), x_nw mu0 (16 * 1 + 0)) _ _ _ _
  refine e_dup (pc := 3) dL_law__3 rfl ?_
  refine e_invI9 (pc := 4) (K1 := 119) (S1 := 5735) (K := 600904) (S := 7287282) (dd2 := 3) (av := []) (st := [x_r (16 * 1 + 0)]) (id := 16 * 1 + 0) (h1 := (x_KL.take 120, r11 (x_nwr ro0 (16 * 1 + 0)), m11 (x_nw mu0 (16 * 1 + 0)))) dL_law__4 xmL_136 rfl (c_X11_init hst) (by decide) (Nat.le_of_ble_eq_true rfl) ⟨x_v9D (al := x_KL.take 1) (L := [some (x_r 1), none, none, none, none, none, none]) (by decide +kernel), x_vSD (al := x_KL.take 1) (st := [x_r (16 * 1 + 0)]) (by decide +kernel)⟩ ?_
  show Ev g _ _ _ _ _ _ 7 [some (x_r 1), none, none, none, none, none, none] [x_r (16 * 1 + 0)] (x_KL.take 120, r11 (x_nwr ro0 (16 * 1 + 0)), m11 (x_nw mu0 (16 * 1 + 0))) _ _ _ _
  refine e_astoren (pc := 7) (i := 1) dL_law__7 rfl (by decide) rfl ?_
  refine e_new (pc := 8) (K := 600903) (S := 7287255) (N := 27) (id := 16 * 32 + 0) dL_law__8 xnL_137 (x_frD (al := x_KL.take 120) (by decide +kernel)) rfl rfl ?_
  show Ev g _ _ _ _ _ _ 11 [some (x_r 1), some (x_r (16 * 1 + 0)), none, none, none, none, none] [x_r (16 * 32 + 0)] (x_KL.take 121, x_nwr (r11 (x_nwr ro0 (16 * 1 + 0))) (16 * 32 + 0), x_nw (m11 (x_nw mu0 (16 * 1 + 0))) (16 * 32 + 0)) _ _ _ _
  refine e_dup (pc := 11) dL_law__11 rfl ?_
  refine e_invI9 (pc := 12) (K1 := 14) (S1 := 40876) (K := 600889) (S := 7246379) (dd2 := 0) (av := []) (st := [x_r (16 * 32 + 0)]) (id := 16 * 32 + 0) (h1 := (x_KL.take 135, r12 (x_nwr (r11 (x_nwr ro0 (16 * 1 + 0))) (16 * 32 + 0)), m12 (x_nw (m11 (x_nw mu0 (16 * 1 + 0))) (16 * 32 + 0)))) dL_law__12 xmL_139 rfl (c_X12_init hst) (by decide) (Nat.le_of_ble_eq_true rfl) ⟨x_v9D (al := x_KL.take 121) (L := [some (x_r 1), some (x_r (16 * 1 + 0)), none, none, none, none, none]) (by decide +kernel), x_vSD (al := x_KL.take 121) (st := [x_r (16 * 32 + 0)]) (by decide +kernel)⟩ ?_
  show Ev g _ _ _ _ _ _ 15 [some (x_r 1), some (x_r (16 * 1 + 0)), none, none, none, none, none] [x_r (16 * 32 + 0)] (x_KL.take 135, r12 (x_nwr (r11 (x_nwr ro0 (16 * 1 + 0))) (16 * 32 + 0)), m12 (x_nw (m11 (x_nw mu0 (16 * 1 + 0))) (16 * 32 + 0))) _ _ _ _
  refine e_astoren (pc := 15) (i := 2) dL_law__15 rfl (by decide) rfl ?_
  refine e_iconst (pc := 16) dL_law__16 (x_R rfl) ?_
  refine e_newarray_l (pc := 17) (K := 600888) (S := 7246378) (id := 16 * 27 + 0) (n := 1) dL_law__17 xa_long (by decide) (x_frD (al := x_KL.take 135) (by decide +kernel)) rfl rfl ?_
  show Ev g _ _ _ _ _ _ 19 [some (x_r 1), some (x_r (16 * 1 + 0)), some (x_r (16 * 32 + 0)), none, none, none, none] [x_r (16 * 27 + 0)] (alS, roS, muS) _ _ _ _
  refine e_astoren (pc := 19) (i := 3) dL_law__19 rfl (by decide) rfl ?_
  refine e_iconst (pc := 20) dL_law__20 (x_R rfl) ?_
  refine e_istore (pc := 21) (i := 4) dL_law__21 (by decide) rfl ?_
  exact e_wide (by omega) (by omega) kk
