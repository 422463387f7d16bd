/-! Methods with an exception table (the law's own), calls of them, catches into any local. -/
def x_wsH (nm : MethodName) (cc : ByteArray) (nL : Nat) (rt : Option FieldType) (hh : xHH) : List Cond := Cond.codeWith nm cc nL rt hh :: x_big
def CalH (g : xG) (nm : MethodName) (cc : ByteArray) (nL : Nat) (rt : Option FieldType) (hh : xHH) (dd : Nat) (as : List xV) (h : xH) (K S : Nat) (o : xO) (h' : xH) : Prop :=
  (∀ v ∈ as, x_ok v) → ∀ ad, vx_Met g.1 nm (x_wsH nm cc nL rt hh) (x_rm dd K S) (va_Pc (as.map (x_cv ad)) (x_Pre g ad h)) (x_Q g ad h.1 h' o) (x_X g ad h.1 h' o) K S (x_A g)
theorem calH_of_ev {g : xG} {nm : MethodName} {cc : ByteArray} {nL : Nat} {rt : Option FieldType} {hh : xHH} {dd : Nat} {as : List xV} {h h' : xH} {K S : Nat} {o : xO} (hpn : plainName nm.cls = true) (hc : ∀ v ∈ as, x_cat v = 1) (hn : as.length ≤ nL) (hst : g.1.stackTraces = false)
    (hE : Ev g nm cc nL rt hh dd 0 (x_en0 as nL) [] h K S o h') : CalH g nm cc nL rt hh dd as h K S o h' := by
  intro hok ad
  refine vx_ofWH (cc := cc) (maxL := nL) (ret := rt) (hh := hh) hpn rfl ?_
  intro p e s m args below meth c s₁ B hml hv
  obtain ⟨rfl, hW, hK, hEE⟩ := hv
  have hts := atoms_spec (ws := x_wsH nm cc nL rt hh) B.pre
  rw [lg_entry_eq]
  have hl := x_entry (ad := ad) hc hn
  generalize (lg_sl (as.map (x_cv ad)) ++ List.replicate (nL - (lg_sl (as.map (x_cv ad))).length) Slot.unset).toArray = ls at hl ⊢
  refine hE p e _ s m _ below meth c _ ad s.heap [] 0 0 ls ⟨⟨B.exec, B.bytes, B.returns, hml, findClass_of_methodNamed B.named, fun w hw => hts w (List.mem_cons_of_mem _ hw), B.notSynchronized, hK, hEE, ?_, (name_of_methodNamed B.named B.method).1, hst⟩, hW, va_S.rf, hl, fun v hv => absurd hv List.not_mem_nil, ?_, ⟨Nat.le_refl _, Nat.le_refl _⟩, ?_, ?_, ?_⟩
  · exact vx_table (x := nm) B (hts _ List.mem_cons_self)
  · intro v hv
    rw [x_en0] at hv
    rcases List.mem_append.mp hv with hv | hv
    · obtain ⟨w, hw, e⟩ := List.mem_map.mp hv
      cases e
      exact hok v hw
    · exact absurd (List.eq_of_mem_replicate hv) (by simp)
  · show 0 + K ≤ K; omega
  · show 0 + S ≤ S; omega
  · rcases o with vo | E
    · intro ad' H' locs' cells' slots' ls' pc' q1 q2 q3 q4 q5 q6
      refine vx_ret ?_
      refine W.widen (k := K) (n := S) (by omega) (by omega) ?_
      have hq : ∀ (r : Option Value), r = vo.map (x_cv ad') → (∀ v, vo = some v → x_ok v) → ∀ t : State, t.heap = H' → s.WarmedH t.vm → x_Q g ad h.1 h' (.inl vo) (as.map (x_cv ad)).toArray s (.returned r) t := by
        intro r hr hok t ht _
        exact ⟨q3.F ht, ad', q1, by rw [ht]; exact q2, by rw [hr], hok⟩
      rcases vo with _ | v
      · exact W.vret B.exec B.bytes (B.returns.trans q6.1) (hq _ rfl (fun v hv => by cases hv)) q3.2.2 q6.2
      · rcases v with x | r | x
        · obtain ⟨d, ⟨ty, hr, hnr⟩, hx⟩ := q6
          exact W.zret B.exec B.bytes (B.returns.trans hr) hnr (hq _ rfl (fun v hv => by cases hv; exact hx)) q3.2.2 d
        · obtain ⟨d, ty, hr, ht⟩ := q6
          refine W.aret B.exec B.bytes (B.returns.trans hr) ht ?_ (hq _ rfl (fun v hv => by cases hv; trivial)) q3.2.2 d
          cases r with
          | none => exact Or.inl rfl
          | some n => exact Or.inr ⟨_, rfl⟩
        · exact absurd q6 id
    · intro ad' H' locs' cells' slots' ls' pc' rest q ce q1 q2 q3 q4 q5 q6 q7 q8 q9
      exact vx_out q6 B.notSynchronized q7 q8 q9 (fun t ht _ => ⟨q3.F ht, rfl, ad', q1, by rw [ht]; exact q2⟩) q3.2.2 (by omega) (by omega)
section XCALLH
variable {g : xG} {nm : MethodName} {cc : ByteArray} {nL : Nat} {rt : Option FieldType} {hh : xHH} {dd pc : Nat} {L : xK} {st : List xV} {h h' : xH} {K S : Nat} {o : xO}
variable {p : Program} {e : Env} {R : Room} {s : State} {m : MethodId} {args : Array Value} {below : List Frame} {meth : Method} {c : Code} {Q : State → Prop} {ad : Nat → Nat} {H : Heap} {locs : List Loc} {cells slots : Nat} {ls : Array Slot}
theorem x_payH {nm2 : MethodName} {cc2 : ByteArray} {nL2 : Nat} {rt2 : Option FieldType} {hh2 : xHH} (hts : ∀ w ∈ x_big, w.before args s = true) (hc : Cond.codeWith nm2 cc2 nL2 rt2 hh2 ∈ x_big) : ∀ w ∈ x_wsH nm2 cc2 nL2 rt2 hh2, ∀ (a' : Array Value) (U : State), s.WarmedH U.vm → w.before a' U = true :=
  pay_in hts (fun w hw => (List.mem_cons.mp hw).elim (fun q => q ▸ ⟨hc, x_big_good hc⟩) (fun q => ⟨q, x_big_good q⟩))
def x_LH (own : String) (idx : Nat) (nm2 : MethodName) (cc2 : ByteArray) (nL2 : Nat) (rt2 : Option FieldType) (hh2 : xHH) (n : Nat) : Prop :=
  Cond.methodLink own idx nm2 ∈ x_big ∧ Cond.static nm2 ∈ x_big ∧ Cond.initialized nm2.cls ∈ x_big ∧ Cond.codeWith nm2 cc2 nL2 rt2 hh2 ∈ x_big ∧ x_ne2 nm2 ∧ x_ar nm2 n ∧ nL2 ≤ 45
theorem x_runSH {nm2 : MethodName} {cc2 : ByteArray} {nL2 dd2 idx K1 S1 : Nat} {rt2 : Option FieldType} {hh2 : xHH} {av stk : List xV} {h1 : xH} {o1 : xO} (hd : decode cc pc = .ok (.invokestatic idx, 3)) (hl : x_LH nm.cls idx nm2 cc2 nL2 rt2 hh2 av.length) (hst : stk = av.reverse ++ st)
    (hM : CalH g nm2 cc2 nL2 rt2 hh2 dd2 av h K1 S1 o1 h1) (hdd : dd2 + 1 ≤ dd) (hcat : (st.map x_cat).sum ≤ 8) (hK1 : K1 ≤ K) (hS1 : S1 ≤ S)
    (Z : x_Z g nm cc nL rt hh dd L stk h K S o h' p e R s m args below meth c Q ad H locs cells slots ls) :
    vx_Run p g.1 e R s m args below meth c H locs cells slots K1 S1 (F0 m pc ls (stk.map (x_cv ad))) (st.map (x_cv ad)) (x_Q g ad h.1 h1 o1 (av.map (x_cv ad)).toArray) (x_X g ad h.1 h1 o1) (x_A g) := by
  have hok : ∀ v ∈ av, x_ok v := fun v hv => Z.2.2.2.2.1 v (by rw [hst]; simp [hv])
  obtain ⟨hlk, w1, w3, w4, w5, w6, w7⟩ := hl
  have hts := Z.1.2.2.2.2.2.1
  have hR := Z.2.2.2.2.2.2.1
  have hc1 := Z.2.2.2.2.2.2.2.1
  have hs1 := Z.2.2.2.2.2.2.2.2.1
  have hp : PreS s H (va_Pc (av.map (x_cv ad)) (x_Pre g ad h)) (av.map (x_cv ad)) := ⟨x_blind, fun U hU hW => ⟨rfl, Z.preU U hU hW⟩⟩
  have hstack : stk.map (x_cv ad) = (av.map (x_cv ad)).reverse ++ st.map (x_cv ad) := by rw [hst]; simp
  have hcats : 2 * (F0 m pc ls (stk.map (x_cv ad))).monitorRoom + ((st.map (x_cv ad)).map fun v => v.category).sum ≤ 8 := by rw [x_cats]; show 2 * 0 + _ ≤ 8; omega
  have hfr : (x_rm dd2 K1 S1).frames + 1 ≤ R.frames := by show dd2 + 12 + 1 ≤ _; omega
  have hlo : 8 + (nL2 + 11) + (x_rm dd2 K1 S1).locals ≤ R.locals := by show 8 + (nL2 + 11) + (64 * dd2 + 600) ≤ _; omega
  have hln : (av.map (x_cv ad)).length = av.length := by simp
  exact vx_runSX (hh := hh2) ⟨Z.x, Z.b, Z.1.2.2.2.1, Z.1.2.2.2.2.1, hts⟩ (hM hok ad) ⟨⟨rfl, rfl, hfr, hlo, x_payH hts w4, List.mem_cons_self⟩, hts _ w4, hts _ w3, w5, w6.of, hts _ hlk, hts _ w1⟩ hp rfl hln Z.sz hstack hcats hd ⟨by omega, by omega⟩
theorem e_invSH {nm2 : MethodName} {cc2 : ByteArray} {nL2 dd2 idx K1 S1 : Nat} {rt2 : Option FieldType} {hh2 : xHH} {av stk : List xV} {h1 : xH} {vo : Option xV} (hd : decode cc pc = .ok (.invokestatic idx, 3)) (hl : x_LH nm.cls idx nm2 cc2 nL2 rt2 hh2 av.length) (hst : stk = av.reverse ++ st)
    (hM : CalH g nm2 cc2 nL2 rt2 hh2 dd2 av h K1 S1 (.inl vo) h1) (hdd : dd2 + 1 ≤ dd) (hcat : (st.map x_cat).sum ≤ 8)
    (hv : h1.1.length = h.1.length ∨ (x_vL h.1 L ∧ x_vS h.1 st)) (k : Ev g nm cc nL rt hh dd (pc + 3) L (vo.toList ++ st) h1 K S o h') : Ev g nm cc nL rt hh dd pc L stk h (K1 + K) (S1 + S) o h' := by
  intro p e R s m args below meth c Q ad H locs cells slots ls Z
  exact x_back (x_runSH hd hl hst hM hdd hcat (by omega) (by omega) Z) Z (fun v hv => Z.2.2.2.2.1 v (by rw [hst]; simp [hv])) hv k
theorem x_backC2 {stk : List Value} {E i1 : Nat} {aa : Array Value} {h1 : xH} {K1 S1 hp : Nat} {st0 : List xV} {rest : List Value} (pre suf : List ExceptionTableEntry) (x : ExceptionTableEntry) (hsplit : tableOf hh = pre ++ x :: suf)
    (hpass : ∀ z ∈ pre, covers z pc = false ∨ (z.catchType ≠ 0 ∧ ∃ j, j < 5 ∧ j ≠ E ∧ Cond.classLink nm.cls z.catchType (x_en.getD j "") ∈ x_big)) (hx : covers x pc = true) (h0 : x.catchType ≠ 0) (hE : E < 5) (hlink : Cond.classLink nm.cls x.catchType (x_en.getD E "") ∈ x_big) (hcast : Cond.castable (x_en.getD E "") (x_en.getD E "") ∈ x_nst) (hhp : x.handlerPc = hp)
    (hd : decode cc hp = .ok (.astore i1, 2)) (hi : i1 < nL) (hnl : x_nl L i1 = true)
    (hr : vx_Run p g.1 e R s m args below meth c H locs cells slots K1 S1 (F0 m pc ls stk) rest (x_Q g ad h.1 h1 (.inr E) aa) (x_X g ad h.1 h1 (.inr E)) (x_A g))
    (Z : x_Z g nm cc nL rt hh dd L st0 h (K1 + K) (S1 + S) o h' p e R s m args below meth c Q ad H locs cells slots ls) (hv : h1.1.length = h.1.length)
    (k : Ev g nm cc nL rt hh dd (hp + 2) (L.set i1 none) [] h1 K S o h') : W p g.1 e R s m args below meth c H locs cells slots Q (F0 m pc ls stk) := by
  intro T hT X
  rcases hr T hT X with ⟨v, st₀, t, T', Lo, h0, X', hL, e1, e2, hX, -⟩ | ⟨q, st₀, t, T', Lo, E9, ce, h00, X', hL, e1, e2, ⟨hF, hE9, ad1, hx1, hW⟩, hce, hcv, hcl, go⟩
  · exact absurd hX id
  · subst hE9
    obtain ⟨k1, k2, k3⟩ := vx_keep h00 e1 Z.2.2.1 (fun _ _ q => q) (fun _ q => q) hL hF
    obtain ⟨kL, -⟩ := x_kept (g := g) (L := L) (st := []) hx1 (Or.inl hv)
    have Z2 := Z.behind (st := []) (K := K) (S := S) hx1 (show x_W g ad1 h1 T'.heap by rw [e1]; exact hW) k3 kL (fun w hw => absurd hw List.not_mem_nil)
    have hts := Z.1.2.2.2.2.2.1
    have hEE := Z.1.2.2.2.2.2.2.2.2.1
    have hgo : vx_W p g.1 e R s m args below meth c T'.heap (locs ++ Lo) (cells + K1) (slots + S1) Q (F0 m pc ls rest) q := by
      refine vx_catch (own := nm.cls) (E := x_en.getD E "") (name := x_en.getD E "") Z.1.2.2.2.2.1 pre x suf (by rw [Z.1.2.2.2.2.2.2.2.2.2.1]; exact hsplit) (fun z hz => ?_) hx h0 (hts _ hlink) (va_Nw.use rfl (hEE.2.2.2.2.2.2.2.1 _ hcast)) (by rw [e1]; exact hce) hcv hcl ?_
      · rcases hpass z hz with hz | ⟨z1, j, z2, z3, z4⟩
        · exact Or.inl hz
        · exact Or.inr ⟨z1, _, hts _ z4, hEE.2.2.2.2.2.2.2.2.1 E j hE z2 (fun q => z3 q.symm)⟩
      · rw [hhp]
        refine lv_astore Z.x Z.b hd Z2.2.2.2.1 hi rfl (fun ls' hls => ?_)
        refine k p e R s m args below meth c Q ad1 T'.heap _ _ _ ls' ?_
        refine Z2.loc ⟨hls.1, hls.2.1, fun q2 hq2 => hls.2.2 q2 ?_⟩ ?_
        · obtain ⟨k9, v, b1, b2⟩ := (x_as_mem _ _ _).mp hq2
          rw [Nat.zero_add] at b2
          subst b2
          rw [List.getElem?_set] at b1
          by_cases hk : i1 = k9
          · subst hk
            rw [if_pos rfl] at b1
            split at b1 <;> simp at b1
          · rw [if_neg hk] at b1
            refine List.mem_cons_of_mem _ (List.mem_filter.mpr ⟨(x_as_mem _ _ _).mpr ⟨k9, v, b1, by rw [Nat.zero_add]⟩, ?_⟩)
            have b3 : (k9 == i1) = false := by simp; omega
            simp only [b3, x_cv_cat]
            cases i1 with
            | zero => simp
            | succ j =>
              by_cases hj : k9 = j
              · subst hj
                simp only [x_nl, b1] at hnl
                rcases v with w | w | w
                · simp [x_cat]
                · simp [x_cat]
                · simp at hnl
              · have : (k9 + 1 == j + 1) = false := by simp; omega
                simp [this]
        · intro v hv
          rcases List.mem_or_eq_of_mem_set hv with hv | hv
          · exact Z2.2.2.2.2.2.1 v hv
          · cases hv
    obtain ⟨t2, a1, b1⟩ := hgo T' rfl X'
    exact ⟨t2, go.trans a1, b1⟩
theorem e_invVC2 {nm2 : MethodName} {cc2 : ByteArray} {nL2 dd2 idx id K1 S1 : Nat} {rt2 : Option FieldType} {av stk : List xV} {h1 : xH} {E i1 hp : Nat} (hd : decode cc pc = .ok (.invokevirtual idx, 3)) (hl : x_LV nm.cls idx nm2 cc2 nL2 rt2 av.length) (hst : stk = av.reverse ++ x_r id :: st)
    (hrc : x_Rc h id nm2.cls) (hM : Cal g nm2 cc2 nL2 rt2 dd2 (x_r id :: av) h K1 S1 (.inr E) h1) (hdd : dd2 + 1 ≤ dd) (hcat : (st.map x_cat).sum ≤ 8) (pre suf : List ExceptionTableEntry) (x : ExceptionTableEntry) (hsplit : tableOf hh = pre ++ x :: suf)
    (hpass : ∀ z ∈ pre, covers z pc = false ∨ (z.catchType ≠ 0 ∧ ∃ j, j < 5 ∧ j ≠ E ∧ Cond.classLink nm.cls z.catchType (x_en.getD j "") ∈ x_big)) (hx : covers x pc = true) (h0 : x.catchType ≠ 0) (hE : E < 5) (hlink : Cond.classLink nm.cls x.catchType (x_en.getD E "") ∈ x_big) (hcast : Cond.castable (x_en.getD E "") (x_en.getD E "") ∈ x_nst) (hhp : x.handlerPc = hp)
    (hd2 : decode cc hp = .ok (.astore i1, 2)) (hi : i1 < nL) (hnl : x_nl L i1 = true) (hv : h1.1.length = h.1.length)
    (k : Ev g nm cc nL rt hh dd (hp + 2) (L.set i1 none) [] h1 K S o h') : Ev g nm cc nL rt hh dd pc L stk h (K1 + K) (S1 + S) o h' := by
  intro p e R s m args below meth c Q ad H locs cells slots ls Z
  exact x_backC2 pre suf x hsplit hpass hx h0 hE hlink hcast hhp hd2 hi hnl (x_runV hd hl hst hrc hM hdd hcat (by omega) (by omega) Z) Z hv k
end XCALLH
