/-! Methods: what one does for its caller (Cal), and calls. -/
def x_ws0 (nm : MethodName) (cc : ByteArray) (nL : Nat) (rt : Option FieldType) : List Cond := Cond.code nm cc nL rt :: x_big
def x_rm (dd K S : Nat) : Room := { frames := dd + 12, cells := K, slots := S, locals := 64 * dd + 600 }
def x_Pre (g : xG) (ad : Nat → Nat) (h : xH) : State → Prop := fun U => x_W g ad h U.heap ∧ va_K (x_D g) x_cl (x_tys g) U ∧ x_E g U U.heap
def x_Q (g : xG) (ad : Nat → Nat) (al : List (Nat × Nat × Nat)) (h' : xH) : xO → Array Value → State → Outcome → State → Prop
  | .inl vo => fun _ st oc t => va_F (x_A g) st t ∧ ∃ ad', x_ext ad ad' al h'.1 ∧ x_W g ad' h' t.heap ∧ oc = .returned (vo.map (x_cv ad')) ∧ ∀ v, vo = some v → x_ok v
  | .inr _ => fun _ _ _ _ => False
def x_X (g : xG) (ad : Nat → Nat) (al : List (Nat × Nat × Nat)) (h' : xH) : xO → String → State → State → Prop
  | .inl _ => fun _ _ _ => False
  | .inr E => fun C st t => va_F (x_A g) st t ∧ C = x_en.getD E "" ∧ ∃ ad', x_ext ad ad' al h'.1 ∧ x_W g ad' h' t.heap
def Cal (g : xG) (nm : MethodName) (cc : ByteArray) (nL : Nat) (rt : Option FieldType) (dd : Nat) (as : List xV) (h : xH) (K S : Nat) (o : xO) (h' : xH) : Prop :=
  (∀ v ∈ as, x_ok v) → ∀ ad, vx_Met g.1 nm (x_ws0 nm cc nL rt) (x_rm dd K S) (va_Pc (as.map (x_cv ad)) (x_Pre g ad h)) (x_Q g ad h.1 h' o) (x_X g ad h.1 h' o) K S (x_A g)
theorem x_nstW {w : Cond} (hw : x_isN w = true) {s U : State} (hW : s.WarmedH U.vm) (h : va_Nw w s) : va_Nw w U := by
  cases w <;> first | exact va_Nw.warmF hW h | exact va_Nw.warmM hW h | exact va_Nw.warmC hW h | exact va_Nw.warmD hW h | (rename_i ty; cases ty <;> first | exact va_AO.moved hW.alike h | exact absurd hw (by simp [x_isN])) | (exact absurd hw (by simp [x_isN]))
theorem x_nstS {w : Cond} (hw : x_isN w = true) {u U : State} (hv : u.vm = U.vm) (h : va_Nw w u) : va_Nw w U := by
  have ha : u.vm.Alike U.vm := by rw [hv]; exact Vm.Alike.refl _
  cases w <;> first | exact va_Nw.same rfl hv h | (rename_i ty; cases ty <;> first | exact va_AO.moved ha h | exact absurd hw (by simp [x_isN])) | (exact absurd hw (by simp [x_isN]))
theorem x_E.same {g : xG} {u U : State} {H : Heap} (hv : u.vm = U.vm) (h : x_E g u H) : x_E g U H := by
  have ha : u.vm.Alike U.vm := by rw [hv]; exact Vm.Alike.refl _
  obtain ⟨h1, h2, ⟨scr, a1, a2, a3, a4, a5⟩, h4, h5, h6, h7, h8, h9, h10, h11⟩ := h
  exact ⟨h1, h2, ⟨scr, a1, State.isArrayOf_alike ha a2, a3, a4, a5⟩, h4.moved ha, fun q hq => vk_R.same hv.symm (h5 q hq), h6.moved ha, h7.moved ha, fun w hw => x_nstS (List.mem_filter.mp hw).2 hv (h8 w hw), fun i j a b q => (h9 i j a b q).moved ha, h10.moved ha, h11.imp (fun q => q.moved ha) (fun q => q.moved ha)⟩
theorem x_E.warm {g : xG} {s U : State} {H : Heap} {locs : List Loc} (hW : s.WarmedH U.vm) (hS : va_S (x_A g) s.heap H locs) (h : x_E g s s.heap) : x_E g U H := by
  have ha := hW.alike
  have hk : ∀ a : Nat, a < s.heap.size → ¬ x_A g a → H[a]? = s.heap[a]? := hS.2.1
  obtain ⟨h1, h2, ⟨scr, a1, a2, a3, a4, a5⟩, h4, h5, h6, h7, h8, h9, h10, h11⟩ := h
  refine ⟨Nat.le_trans h1 hS.1, h2, ⟨scr, ?_, State.isArrayOf_alike ha a2, a3, a4, a5⟩, (h4.kept hk).moved ha, fun q hq => (h5 q hq).warm hW, (h6.kept hk).moved ha, (h7.kept hk).moved ha, fun w hw => x_nstW (List.mem_filter.mp hw).2 hW (h8 w hw), fun i j a b q => (h9 i j a b q).moved ha, (h10.kept hk).moved ha, h11.imp (fun q => (q.kept hk).moved ha) (fun q => (q.kept hk).moved ha)⟩
  rw [hk (x_b g) (Nat.lt_of_lt_of_le h2 h1) (Nat.not_le.mpr h2)]
  exact a1
theorem x_blind {g : xG} {ad : Nat → Nat} {h : xH} {av : List Value} : FrameBlind (va_Pc av (x_Pre g ad h)) := by
  intro a U fr mk q
  obtain ⟨q0, qW, qK, qE⟩ := q
  exact ⟨q0, qW, va_K.moved (u := U) (U := U.calling fr mk a) (Vm.Alike.refl U.vm) qK, x_E.same (u := U) rfl qE⟩
theorem x_big_good {w : Cond} (h : w ∈ x_big) : (w.onTables && w.keeps) = true ∨ ∃ ty, w = .arrayClass ty := good_of_word (List.mem_filter.mp h).2
theorem x_args (ad : Nat → Nat) : ∀ (as : List xV), (∀ v ∈ as, x_cat v = 1) → ∀ (i k : Nat) (v : xV), as[k]? = some v → (i + k, x_cv ad v) ∈ lv_args i (as.map (x_cv ad)) := by
  intro as
  induction as with
  | nil => intro _ i k v h; simp at h
  | cons a t ih =>
    intro hc i k v h
    have h1 : (x_cv ad a).category = 1 := by rw [x_cv_cat]; exact hc a List.mem_cons_self
    rw [List.map_cons, lv_args]
    cases k with
    | zero =>
      have : a = v := by simpa using h
      subst this
      first | exact List.mem_cons_self | simp
    | succ k =>
      have := ih (fun v hv => hc v (List.mem_cons_of_mem _ hv)) (i + 1) k v (by simpa using h)
      rw [show i + (k + 1) = i + 1 + k by omega]
      simp only [h1]
      first | exact List.mem_cons_of_mem _ this | simp [this]
/-- the locals at a method's entry -/
def x_en0 (as : List xV) (nL : Nat) : xK := as.map some ++ List.replicate (nL - as.length) none
theorem x_slen (ad : Nat → Nat) : ∀ (as : List xV), (∀ v ∈ as, x_cat v = 1) → (lg_sl (as.map (x_cv ad))).length = as.length := by
  intro as
  induction as with
  | nil => intro _; rfl
  | cons a t ih =>
    intro hc
    have h1 : (x_cv ad a).category = 1 := by rw [x_cv_cat]; exact hc a List.mem_cons_self
    have := ih (fun v hv => hc v (List.mem_cons_of_mem _ hv))
    rw [lg_sl] at this ⊢
    rw [List.map_cons, List.flatMap_cons, List.length_append, this, h1]
    simp
    omega
theorem x_entry {ad : Nat → Nat} {as : List xV} {nL : Nat} (hc : ∀ v ∈ as, x_cat v = 1) (hn : as.length ≤ nL) : lv_has ((lg_sl (as.map (x_cv ad)) ++ List.replicate (nL - (lg_sl (as.map (x_cv ad))).length) Slot.unset).toArray) nL (x_as ad 0 (x_en0 as nL)) := by
  have h := lv_entry (as.map (x_cv ad)) (n := nL) (by rw [x_slen ad as hc]; exact hn)
  refine ⟨h.1, h.2.1, fun q hq => h.2.2 q ?_⟩
  obtain ⟨k, v, h1, h2⟩ := (x_as_mem _ _ _).mp hq
  subst h2
  rw [x_en0, List.getElem?_append] at h1
  split at h1
  · rw [List.getElem?_map] at h1
    cases hk : as[k]? with
    | none => rw [hk] at h1; cases h1
    | some w =>
      rw [hk] at h1
      cases h1
      exact x_args ad as hc 0 k v hk
  · rw [List.getElem?_replicate] at h1
    split at h1 <;> cases h1
theorem x_ofWF {l : Launch} {y : MethodName} {ws ws' : List Cond} {rm : Room} {Pc : Array Value → State → Prop} {Qc : Array Value → State → Outcome → State → Prop} {XC : String → State → State → Prop} {mc ms : Nat} {free : Addr → Prop} {cc : ByteArray} {maxL : Nat} {ret : Option FieldType}
    (hy : plainFor y = true) (hw : ws = Cond.code y cc maxL ret :: ws')
    (body : ∀ p e s m args below meth c s₁, BodyLoose p l y (headSpec ws rm) cc maxL ret e s m args below meth c s₁ → c.maxLocals = maxL → (∀ x ∈ c.exceptionTable.toList, False) → Pc args s →
      W p l e (headSpec ws rm).room s m args below meth c s.heap [] 0 0 (vx_MQ below Qc XC args s mc ms free) (entryFrame m args maxL)) : vx_Met l y ws rm Pc Qc XC mc ms free := by
  refine MetFree.of_bodySF (code := cc) (maxLocals := maxL) (ret := ret) hy ?_ ?_
  · intro args s m h hn
    obtain ⟨meth, c, h1, h2, h3, h4, h5, h6, -, -⟩ := Cond.code_spec hn (atoms_spec (ws := ws) h _ (by rw [hw]; exact List.mem_cons_self))
    exact ⟨meth, c, h1, h2, h3, h4, h5, h6⟩
  · intro p e s m args below meth c s₁ B hml hP _
    have hh0 : s₁.heap = s.heap := by rw [B.state]; rfl
    have ht : ∀ x ∈ c.exceptionTable.toList, False := by
      obtain ⟨meth9, c9, h1, h2, -, -, -, -, h7, -⟩ := Cond.code_spec B.named (atoms_spec (ws := ws) B.pre _ (by rw [hw]; exact List.mem_cons_self))
      cases Option.some.inj (h1.symm.trans B.method)
      cases Option.some.inj (h2.symm.trans (Stand.of_body B).code)
      intro x hx
      rw [Array.isEmpty_iff.mp h7] at hx
      cases hx
    obtain ⟨t, a1, o, b1, b2, b3⟩ := body p e s m args below meth c s₁ B hml ht hP s₁ hh0 (Stand.of_body B)
    exact ⟨t, o, a1, b1, b2, b3⟩
theorem cal_of_ev {g : xG} {nm : MethodName} {cc : ByteArray} {nL : Nat} {rt : Option FieldType} {dd : Nat} {as : List xV} {h h' : xH} {K S : Nat} {o : xO} (hpn : plainFor nm = true) (hc : ∀ v ∈ as, x_cat v = 1) (hn : as.length ≤ nL) (hst : g.1.stackTraces = false)
    (hE : Ev g nm cc nL rt [] dd 0 (x_en0 as nL) [] h K S o h') : Cal g nm cc nL rt dd as h K S o h' := by
  intro hok ad
  refine x_ofWF (cc := cc) (maxL := nL) (ret := rt) hpn rfl ?_
  intro p e s m args below meth c s₁ B hml hxt hv
  obtain ⟨rfl, hW, hK, hEE⟩ := hv
  have hts := atoms_spec (ws := x_ws0 nm cc nL rt) B.pre
  rw [lg_entry_eq]
  have hl := x_entry (ad := ad) hc hn
  generalize (lg_sl (as.map (x_cv ad)) ++ List.replicate (nL - (lg_sl (as.map (x_cv ad))).length) Slot.unset).toArray = ls at hl ⊢
  refine hE p e _ s m _ below meth c _ ad s.heap [] 0 0 ls ⟨⟨B.exec, B.bytes, B.returns, hml, findClass_of_methodNamed B.named, fun w hw => hts w (List.mem_cons_of_mem _ hw), B.notSynchronized, hK, hEE, ?_, (name_of_methodNamed B.named B.method).1, hst⟩, hW, va_S.rf, hl, fun v hv => absurd hv List.not_mem_nil, ?_, ⟨Nat.le_refl _, Nat.le_refl _⟩, ?_, ?_, ?_⟩
  · exact List.eq_nil_iff_forall_not_mem.mpr (fun x hx => hxt x hx)
  · intro v hv
    rw [x_en0] at hv
    rcases List.mem_append.mp hv with hv | hv
    · obtain ⟨w, hw, e⟩ := List.mem_map.mp hv
      cases e
      exact hok v hw
    · exact absurd (List.eq_of_mem_replicate hv) (by simp)
  · show 0 + K ≤ K; omega
  · show 0 + S ≤ S; omega
  · rcases o with vo | E
    · intro ad' H' locs' cells' slots' ls' pc' q1 q2 q3 q4 q5 q6
      refine vx_ret ?_
      refine W.widen (k := K) (n := S) (by omega) (by omega) ?_
      have hq : ∀ (r : Option Value), r = vo.map (x_cv ad') → (∀ v, vo = some v → x_ok v) → ∀ t : State, t.heap = H' → s.WarmedH t.vm → x_Q g ad h.1 h' (.inl vo) (as.map (x_cv ad)).toArray s (.returned r) t := by
        intro r hr hok t ht _
        exact ⟨q3.F ht, ad', q1, by rw [ht]; exact q2, by rw [hr], hok⟩
      rcases vo with _ | v
      · exact W.vret B.exec B.bytes (B.returns.trans q6.1) (hq _ rfl (fun v hv => by cases hv)) q3.2.2 q6.2
      · rcases v with x | r | x
        · obtain ⟨d, ⟨ty, hr, hnr⟩, hx⟩ := q6
          exact W.zret B.exec B.bytes (B.returns.trans hr) hnr (hq _ rfl (fun v hv => by cases hv; exact hx)) q3.2.2 d
        · obtain ⟨d, ty, hr, ht⟩ := q6
          refine W.aret B.exec B.bytes (B.returns.trans hr) ht ?_ (hq _ rfl (fun v hv => by cases hv; trivial)) q3.2.2 d
          cases r with
          | none => exact Or.inl rfl
          | some n => exact Or.inr ⟨_, rfl⟩
        · exact absurd q6 id
    · intro ad' H' locs' cells' slots' ls' pc' rest q ce q1 q2 q3 q4 q5 q6 q7 q8 q9
      exact vx_out q6 B.notSynchronized q7 q8 q9 (fun t ht _ => ⟨q3.F ht, rfl, ad', q1, by rw [ht]; exact q2⟩) q3.2.2 (by omega) (by omega)
def x_vL (al : List (Nat × Nat × Nat)) (L : xK) : Prop := ∀ (i n : Nat), L[i]? = some (some (x_r n)) → n ∈ al.map (·.1)
def x_vS (al : List (Nat × Nat × Nat)) (st : List xV) : Prop := ∀ n, x_r n ∈ st → n ∈ al.map (·.1)
section XCALL
variable {g : xG} {nm : MethodName} {cc : ByteArray} {nL : Nat} {rt : Option FieldType} {hh : xHH} {dd pc : Nat} {L : xK} {st : List xV} {h h' : xH} {K S : Nat} {o : xO}
variable {p : Program} {e : Env} {R : Room} {s : State} {m : MethodId} {args : Array Value} {below : List Frame} {meth : Method} {c : Code} {Q : State → Prop} {ad : Nat → Nat} {H : Heap} {locs : List Loc} {cells slots : Nat} {ls : Array Slot}
theorem x_kept {g : xG} {ad ad1 : Nat → Nat} {al al1 : List (Nat × Nat × Nat)} {L : xK} {st : List xV} (hx : x_ext ad ad1 al al1) (hv : al1.length = al.length ∨ (x_vL al L ∧ x_vS al st)) :
    (∀ (i : Nat) (v : xV), L[i]? = some (some v) → x_cv ad1 v = x_cv ad v) ∧ st.map (x_cv ad1) = st.map (x_cv ad) := by
  rcases hv with hv | ⟨h1, h2⟩
  · rw [hx.2.2 hv]; exact ⟨fun _ _ _ => rfl, rfl⟩
  · have hcv : ∀ v : xV, (∀ n, v = x_r n → n ∈ al.map (·.1)) → x_cv ad1 v = x_cv ad v := by
      intro v hv
      rcases v with x | r | x
      · rfl
      · cases r with
        | none => rfl
        | some n => simp [x_cv, (hx.1 n (hv n rfl)).2]
      · rfl
    exact ⟨fun i v hi => hcv v (fun n hn => h1 i n (by rw [hi, hn])), List.map_congr_left fun v hv => hcv v (fun n hn => h2 n (hn ▸ hv))⟩
theorem x_Z.behind {st0 : List xV} {ad1 : Nat → Nat} {h1 : xH} {H1 : Heap} {locs1 : List Loc} {K1 S1 : Nat} (Z : x_Z g nm cc nL rt hh dd L st0 h (K1 + K) (S1 + S) o h' p e R s m args below meth c Q ad H locs cells slots ls) (hx : x_ext ad ad1 h.1 h1.1) (hW : x_W g ad1 h1 H1) (hS : va_S (x_A g) s.heap H1 locs1)
    (hL : ∀ (i : Nat) (v : xV), L[i]? = some (some v) → x_cv ad1 v = x_cv ad v) (hst : ∀ v ∈ st, x_ok v) :
    x_Z g nm cc nL rt hh dd L st h1 K S o h' p e R s m args below meth c Q ad1 H1 locs1 (cells + K1) (slots + S1) ls := by
  obtain ⟨z1, z2, z3, z4, z5, z6, z7, z8, z9, z10⟩ := Z
  refine ⟨z1, hW, hS, ⟨z4.1, z4.2.1, fun q2 hq2 => z4.2.2 q2 ?_⟩, hst, z6, z7, by omega, by omega, ?_⟩
  · obtain ⟨k, v, a1, a2⟩ := (x_as_mem _ _ _).mp hq2
    refine (x_as_mem _ _ _).mpr ⟨k, v, a1, ?_⟩
    rw [a2, hL k v a1]
  · rcases o with vo | E
    · exact fun ad' H' locs' cells' slots' ls' pc' q1 q2 q3 q4 q5 q6 => z10 ad' H' locs' cells' slots' ls' pc' (hx.tr q1) q2 q3 (by omega) (by omega) q6
    · exact fun ad' H' locs' cells' slots' ls' pc' rest q ce q1 q2 q3 q4 q5 q6 q7 q8 q9 => z10 ad' H' locs' cells' slots' ls' pc' rest q ce (hx.tr q1) q2 q3 (by omega) (by omega) q6 q7 q8 q9
/-- behind a call that returned -/
theorem x_back {stk : List Value} {st0 : List xV} {vo : Option xV} {aa : Array Value} {h1 : xH} {K1 S1 : Nat} (hr : vx_Run p g.1 e R s m args below meth c H locs cells slots K1 S1 (F0 m pc ls stk) (st.map (x_cv ad)) (x_Q g ad h.1 h1 (.inl vo) aa) (x_X g ad h.1 h1 (.inl vo)) (x_A g))
    (Z : x_Z g nm cc nL rt hh dd L st0 h (K1 + K) (S1 + S) o h' p e R s m args below meth c Q ad H locs cells slots ls) (hst : ∀ v ∈ st, x_ok v) (hv : h1.1.length = h.1.length ∨ (x_vL h.1 L ∧ x_vS h.1 st))
    (k : Ev g nm cc nL rt hh dd (pc + 3) L (vo.toList ++ st) h1 K S o h') : W p g.1 e R s m args below meth c H locs cells slots Q (F0 m pc ls stk) := by
  intro T hT X
  rcases hr T hT X with ⟨v, st₀, t, T', Lo, h0, X', hL, e1, e2, ⟨hF, ad1, hx, hW, hoc, hok⟩, go⟩ | ⟨q, st₀, t, T', Lo, E, ce, h0, X', hL, e1, e2, hX, -⟩
  · cases hoc
    obtain ⟨k1, k2, k3⟩ := vx_keep h0 e1 Z.2.2.1 (fun _ _ q => q) (fun _ q => q) hL hF
    obtain ⟨kL, kst⟩ := x_kept (g := g) hx hv
    have Z2 := Z.behind (st := vo.toList ++ st) hx (show x_W g ad1 h1 T'.heap by rw [e1]; exact hW) k3 kL (fun w hw => by
      rcases List.mem_append.mp hw with hw | hw
      · cases vo with
        | none => exact absurd hw List.not_mem_nil
        | some z =>
          have : w = z := by simpa using hw
          subst this
          exact hok w rfl
      · exact hst w hw)
    obtain ⟨t2, a1, b1⟩ := k p e R s m args below meth c Q ad1 T'.heap _ _ _ ls Z2 T' rfl X'
    refine ⟨t2, go t2 ?_, b1⟩
    rw [List.map_append, kst] at a1
    cases vo <;> exact a1
  · exact absurd hX id
/-- behind a call that threw, where nothing here catches -/
theorem x_backX {stk : List Value} {st0 : List xV} {E : Nat} {aa : Array Value} {h1 : xH} {K1 S1 : Nat} (hr : vx_Run p g.1 e R s m args below meth c H locs cells slots K1 S1 (F0 m pc ls stk) (st.map (x_cv ad)) (x_Q g ad h.1 h1 (.inr E) aa) (x_X g ad h.1 h1 (.inr E)) (x_A g))
    (Z : x_Z g nm cc nL rt hh dd L st0 h K1 S1 (.inr E) h1 p e R s m args below meth c Q ad H locs cells slots ls) (hout : ∀ x ∈ tableOf hh, covers x pc = false) : W p g.1 e R s m args below meth c H locs cells slots Q (F0 m pc ls stk) := by
  intro T hT X
  rcases hr T hT X with ⟨v, st₀, t, T', Lo, h0, X', hL, e1, e2, hX, -⟩ | ⟨q, st₀, t, T', Lo, E9, ce, h0, X', hL, e1, e2, ⟨hF, hE, ad1, hx, hW⟩, hce, hcv, hcl, go⟩
  · exact absurd hX id
  · subst hE
    obtain ⟨k1, k2, k3⟩ := vx_keep h0 e1 Z.2.2.1 (fun _ _ q => q) (fun _ q => q) hL hF
    have hfin := Z.2.2.2.2.2.2.2.2.2
    obtain ⟨t2, a1, b1⟩ := hfin ad1 T'.heap _ (cells + K1) (slots + S1) ls pc (st.map (x_cv ad)) q ce hx (by rw [e1]; exact hW) k3 (Nat.le_refl _) (Nat.le_refl _) (by rw [Z.1.2.2.2.2.2.2.2.2.2.1]; exact hout) (by rw [e1]; exact hce) hcv hcl T' rfl X'
    exact ⟨t2, go.trans a1, b1⟩
theorem x_Z.preU {st0 : List xV} (Z : x_Z g nm cc nL rt hh dd L st0 h K S o h' p e R s m args below meth c Q ad H locs cells slots ls) : ∀ U : State, U.heap = H → s.WarmedH U.vm → x_Pre g ad h U := by
  intro U hU hW
  refine ⟨by rw [hU]; exact Z.2.1, va_K.moved hW.alike Z.1.2.2.2.2.2.2.2.1, ?_⟩
  rw [hU]
  exact x_E.warm hW Z.2.2.1 Z.1.2.2.2.2.2.2.2.2.1
theorem x_pay {nm2 : MethodName} {cc2 : ByteArray} {nL2 : Nat} {rt2 : Option FieldType} (hts : ∀ w ∈ x_big, w.before args s = true) (hc : Cond.code nm2 cc2 nL2 rt2 ∈ x_big) : ∀ w ∈ x_ws0 nm2 cc2 nL2 rt2, ∀ (a' : Array Value) (U : State), s.WarmedH U.vm → w.before a' U = true :=
  pay_in hts (fun w hw => (List.mem_cons.mp hw).elim (fun q => q ▸ ⟨hc, x_big_good hc⟩) (fun q => ⟨q, x_big_good q⟩))
def x_ne2 (nm2 : MethodName) : Prop := nm2.cls ≠ "java/lang/invoke/MethodHandle" ∧ nm2.cls ≠ "java/lang/invoke/VarHandle"
def x_ar (nm2 : MethodName) (n : Nat) : Prop := (parseMethodDescriptor nm2.desc).map (fun d => d.parameters.length) = some n
theorem x_ar.of {nm2 : MethodName} {n : Nat} (h : x_ar nm2 n) : ∀ sig, parseMethodDescriptor nm2.desc = some sig → n = sig.parameters.length := by
  intro sig hs
  rw [x_ar, hs] at h
  exact (Option.some.inj h).symm
/-- links of calls: of an object's method, of a static one, of a constructor -/
def x_LV (own : String) (idx : Nat) (nm2 : MethodName) (cc2 : ByteArray) (nL2 : Nat) (rt2 : Option FieldType) (n : Nat) : Prop :=
  (Cond.methodLink own idx nm2 ∈ x_big ∨ ∃ host, Cond.methodLinkNest own idx nm2 host ∈ x_nst) ∧ Cond.instanceMethod nm2 ∈ x_big ∧ Cond.selects nm2.cls nm2 nm2 ∈ x_big ∧ Cond.initialized nm2.cls ∈ x_big ∧ Cond.code nm2 cc2 nL2 rt2 ∈ x_big ∧ x_ne2 nm2 ∧ x_ar nm2 n ∧ nL2 ≤ 45
def x_LS (own : String) (idx : Nat) (nm2 : MethodName) (cc2 : ByteArray) (nL2 : Nat) (rt2 : Option FieldType) (n : Nat) : Prop :=
  (Cond.methodLink own idx nm2 ∈ x_big ∨ ∃ host, Cond.methodLinkNest own idx nm2 host ∈ x_nst) ∧ Cond.static nm2 ∈ x_big ∧ Cond.initialized nm2.cls ∈ x_big ∧ Cond.code nm2 cc2 nL2 rt2 ∈ x_big ∧ x_ne2 nm2 ∧ x_ar nm2 n ∧ nL2 ≤ 45
def x_LI (own : String) (idx : Nat) (nm2 : MethodName) (cc2 : ByteArray) (nL2 : Nat) (n : Nat) : Prop :=
  (Cond.methodLink own idx nm2 ∈ x_big ∨ ∃ host, Cond.methodLinkNest own idx nm2 host ∈ x_nst) ∧ Cond.instanceMethod nm2 ∈ x_big ∧ Cond.initialized nm2.cls ∈ x_big ∧ Cond.code nm2 cc2 nL2 none ∈ x_big ∧ x_ne2 nm2 ∧ x_ar nm2 n ∧ nL2 ≤ 45 ∧ nm2.name = "<init>"
theorem x_cats {ad : Nat → Nat} : ∀ (st : List xV), ((st.map (x_cv ad)).map fun v => v.category).sum = (st.map x_cat).sum := by
  intro st
  induction st with
  | nil => rfl
  | cons a t ih => rw [List.map_cons, List.map_cons, List.sum_cons, ih, x_cv_cat]; simp
/-- whose object it is: of a class of ours, or a text -/
def x_Rc (h : xH) (id : Nat) (C : String) : Prop := (∃ (ci N : Nat) (T : u_T), (id, ci, N) ∈ h.1 ∧ x_cl[ci]? = some (C, T, N) ∧ ci < 20) ∨ ∃ i, i < x_nS ∧ id = x_s0 + i ∧ C = "java/lang/String"
theorem x_runV {nm2 : MethodName} {cc2 : ByteArray} {nL2 dd2 idx id K1 S1 : Nat} {rt2 : Option FieldType} {av stk : List xV} {h1 : xH} {o1 : xO} (hd : decode cc pc = .ok (.invokevirtual idx, 3)) (hl : x_LV nm.cls idx nm2 cc2 nL2 rt2 av.length) (hst : stk = av.reverse ++ x_r id :: st)
    (hrc : x_Rc h id nm2.cls) (hM : Cal g nm2 cc2 nL2 rt2 dd2 (x_r id :: av) h K1 S1 o1 h1) (hdd : dd2 + 1 ≤ dd) (hcat : (st.map x_cat).sum ≤ 8) (hK1 : K1 ≤ K) (hS1 : S1 ≤ S)
    (Z : x_Z g nm cc nL rt hh dd L stk h K S o h' p e R s m args below meth c Q ad H locs cells slots ls) :
    vx_Run p g.1 e R s m args below meth c H locs cells slots K1 S1 (F0 m pc ls (stk.map (x_cv ad))) (st.map (x_cv ad)) (x_Q g ad h.1 h1 o1 (Value.ref (ad id) :: av.map (x_cv ad)).toArray) (x_X g ad h.1 h1 o1) (x_A g) := by
  have hok : ∀ v ∈ x_r id :: av, x_ok v := by
    intro v hv
    rcases List.mem_cons.mp hv with hv | hv
    · subst hv; trivial
    · exact Z.2.2.2.2.1 v (by rw [hst]; simp [hv])
  obtain ⟨hlk, w1, w2, w3, w4, w5, w6, w7⟩ := hl
  have hts := Z.1.2.2.2.2.2.1
  have hR := Z.2.2.2.2.2.2.1
  have hc1 := Z.2.2.2.2.2.2.2.1
  have hs1 := Z.2.2.2.2.2.2.2.2.1
  have hrecv : ∃ cell : Cell, H[ad id]? = some cell ∧ cell.vm.isStatics = false ∧ s.vm.findClass nm2.cls = some cell.cls := by
    rcases hrc with ⟨ci, N, T, hm, hcl, hci⟩ | ⟨i, hi, rfl, hcl⟩
    · obtain ⟨q0, -, hq⟩ := Z.at hm
      rw [x_e_obj hci] at hq
      exact va_recv Z.1.2.2.2.2.2.2.2.1 Z.2.1.1 hcl hq
    · rw [(Z.2.1.2.2.2.2.2.2.2.2 i hi).1, hcl]
      exact vk_recv Z.1.2.2.2.2.2.2.2.2.1.2.2.2.1 hi Z.2.2.1
  have hp : PreV s H nm2.cls (ad id) (va_Pc ((x_r id :: av).map (x_cv ad)) (x_Pre g ad h)) (av.map (x_cv ad)) := ⟨x_blind, hrecv, fun U hU hW => ⟨rfl, Z.preU U hU hW⟩⟩
  have hstack : stk.map (x_cv ad) = (av.map (x_cv ad)).reverse ++ .ref (ad id) :: st.map (x_cv ad) := by rw [hst]; simp [x_cv, x_r, va_rf]
  have hcats : 2 * (F0 m pc ls (stk.map (x_cv ad))).monitorRoom + ((st.map (x_cv ad)).map fun v => v.category).sum ≤ 8 := by rw [x_cats]; show 2 * 0 + _ ≤ 8; omega
  have hfr : (x_rm dd2 K1 S1).frames + 1 ≤ R.frames := by show dd2 + 12 + 1 ≤ _; omega
  have hlo : 8 + (nL2 + 11) + (x_rm dd2 K1 S1).locals ≤ R.locals := by show 8 + (nL2 + 11) + (64 * dd2 + 600) ≤ _; omega
  have hln : (av.map (x_cv ad)).length = av.length := by simp
  rcases hlk with hlk | ⟨host, hlk⟩
  · exact vx_runV (C := nm2.cls) (Ts := x_big) ⟨Z.x, Z.b, Z.1.2.2.2.1, Z.1.2.2.2.2.1, hts⟩ (hM hok ad) ⟨⟨rfl, rfl, hfr, hlo, x_pay hts w4, List.mem_cons_self, hts _ w4, hts _ w3, w5, w6.of, hts _ hlk⟩, hts _ w1, hts _ w2⟩ hp rfl hln Z.sz hstack hcats hd ⟨by omega, by omega⟩
  · exact vx_runVN (C := nm2.cls) (host := host) (Ts := x_big) ⟨Z.x, Z.b, Z.1.2.2.2.1, Z.1.2.2.2.2.1, hts⟩ (hM hok ad) ⟨⟨⟨rfl, rfl, hfr, hlo, x_pay hts w4, List.mem_cons_self⟩, hts _ w4, hts _ w3, w5, w6.of, va_Nw.use rfl (Z.1.2.2.2.2.2.2.2.2.1.2.2.2.2.2.2.2.1 _ hlk)⟩, hts _ w1, hts _ w2⟩ hp rfl hln Z.sz hstack hcats hd ⟨by omega, by omega⟩
theorem e_invV {nm2 : MethodName} {cc2 : ByteArray} {nL2 dd2 idx id K1 S1 : Nat} {rt2 : Option FieldType} {av stk : List xV} {h1 : xH} {vo : Option xV} (hd : decode cc pc = .ok (.invokevirtual idx, 3)) (hl : x_LV nm.cls idx nm2 cc2 nL2 rt2 av.length) (hst : stk = av.reverse ++ x_r id :: st)
    (hrc : x_Rc h id nm2.cls) (hM : Cal g nm2 cc2 nL2 rt2 dd2 (x_r id :: av) h K1 S1 (.inl vo) h1) (hdd : dd2 + 1 ≤ dd) (hcat : (st.map x_cat).sum ≤ 8)
    (hv : h1.1.length = h.1.length ∨ (x_vL h.1 L ∧ x_vS h.1 st)) (k : Ev g nm cc nL rt hh dd (pc + 3) L (vo.toList ++ st) h1 K S o h') : Ev g nm cc nL rt hh dd pc L stk h (K1 + K) (S1 + S) o h' := by
  intro p e R s m args below meth c Q ad H locs cells slots ls Z
  exact x_back (x_runV hd hl hst hrc hM hdd hcat (by omega) (by omega) Z) Z (fun v hv => Z.2.2.2.2.1 v (by rw [hst]; simp [hv])) hv k
theorem e_invVX {nm2 : MethodName} {cc2 : ByteArray} {nL2 dd2 idx id K1 S1 : Nat} {rt2 : Option FieldType} {av stk : List xV} {h1 : xH} {E : Nat} (hd : decode cc pc = .ok (.invokevirtual idx, 3)) (hl : x_LV nm.cls idx nm2 cc2 nL2 rt2 av.length) (hst : stk = av.reverse ++ x_r id :: st)
    (hrc : x_Rc h id nm2.cls) (hM : Cal g nm2 cc2 nL2 rt2 dd2 (x_r id :: av) h K1 S1 (.inr E) h1) (hdd : dd2 + 1 ≤ dd) (hcat : (st.map x_cat).sum ≤ 8) (hout : ∀ x ∈ tableOf hh, covers x pc = false) : Ev g nm cc nL rt hh dd pc L stk h K1 S1 (.inr E) h1 := by
  intro p e R s m args below meth c Q ad H locs cells slots ls Z
  exact x_backX (x_runV hd hl hst hrc hM hdd hcat (Nat.le_refl _) (Nat.le_refl _) Z) Z hout
theorem x_runS {nm2 : MethodName} {cc2 : ByteArray} {nL2 dd2 idx K1 S1 : Nat} {rt2 : Option FieldType} {av stk : List xV} {h1 : xH} {o1 : xO} (hd : decode cc pc = .ok (.invokestatic idx, 3)) (hl : x_LS nm.cls idx nm2 cc2 nL2 rt2 av.length) (hst : stk = av.reverse ++ st)
    (hM : Cal g nm2 cc2 nL2 rt2 dd2 av h K1 S1 o1 h1) (hdd : dd2 + 1 ≤ dd) (hcat : (st.map x_cat).sum ≤ 8) (hK1 : K1 ≤ K) (hS1 : S1 ≤ S)
    (Z : x_Z g nm cc nL rt hh dd L stk h K S o h' p e R s m args below meth c Q ad H locs cells slots ls) :
    vx_Run p g.1 e R s m args below meth c H locs cells slots K1 S1 (F0 m pc ls (stk.map (x_cv ad))) (st.map (x_cv ad)) (x_Q g ad h.1 h1 o1 (av.map (x_cv ad)).toArray) (x_X g ad h.1 h1 o1) (x_A g) := by
  have hok : ∀ v ∈ av, x_ok v := fun v hv => Z.2.2.2.2.1 v (by rw [hst]; simp [hv])
  obtain ⟨hlk, w1, w3, w4, w5, w6, w7⟩ := hl
  have hts := Z.1.2.2.2.2.2.1
  have hR := Z.2.2.2.2.2.2.1
  have hc1 := Z.2.2.2.2.2.2.2.1
  have hs1 := Z.2.2.2.2.2.2.2.2.1
  have hp : PreS s H (va_Pc (av.map (x_cv ad)) (x_Pre g ad h)) (av.map (x_cv ad)) := ⟨x_blind, fun U hU hW => ⟨rfl, Z.preU U hU hW⟩⟩
  have hstack : stk.map (x_cv ad) = (av.map (x_cv ad)).reverse ++ st.map (x_cv ad) := by rw [hst]; simp
  have hcats : 2 * (F0 m pc ls (stk.map (x_cv ad))).monitorRoom + ((st.map (x_cv ad)).map fun v => v.category).sum ≤ 8 := by rw [x_cats]; show 2 * 0 + _ ≤ 8; omega
  have hfr : (x_rm dd2 K1 S1).frames + 1 ≤ R.frames := by show dd2 + 12 + 1 ≤ _; omega
  have hlo : 8 + (nL2 + 11) + (x_rm dd2 K1 S1).locals ≤ R.locals := by show 8 + (nL2 + 11) + (64 * dd2 + 600) ≤ _; omega
  have hln : (av.map (x_cv ad)).length = av.length := by simp
  rcases hlk with hlk | ⟨host, hlk⟩
  · exact vx_runS (Ts := x_big) ⟨Z.x, Z.b, Z.1.2.2.2.1, Z.1.2.2.2.2.1, hts⟩ (hM hok ad) ⟨⟨rfl, rfl, hfr, hlo, x_pay hts w4, List.mem_cons_self, hts _ w4, hts _ w3, w5, w6.of, hts _ hlk⟩, hts _ w1⟩ hp rfl hln Z.sz hstack hcats hd ⟨by omega, by omega⟩
  · exact vx_runSN (host := host) (Ts := x_big) ⟨Z.x, Z.b, Z.1.2.2.2.1, Z.1.2.2.2.2.1, hts⟩ (hM hok ad) ⟨⟨⟨rfl, rfl, hfr, hlo, x_pay hts w4, List.mem_cons_self⟩, hts _ w4, hts _ w3, w5, w6.of, va_Nw.use rfl (Z.1.2.2.2.2.2.2.2.2.1.2.2.2.2.2.2.2.1 _ hlk)⟩, hts _ w1, trivial⟩ hp rfl hln Z.sz hstack hcats hd ⟨by omega, by omega⟩
theorem e_invS {nm2 : MethodName} {cc2 : ByteArray} {nL2 dd2 idx K1 S1 : Nat} {rt2 : Option FieldType} {av stk : List xV} {h1 : xH} {vo : Option xV} (hd : decode cc pc = .ok (.invokestatic idx, 3)) (hl : x_LS nm.cls idx nm2 cc2 nL2 rt2 av.length) (hst : stk = av.reverse ++ st)
    (hM : Cal g nm2 cc2 nL2 rt2 dd2 av h K1 S1 (.inl vo) h1) (hdd : dd2 + 1 ≤ dd) (hcat : (st.map x_cat).sum ≤ 8)
    (hv : h1.1.length = h.1.length ∨ (x_vL h.1 L ∧ x_vS h.1 st)) (k : Ev g nm cc nL rt hh dd (pc + 3) L (vo.toList ++ st) h1 K S o h') : Ev g nm cc nL rt hh dd pc L stk h (K1 + K) (S1 + S) o h' := by
  intro p e R s m args below meth c Q ad H locs cells slots ls Z
  exact x_back (x_runS hd hl hst hM hdd hcat (by omega) (by omega) Z) Z (fun v hv => Z.2.2.2.2.1 v (by rw [hst]; simp [hv])) hv k
theorem e_invSX {nm2 : MethodName} {cc2 : ByteArray} {nL2 dd2 idx K1 S1 : Nat} {rt2 : Option FieldType} {av stk : List xV} {h1 : xH} {E : Nat} (hd : decode cc pc = .ok (.invokestatic idx, 3)) (hl : x_LS nm.cls idx nm2 cc2 nL2 rt2 av.length) (hst : stk = av.reverse ++ st)
    (hM : Cal g nm2 cc2 nL2 rt2 dd2 av h K1 S1 (.inr E) h1) (hdd : dd2 + 1 ≤ dd) (hcat : (st.map x_cat).sum ≤ 8) (hout : ∀ x ∈ tableOf hh, covers x pc = false) : Ev g nm cc nL rt hh dd pc L stk h K1 S1 (.inr E) h1 := by
  intro p e R s m args below meth c Q ad H locs cells slots ls Z
  exact x_backX (x_runS hd hl hst hM hdd hcat (Nat.le_refl _) (Nat.le_refl _) Z) Z hout
theorem e_invI {nm2 : MethodName} {cc2 : ByteArray} {nL2 dd2 idx id K1 S1 : Nat} {av stk : List xV} {h1 : xH} (hd : decode cc pc = .ok (.invokespecial idx, 3)) (hl : x_LI nm.cls idx nm2 cc2 nL2 av.length) (hst : stk = av.reverse ++ x_r id :: st)
    (hM : Cal g nm2 cc2 nL2 none dd2 (x_r id :: av) h K1 S1 (.inl none) h1) (hdd : dd2 + 1 ≤ dd) (hcat : (st.map x_cat).sum ≤ 8)
    (hv : h1.1.length = h.1.length ∨ (x_vL h.1 L ∧ x_vS h.1 st)) (k : Ev g nm cc nL rt hh dd (pc + 3) L st h1 K S o h') : Ev g nm cc nL rt hh dd pc L stk h (K1 + K) (S1 + S) o h' := by
  intro p e R s m args below meth c Q ad H locs cells slots ls Z
  have hok : ∀ v ∈ x_r id :: av, x_ok v := by
    intro v hv
    rcases List.mem_cons.mp hv with hv | hv
    · subst hv; trivial
    · exact Z.2.2.2.2.1 v (by rw [hst]; simp [hv])
  obtain ⟨hlk, w1, w3, w4, w5, w6, w7, w8⟩ := hl
  have hts := Z.1.2.2.2.2.2.1
  have hR := Z.2.2.2.2.2.2.1
  have hc1 := Z.2.2.2.2.2.2.2.1
  have hs1 := Z.2.2.2.2.2.2.2.2.1
  have hp : PreS s H (va_Pc ((x_r id :: av).map (x_cv ad)) (x_Pre g ad h)) (.ref (ad id) :: av.map (x_cv ad)) := ⟨x_blind, fun U hU hW => ⟨rfl, Z.preU U hU hW⟩⟩
  have hstack : stk.map (x_cv ad) = (av.map (x_cv ad)).reverse ++ .ref (ad id) :: st.map (x_cv ad) := by rw [hst]; simp [x_cv, x_r, va_rf]
  have hcats : 2 * (F0 m pc ls (stk.map (x_cv ad))).monitorRoom + ((st.map (x_cv ad)).map fun v => v.category).sum ≤ 8 := by rw [x_cats]; show 2 * 0 + _ ≤ 8; omega
  have hfr : (x_rm dd2 K1 S1).frames + 1 ≤ R.frames := by show dd2 + 12 + 1 ≤ _; omega
  have hlo : 8 + (nL2 + 11) + (x_rm dd2 K1 S1).locals ≤ R.locals := by show 8 + (nL2 + 11) + (64 * dd2 + 600) ≤ _; omega
  have hln : (av.map (x_cv ad)).length = av.length := by simp
  refine x_back (vo := none) (st := st) (st0 := stk) (h1 := h1) (aa := (Value.ref (ad id) :: av.map (x_cv ad)).toArray) ?_ Z (fun v hv => Z.2.2.2.2.1 v (by rw [hst]; simp [hv])) hv k
  rcases hlk with hlk | ⟨host, hlk⟩
  · exact vx_runI (Ts := x_big) ⟨Z.x, Z.b, Z.1.2.2.2.1, Z.1.2.2.2.2.1, hts⟩ (hM hok ad) ⟨⟨rfl, rfl, hfr, hlo, x_pay hts w4, List.mem_cons_self, hts _ w4, hts _ w3, w5, w6.of, hts _ hlk⟩, w8, hts _ w1⟩ hp rfl hln Z.sz hstack hcats hd ⟨by omega, by omega⟩
  · exact vx_runIN (host := host) (Ts := x_big) ⟨Z.x, Z.b, Z.1.2.2.2.1, Z.1.2.2.2.2.1, hts⟩ (hM hok ad) ⟨⟨⟨rfl, rfl, hfr, hlo, x_pay hts w4, List.mem_cons_self⟩, hts _ w4, hts _ w3, w5, w6.of, va_Nw.use rfl (Z.1.2.2.2.2.2.2.2.2.1.2.2.2.2.2.2.2.1 _ hlk)⟩, w8, hts _ w1⟩ hp rfl hln Z.sz hstack hcats hd ⟨by omega, by omega⟩
theorem e_objInit {idx id : Nat} (hd : decode cc pc = .ok (.invokespecial idx, 3)) (h1 : Cond.methodLink nm.cls idx Lib.objectInit ∈ x_big) (h2 : Cond.instanceMethod Lib.objectInit ∈ x_big) (h3 : Cond.code Lib.objectInit ⟨#[0xb1]⟩ 1 none ∈ x_big) (hcat : (st.map x_cat).sum ≤ 8)
    (k : Ev g nm cc nL rt hh dd (pc + 3) L st h K S o h') : Ev g nm cc nL rt hh dd pc L (x_r id :: st) h K S o h' := by
  intro p e R s m args below meth c Q ad H locs cells slots ls Z
  have hts := Z.1.2.2.2.2.2.1
  have hR := Z.2.2.2.2.2.2.1
  refine W.objInit Z.x Z.b Z.1.2.2.2.2.1 (hts _ h1) (hts _ h2) (hts _ h3) rfl (by rw [Z.1.2.2.2.1]; exact Z.sz) rfl hd (by omega) ?_ ?_
  · rw [x_cats]; show 2 * 0 + _ + 12 ≤ _; omega
  · exact k p e R s m args below meth c Q ad H locs cells slots ls Z.pop
end XCALL
