/-! The rows that read and write the memory. -/
def x_upr (f : Nat → Nat → Option Nat) (id k : Nat) (x : Option Nat) : Nat → Nat → Option Nat := fun i j => if i = id ∧ j = k then x else f i j
theorem x_up_id {f : xM} {id k : Nat} {x : Int} {i : Nat} (h : i ≠ id) : x_up f id k x i = f i := by
  funext j; simp [x_up, h]
theorem x_upr_id {f : Nat → Nat → Option Nat} {id k : Nat} {x : Option Nat} {i : Nat} (h : i ≠ id) : x_upr f id k x i = f i := by
  funext j; simp [x_upr, h]
theorem x_ws_at {g : xG} {ad : Nat → Nat} {h : xH} {q0 id kind len : Nat} (hq : h.1[q0]? = some (id, kind, len)) : (x_ws g ad h)[q0]? = some (ad id, x_e g ad kind len (h.2.1 id) (h.2.2 id)) := by
  rw [x_ws, List.getElem?_map, hq]; rfl
theorem x_ws_set {g : xG} {ad : Nat → Nat} {al : List (Nat × Nat × Nat)} {ro ro' : Nat → Nat → Option Nat} {f f' : xM} {q0 id kind len : Nat} {w : va_E} (hn : (al.map (·.1)).Nodup) (hq : al[q0]? = some (id, kind, len))
    (h1 : ∀ i, i ≠ id → ro' i = ro i) (h2 : ∀ i, i ≠ id → f' i = f i) (hw : w = x_e g ad kind len (ro' id) (f' id)) : (x_ws g ad (al, ro, f)).set q0 (ad id, w) = x_ws g ad (al, ro', f') := by
  subst hw
  apply List.ext_getElem?
  intro k
  rw [List.getElem?_set, x_ws, x_ws, List.getElem?_map, List.getElem?_map, List.length_map]
  obtain ⟨hlt, hv⟩ := List.getElem?_eq_some_iff.mp hq
  by_cases hk : q0 = k
  · subst hk
    rw [if_pos rfl, if_pos hlt, hq]; rfl
  · rw [if_neg hk]
    cases hc : al[k]? with
    | none => rfl
    | some e =>
      obtain ⟨hlt2, hv2⟩ := List.getElem?_eq_some_iff.mp hc
      have hne : e.1 ≠ id := by
        intro he
        apply hk
        have e1 : (al.map (·.1))[q0]'(by simpa using hlt) = (al.map (·.1))[k]'(by simpa using hlt2) := by
          simp [hv, hv2, he]
        exact (List.getElem_inj hn).mp e1
      simp only [Option.map_some]
      rw [h1 _ hne, h2 _ hne]
theorem x_e_obj {g : xG} {ad : Nat → Nat} {ci len : Nat} {ro : Nat → Option Nat} {f : Nat → Int} (h : ci < 20) : x_e g ad ci len ro f = .inr (ci, (List.range len).map (fun k => x_fv ad ci k (ro k) (f k))) := by
  rw [x_e, if_neg (by omega), if_neg (by omega), if_neg (by omega), if_neg (by omega)]
theorem x_fs_get {ad : Nat → Nat} {ci len k : Nat} {ro : Nat → Option Nat} {f : Nat → Int} (h : k < len) : ((List.range len).map (fun k => x_fv ad ci k (ro k) (f k)))[k]? = some (x_fv ad ci k (ro k) (f k)) := by
  rw [List.getElem?_map, List.getElem?_range h]; rfl
theorem x_fs_set {len k : Nat} {u v : Nat → Value} {w : Value} (hw : w = v k) (ho : ∀ j, j ≠ k → v j = u j) : ((List.range len).map u).set k w = (List.range len).map v := by
  apply List.ext_getElem?
  intro j
  rw [List.getElem?_set, List.getElem?_map, List.getElem?_map, List.length_map, List.length_range]
  by_cases hj : k = j
  · subst hj
    by_cases hl : k < len
    · rw [if_pos rfl, if_pos hl, List.getElem?_range hl, hw]; rfl
    · rw [if_pos rfl, if_neg hl, List.getElem?_eq_none (by simpa using hl)]; rfl
  · rw [if_neg hj]
    cases hc : (List.range len)[j]? with
    | none => rfl
    | some e =>
      obtain ⟨hlt2, hv2⟩ := List.getElem?_eq_some_iff.mp hc
      have : e = j := by rw [← hv2]; simp
      subst this
      simp only [Option.map_some]
      rw [ho _ (fun q => hj q.symm)]
/-- a field's link: pool number idx of class own is field k of class number ci -/
def x_FL (own : String) (idx ci k : Nat) (C : String) (T : u_T) (N : Nat) : Prop :=
  x_cl[ci]? = some (C, T, N) ∧ ci < 20 ∧ k < N ∧ (Cond.fieldLink own idx (T k).1 (T k).2.1 (T k).2.2.1 ∈ x_big ∨ ∃ host, Cond.fieldLinkNest own idx (T k).1 (T k).2.1 (T k).2.2.1 host ∈ x_nst) ∧ (∀ w ∈ u_ws C T N, w ∈ x_big)
def x_FW (ci k : Nat) (T : u_T) (N : Nat) (ty : FieldType) : Prop := (T k).2.2.2 = false ∧ x_tg ci k = 0 ∧ parseFieldDescriptor (T k).2.2.1 = some ty ∧ (∃ ty0 : Nat → FieldType, ∀ k, k < N → parseFieldDescriptor (T k).2.2.1 = some (ty0 k)) ∧ (∀ a, a < N → ∀ b, b < N → a ≠ b → (T a).2.1 ≠ (T b).2.1)
def x_FR (ci k : Nat) (T : u_T) (N : Nat) (own : String) : Prop := (T k).2.2.2 = true ∧ x_tg ci k = 1 ∧ (T k).1 = own ∧ (∃ ty, parseFieldDescriptor (T k).2.2.1 = some ty ∧ ((∃ n, ty = .object n) ∨ ∃ t, ty = .array t)) ∧ (∃ ty0 : Nat → FieldType, ∀ k, k < N → parseFieldDescriptor (T k).2.2.1 = some (ty0 k)) ∧ (∀ a, a < N → ∀ b, b < N → a ≠ b → (T a).2.1 ≠ (T b).2.1)
theorem x_ix {i : Int} {n : Nat} (hr : R32 i) (h0 : 0 ≤ i) (h1 : i < n) : vp_in (Int32.ofInt i) n ∧ (Int32.ofInt i).toNatClampNeg = i.toNat := by
  have e1 : (Int32.ofInt i).toInt = i := x_to32 hr
  have e2 : (Int32.ofInt i).toNatClampNeg = i.toNat := by
    show (Int32.ofInt i).toInt.toNat = i.toNat
    rw [e1]
  refine ⟨vp_in_iff.mpr ?_, e2⟩
  rw [e1]; exact ⟨h0, h1⟩
section XHEAP
variable {g : xG} {nm : MethodName} {cc : ByteArray} {nL : Nat} {rt : Option FieldType} {hh : xHH} {dd pc : Nat} {L : xK} {st : List xV} {h h' : xH} {K S : Nat} {o : xO}
variable {p : Program} {e : Env} {R : Room} {s : State} {m : MethodId} {args : Array Value} {below : List Frame} {meth : Method} {c : Code} {Q : State → Prop} {ad : Nat → Nat} {H : Heap} {locs : List Loc} {cells slots : Nat} {ls : Array Slot}
theorem x_Z.at (Z : x_Z g nm cc nL rt hh dd L st h K S o h' p e R s m args below meth c Q ad H locs cells slots ls) {id kind len : Nat} (hm : (id, kind, len) ∈ h.1) : ∃ q0 : Nat, h.1[q0]? = some (id, kind, len) ∧ (x_ws g ad h)[q0]? = some (ad id, x_e g ad kind len (h.2.1 id) (h.2.2 id)) := by
  obtain ⟨q0, hq⟩ := List.getElem?_of_mem hm
  exact ⟨q0, hq, x_ws_at hq⟩
theorem e_getV {id idx ci k : Nat} {C : String} {T : u_T} {N : Nat} {v : xV} (hd : decode cc pc = .ok (.getfield idx, 3)) (hf : x_FL nm.cls idx ci k C T N) (hm : (id, ci, N) ∈ h.1) (hv : ∀ ad, x_fv ad ci k (h.2.1 id k) (h.2.2 id k) = x_cv ad v) (ho : (∀ e ∈ h.1, ∀ i, x_rng e.2.1 (h.2.2 e.1 i)) → x_ok v)
    (kk : Ev g nm cc nL rt hh dd (pc + 3) L (v :: st) h K S o h') : Ev g nm cc nL rt hh dd pc L (x_r id :: st) h K S o h' := by
  intro p e R s m args below meth c Q ad H locs cells slots ls Z
  obtain ⟨q0, -, hq⟩ := Z.at hm
  obtain ⟨hcl, hci, hk, hl, hin⟩ := hf
  rw [x_e_obj hci] at hq
  have Z2 := Z.pop.push (ho Z.2.1.2.2.2.1)
  rcases hl with hl | ⟨host, hl⟩
  · exact va_get (own := nm.cls) (index := idx) (T := T) (ref := (T k).1) Z.x Z.b Z.1.2.2.2.2.2.1 hin Z.1.2.2.2.2.1 Z.1.2.2.2.2.2.2.2.1 Z.2.1.1 q0 hq hcl k hk (Z.1.2.2.2.2.2.1 _ hl) (fun _ q => q) ((x_fs_get hk).trans (congrArg some (hv ad))) hd (kk p e R s m args below meth c Q ad H locs cells slots ls Z2)
  · exact va_getN (own := nm.cls) (index := idx) (T := T) (ref := (T k).1) (host := host) Z.x Z.b Z.1.2.2.2.2.2.1 hin Z.1.2.2.2.2.1 Z.1.2.2.2.2.2.2.2.1 Z.2.1.1 q0 hq hcl k hk (va_Nw.use rfl (Z.1.2.2.2.2.2.2.2.2.1.2.2.2.2.2.2.2.1 _ hl)) (fun _ q => q) ((x_fs_get hk).trans (congrArg some (hv ad))) hd (kk p e R s m args below meth c Q ad H locs cells slots ls Z2)
/-- getfield of a number -/
theorem e_geti {id idx ci k : Nat} {C : String} {T : u_T} {N : Nat} (hd : decode cc pc = .ok (.getfield idx, 3)) (hf : x_FL nm.cls idx ci k C T N) (hm : (id, ci, N) ∈ h.1) (ht : x_tg ci k = 0)
    (kk : Ev g nm cc nL rt hh dd (pc + 3) L (x_i (h.2.2 id k) :: st) h K S o h') : Ev g nm cc nL rt hh dd pc L (x_r id :: st) h K S o h' :=
  e_getV hd hf hm (fun ad => by rw [x_fv, if_neg (by omega)]; rfl) (fun q => by
    have q2 := q _ hm k
    have hci := hf.2.1
    rw [x_rng, if_neg (show ¬ ci = 21 by omega)] at q2
    exact q2) kk
/-- getfield of a reference -/
theorem e_getr {id idx ci k n : Nat} {C : String} {T : u_T} {N : Nat} (hd : decode cc pc = .ok (.getfield idx, 3)) (hf : x_FL nm.cls idx ci k C T N) (hm : (id, ci, N) ∈ h.1) (ht : x_tg ci k = 1) (hr : h.2.1 id k = some n)
    (kk : Ev g nm cc nL rt hh dd (pc + 3) L (x_r n :: st) h K S o h') : Ev g nm cc nL rt hh dd pc L (x_r id :: st) h K S o h' :=
  e_getV (v := x_r n) hd hf hm (fun ad => by rw [x_fv, if_pos ht, hr]; rfl) (fun _ => trivial) kk
theorem x_Z.mem {h2 : xH} {H2 : Heap} {locs2 : List Loc} (Z : x_Z g nm cc nL rt hh dd L st h K S o h' p e R s m args below meth c Q ad H locs cells slots ls) (hal : h2.1 = h.1) (hP : va_P (x_D g) x_cl (x_ws g ad h2) H2) (hD : va_D (x_A g) (x_ws g ad h2)) (hS : va_S (x_A g) s.heap H2 locs2)
    (hr : ∀ e ∈ h.1, ∀ i, x_rng e.2.1 (h2.2.2 e.1 i)) (hg : ∀ i j n, h2.2.1 i j = some n → n ∈ h.1.map (·.1)) : x_Z g nm cc nL rt hh dd L st h2 K S o h' p e R s m args below meth c Q ad H2 locs2 cells slots ls := by
  obtain ⟨z1, z2, z3, z4, z5, z6, z7, z8, z9, z10⟩ := Z
  refine ⟨z1, ⟨hP, hD, by rw [hal]; exact z2.2.2.1, by rw [hal]; exact hr, by rw [hal]; exact hg, by rw [hal]; exact z2.2.2.2.2.2.1, z2.2.2.2.2.2.2⟩, hS, z4, z5, z6, z7, z8, z9, by rw [hal]; exact z10⟩
theorem x_rng_up {al : List (Nat × Nat × Nat)} {f : xM} {id kind len k : Nat} {x : Int} (hn : (al.map (·.1)).Nodup) (hm : (id, kind, len) ∈ al) (h : ∀ e ∈ al, ∀ i, x_rng e.2.1 (f e.1 i)) (hx : x_rng kind x) : ∀ e ∈ al, ∀ i, x_rng e.2.1 (x_up f id k x e.1 i) := by
  intro e he i
  rw [x_up]
  split
  · rename_i hq
    have : e = (id, kind, len) := by
      obtain ⟨a, ha⟩ := List.getElem?_of_mem he
      obtain ⟨b, hb⟩ := List.getElem?_of_mem hm
      obtain ⟨ha1, ha2⟩ := List.getElem?_eq_some_iff.mp ha
      obtain ⟨hb1, hb2⟩ := List.getElem?_eq_some_iff.mp hb
      have e1 : (al.map (·.1))[a]'(by simpa using ha1) = (al.map (·.1))[b]'(by simpa using hb1) := by simp [ha2, hb2, hq.1]
      have := (List.getElem_inj hn).mp e1
      subst this
      rw [← ha2, ← hb2]
    rw [this]; exact hx
  · exact h e he i
theorem x_gr_up {al : List (Nat × Nat × Nat)} {f : Nat → Nat → Option Nat} {id k n0 : Nat} (h : ∀ i j n, f i j = some n → n ∈ al.map (·.1)) (hn : n0 ∈ al.map (·.1)) : ∀ i j n, x_upr f id k (some n0) i j = some n → n ∈ al.map (·.1) := by
  intro i j n hq
  rw [x_upr] at hq
  split at hq
  · cases hq; exact hn
  · exact h i j n hq
theorem e_putV {id idx ci k : Nat} {C : String} {T : u_T} {N : Nat} {ty : FieldType} {x : Int} (hd : decode cc pc = .ok (.putfield idx, 3)) (hf : x_FL nm.cls idx ci k C T N) (hw : x_FW ci k T N ty) (hm : (id, ci, N) ∈ h.1) (hn : narrow ty (.int (Int32.ofInt x)) = .int (Int32.ofInt x)) (hfit : fits ty (.int (Int32.ofInt x)) = true)
    (kk : Ev g nm cc nL rt hh dd (pc + 3) L st (h.1, h.2.1, x_up h.2.2 id k x) K S o h') : Ev g nm cc nL rt hh dd pc L (x_i x :: x_r id :: st) h K S o h' := by
  intro p e R s m args below meth c Q ad H locs cells slots ls Z
  obtain ⟨q0, hq0, hq⟩ := Z.at hm
  obtain ⟨hcl, hci, hk, hl, hin⟩ := hf
  obtain ⟨w1, w2, w3, ⟨ty0, w4⟩, w5⟩ := hw
  rw [x_e_obj hci] at hq
  have hset := x_ws_set (g := g) (ad := ad) (ro := h.2.1) (ro' := h.2.1) (f := h.2.2) (f' := x_up h.2.2 id k x) (w := .inr (ci, ((List.range N).map (fun k => x_fv ad ci k (h.2.1 id k) (h.2.2 id k))).set k (.int (Int32.ofInt x)))) Z.2.1.2.2.1 hq0 (fun _ _ => rfl) (fun _ q => x_up_id q) (by
    rw [x_e_obj hci]
    congr 2
    refine x_fs_set ?_ ?_
    · simp [x_fv, w2, x_up]
    · intro j hj
      simp [x_fv, x_up, hj])
  have hgo : ∀ (H1 : Heap) (locs1 : List Loc), va_P (x_D g) x_cl ((x_ws g ad h).set q0 (ad id, .inr (ci, ((List.range N).map (fun k => x_fv ad ci k (h.2.1 id k) (h.2.2 id k))).set k (.int (Int32.ofInt x))))) H1 → va_D (x_A g) ((x_ws g ad h).set q0 (ad id, .inr (ci, ((List.range N).map (fun k => x_fv ad ci k (h.2.1 id k) (h.2.2 id k))).set k (.int (Int32.ofInt x))))) → va_S (x_A g) s.heap H1 locs1 →
      W p g.1 e R s m args below meth c H1 locs1 cells slots Q (F0 m (pc + 3) ls (st.map (x_cv ad))) := by
    intro H1 locs1 hP hD hS
    rw [show (x_ws g ad h).set q0 _ = _ from hset] at hP hD
    exact kk p e R s m args below meth c Q ad H1 locs1 cells slots ls (Z.pop.pop.mem (h2 := (h.1, h.2.1, x_up h.2.2 id k x)) rfl hP hD hS (x_rng_up Z.2.1.2.2.1 hm Z.2.1.2.2.2.1 (by
      rw [x_rng, if_neg (by omega)]; exact Z.ok)) Z.2.1.2.2.2.2.1)
  rcases hl with hl | ⟨host, hl⟩
  · exact va_put (own := nm.cls) (index := idx) (T := T) (ref := (T k).1) Z.x Z.b Z.1.2.2.2.2.2.1 hin ty0 w4 w5 Z.1.2.2.2.2.1 Z.1.2.2.2.2.2.2.2.1 Z.2.1.1 Z.2.1.2.1 Z.2.2.1 q0 hq hcl k hk (Z.1.2.2.2.2.2.1 _ hl) (fun _ q => q) w1 w3 hn hfit (by simpa using hk) hd hgo
  · exact va_putN (own := nm.cls) (index := idx) (T := T) (ref := (T k).1) (host := host) Z.x Z.b Z.1.2.2.2.2.2.1 hin ty0 w4 w5 Z.1.2.2.2.2.1 Z.1.2.2.2.2.2.2.2.1 Z.2.1.1 Z.2.1.2.1 Z.2.2.1 q0 hq hcl k hk (va_Nw.use rfl (Z.1.2.2.2.2.2.2.2.2.1.2.2.2.2.2.2.2.1 _ hl)) (fun _ q => q) w1 w3 hn hfit (by simpa using hk) hd hgo
theorem e_puti {id idx ci k : Nat} {C : String} {T : u_T} {N : Nat} {x : Int} (hd : decode cc pc = .ok (.putfield idx, 3)) (hf : x_FL nm.cls idx ci k C T N) (hw : x_FW ci k T N .int) (hm : (id, ci, N) ∈ h.1)
    (kk : Ev g nm cc nL rt hh dd (pc + 3) L st (h.1, h.2.1, x_up h.2.2 id k x) K S o h') : Ev g nm cc nL rt hh dd pc L (x_i x :: x_r id :: st) h K S o h' := e_putV hd hf hw hm rfl rfl kk
theorem x_bool {x : Int} (hx : x = 0 ∨ x = 1) : narrow .boolean (.int (Int32.ofInt x)) = .int (Int32.ofInt x) ∧ fits .boolean (.int (Int32.ofInt x)) = true := by
  rcases hx with rfl | rfl <;> exact ⟨by decide, by decide⟩
theorem e_putz {id idx ci k : Nat} {C : String} {T : u_T} {N : Nat} {x : Int} (hd : decode cc pc = .ok (.putfield idx, 3)) (hf : x_FL nm.cls idx ci k C T N) (hw : x_FW ci k T N .boolean) (hx : x = 0 ∨ x = 1) (hm : (id, ci, N) ∈ h.1)
    (kk : Ev g nm cc nL rt hh dd (pc + 3) L st (h.1, h.2.1, x_up h.2.2 id k x) K S o h') : Ev g nm cc nL rt hh dd pc L (x_i x :: x_r id :: st) h K S o h' := e_putV hd hf hw hm (x_bool hx).1 (x_bool hx).2 kk
/-- putfield of a reference, in a constructor of its class -/
theorem e_putr {id idx ci k n : Nat} {C : String} {T : u_T} {N : Nat} (hd : decode cc pc = .ok (.putfield idx, 3)) (hf : x_FL nm.cls idx ci k C T N) (hw : x_FR ci k T N nm.cls) (hin2 : nm.name = "<init>") (hm : (id, ci, N) ∈ h.1) (hne : Cond.fieldLink nm.cls idx (T k).1 (T k).2.1 (T k).2.2.1 ∈ x_big) (hnn : n ∈ h.1.map (·.1))
    (kk : Ev g nm cc nL rt hh dd (pc + 3) L st (h.1, x_upr h.2.1 id k (some n), h.2.2) K S o h') : Ev g nm cc nL rt hh dd pc L (x_r n :: x_r id :: st) h K S o h' := by
  intro p e R s m args below meth c Q ad H locs cells slots ls Z
  obtain ⟨q0, hq0, hq⟩ := Z.at hm
  obtain ⟨hcl, hci, hk, -, hin⟩ := hf
  obtain ⟨w1, w2, w3, ⟨ty, w6, w7⟩, ⟨ty0, w4⟩, w5⟩ := hw
  rw [x_e_obj hci] at hq
  have hset := x_ws_set (g := g) (ad := ad) (ro := h.2.1) (ro' := x_upr h.2.1 id k (some n)) (f := h.2.2) (f' := h.2.2) (w := .inr (ci, ((List.range N).map (fun k => x_fv ad ci k (h.2.1 id k) (h.2.2 id k))).set k (x_cv ad (x_r n)))) Z.2.1.2.2.1 hq0 (fun _ q => x_upr_id q) (fun _ _ => rfl) (by
    rw [x_e_obj hci]
    congr 2
    refine x_fs_set ?_ ?_
    · simp [x_fv, w2, x_upr, va_rf, x_cv, x_r]
    · intro j hj
      simp [x_fv, x_upr, hj])
  have hnar : narrow ty (.ref (ad n)) = .ref (ad n) := by rcases w7 with ⟨q, rfl⟩ | ⟨q, rfl⟩ <;> rfl
  have hfit : fits ty (.ref (ad n)) = true := by rcases w7 with ⟨q, rfl⟩ | ⟨q, rfl⟩ <;> rfl
  refine va_putF (own := nm.cls) (index := idx) (T := T) (ref := (T k).1) Z.x Z.b Z.1.2.2.2.2.2.1 hin ty0 w4 w5 Z.1.2.2.2.2.1 Z.1.2.2.2.2.2.2.2.1 Z.2.1.1 Z.2.1.2.1 Z.2.2.1 q0 hq hcl k hk (Z.1.2.2.2.2.2.1 _ hne) (fun _ q => q) w1 (by rw [Z.1.2.2.2.2.2.2.2.2.2.2.1]; exact hin2) w3 w6 hnar hfit (by simpa using hk) hd ?_
  intro H1 locs1 hP hD hS
  rw [show (x_ws g ad h).set q0 _ = _ from hset] at hP hD
  exact kk p e R s m args below meth c Q ad H1 locs1 cells slots ls (Z.pop.pop.mem (h2 := (h.1, x_upr h.2.1 id k (some n), h.2.2)) rfl hP hD hS Z.2.1.2.2.2.1 (x_gr_up Z.2.1.2.2.2.2.1 hnn))
theorem e_iaload {id len : Nat} {i : Int} (hd : decode cc pc = .ok (.iaload, 1)) (hm : (id, 20, len) ∈ h.1) (h0 : 0 ≤ i) (h1 : i < len) (k : Ev g nm cc nL rt hh dd (pc + 1) L (x_i (h.2.2 id i.toNat) :: st) h K S o h') : Ev g nm cc nL rt hh dd pc L (x_i i :: x_r id :: st) h K S o h' := by
  intro p e R s m args below meth c Q ad H locs cells slots ls Z
  obtain ⟨q0, -, hq⟩ := Z.at hm
  obtain ⟨hv, he⟩ := x_ix Z.ok h0 h1
  have hr := Z.2.1.2.2.2.1 _ hm i.toNat
  refine va_iald Z.x Z.b Z.1.2.2.2.2.2.2.2.1 Z.2.1.1 q0 0 hq rfl hv hd ?_
  rw [he]
  exact k p e R s m args below meth c Q ad H locs cells slots ls (Z.pop.pop.push hr)

theorem e_laload {id len : Nat} {i : Int} (hd : decode cc pc = .ok (.laload, 1)) (hm : (id, 21, len) ∈ h.1) (h0 : 0 ≤ i) (h1 : i < len) (k : Ev g nm cc nL rt hh dd (pc + 1) L (x_l (h.2.2 id i.toNat) :: st) h K S o h') : Ev g nm cc nL rt hh dd pc L (x_i i :: x_r id :: st) h K S o h' := by
  intro p e R s m args below meth c Q ad H locs cells slots ls Z
  obtain ⟨q0, -, hq⟩ := Z.at hm
  obtain ⟨hv, he⟩ := x_ix Z.ok h0 h1
  have hr := Z.2.1.2.2.2.1 _ hm i.toNat
  refine va_lald Z.x Z.b Z.1.2.2.2.2.2.2.2.1 Z.2.1.1 q0 1 hq rfl hv hd ?_
  rw [he]
  exact k p e R s m args below meth c Q ad H locs cells slots ls (Z.pop.pop.push hr)

theorem e_zaload {id len : Nat} {i : Int} (hd : decode cc pc = .ok (.baload, 1)) (hm : (id, 22, len) ∈ h.1) (h0 : 0 ≤ i) (h1 : i < len) (k : Ev g nm cc nL rt hh dd (pc + 1) L (x_i (h.2.2 id i.toNat) :: st) h K S o h') : Ev g nm cc nL rt hh dd pc L (x_i i :: x_r id :: st) h K S o h' := by
  intro p e R s m args below meth c Q ad H locs cells slots ls Z
  obtain ⟨q0, -, hq⟩ := Z.at hm
  obtain ⟨hv, he⟩ := x_ix Z.ok h0 h1
  have hr := Z.2.1.2.2.2.1 _ hm i.toNat
  refine va_zald Z.x Z.b Z.1.2.2.2.2.2.2.2.1 Z.2.1.1 q0 2 hq rfl hv hd ?_
  rw [he]
  exact k p e R s m args below meth c Q ad H locs cells slots ls (Z.pop.pop.push hr)

theorem e_aaload {id len n : Nat} {i : Int} (hd : decode cc pc = .ok (.aaload, 1)) (hm : (id, 23, len) ∈ h.1) (h0 : 0 ≤ i) (h1 : i < len) (hr : h.2.1 id i.toNat = some n) (k : Ev g nm cc nL rt hh dd (pc + 1) L (x_r n :: st) h K S o h') : Ev g nm cc nL rt hh dd pc L (x_i i :: x_r id :: st) h K S o h' := by
  intro p e R s m args below meth c Q ad H locs cells slots ls Z
  obtain ⟨q0, -, hq⟩ := Z.at hm
  obtain ⟨hv, he⟩ := x_ix Z.ok h0 h1
  refine va_aldq Z.x Z.b Z.1.2.2.2.2.2.2.2.1 Z.2.1.1 q0 3 hq rfl hv hd ?_
  rw [he, hr]
  exact k p e R s m args below meth c Q ad H locs cells slots ls (Z.pop.pop.push trivial)

theorem e_iastore {id len : Nat} {i x : Int} (hd : decode cc pc = .ok (.iastore, 1)) (hm : (id, 20, len) ∈ h.1) (h0 : 0 ≤ i) (h1 : i < len) (k : Ev g nm cc nL rt hh dd (pc + 1) L st (h.1, h.2.1, x_up h.2.2 id i.toNat x) K S o h') : Ev g nm cc nL rt hh dd pc L (x_i x :: x_i i :: x_r id :: st) h K S o h' := by
  intro p e R s m args below meth c Q ad H locs cells slots ls Z
  obtain ⟨q0, hq0, hq⟩ := Z.at hm
  obtain ⟨hv, he⟩ := x_ix Z.pop.ok h0 h1
  have hset := x_ws_set (g := g) (ad := ad) (ro := h.2.1) (ro' := h.2.1) (f := h.2.2) (f' := x_up h.2.2 id i.toNat x) (w := .inl (x_cA g 0, len, .inl (upd (fun i => Int32.ofInt (h.2.2 id i)) (Int32.ofInt i).toNatClampNeg (Int32.ofInt x)))) Z.2.1.2.2.1 hq0 (fun _ _ => rfl) (fun _ q => x_up_id q) (by
    have hfe : upd (fun i => Int32.ofInt (h.2.2 id i)) i.toNat (Int32.ofInt x) = fun j => Int32.ofInt (x_up h.2.2 id i.toNat x id j) := by
      funext j
      by_cases hj : j = i.toNat
      · subst hj; simp [upd, x_up]
      · simp [upd, x_up, hj]
    rw [he, hfe]
    rfl)
  refine va_iast Z.x Z.b Z.1.2.2.2.2.2.2.2.1 Z.2.1.1 Z.2.1.2.1 Z.2.2.1 q0 0 hq rfl hv hd ?_
  intro H1 locs1 hP hD hS
  rw [show (x_ws g ad h).set q0 _ = _ from hset] at hP hD
  exact k p e R s m args below meth c Q ad H1 locs1 cells slots ls (Z.pop.pop.pop.mem (h2 := (h.1, h.2.1, x_up h.2.2 id i.toNat x)) rfl hP hD hS (x_rng_up Z.2.1.2.2.1 hm Z.2.1.2.2.2.1 Z.ok) Z.2.1.2.2.2.2.1)

theorem e_lastore {id len : Nat} {i x : Int} (hd : decode cc pc = .ok (.lastore, 1)) (hm : (id, 21, len) ∈ h.1) (h0 : 0 ≤ i) (h1 : i < len) (k : Ev g nm cc nL rt hh dd (pc + 1) L st (h.1, h.2.1, x_up h.2.2 id i.toNat x) K S o h') : Ev g nm cc nL rt hh dd pc L (x_l x :: x_i i :: x_r id :: st) h K S o h' := by
  intro p e R s m args below meth c Q ad H locs cells slots ls Z
  obtain ⟨q0, hq0, hq⟩ := Z.at hm
  obtain ⟨hv, he⟩ := x_ix Z.pop.ok h0 h1
  have hset := x_ws_set (g := g) (ad := ad) (ro := h.2.1) (ro' := h.2.1) (f := h.2.2) (f' := x_up h.2.2 id i.toNat x) (w := .inl (x_cA g 1, len, .inr (.inl (vp_updL (fun i => Int64.ofInt (h.2.2 id i)) (Int32.ofInt i).toNatClampNeg (Int64.ofInt x))))) Z.2.1.2.2.1 hq0 (fun _ _ => rfl) (fun _ q => x_up_id q) (by
    have hfe : vp_updL (fun i => Int64.ofInt (h.2.2 id i)) i.toNat (Int64.ofInt x) = fun j => Int64.ofInt (x_up h.2.2 id i.toNat x id j) := by
      funext j
      by_cases hj : j = i.toNat
      · subst hj; simp [vp_updL, x_up]
      · simp [vp_updL, x_up, hj]
    rw [he, hfe]
    rfl)
  refine va_last Z.x Z.b Z.1.2.2.2.2.2.2.2.1 Z.2.1.1 Z.2.1.2.1 Z.2.2.1 q0 1 hq rfl hv hd ?_
  intro H1 locs1 hP hD hS
  rw [show (x_ws g ad h).set q0 _ = _ from hset] at hP hD
  exact k p e R s m args below meth c Q ad H1 locs1 cells slots ls (Z.pop.pop.pop.mem (h2 := (h.1, h.2.1, x_up h.2.2 id i.toNat x)) rfl hP hD hS (x_rng_up Z.2.1.2.2.1 hm Z.2.1.2.2.2.1 Z.ok) Z.2.1.2.2.2.2.1)

theorem e_zastore {id len : Nat} {i x : Int} (hd : decode cc pc = .ok (.bastore, 1)) (hm : (id, 22, len) ∈ h.1) (h0 : 0 ≤ i) (h1 : i < len) (hx : x = 0 ∨ x = 1) (k : Ev g nm cc nL rt hh dd (pc + 1) L st (h.1, h.2.1, x_up h.2.2 id i.toNat x) K S o h') : Ev g nm cc nL rt hh dd pc L (x_i x :: x_i i :: x_r id :: st) h K S o h' := by
  intro p e R s m args below meth c Q ad H locs cells slots ls Z
  obtain ⟨q0, hq0, hq⟩ := Z.at hm
  obtain ⟨hv, he⟩ := x_ix Z.pop.ok h0 h1
  have hset := x_ws_set (g := g) (ad := ad) (ro := h.2.1) (ro' := h.2.1) (f := h.2.2) (f' := x_up h.2.2 id i.toNat x) (w := .inl (x_cA g 2, len, .inl (upd (fun i => Int32.ofInt (h.2.2 id i)) (Int32.ofInt i).toNatClampNeg (vp_nar .boolean (Int32.ofInt x))))) Z.2.1.2.2.1 hq0 (fun _ _ => rfl) (fun _ q => x_up_id q) (by
    have hnr : vp_nar .boolean (Int32.ofInt x) = Int32.ofInt x := by rcases hx with rfl | rfl <;> decide
    have hfe : upd (fun i => Int32.ofInt (h.2.2 id i)) i.toNat (Int32.ofInt x) = fun j => Int32.ofInt (x_up h.2.2 id i.toNat x id j) := by
      funext j
      by_cases hj : j = i.toNat
      · subst hj; simp [upd, x_up]
      · simp [upd, x_up, hj]
    rw [hnr, he, hfe]
    rfl)
  refine va_zast Z.x Z.b Z.1.2.2.2.2.2.2.2.1 Z.2.1.1 Z.2.1.2.1 Z.2.2.1 q0 2 hq rfl hv hd ?_
  intro H1 locs1 hP hD hS
  rw [show (x_ws g ad h).set q0 _ = _ from hset] at hP hD
  exact k p e R s m args below meth c Q ad H1 locs1 cells slots ls (Z.pop.pop.pop.mem (h2 := (h.1, h.2.1, x_up h.2.2 id i.toNat x)) rfl hP hD hS (x_rng_up Z.2.1.2.2.1 hm Z.2.1.2.2.2.1 Z.ok) Z.2.1.2.2.2.2.1)

theorem e_aastore {id len n fl : Nat} {i : Int} (hd : decode cc pc = .ok (.aastore, 1)) (hm : (id, 23, len) ∈ h.1) (h0 : 0 ≤ i) (h1 : i < len) (hn : (n, 1, fl) ∈ h.1) (k : Ev g nm cc nL rt hh dd (pc + 1) L st (h.1, x_upr h.2.1 id i.toNat (some n), h.2.2) K S o h') : Ev g nm cc nL rt hh dd pc L (x_r n :: x_i i :: x_r id :: st) h K S o h' := by
  intro p e R s m args below meth c Q ad H locs cells slots ls Z
  obtain ⟨q0, hq0, hq⟩ := Z.at hm
  obtain ⟨qk, -, hk⟩ := Z.at hn
  obtain ⟨hv, he⟩ := x_ix Z.pop.ok h0 h1
  have hset := x_ws_set (g := g) (ad := ad) (ro := h.2.1) (ro' := x_upr h.2.1 id i.toNat (some n)) (f := h.2.2) (f' := h.2.2) (w := .inl (x_cA g 3, len, .inr (.inr (.inr (.inr (va_up (fun i => (h.2.1 id i).map ad) (Int32.ofInt i).toNatClampNeg (some (ad n)))))))) Z.2.1.2.2.1 hq0 (fun _ q => x_upr_id q) (fun _ _ => rfl) (by
    have hfe : va_up (fun i => (h.2.1 id i).map ad) i.toNat (some (ad n)) = fun j => (x_upr h.2.1 id i.toNat (some n) id j).map ad := by
      funext j
      by_cases hj : j = i.toNat
      · subst hj; simp [va_up, x_upr]
      · simp [va_up, x_upr, hj]
    rw [he, hfe]
    rfl)
  rw [x_e_obj (by omega)] at hk
  refine va_astq (r := (RX1, TX1, 12)) Z.x Z.b Z.1.2.2.2.2.2.2.2.1 Z.2.1.1 Z.2.1.2.1 Z.2.2.1 q0 3 qk 1 hq rfl hk rfl hv hd ?_
  intro H1 locs1 hP hD hS
  rw [show (x_ws g ad h).set q0 _ = _ from hset] at hP hD
  exact k p e R s m args below meth c Q ad H1 locs1 cells slots ls (Z.pop.pop.pop.mem (h2 := (h.1, x_upr h.2.1 id i.toNat (some n), h.2.2)) rfl hP hD hS Z.2.1.2.2.2.1 (x_gr_up Z.2.1.2.2.2.2.1 (List.mem_map.mpr ⟨_, hn, rfl⟩)))

theorem e_alen_i {id len : Nat} (hd : decode cc pc = .ok (.arraylength, 1)) (hm : (id, 20, len) ∈ h.1) (hl : len < 2147483648) (k : Ev g nm cc nL rt hh dd (pc + 1) L (x_i (len : Int) :: st) h K S o h') : Ev g nm cc nL rt hh dd pc L (x_r id :: st) h K S o h' := by
  intro p e R s m args below meth c Q ad H locs cells slots ls Z
  obtain ⟨q0, -, hq⟩ := Z.at hm
  refine va_alen (v := Int32.ofInt (len : Int)) Z.x Z.b Z.1.2.2.2.2.2.2.2.1 Z.2.1.1 q0 0 hq rfl (by exact (Int32.ofInt_eq_ofNat (n := len)).symm) hd ?_
  exact k p e R s m args below meth c Q ad H locs cells slots ls (Z.pop.push ⟨by omega, by omega⟩)

theorem e_alen_l {id len : Nat} (hd : decode cc pc = .ok (.arraylength, 1)) (hm : (id, 21, len) ∈ h.1) (hl : len < 2147483648) (k : Ev g nm cc nL rt hh dd (pc + 1) L (x_i (len : Int) :: st) h K S o h') : Ev g nm cc nL rt hh dd pc L (x_r id :: st) h K S o h' := by
  intro p e R s m args below meth c Q ad H locs cells slots ls Z
  obtain ⟨q0, -, hq⟩ := Z.at hm
  refine va_alen (v := Int32.ofInt (len : Int)) Z.x Z.b Z.1.2.2.2.2.2.2.2.1 Z.2.1.1 q0 1 hq rfl (by exact (Int32.ofInt_eq_ofNat (n := len)).symm) hd ?_
  exact k p e R s m args below meth c Q ad H locs cells slots ls (Z.pop.push ⟨by omega, by omega⟩)

theorem e_alen_z {id len : Nat} (hd : decode cc pc = .ok (.arraylength, 1)) (hm : (id, 22, len) ∈ h.1) (hl : len < 2147483648) (k : Ev g nm cc nL rt hh dd (pc + 1) L (x_i (len : Int) :: st) h K S o h') : Ev g nm cc nL rt hh dd pc L (x_r id :: st) h K S o h' := by
  intro p e R s m args below meth c Q ad H locs cells slots ls Z
  obtain ⟨q0, -, hq⟩ := Z.at hm
  refine va_alen (v := Int32.ofInt (len : Int)) Z.x Z.b Z.1.2.2.2.2.2.2.2.1 Z.2.1.1 q0 2 hq rfl (by exact (Int32.ofInt_eq_ofNat (n := len)).symm) hd ?_
  exact k p e R s m args below meth c Q ad H locs cells slots ls (Z.pop.push ⟨by omega, by omega⟩)

theorem e_alen_a {id len : Nat} (hd : decode cc pc = .ok (.arraylength, 1)) (hm : (id, 23, len) ∈ h.1) (hl : len < 2147483648) (k : Ev g nm cc nL rt hh dd (pc + 1) L (x_i (len : Int) :: st) h K S o h') : Ev g nm cc nL rt hh dd pc L (x_r id :: st) h K S o h' := by
  intro p e R s m args below meth c Q ad H locs cells slots ls Z
  obtain ⟨q0, -, hq⟩ := Z.at hm
  refine va_alen (v := Int32.ofInt (len : Int)) Z.x Z.b Z.1.2.2.2.2.2.2.2.1 Z.2.1.1 q0 3 hq rfl (by exact (Int32.ofInt_eq_ofNat (n := len)).symm) hd ?_
  exact k p e R s m args below meth c Q ad H locs cells slots ls (Z.pop.push ⟨by omega, by omega⟩)

theorem e_slen (hd : decode cc pc = .ok (.arraylength, 1)) (hl : x_L g < 2147483648) (k : Ev g nm cc nL rt hh dd (pc + 1) L (x_i (x_L g : Int) :: st) h K S o h') : Ev g nm cc nL rt hh dd pc L (x_r 1 :: st) h K S o h' := by
  intro p e R s m args below meth c Q ad H locs cells slots ls Z
  have hE := Z.1.2.2.2.2.2.2.2.2.1
  show W _ _ _ _ _ _ _ _ _ _ _ _ _ _ _ (F0 m pc ls (.ref (ad 1) :: _))
  rw [Z.2.1.2.2.2.2.2.2.1]
  refine va_slen Z.x Z.b hE.2.2.1 (Nat.lt_of_lt_of_le hE.2.1 hE.1) (fun q => Nat.not_le.mpr hE.2.1 q) Z.2.2.1 hd ?_
  have := k p e R s m args below meth c Q ad H locs cells slots ls (Z.pop.push (v := x_i (x_L g : Int)) ⟨by omega, by omega⟩)
  rw [List.map_cons, x_cv_i, Int32.ofInt_eq_ofNat] at this
  exact this

theorem e_sld {i : Int} (hd : decode cc pc = .ok (.iaload, 1)) (h0 : 0 ≤ i) (h1 : i < x_L g) (k : Ev g nm cc nL rt hh dd (pc + 1) L (x_i (x_xs g i.toNat).toInt :: st) h K S o h') : Ev g nm cc nL rt hh dd pc L (x_i i :: x_r 1 :: st) h K S o h' := by
  intro p e R s m args below meth c Q ad H locs cells slots ls Z
  have hE := Z.1.2.2.2.2.2.2.2.2.1
  obtain ⟨hv, he⟩ := x_ix Z.ok h0 h1
  show W _ _ _ _ _ _ _ _ _ _ _ _ _ _ _ (F0 m pc ls (_ :: .ref (ad 1) :: _))
  rw [Z.2.1.2.2.2.2.2.2.1]
  refine va_sld Z.x Z.b hE.2.2.1 (Nat.lt_of_lt_of_le hE.2.1 hE.1) (fun q => Nat.not_le.mpr hE.2.1 q) Z.2.2.1 hv hd ?_
  rw [he]
  have := k p e R s m args below meth c Q ad H locs cells slots ls (Z.pop.pop.push (v := x_i (x_xs g i.toNat).toInt) (x_r32 _))
  rw [List.map_cons, x_cv_i, x_of32] at this
  exact this

/-! new cells -/
def x_fr (al : List (Nat × Nat × Nat)) (id : Nat) : Prop := id ∉ al.map (·.1) ∧ id < x_s0 ∧ 16 ≤ id
def x_nw (f : xM) (id : Nat) : xM := fun i j => if i = id then 0 else f i j
def x_nwr (f : Nat → Nat → Option Nat) (id : Nat) : Nat → Nat → Option Nat := fun i j => if i = id then none else f i j
theorem x_ws_new {g : xG} {ad : Nat → Nat} {al : List (Nat × Nat × Nat)} {ro : Nat → Nat → Option Nat} {f : xM} {id kind len q : Nat} {w : va_E} (hf : id ∉ al.map (·.1))
    (hw : w = x_e g (fun n => if n = id then q else ad n) kind len (fun _ => none) (fun _ => 0)) (hg : ∀ e ∈ al, ∀ j n, ro e.1 j = some n → n ≠ id) :
    x_ws g ad (al, ro, f) ++ [(q, w)] = x_ws g (fun n => if n = id then q else ad n) (al ++ [(id, kind, len)], x_nwr ro id, x_nw f id) := by
  rw [x_ws, x_ws, List.map_append]
  congr 1
  · refine List.map_congr_left fun e he => ?_
    have hne : e.1 ≠ id := fun q => hf (List.mem_map.mpr ⟨e, he, q⟩)
    have h1 : x_nwr ro id e.1 = ro e.1 := by funext j; simp [x_nwr, hne]
    have h2 : x_nw f id e.1 = f e.1 := by funext j; simp [x_nw, hne]
    simp only [if_neg hne]
    rw [h1, h2]
    have h3 : ∀ j, (ro e.1 j).map (fun n => if n = id then q else ad n) = (ro e.1 j).map ad := by
      intro j
      cases hr : ro e.1 j with
      | none => rfl
      | some n => simp [hg e he j n hr]
    congr 1
    unfold x_e x_fv
    simp only [h3]
  · subst hw
    simp only [List.map_cons, List.map_nil, if_pos]
    have h1 : x_nwr ro id id = fun _ => none := by funext j; simp [x_nwr]
    have h2 : x_nw f id id = fun _ => 0 := by funext j; simp [x_nw]
    rw [h1, h2]
theorem x_Z.new {id kind len K2 S2 q : Nat} {H2 : Heap} {v : xV} (hv : v = x_r id) (Z : x_Z g nm cc nL rt hh dd L st h (K + K2) (S + S2) o h' p e R s m args below meth c Q ad H locs cells slots ls) (hf : x_fr h.1 id)
    (hP : va_P (x_D g) x_cl (x_ws g (fun n => if n = id then q else ad n) (h.1 ++ [(id, kind, len)], x_nwr h.2.1 id, x_nw h.2.2 id)) H2) (hD : va_D (x_A g) (x_ws g (fun n => if n = id then q else ad n) (h.1 ++ [(id, kind, len)], x_nwr h.2.1 id, x_nw h.2.2 id))) (hS : va_S (x_A g) s.heap H2 locs)
    (hL : ∀ (i n : Nat), L[i]? = some (some (x_r n)) → n ≠ id) (hst : ∀ n, x_r n ∈ st → n ≠ id) :
    x_Z g nm cc nL rt hh dd L (v :: st) (h.1 ++ [(id, kind, len)], x_nwr h.2.1 id, x_nw h.2.2 id) K S o h' p e R s m args below meth c Q (fun n => if n = id then q else ad n) H2 locs (cells + K2) (slots + S2) ls ∧ .ref q :: st.map (x_cv ad) = (v :: st).map (x_cv (fun n => if n = id then q else ad n)) := by
  subst hv
  obtain ⟨z1, z2, z3, z4, z5, z6, z7, z8, z9, z10⟩ := Z
  have hcv : ∀ v : xV, (∀ n, v = x_r n → n ≠ id) → x_cv (fun n => if n = id then q else ad n) v = x_cv ad v := by
    intro v hv
    rcases v with x | r | x
    · rfl
    · cases r with
      | none => rfl
      | some n => simp [x_cv, hv n rfl]
    · rfl
  refine ⟨⟨z1, ⟨hP, hD, ?_, ?_, ?_, ?_, ?_, ?_, ?_⟩, hS, ?_, ?_, z6, z7, by omega, by omega, ?_⟩, ?_⟩
  · rw [List.map_append, List.nodup_append]
    refine ⟨z2.2.2.1, by simp, ?_⟩
    intro a ha b hb
    simp at hb
    subst hb
    exact fun hq => hf.1 (hq ▸ ha)
  · intro e he i
    rcases List.mem_append.mp he with he | he
    · have hne : e.1 ≠ id := fun q => hf.1 (List.mem_map.mpr ⟨e, he, q⟩)
      have := z2.2.2.2.1 e he i
      simpa [x_nw, hne] using this
    · simp at he
      subst he
      simp only [x_nw, if_pos]
      rw [x_rng]
      split
      · exact ⟨by omega, by omega⟩
      · exact ⟨by omega, by omega⟩
  · intro i j n hq
    simp only [x_nwr] at hq
    split at hq
    · cases hq
    · rw [List.map_append]
      exact List.mem_append_left _ (z2.2.2.2.2.1 i j n hq)
  · intro e he
    rcases List.mem_append.mp he with he | he
    · exact z2.2.2.2.2.2.1 e he
    · simp at he
      subst he
      exact hf.2
  · show (if 1 = id then q else ad 1) = x_b g
    rw [if_neg (by have := hf.2.2; omega)]
    exact z2.2.2.2.2.2.2.1
  · show (if 2 = id then q else ad 2) = x_fm g
    rw [if_neg (by have := hf.2.2; omega)]
    exact z2.2.2.2.2.2.2.2.1
  · intro i hi
    show (if x_s0 + i = id then q else ad (x_s0 + i)) = x_sK g i ∧ (if 2 * x_s0 + i = id then q else ad (2 * x_s0 + i)) = x_sV g i
    rw [if_neg (by have := hf.2.1; omega), if_neg (by have := hf.2.1; omega)]
    exact z2.2.2.2.2.2.2.2.2 i hi
  · refine ⟨z4.1, z4.2.1, fun q2 hq2 => z4.2.2 q2 ?_⟩
    obtain ⟨k, v, h1, h2⟩ := (x_as_mem _ _ _).mp hq2
    refine (x_as_mem _ _ _).mpr ⟨k, v, h1, ?_⟩
    rw [h2, hcv v (fun n hn => hL k n (by rw [h1, hn]))]
  · intro v hv
    rcases List.mem_cons.mp hv with hv | hv
    · subst hv; trivial
    · exact z5 v hv
  · have hx : ∀ ad', x_ext (fun n => if n = id then q else ad n) ad' (h.1 ++ [(id, kind, len)]) h'.1 → x_ext ad ad' h.1 h'.1 := by
      intro ad' hx
      refine ⟨fun n hn => ?_, ?_, fun hl => ?_⟩
      · have hne : n ≠ id := fun q => hf.1 (q ▸ hn)
        obtain ⟨a1, a2⟩ := hx.1 n (by rw [List.map_append]; exact List.mem_append_left _ hn)
        refine ⟨a1, ?_⟩
        rw [a2]
        show (if n = id then q else ad n) = ad n
        rw [if_neg hne]
      · have := hx.2.1
        simp at this
        omega
      · have := hx.2.1
        simp at this
        omega
    rcases o with vo | E
    · exact fun ad' H' locs' cells' slots' ls' pc' q1 q2 q3 q4 q5 q6 => z10 ad' H' locs' cells' slots' ls' pc' (hx ad' q1) q2 q3 (by omega) (by omega) q6
    · exact fun ad' H' locs' cells' slots' ls' pc' rest q ce q1 q2 q3 q4 q5 q6 q7 q8 q9 => z10 ad' H' locs' cells' slots' ls' pc' rest q ce (hx ad' q1) q2 q3 (by omega) (by omega) q6 q7 q8 q9
  · rw [List.map_cons]
    congr 1
    · show _ = Value.ref (if id = id then q else ad id)
      rw [if_pos rfl]
    · exact List.map_congr_left fun v hv => (hcv v (fun n hn => hst n (hn ▸ hv))).symm
/-- no reference to a cell among locals, or on the stack -/
def x_nL (id : Nat) (L : xK) : Bool := L.all fun v => match v with
  | some (.inr (.inl (some n))) => n != id
  | _ => true
def x_nS9 (id : Nat) (st : List xV) : Bool := st.all fun v => match v with
  | .inr (.inl (some n)) => n != id
  | _ => true
theorem x_nL_of {id : Nat} {L : xK} (h : x_nL id L = true) : ∀ (i n : Nat), L[i]? = some (some (x_r n)) → n ≠ id := by
  intro i n hi
  have := List.all_eq_true.mp h _ (List.mem_of_getElem? hi)
  simpa [x_r] using this
theorem x_nS_of {id : Nat} {st : List xV} (h : x_nS9 id st = true) : ∀ n, x_r n ∈ st → n ≠ id := by
  intro n hn
  have := List.all_eq_true.mp h _ hn
  simpa [x_r] using this
/-- what 'new' wants of a class: its number, its words, what its fields hold at first -/
def x_NL (own : String) (idx ci : Nat) (C : String) (T : u_T) (N : Nat) : Prop :=
  x_cl[ci]? = some (C, T, N) ∧ ci < 20 ∧ Cond.classLink own idx C ∈ x_big ∧ Cond.instantiable C N ∈ x_big ∧ Cond.initialized C ∈ x_big ∧ (∀ w ∈ u_ws C T N, w ∈ x_big) ∧
  ∃ ty0 : Nat → FieldType, (∀ k, k < N → parseFieldDescriptor (T k).2.2.1 = some (ty0 k)) ∧ ∀ j, j < N → defaultValue (ty0 j) = x_fv (fun n => n) ci j none 0
theorem e_new {idx ci id : Nat} {C : String} {T : u_T} {N : Nat} (hd : decode cc pc = .ok (.new idx, 3)) (hn : x_NL nm.cls idx ci C T N) (hf : x_fr h.1 id) (hL : x_nL id L = true) (hst : x_nS9 id st = true)
    (kk : Ev g nm cc nL rt hh dd (pc + 3) L (x_r id :: st) (h.1 ++ [(id, ci, N)], x_nwr h.2.1 id, x_nw h.2.2 id) K S o h') : Ev g nm cc nL rt hh dd pc L st h (K + 1) (S + N) o h' := by
  intro p e R s m args below meth c Q ad H locs cells slots ls Z
  obtain ⟨hcl, hci, w1, w2, w3, hin, ty0, hty, hdf⟩ := hn
  refine va_new (own := nm.cls) (index := idx) (fs := (List.range N).map (fun k => x_fv ad ci k none 0)) Z.x Z.b Z.1.2.2.2.2.2.1 hin ty0 hty Z.1.2.2.2.2.1 (Z.1.2.2.2.2.2.1 _ w1) (Z.1.2.2.2.2.2.1 _ w2) (Z.1.2.2.2.2.2.1 _ w3) Z.1.2.2.2.2.2.2.2.1 Z.2.1.1 Z.2.1.2.1 Z.2.2.1 (fun q hq => Nat.le_trans Z.1.2.2.2.2.2.2.2.2.1.1 hq) hcl ?_ ?_ ?_ hd ?_
  · intro j hj
    rw [hdf j hj, vp_V, List.getD_eq_getElem?_getD, List.getElem?_map, List.getElem?_range hj]
    rfl
  · have := Z.2.2.2.2.2.2.2.1; omega
  · have := Z.2.2.2.2.2.2.2.2.1; omega
  · intro q H1 hP hD hS
    have hws := x_ws_new (g := g) (ad := ad) (al := h.1) (ro := h.2.1) (f := h.2.2) (id := id) (kind := ci) (len := N) (q := q) (w := .inr (ci, (List.range N).map (fun k => x_fv ad ci k none 0))) hf.1 (by
      rw [x_e_obj hci]
      congr 2) (fun e he j n hq q2 => hf.1 (q2 ▸ Z.2.1.2.2.2.2.1 _ _ _ hq))
    rw [show x_ws g ad h ++ [_] = _ from hws] at hP hD
    obtain ⟨Z2, hs⟩ := Z.new rfl hf hP hD hS (x_nL_of hL) (x_nS_of hst)
    rw [hs]
    exact kk p e R s m args below meth c Q _ H1 locs _ _ ls Z2
theorem e_newarray_i {id n : Nat} (hd : decode cc pc = .ok (.newarray .int, 2)) (hw : Cond.arrayClass .int ∈ x_big) (hN : n ≤ 1000000) (hf : x_fr h.1 id) (hL : x_nL id L = true) (hst : x_nS9 id st = true)
    (kk : Ev g nm cc nL rt hh dd (pc + 2) L (x_r id :: st) (h.1 ++ [(id, 20, n)], x_nwr h.2.1 id, x_nw h.2.2 id) K S o h') : Ev g nm cc nL rt hh dd pc L (x_i (n : Int) :: st) h (K + 1) (S + n) o h' := by
  intro p e R s m args below meth c Q ad H locs cells slots ls Z
  have hR : R32 (n : Int) := ⟨by omega, by omega⟩
  have e1 : (Int32.ofInt (n : Int)).toInt = n := x_to32 hR
  refine va_newa (atype := .int) (ty := .int) (N' := n) (a0 := (n, .inl (fun _ => 0))) Z.x Z.b (Z.1.2.2.2.2.2.1 _ hw) rfl Z.1.2.2.2.2.2.2.2.1 Z.2.1.1 Z.2.1.2.1 Z.2.2.1 (fun q hq => Nat.le_trans Z.1.2.2.2.2.2.2.2.2.1.1 hq) (fun cA => rfl) ?_ ?_ ?_ ?_ ?_ hd ?_
  · rw [← x_z32, x_lt32 hR x_k32]; omega
  · show (Int32.ofInt (n : Int)).toInt.toNat = n
    rw [e1]; omega
  · show n * 4 ≤ 536870912
    omega
  · have := Z.2.2.2.2.2.2.2.1; omega
  · have := Z.2.2.2.2.2.2.2.2.1; omega
  · intro q cA H1 hKn hP hD hS
    have hcA : cA = x_cA g 0 := by
      have h1 := (hKn.2 4 (cA, .int) rfl).2
      have h2 := (hKn.2 0 (x_cA g 0, .int) rfl).2
      exact Option.some.inj (Eq.trans (Eq.symm h1) h2)
    subst hcA
    have hws := x_ws_new (g := g) (ad := ad) (al := h.1) (ro := h.2.1) (f := h.2.2) (id := id) (kind := 20) (len := n) (q := q) (w := .inl (x_cA g 0, n, .inl (fun _ => 0))) hf.1 (by
      simp only [x_e]
      rfl) (fun e he j n hq q2 => hf.1 (q2 ▸ Z.2.1.2.2.2.2.1 _ _ _ hq))
    rw [show x_ws g ad h ++ [_] = _ from hws] at hP hD
    obtain ⟨Z2, hs⟩ := Z.pop.new rfl hf hP hD hS (x_nL_of hL) (x_nS_of hst)
    rw [hs]
    exact kk p e R s m args below meth c Q _ H1 locs _ _ ls Z2
theorem e_newarray_l {id n : Nat} (hd : decode cc pc = .ok (.newarray .long, 2)) (hw : Cond.arrayClass .long ∈ x_big) (hN : n ≤ 1000000) (hf : x_fr h.1 id) (hL : x_nL id L = true) (hst : x_nS9 id st = true)
    (kk : Ev g nm cc nL rt hh dd (pc + 2) L (x_r id :: st) (h.1 ++ [(id, 21, n)], x_nwr h.2.1 id, x_nw h.2.2 id) K S o h') : Ev g nm cc nL rt hh dd pc L (x_i (n : Int) :: st) h (K + 1) (S + n) o h' := by
  intro p e R s m args below meth c Q ad H locs cells slots ls Z
  have hR : R32 (n : Int) := ⟨by omega, by omega⟩
  have e1 : (Int32.ofInt (n : Int)).toInt = n := x_to32 hR
  refine va_newa (atype := .long) (ty := .long) (N' := n) (a0 := (n, .inr (.inl (fun _ => 0)))) Z.x Z.b (Z.1.2.2.2.2.2.1 _ hw) rfl Z.1.2.2.2.2.2.2.2.1 Z.2.1.1 Z.2.1.2.1 Z.2.2.1 (fun q hq => Nat.le_trans Z.1.2.2.2.2.2.2.2.2.1.1 hq) (fun cA => rfl) ?_ ?_ ?_ ?_ ?_ hd ?_
  · rw [← x_z32, x_lt32 hR x_k32]; omega
  · show (Int32.ofInt (n : Int)).toInt.toNat = n
    rw [e1]; omega
  · show n * 8 ≤ 536870912
    omega
  · have := Z.2.2.2.2.2.2.2.1; omega
  · have := Z.2.2.2.2.2.2.2.2.1; omega
  · intro q cA H1 hKn hP hD hS
    have hcA : cA = x_cA g 1 := by
      have h1 := (hKn.2 4 (cA, .long) rfl).2
      have h2 := (hKn.2 1 (x_cA g 1, .long) rfl).2
      exact Option.some.inj (Eq.trans (Eq.symm h1) h2)
    subst hcA
    have hws := x_ws_new (g := g) (ad := ad) (al := h.1) (ro := h.2.1) (f := h.2.2) (id := id) (kind := 21) (len := n) (q := q) (w := .inl (x_cA g 1, n, .inr (.inl (fun _ => 0)))) hf.1 (by
      simp only [x_e]
      rfl) (fun e he j n hq q2 => hf.1 (q2 ▸ Z.2.1.2.2.2.2.1 _ _ _ hq))
    rw [show x_ws g ad h ++ [_] = _ from hws] at hP hD
    obtain ⟨Z2, hs⟩ := Z.pop.new rfl hf hP hD hS (x_nL_of hL) (x_nS_of hst)
    rw [hs]
    exact kk p e R s m args below meth c Q _ H1 locs _ _ ls Z2
theorem e_newarray_z {id n : Nat} (hd : decode cc pc = .ok (.newarray .boolean, 2)) (hw : Cond.arrayClass .boolean ∈ x_big) (hN : n ≤ 1000000) (hf : x_fr h.1 id) (hL : x_nL id L = true) (hst : x_nS9 id st = true)
    (kk : Ev g nm cc nL rt hh dd (pc + 2) L (x_r id :: st) (h.1 ++ [(id, 22, n)], x_nwr h.2.1 id, x_nw h.2.2 id) K S o h') : Ev g nm cc nL rt hh dd pc L (x_i (n : Int) :: st) h (K + 1) (S + n) o h' := by
  intro p e R s m args below meth c Q ad H locs cells slots ls Z
  have hR : R32 (n : Int) := ⟨by omega, by omega⟩
  have e1 : (Int32.ofInt (n : Int)).toInt = n := x_to32 hR
  refine va_newa (atype := .boolean) (ty := .boolean) (N' := n) (a0 := (n, .inl (fun _ => 0))) Z.x Z.b (Z.1.2.2.2.2.2.1 _ hw) rfl Z.1.2.2.2.2.2.2.2.1 Z.2.1.1 Z.2.1.2.1 Z.2.2.1 (fun q hq => Nat.le_trans Z.1.2.2.2.2.2.2.2.2.1.1 hq) (fun cA => rfl) ?_ ?_ ?_ ?_ ?_ hd ?_
  · rw [← x_z32, x_lt32 hR x_k32]; omega
  · show (Int32.ofInt (n : Int)).toInt.toNat = n
    rw [e1]; omega
  · show n * 1 ≤ 536870912
    omega
  · have := Z.2.2.2.2.2.2.2.1; omega
  · have := Z.2.2.2.2.2.2.2.2.1; omega
  · intro q cA H1 hKn hP hD hS
    have hcA : cA = x_cA g 2 := by
      have h1 := (hKn.2 4 (cA, .boolean) rfl).2
      have h2 := (hKn.2 2 (x_cA g 2, .boolean) rfl).2
      exact Option.some.inj (Eq.trans (Eq.symm h1) h2)
    subst hcA
    have hws := x_ws_new (g := g) (ad := ad) (al := h.1) (ro := h.2.1) (f := h.2.2) (id := id) (kind := 22) (len := n) (q := q) (w := .inl (x_cA g 2, n, .inl (fun _ => 0))) hf.1 (by
      simp only [x_e]
      rfl) (fun e he j n hq q2 => hf.1 (q2 ▸ Z.2.1.2.2.2.2.1 _ _ _ hq))
    rw [show x_ws g ad h ++ [_] = _ from hws] at hP hD
    obtain ⟨Z2, hs⟩ := Z.pop.new rfl hf hP hD hS (x_nL_of hL) (x_nS_of hst)
    rw [hs]
    exact kk p e R s m args below meth c Q _ H1 locs _ _ ls Z2
theorem e_anewarray {id n idx : Nat} (hd : decode cc pc = .ok (.anewarray idx, 3)) (hw : Cond.arrayOver (.object "SeasonWalks$Cloister") ∈ x_nst) (hw2 : Cond.classLink nm.cls idx "SeasonWalks$Cloister" ∈ x_big) (hN : n ≤ 1000000) (hf : x_fr h.1 id) (hL : x_nL id L = true) (hst : x_nS9 id st = true)
    (kk : Ev g nm cc nL rt hh dd (pc + 3) L (x_r id :: st) (h.1 ++ [(id, 23, n)], x_nwr h.2.1 id, x_nw h.2.2 id) K S o h') : Ev g nm cc nL rt hh dd pc L (x_i (n : Int) :: st) h (K + 1) (S + n) o h' := by
  intro p e R s m args below meth c Q ad H locs cells slots ls Z
  have hR : R32 (n : Int) := ⟨by omega, by omega⟩
  have e1 : (Int32.ofInt (n : Int)).toInt = n := x_to32 hR
  refine va_newq (N' := n) Z.x Z.b Z.1.2.2.2.2.1 (Z.1.2.2.2.2.2.1 _ hw2) (va_AO.of (A := #[]) (Z.1.2.2.2.2.2.2.2.2.1.2.2.2.2.2.2.2.1 _ hw)) Z.1.2.2.2.2.2.2.2.1 Z.2.1.1 Z.2.1.2.1 Z.2.2.1 (fun q hq => Nat.le_trans Z.1.2.2.2.2.2.2.2.2.1.1 hq) ?_ ?_ ?_ ?_ ?_ hd ?_
  · rw [← x_z32, x_lt32 hR x_k32]; omega
  · show (Int32.ofInt (n : Int)).toInt.toNat = n
    rw [e1]; omega
  · omega
  · have := Z.2.2.2.2.2.2.2.1; omega
  · have := Z.2.2.2.2.2.2.2.2.1; omega
  · intro q cA H1 hKn hP hD hS
    have hcA : cA = x_cA g 3 := by
      obtain ⟨k1, c1, -, -, -, h1⟩ := (hKn.2 4 (cA, .object "SeasonWalks$Cloister") rfl).2
      obtain ⟨k2, c2, -, -, -, h2⟩ := (hKn.2 3 (x_cA g 3, .object "SeasonWalks$Cloister") rfl).2
      exact Option.some.inj (h1.symm.trans h2)
    subst hcA
    have hws := x_ws_new (g := g) (ad := ad) (al := h.1) (ro := h.2.1) (f := h.2.2) (id := id) (kind := 23) (len := n) (q := q) (w := .inl (x_cA g 3, n, .inr (.inr (.inr (.inr (fun _ => none)))))) hf.1 (by
      simp only [x_e]
      rfl) (fun e he j n hq q2 => hf.1 (q2 ▸ Z.2.1.2.2.2.2.1 _ _ _ hq))
    rw [show x_ws g ad h ++ [_] = _ from hws] at hP hD
    obtain ⟨Z2, hs⟩ := Z.pop.new rfl hf hP hD hS (x_nL_of hL) (x_nS_of hst)
    rw [hs]
    exact kk p e R s m args below meth c Q _ H1 locs _ _ ls Z2
end XHEAP
