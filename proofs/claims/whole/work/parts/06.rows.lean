/-! What a stretch of code does, from a place on: Ev. One row an instruction. -/
abbrev xO : Type := Option xV ⊕ Nat
abbrev xK : Type := List (Option xV)
abbrev xHH : Type := List (Nat × Nat × Nat × Nat)
def x_ext (ad ad' : Nat → Nat) (al al' : List (Nat × Nat × Nat)) : Prop := (∀ n, n ∈ al.map (·.1) → n ∈ al'.map (·.1) ∧ ad' n = ad n) ∧ al.length ≤ al'.length ∧ (al'.length = al.length → ad' = ad)
theorem x_ext.rf {ad : Nat → Nat} {al : List (Nat × Nat × Nat)} : x_ext ad ad al al := ⟨fun _ q => ⟨q, rfl⟩, Nat.le_refl _, fun _ => rfl⟩
theorem x_ext.tr {a b c : Nat → Nat} {x y z : List (Nat × Nat × Nat)} (h : x_ext a b x y) (k : x_ext b c y z) : x_ext a c x z :=
  ⟨fun n q => ⟨(k.1 n (h.1 n q).1).1, ((k.1 n (h.1 n q).1).2).trans (h.1 n q).2⟩, Nat.le_trans h.2.1 k.2.1, fun q => (k.2.2 (by have := h.2.1; have := k.2.1; omega)).trans (h.2.2 (by have := h.2.1; have := k.2.1; omega))⟩
def x_as (ad : Nat → Nat) : Nat → xK → List (Nat × Value)
  | _, [] => []
  | i, none :: t => x_as ad (i + 1) t
  | i, some v :: t => (i, x_cv ad v) :: x_as ad (i + 1) t
theorem x_as_mem {ad : Nat → Nat} : ∀ (L : xK) (i : Nat) (q : Nat × Value), q ∈ x_as ad i L ↔ ∃ k v, L[k]? = some (some v) ∧ q = (i + k, x_cv ad v) := by
  intro L
  induction L with
  | nil => intro i q; simp [x_as]
  | cons a t ih =>
    intro i q
    cases a with
    | none =>
      rw [x_as, ih]
      constructor
      · rintro ⟨k, v, h1, h2⟩
        exact ⟨k + 1, v, by simpa using h1, by rw [h2]; congr 1; omega⟩
      · rintro ⟨k, v, h1, h2⟩
        cases k with
        | zero => simp at h1
        | succ k => exact ⟨k, v, by simpa using h1, by rw [h2]; congr 1; omega⟩
    | some w =>
      rw [x_as, List.mem_cons, ih]
      constructor
      · rintro (h | ⟨k, v, h1, h2⟩)
        · exact ⟨0, w, by simp, h⟩
        · exact ⟨k + 1, v, by simpa using h1, by rw [h2]; congr 1; omega⟩
      · rintro ⟨k, v, h1, h2⟩
        cases k with
        | zero =>
          have : w = v := by simpa using h1
          subst this
          exact Or.inl h2
        | succ k => exact Or.inr ⟨k, v, by simpa using h1, by rw [h2]; congr 1; omega⟩
theorem x_ls_get {ad : Nat → Nat} {ls : Array Slot} {nL : Nat} {L : xK} (h : lv_has ls nL (x_as ad 0 L)) {i : Nat} {v : xV} (hi : L[i]? = some (some v)) : ls[i]? = some (.val (x_cv ad v)) :=
  h.2.2 (i, x_cv ad v) ((x_as_mem L 0 _).mpr ⟨i, v, hi, by rw [Nat.zero_add]⟩)
/-- no long lies just below place i -/
def x_nl (L : xK) : Nat → Bool
  | 0 => true
  | i + 1 => match L[i]? with
    | some (some (.inr (.inr _))) => false
    | _ => true
theorem x_ls_set {ad : Nat → Nat} {ls : Array Slot} {nL : Nat} {L : xK} {i : Nat} {v : xV} (hn : x_nl L i = true) (hc : x_cat v = 1)
    (h : lv_has ls nL ((i, x_cv ad v) :: (x_as ad 0 L).filter (fun q => !(q.1 == i) && !(q.1 + 1 == i && q.2.category == 2)))) : lv_has ls nL (x_as ad 0 (L.set i (some v))) := by
  refine ⟨h.1, h.2.1, fun q hq => h.2.2 q ?_⟩
  obtain ⟨k, w, h1, h2⟩ := (x_as_mem _ _ _).mp hq
  rw [Nat.zero_add] at h2
  subst h2
  rw [List.getElem?_set] at h1
  by_cases hk : i = k
  · subst hk
    by_cases hl : i < L.length
    · rw [if_pos rfl, if_pos hl] at h1
      cases h1
      exact List.mem_cons_self
    · rw [if_pos rfl, if_neg hl] at h1
      cases h1
  · rw [if_neg hk] at h1
    refine List.mem_cons_of_mem _ (List.mem_filter.mpr ⟨(x_as_mem _ _ _).mpr ⟨k, w, h1, by rw [Nat.zero_add]⟩, ?_⟩)
    have h3 : (k == i) = false := by simp; omega
    simp only [h3, x_cv_cat]
    cases i with
    | zero => simp
    | succ j =>
      by_cases hj : k = j
      · subst hj
        simp only [x_nl, h1] at hn
        rcases w with w | w | w
        · simp [x_cat]
        · simp [x_cat]
        · simp at hn
      · have : (k + 1 == j + 1) = false := by simp; omega
        simp [this]
def x_set2 (L : xK) (i : Nat) (v : xV) : xK := (L.set i (some v)).set (i + 1) none
theorem x_ls_set2 {ad : Nat → Nat} {ls : Array Slot} {nL : Nat} {L : xK} {i : Nat} {v : xV} (hn : x_nl L i = true)
    (h : lv_has ls nL ((i, x_cv ad v) :: (x_as ad 0 L).filter (fun q => !(q.1 == i) && (!(q.1 == i + 1) && !(q.1 + 1 == i && q.2.category == 2))))) : lv_has ls nL (x_as ad 0 (x_set2 L i v)) := by
  refine ⟨h.1, h.2.1, fun q hq => h.2.2 q ?_⟩
  obtain ⟨k, w, h1, h2⟩ := (x_as_mem _ _ _).mp hq
  rw [Nat.zero_add] at h2
  subst h2
  rw [x_set2, List.getElem?_set] at h1
  by_cases hk1 : i + 1 = k
  · subst hk1
    rw [if_pos rfl] at h1
    split at h1 <;> simp at h1
  rw [if_neg hk1, List.getElem?_set] at h1
  by_cases hk : i = k
  · subst hk
    by_cases hl : i < L.length
    · rw [if_pos rfl, if_pos hl] at h1
      cases h1
      exact List.mem_cons_self
    · rw [if_pos rfl, if_neg hl] at h1
      cases h1
  · rw [if_neg hk] at h1
    refine List.mem_cons_of_mem _ (List.mem_filter.mpr ⟨(x_as_mem _ _ _).mpr ⟨k, w, h1, by rw [Nat.zero_add]⟩, ?_⟩)
    have h3 : (k == i) = false := by simp; omega
    have h4 : (k == i + 1) = false := by simp; omega
    simp only [h3, h4, x_cv_cat]
    cases i with
    | zero => simp
    | succ j =>
      by_cases hj : k = j
      · subst hj
        simp only [x_nl, h1] at hn
        rcases w with w | w | w
        · simp [x_cat]
        · simp [x_cat]
        · simp at hn
      · have : (k + 1 == j + 1) = false := by simp; omega
        simp [this]
theorem x_ok_set {L : xK} {i : Nat} {v : xV} (h : ∀ w, some w ∈ L → x_ok w) (hv : x_ok v) : ∀ w, some w ∈ L.set i (some v) → x_ok w := by
  intro w hw
  rcases List.mem_or_eq_of_mem_set hw with h1 | h1
  · exact h w h1
  · cases h1; exact hv
theorem x_ok_set2 {L : xK} {i : Nat} {v : xV} (h : ∀ w, some w ∈ L → x_ok w) (hv : x_ok v) : ∀ w, some w ∈ x_set2 L i v → x_ok w := by
  intro w hw
  rcases List.mem_or_eq_of_mem_set hw with h1 | h1
  · exact x_ok_set h hv w h1
  · cases h1
def x_C (g : xG) (nm : MethodName) (cc : ByteArray) (nL : Nat) (rt : Option FieldType) (hh : xHH) (p : Program) (s : State) (m : MethodId) (args : Array Value) (meth : Method) (c : Code) : Prop :=
  p.tables.exec = Jvm.exec ∧ c.code = cc ∧ meth.sig.returnType = rt ∧ c.maxLocals = nL ∧ s.vm.findClass nm.cls = some m.cls ∧ (∀ w ∈ x_big, w.before args s = true) ∧ meth.locks = false ∧
  va_K (x_D g) x_cl (x_tys g) s ∧ x_E g s s.heap ∧ c.exceptionTable.toList = tableOf hh ∧ meth.name = nm.name ∧ g.1.stackTraces = false
def x_ret (cc : ByteArray) (rt : Option FieldType) (pc : Nat) : Option xV → Prop
  | none => rt = none ∧ decode cc pc = .ok (.return_, 1)
  | some (.inl x) => decode cc pc = .ok (.ireturn, 1) ∧ (∃ ty, rt = some ty ∧ narrow ty (.int (Int32.ofInt x)) = .int (Int32.ofInt x)) ∧ R32 x
  | some (.inr (.inl _)) => decode cc pc = .ok (.areturn, 1) ∧ ∃ ty, rt = some ty ∧ ((∃ n, ty = .object n) ∨ ∃ t, ty = .array t)
  | some (.inr (.inr _)) => False
def x_Fin (g : xG) (cc : ByteArray) (rt : Option FieldType) (p : Program) (e : Env) (R : Room) (s : State) (m : MethodId) (args : Array Value) (below : List Frame) (meth : Method) (c : Code) (Q : State → Prop) (ad : Nat → Nat) (al : List (Nat × Nat × Nat)) (KK SS : Nat) (h' : xH) : xO → Prop
  | .inl vo => ∀ (ad' : Nat → Nat) (H' : Heap) (locs' : List Loc) (cells' slots' : Nat) (ls' : Array Slot) (pc' : Nat), x_ext ad ad' al h'.1 → x_W g ad' h' H' → va_S (x_A g) s.heap H' locs' → cells' ≤ KK → slots' ≤ SS → x_ret cc rt pc' vo →
      W p g.1 e R s m args below meth c H' locs' cells' slots' Q (F0 m pc' ls' (vo.toList.map (x_cv ad')))
  | .inr E => ∀ (ad' : Nat → Nat) (H' : Heap) (locs' : List Loc) (cells' slots' : Nat) (ls' : Array Slot) (pc' : Nat) (rest : List Value) (q : Addr) (ce : Cell), x_ext ad ad' al h'.1 → x_W g ad' h' H' → va_S (x_A g) s.heap H' locs' → cells' ≤ KK → slots' ≤ SS →
      (∀ x ∈ c.exceptionTable.toList, covers x pc' = false) → H'[q]? = some ce → ce.vm = .none → s.vm.findClass (x_en.getD E "") = some ce.cls → vx_W p g.1 e R s m args below meth c H' locs' cells' slots' Q (F0 m pc' ls' rest) q
def x_Z (g : xG) (nm : MethodName) (cc : ByteArray) (nL : Nat) (rt : Option FieldType) (hh : xHH) (dd : Nat) (L : xK) (st : List xV) (h : xH) (K S : Nat) (o : xO) (h' : xH) (p : Program) (e : Env) (R : Room) (s : State) (m : MethodId) (args : Array Value) (below : List Frame) (meth : Method) (c : Code) (Q : State → Prop) (ad : Nat → Nat) (H : Heap) (locs : List Loc) (cells slots : Nat) (ls : Array Slot) : Prop :=
  x_C g nm cc nL rt hh p s m args meth c ∧ x_W g ad h H ∧ va_S (x_A g) s.heap H locs ∧ lv_has ls nL (x_as ad 0 L) ∧ (∀ v ∈ st, x_ok v) ∧ (∀ v, some v ∈ L → x_ok v) ∧
  (dd + 12 ≤ R.frames ∧ 64 * dd + 600 ≤ R.locals) ∧ cells + K ≤ R.cells ∧ slots + S ≤ R.slots ∧ x_Fin g cc rt p e R s m args below meth c Q ad h.1 (cells + K) (slots + S) h' o
/-- from the place pc on, with these locals, this stack and this memory, the method comes to the outcome o and leaves h'; at most K cells of S slots are new; dd calls may stand open -/
def Ev (g : xG) (nm : MethodName) (cc : ByteArray) (nL : Nat) (rt : Option FieldType) (hh : xHH) (dd pc : Nat) (L : xK) (st : List xV) (h : xH) (K S : Nat) (o : xO) (h' : xH) : Prop :=
  ∀ (p : Program) (e : Env) (R : Room) (s : State) (m : MethodId) (args : Array Value) (below : List Frame) (meth : Method) (c : Code) (Q : State → Prop) (ad : Nat → Nat) (H : Heap) (locs : List Loc) (cells slots : Nat) (ls : Array Slot),
    x_Z g nm cc nL rt hh dd L st h K S o h' p e R s m args below meth c Q ad H locs cells slots ls → W p g.1 e R s m args below meth c H locs cells slots Q (F0 m pc ls (st.map (x_cv ad)))
section XROWS
variable {g : xG} {nm : MethodName} {cc : ByteArray} {nL : Nat} {rt : Option FieldType} {hh : xHH} {dd pc : Nat} {L : xK} {st : List xV} {h h' : xH} {K S : Nat} {o : xO}
variable {p : Program} {e : Env} {R : Room} {s : State} {m : MethodId} {args : Array Value} {below : List Frame} {meth : Method} {c : Code} {Q : State → Prop} {ad : Nat → Nat} {H : Heap} {locs : List Loc} {cells slots : Nat} {ls : Array Slot}
/-- the stack alone is another -/
theorem x_Z.stk {st' : List xV} (Z : x_Z g nm cc nL rt hh dd L st h K S o h' p e R s m args below meth c Q ad H locs cells slots ls) (hk : ∀ v ∈ st', x_ok v) : x_Z g nm cc nL rt hh dd L st' h K S o h' p e R s m args below meth c Q ad H locs cells slots ls :=
  ⟨Z.1, Z.2.1, Z.2.2.1, Z.2.2.2.1, hk, Z.2.2.2.2.2⟩
theorem x_Z.ok {v : xV} (Z : x_Z g nm cc nL rt hh dd L (v :: st) h K S o h' p e R s m args below meth c Q ad H locs cells slots ls) : x_ok v := Z.2.2.2.2.1 v List.mem_cons_self
theorem x_Z.pop {v : xV} (Z : x_Z g nm cc nL rt hh dd L (v :: st) h K S o h' p e R s m args below meth c Q ad H locs cells slots ls) : x_Z g nm cc nL rt hh dd L st h K S o h' p e R s m args below meth c Q ad H locs cells slots ls :=
  Z.stk fun w hw => Z.2.2.2.2.1 w (List.mem_cons_of_mem _ hw)
theorem x_Z.push {v : xV} (Z : x_Z g nm cc nL rt hh dd L st h K S o h' p e R s m args below meth c Q ad H locs cells slots ls) (hv : x_ok v) : x_Z g nm cc nL rt hh dd L (v :: st) h K S o h' p e R s m args below meth c Q ad H locs cells slots ls :=
  Z.stk fun w hw => (List.mem_cons.mp hw).elim (fun q => q ▸ hv) (Z.2.2.2.2.1 w)
theorem x_Z.loc {ls' : Array Slot} {L' : xK} (Z : x_Z g nm cc nL rt hh dd L st h K S o h' p e R s m args below meth c Q ad H locs cells slots ls) (hl : lv_has ls' nL (x_as ad 0 L')) (hk : ∀ v, some v ∈ L' → x_ok v) : x_Z g nm cc nL rt hh dd L' st h K S o h' p e R s m args below meth c Q ad H locs cells slots ls' :=
  ⟨Z.1, Z.2.1, Z.2.2.1, hl, Z.2.2.2.2.1, hk, Z.2.2.2.2.2.2⟩
theorem x_Z.okL {v : xV} {i : Nat} (Z : x_Z g nm cc nL rt hh dd L st h K S o h' p e R s m args below meth c Q ad H locs cells slots ls) (hi : L[i]? = some (some v)) : x_ok v := Z.2.2.2.2.2.1 v (List.mem_of_getElem? hi)
theorem x_Z.sz (Z : x_Z g nm cc nL rt hh dd L st h K S o h' p e R s m args below meth c Q ad H locs cells slots ls) : ls.size = nL := Z.2.2.2.1.1
theorem x_Z.x (Z : x_Z g nm cc nL rt hh dd L st h K S o h' p e R s m args below meth c Q ad H locs cells slots ls) : p.tables.exec = Jvm.exec := Z.1.1
theorem x_Z.b (Z : x_Z g nm cc nL rt hh dd L st h K S o h' p e R s m args below meth c Q ad H locs cells slots ls) : c.code = cc := Z.1.2.1
theorem e_iadd {a b : Int} (hd : decode cc pc = .ok (.iadd, 1)) (k : Ev g nm cc nL rt hh dd (pc + 1) L (x_i (x_add a b) :: st) h K S o h') : Ev g nm cc nL rt hh dd pc L (x_i b :: x_i a :: st) h K S o h' := by
  intro p e R s m args below meth c Q ad H locs cells slots ls Z
  refine lv_iadd Z.x Z.b hd ?_
  have := k p e R s m args below meth c Q ad H locs cells slots ls (Z.pop.pop.push (x_r32 _))
  rw [List.map_cons, x_cv_i, x_add, x_of32] at this
  exact this

theorem e_isub {a b : Int} (hd : decode cc pc = .ok (.isub, 1)) (k : Ev g nm cc nL rt hh dd (pc + 1) L (x_i (x_sub a b) :: st) h K S o h') : Ev g nm cc nL rt hh dd pc L (x_i b :: x_i a :: st) h K S o h' := by
  intro p e R s m args below meth c Q ad H locs cells slots ls Z
  refine lv_isub Z.x Z.b hd ?_
  have := k p e R s m args below meth c Q ad H locs cells slots ls (Z.pop.pop.push (x_r32 _))
  rw [List.map_cons, x_cv_i, x_sub, x_of32] at this
  exact this

theorem e_imul {a b : Int} (hd : decode cc pc = .ok (.imul, 1)) (k : Ev g nm cc nL rt hh dd (pc + 1) L (x_i (x_mul a b) :: st) h K S o h') : Ev g nm cc nL rt hh dd pc L (x_i b :: x_i a :: st) h K S o h' := by
  intro p e R s m args below meth c Q ad H locs cells slots ls Z
  refine lv_imul Z.x Z.b hd ?_
  have := k p e R s m args below meth c Q ad H locs cells slots ls (Z.pop.pop.push (x_r32 _))
  rw [List.map_cons, x_cv_i, x_mul, x_of32] at this
  exact this

theorem e_ishl {a b : Int} (hd : decode cc pc = .ok (.ishl, 1)) (k : Ev g nm cc nL rt hh dd (pc + 1) L (x_i (x_shl a b) :: st) h K S o h') : Ev g nm cc nL rt hh dd pc L (x_i b :: x_i a :: st) h K S o h' := by
  intro p e R s m args below meth c Q ad H locs cells slots ls Z
  refine lv_ishl Z.x Z.b hd ?_
  have := k p e R s m args below meth c Q ad H locs cells slots ls (Z.pop.pop.push (x_r32 _))
  rw [List.map_cons, x_cv_i, x_shl, x_of32] at this
  exact this

theorem e_ishr {a b : Int} (hd : decode cc pc = .ok (.ishr, 1)) (k : Ev g nm cc nL rt hh dd (pc + 1) L (x_i (x_shr a b) :: st) h K S o h') : Ev g nm cc nL rt hh dd pc L (x_i b :: x_i a :: st) h K S o h' := by
  intro p e R s m args below meth c Q ad H locs cells slots ls Z
  refine lv_ishr Z.x Z.b hd ?_
  have := k p e R s m args below meth c Q ad H locs cells slots ls (Z.pop.pop.push (x_r32 _))
  rw [List.map_cons, x_cv_i, x_shr, x_of32] at this
  exact this

theorem e_iand {a b : Int} (hd : decode cc pc = .ok (.iand, 1)) (k : Ev g nm cc nL rt hh dd (pc + 1) L (x_i (x_and a b) :: st) h K S o h') : Ev g nm cc nL rt hh dd pc L (x_i b :: x_i a :: st) h K S o h' := by
  intro p e R s m args below meth c Q ad H locs cells slots ls Z
  refine lv_iand Z.x Z.b hd ?_
  have := k p e R s m args below meth c Q ad H locs cells slots ls (Z.pop.pop.push (x_r32 _))
  rw [List.map_cons, x_cv_i, x_and, x_of32] at this
  exact this

theorem e_ior {a b : Int} (hd : decode cc pc = .ok (.ior, 1)) (k : Ev g nm cc nL rt hh dd (pc + 1) L (x_i (x_or a b) :: st) h K S o h') : Ev g nm cc nL rt hh dd pc L (x_i b :: x_i a :: st) h K S o h' := by
  intro p e R s m args below meth c Q ad H locs cells slots ls Z
  refine lv_ior Z.x Z.b hd ?_
  have := k p e R s m args below meth c Q ad H locs cells slots ls (Z.pop.pop.push (x_r32 _))
  rw [List.map_cons, x_cv_i, x_or, x_of32] at this
  exact this

theorem e_ixor {a b : Int} (hd : decode cc pc = .ok (.ixor, 1)) (k : Ev g nm cc nL rt hh dd (pc + 1) L (x_i (x_xor a b) :: st) h K S o h') : Ev g nm cc nL rt hh dd pc L (x_i b :: x_i a :: st) h K S o h' := by
  intro p e R s m args below meth c Q ad H locs cells slots ls Z
  refine lv_ixor Z.x Z.b hd ?_
  have := k p e R s m args below meth c Q ad H locs cells slots ls (Z.pop.pop.push (x_r32 _))
  rw [List.map_cons, x_cv_i, x_xor, x_of32] at this
  exact this

theorem e_iushr {a b : Int} (hd : decode cc pc = .ok (.iushr, 1)) (k : Ev g nm cc nL rt hh dd (pc + 1) L (x_i (x_ush a b) :: st) h K S o h') : Ev g nm cc nL rt hh dd pc L (x_i b :: x_i a :: st) h K S o h' := by
  intro p e R s m args below meth c Q ad H locs cells slots ls Z
  refine lv_iushr Z.x Z.b hd rfl ?_
  have := k p e R s m args below meth c Q ad H locs cells slots ls (Z.pop.pop.push (x_r32 _))
  rw [List.map_cons, x_cv_i, x_ush, x_of32] at this
  exact this

theorem e_idiv {a b : Int} (hd : decode cc pc = .ok (.idiv, 1)) (hz : b ≠ 0) (k : Ev g nm cc nL rt hh dd (pc + 1) L (x_i (x_div a b) :: st) h K S o h') : Ev g nm cc nL rt hh dd pc L (x_i b :: x_i a :: st) h K S o h' := by
  intro p e R s m args below meth c Q ad H locs cells slots ls Z
  refine lv_idiv Z.x Z.b hd (fun q => hz ((x_eq32 Z.ok x_k32).mp (q.trans x_z32.symm))) ?_
  have := k p e R s m args below meth c Q ad H locs cells slots ls (Z.pop.pop.push (x_r32 _))
  rw [List.map_cons, x_cv_i, x_div, x_of32] at this
  exact this

theorem e_irem {a b : Int} (hd : decode cc pc = .ok (.irem, 1)) (hz : b ≠ 0) (k : Ev g nm cc nL rt hh dd (pc + 1) L (x_i (x_rem a b) :: st) h K S o h') : Ev g nm cc nL rt hh dd pc L (x_i b :: x_i a :: st) h K S o h' := by
  intro p e R s m args below meth c Q ad H locs cells slots ls Z
  refine lv_irem Z.x Z.b hd (fun q => hz ((x_eq32 Z.ok x_k32).mp (q.trans x_z32.symm))) ?_
  have := k p e R s m args below meth c Q ad H locs cells slots ls (Z.pop.pop.push (x_r32 _))
  rw [List.map_cons, x_cv_i, x_rem, x_of32] at this
  exact this

theorem e_ineg {a : Int} (hd : decode cc pc = .ok (.ineg, 1)) (k : Ev g nm cc nL rt hh dd (pc + 1) L (x_i (x_neg a) :: st) h K S o h') : Ev g nm cc nL rt hh dd pc L (x_i a :: st) h K S o h' := by
  intro p e R s m args below meth c Q ad H locs cells slots ls Z
  refine lv_ineg Z.x Z.b hd ?_
  have := k p e R s m args below meth c Q ad H locs cells slots ls (Z.pop.push (x_r32 _))
  rw [List.map_cons, x_cv_i, x_neg, x_of32] at this
  exact this

theorem e_ladd {a b : Int} (hd : decode cc pc = .ok (.ladd, 1)) (k : Ev g nm cc nL rt hh dd (pc + 1) L (x_l (x_ladd a b) :: st) h K S o h') : Ev g nm cc nL rt hh dd pc L (x_l b :: x_l a :: st) h K S o h' := by
  intro p e R s m args below meth c Q ad H locs cells slots ls Z
  refine lv_ladd Z.x Z.b hd ?_
  have := k p e R s m args below meth c Q ad H locs cells slots ls (Z.pop.pop.push (x_r64 _))
  rw [List.map_cons, x_cv_l, x_ladd, x_of64] at this
  exact this

theorem e_lmul {a b : Int} (hd : decode cc pc = .ok (.lmul, 1)) (k : Ev g nm cc nL rt hh dd (pc + 1) L (x_l (x_lmul a b) :: st) h K S o h') : Ev g nm cc nL rt hh dd pc L (x_l b :: x_l a :: st) h K S o h' := by
  intro p e R s m args below meth c Q ad H locs cells slots ls Z
  refine lv_lmul Z.x Z.b hd ?_
  have := k p e R s m args below meth c Q ad H locs cells slots ls (Z.pop.pop.push (x_r64 _))
  rw [List.map_cons, x_cv_l, x_lmul, x_of64] at this
  exact this

theorem e_ldiv {a b : Int} (hd : decode cc pc = .ok (.ldiv, 1)) (hz : b ≠ 0) (k : Ev g nm cc nL rt hh dd (pc + 1) L (x_l (x_ldiv a b) :: st) h K S o h') : Ev g nm cc nL rt hh dd pc L (x_l b :: x_l a :: st) h K S o h' := by
  intro p e R s m args below meth c Q ad H locs cells slots ls Z
  refine lv_ldiv Z.x Z.b hd (fun q => hz ?_) ?_
  · have q2 := congrArg Int64.toInt q
    rw [x_to64 Z.ok] at q2
    exact q2.trans (by decide)
  have := k p e R s m args below meth c Q ad H locs cells slots ls (Z.pop.pop.push (x_r64 _))
  rw [List.map_cons, x_cv_l, x_ldiv, x_of64] at this
  exact this

theorem e_i2l {a : Int} (hd : decode cc pc = .ok (.i2l, 1)) (k : Ev g nm cc nL rt hh dd (pc + 1) L (x_l (x_i2l a) :: st) h K S o h') : Ev g nm cc nL rt hh dd pc L (x_i a :: st) h K S o h' := by
  intro p e R s m args below meth c Q ad H locs cells slots ls Z
  refine lv_i2l Z.x Z.b hd rfl ?_
  have := k p e R s m args below meth c Q ad H locs cells slots ls (Z.pop.push (x_r64 _))
  rw [List.map_cons, x_cv_l, x_i2l, x_of64] at this
  exact this

theorem e_l2i {a : Int} (hd : decode cc pc = .ok (.l2i, 1)) (k : Ev g nm cc nL rt hh dd (pc + 1) L (x_i (x_l2i a) :: st) h K S o h') : Ev g nm cc nL rt hh dd pc L (x_l a :: st) h K S o h' := by
  intro p e R s m args below meth c Q ad H locs cells slots ls Z
  refine lv_l2i Z.x Z.b hd rfl ?_
  have := k p e R s m args below meth c Q ad H locs cells slots ls (Z.pop.push (x_r32 _))
  rw [List.map_cons, x_cv_i, x_l2i, x_of32] at this
  exact this

theorem e_lcmp {a b : Int} (hd : decode cc pc = .ok (.lcmp, 1)) (k : Ev g nm cc nL rt hh dd (pc + 1) L (x_i (x_lcmp a b) :: st) h K S o h') : Ev g nm cc nL rt hh dd pc L (x_l b :: x_l a :: st) h K S o h' := by
  intro p e R s m args below meth c Q ad H locs cells slots ls Z
  refine W.lcmp Z.x Z.b hd ?_
  have := k p e R s m args below meth c Q ad H locs cells slots ls (Z.pop.pop.push (x_r32 _))
  rw [List.map_cons, x_cv_i, x_lcmp, x_of32] at this
  exact this

theorem e_iconst {n : Int} (hd : decode cc pc = .ok (.iconst n, 1)) (hn : R32 n) (k : Ev g nm cc nL rt hh dd (pc + 1) L (x_i n :: st) h K S o h') : Ev g nm cc nL rt hh dd pc L st h K S o h' := by
  intro p e R s m args below meth c Q ad H locs cells slots ls Z
  exact lv_iconst Z.x Z.b hd rfl (k p e R s m args below meth c Q ad H locs cells slots ls (Z.push hn))

theorem e_bipush {n : Int} (hd : decode cc pc = .ok (.bipush n, 2)) (hv : (Int8.ofInt n).toInt32 = Int32.ofInt n) (hn : R32 n) (k : Ev g nm cc nL rt hh dd (pc + 2) L (x_i n :: st) h K S o h') : Ev g nm cc nL rt hh dd pc L st h K S o h' := by
  intro p e R s m args below meth c Q ad H locs cells slots ls Z
  exact lv_bipush Z.x Z.b hd hv (k p e R s m args below meth c Q ad H locs cells slots ls (Z.push hn))

theorem e_sipush {n : Int} (hd : decode cc pc = .ok (.sipush n, 3)) (hv : (Int16.ofInt n).toInt32 = Int32.ofInt n) (hn : R32 n) (k : Ev g nm cc nL rt hh dd (pc + 3) L (x_i n :: st) h K S o h') : Ev g nm cc nL rt hh dd pc L st h K S o h' := by
  intro p e R s m args below meth c Q ad H locs cells slots ls Z
  exact lv_sipush Z.x Z.b hd hv (k p e R s m args below meth c Q ad H locs cells slots ls (Z.push hn))

theorem e_ldc {n : Int} {i : Nat} (hd : decode cc pc = .ok (.ldc i, 2)) (hw : Cond.constant nm.cls i (Int32.ofInt n) ∈ x_big) (hn : R32 n) (k : Ev g nm cc nL rt hh dd (pc + 2) L (x_i n :: st) h K S o h') : Ev g nm cc nL rt hh dd pc L st h K S o h' := by
  intro p e R s m args below meth c Q ad H locs cells slots ls Z
  exact lv_ldc Z.x Z.b Z.1.2.2.2.2.1 (Z.1.2.2.2.2.2.1 _ hw) hd (k p e R s m args below meth c Q ad H locs cells slots ls (Z.push hn))

theorem e_ldcw {n : Int} {i : Nat} (hd : decode cc pc = .ok (.ldc_w i, 3)) (hw : Cond.constant nm.cls i (Int32.ofInt n) ∈ x_big) (hn : R32 n) (k : Ev g nm cc nL rt hh dd (pc + 3) L (x_i n :: st) h K S o h') : Ev g nm cc nL rt hh dd pc L st h K S o h' := by
  intro p e R s m args below meth c Q ad H locs cells slots ls Z
  exact lv_ldcw Z.x Z.b Z.1.2.2.2.2.1 (Z.1.2.2.2.2.2.1 _ hw) hd (k p e R s m args below meth c Q ad H locs cells slots ls (Z.push hn))

theorem e_ldc2 {n : Int} {i : Nat} (hd : decode cc pc = .ok (.ldc2_w i, 3)) (hw : Cond.constantLong nm.cls i (Int64.ofInt n) ∈ x_big) (hn : R64 n) (k : Ev g nm cc nL rt hh dd (pc + 3) L (x_l n :: st) h K S o h') : Ev g nm cc nL rt hh dd pc L st h K S o h' := by
  intro p e R s m args below meth c Q ad H locs cells slots ls Z
  exact lv_ldc2 Z.x Z.b Z.1.2.2.2.2.1 (Z.1.2.2.2.2.2.1 _ hw) hd (k p e R s m args below meth c Q ad H locs cells slots ls (Z.push hn))

theorem e_lconst {n : Fin 2} (hd : decode cc pc = .ok (.lconst n, 1)) (k : Ev g nm cc nL rt hh dd (pc + 1) L (x_l ((n : Nat) : Int) :: st) h K S o h') : Ev g nm cc nL rt hh dd pc L st h K S o h' := by
  intro p e R s m args below meth c Q ad H locs cells slots ls Z
  refine lv_lconst Z.x Z.b hd rfl ?_
  have := k p e R s m args below meth c Q ad H locs cells slots ls (Z.push (show R64 _ from ⟨by have := n.2; omega, by have := n.2; omega⟩))
  exact this

theorem e_null (hd : decode cc pc = .ok (.aconst_null, 1)) (k : Ev g nm cc nL rt hh dd (pc + 1) L (x_n :: st) h K S o h') : Ev g nm cc nL rt hh dd pc L st h K S o h' := by
  intro p e R s m args below meth c Q ad H locs cells slots ls Z
  exact lv_null Z.x Z.b hd (k p e R s m args below meth c Q ad H locs cells slots ls (Z.push trivial))

theorem e_iload {i : Nat} {x : Int} (hd : decode cc pc = .ok (.iload i, 2)) (hl : L[i]? = some (some (x_i x))) (k : Ev g nm cc nL rt hh dd (pc + 2) L (x_i x :: st) h K S o h') : Ev g nm cc nL rt hh dd pc L st h K S o h' := by
  intro p e R s m args below meth c Q ad H locs cells slots ls Z
  exact lv_iload Z.x Z.b hd (x_ls_get Z.2.2.2.1 hl) (k p e R s m args below meth c Q ad H locs cells slots ls (Z.push (Z.okL hl)))

theorem e_iloadn {f : Fin 4} {i : Nat} {x : Int} (hd : decode cc pc = .ok (.iload_n f, 1)) (hf : (f : Nat) = i) (hl : L[i]? = some (some (x_i x))) (k : Ev g nm cc nL rt hh dd (pc + 1) L (x_i x :: st) h K S o h') : Ev g nm cc nL rt hh dd pc L st h K S o h' := by
  intro p e R s m args below meth c Q ad H locs cells slots ls Z
  exact lv_iload_n Z.x Z.b hd hf (x_ls_get Z.2.2.2.1 hl) (k p e R s m args below meth c Q ad H locs cells slots ls (Z.push (Z.okL hl)))

theorem e_lload {i : Nat} {x : Int} (hd : decode cc pc = .ok (.lload i, 2)) (hl : L[i]? = some (some (x_l x))) (k : Ev g nm cc nL rt hh dd (pc + 2) L (x_l x :: st) h K S o h') : Ev g nm cc nL rt hh dd pc L st h K S o h' := by
  intro p e R s m args below meth c Q ad H locs cells slots ls Z
  exact lv_lload Z.x Z.b hd (x_ls_get Z.2.2.2.1 hl) (k p e R s m args below meth c Q ad H locs cells slots ls (Z.push (Z.okL hl)))

theorem e_lloadn {f : Fin 4} {i : Nat} {x : Int} (hd : decode cc pc = .ok (.lload_n f, 1)) (hf : (f : Nat) = i) (hl : L[i]? = some (some (x_l x))) (k : Ev g nm cc nL rt hh dd (pc + 1) L (x_l x :: st) h K S o h') : Ev g nm cc nL rt hh dd pc L st h K S o h' := by
  intro p e R s m args below meth c Q ad H locs cells slots ls Z
  exact lv_lload_n Z.x Z.b hd hf (x_ls_get Z.2.2.2.1 hl) (k p e R s m args below meth c Q ad H locs cells slots ls (Z.push (Z.okL hl)))

theorem e_aload {i : Nat} {x : Nat} (hd : decode cc pc = .ok (.aload i, 2)) (hl : L[i]? = some (some (x_r x))) (k : Ev g nm cc nL rt hh dd (pc + 2) L (x_r x :: st) h K S o h') : Ev g nm cc nL rt hh dd pc L st h K S o h' := by
  intro p e R s m args below meth c Q ad H locs cells slots ls Z
  exact lv_aload Z.x Z.b hd (x_ls_get Z.2.2.2.1 hl) (k p e R s m args below meth c Q ad H locs cells slots ls (Z.push (Z.okL hl)))

theorem e_aloadn {f : Fin 4} {i : Nat} {x : Nat} (hd : decode cc pc = .ok (.aload_n f, 1)) (hf : (f : Nat) = i) (hl : L[i]? = some (some (x_r x))) (k : Ev g nm cc nL rt hh dd (pc + 1) L (x_r x :: st) h K S o h') : Ev g nm cc nL rt hh dd pc L st h K S o h' := by
  intro p e R s m args below meth c Q ad H locs cells slots ls Z
  exact lv_aload_n Z.x Z.b hd hf (x_ls_get Z.2.2.2.1 hl) (k p e R s m args below meth c Q ad H locs cells slots ls (Z.push (Z.okL hl)))

theorem e_istore {i : Nat} {x : Int} (hd : decode cc pc = .ok (.istore i, 2)) (hi : i < nL) (hn : x_nl L i = true) (k : Ev g nm cc nL rt hh dd (pc + 2) (L.set i (some (x_i x))) st h K S o h') : Ev g nm cc nL rt hh dd pc L (x_i x :: st) h K S o h' := by
  intro p e R s m args below meth c Q ad H locs cells slots ls Z
  exact lv_istore Z.x Z.b hd Z.2.2.2.1 hi rfl (fun ls' hls => k p e R s m args below meth c Q ad H locs cells slots ls' (Z.pop.loc (x_ls_set hn rfl hls) (x_ok_set Z.2.2.2.2.2.1 Z.ok)))

theorem e_istoren  {f : Fin 4}{i : Nat} {x : Int} (hd : decode cc pc = .ok (.istore_n f, 1)) (hf : (f : Nat) = i) (hi : i < nL) (hn : x_nl L i = true) (k : Ev g nm cc nL rt hh dd (pc + 1) (L.set i (some (x_i x))) st h K S o h') : Ev g nm cc nL rt hh dd pc L (x_i x :: st) h K S o h' := by
  intro p e R s m args below meth c Q ad H locs cells slots ls Z
  exact lv_istore_n Z.x Z.b hd hf Z.2.2.2.1 hi rfl (fun ls' hls => k p e R s m args below meth c Q ad H locs cells slots ls' (Z.pop.loc (x_ls_set hn rfl hls) (x_ok_set Z.2.2.2.2.2.1 Z.ok)))

theorem e_astore {i : Nat} {x : Nat} (hd : decode cc pc = .ok (.astore i, 2)) (hi : i < nL) (hn : x_nl L i = true) (k : Ev g nm cc nL rt hh dd (pc + 2) (L.set i (some (x_r x))) st h K S o h') : Ev g nm cc nL rt hh dd pc L (x_r x :: st) h K S o h' := by
  intro p e R s m args below meth c Q ad H locs cells slots ls Z
  exact lv_astore Z.x Z.b hd Z.2.2.2.1 hi rfl (fun ls' hls => k p e R s m args below meth c Q ad H locs cells slots ls' (Z.pop.loc (x_ls_set hn rfl hls) (x_ok_set Z.2.2.2.2.2.1 Z.ok)))

theorem e_astoren  {f : Fin 4}{i : Nat} {x : Nat} (hd : decode cc pc = .ok (.astore_n f, 1)) (hf : (f : Nat) = i) (hi : i < nL) (hn : x_nl L i = true) (k : Ev g nm cc nL rt hh dd (pc + 1) (L.set i (some (x_r x))) st h K S o h') : Ev g nm cc nL rt hh dd pc L (x_r x :: st) h K S o h' := by
  intro p e R s m args below meth c Q ad H locs cells slots ls Z
  exact lv_astore_n Z.x Z.b hd hf Z.2.2.2.1 hi rfl (fun ls' hls => k p e R s m args below meth c Q ad H locs cells slots ls' (Z.pop.loc (x_ls_set hn rfl hls) (x_ok_set Z.2.2.2.2.2.1 Z.ok)))

theorem e_lstore {i : Nat} {x : Int} (hd : decode cc pc = .ok (.lstore i, 2)) (hi : i + 1 < nL) (hn : x_nl L i = true) (k : Ev g nm cc nL rt hh dd (pc + 2) (x_set2 L i (x_l x)) st h K S o h') : Ev g nm cc nL rt hh dd pc L (x_l x :: st) h K S o h' := by
  intro p e R s m args below meth c Q ad H locs cells slots ls Z
  exact lv_lstore Z.x Z.b hd Z.2.2.2.1 hi rfl (fun ls' hls => k p e R s m args below meth c Q ad H locs cells slots ls' (Z.pop.loc (x_ls_set2 hn hls) (x_ok_set2 Z.2.2.2.2.2.1 Z.ok)))

theorem e_lstoren  {f : Fin 4}{i : Nat} {x : Int} (hd : decode cc pc = .ok (.lstore_n f, 1)) (hf : (f : Nat) = i) (hi : i + 1 < nL) (hn : x_nl L i = true) (k : Ev g nm cc nL rt hh dd (pc + 1) (x_set2 L i (x_l x)) st h K S o h') : Ev g nm cc nL rt hh dd pc L (x_l x :: st) h K S o h' := by
  intro p e R s m args below meth c Q ad H locs cells slots ls Z
  exact lv_lstore_n Z.x Z.b hd hf Z.2.2.2.1 hi rfl (fun ls' hls => k p e R s m args below meth c Q ad H locs cells slots ls' (Z.pop.loc (x_ls_set2 hn hls) (x_ok_set2 Z.2.2.2.2.2.1 Z.ok)))

theorem e_iinc {i : Nat} {n x : Int} (hd : decode cc pc = .ok (.iinc i n, 3)) (hl : L[i]? = some (some (x_i x))) (hi : i < nL) (hn : x_nl L i = true) (k : Ev g nm cc nL rt hh dd (pc + 3) (L.set i (some (x_i (x_add x n)))) st h K S o h') : Ev g nm cc nL rt hh dd pc L st h K S o h' := by
  intro p e R s m args below meth c Q ad H locs cells slots ls Z
  obtain ⟨j, hj⟩ := List.getElem?_of_mem ((x_as_mem (ad := ad) L 0 (i, x_cv ad (x_i x))).mpr ⟨i, x_i x, hl, by rw [Nat.zero_add]⟩)
  refine lv_iinc Z.x Z.b hd Z.2.2.2.1 hj rfl hi rfl (fun ls' hls => k p e R s m args below meth c Q ad H locs cells slots ls' (Z.loc (x_ls_set hn rfl ?_) (x_ok_set Z.2.2.2.2.2.1 (x_r32 _))))
  rw [x_cv_i, x_add, x_of32]
  exact hls

theorem e_dup {v : xV} (hd : decode cc pc = .ok (.dup, 1)) (hc : x_cat v = 1) (k : Ev g nm cc nL rt hh dd (pc + 1) L (v :: v :: st) h K S o h') : Ev g nm cc nL rt hh dd pc L (v :: st) h K S o h' := by
  intro p e R s m args below meth c Q ad H locs cells slots ls Z
  exact lv_dup Z.x Z.b hd (by rw [x_cv_cat]; exact hc) (k p e R s m args below meth c Q ad H locs cells slots ls (Z.push Z.ok))

theorem e_pop {v : xV} (hd : decode cc pc = .ok (.pop, 1)) (hc : x_cat v = 1) (k : Ev g nm cc nL rt hh dd (pc + 1) L st h K S o h') : Ev g nm cc nL rt hh dd pc L (v :: st) h K S o h' := by
  intro p e R s m args below meth c Q ad H locs cells slots ls Z
  exact lv_pop Z.x Z.b hd (by rw [x_cv_cat]; exact hc) (k p e R s m args below meth c Q ad H locs cells slots ls Z.pop)

theorem e_dup2 {v w : xV} (hd : decode cc pc = .ok (.dup2, 1)) (hc : x_cat v = 1) (hc2 : x_cat w = 1) (k : Ev g nm cc nL rt hh dd (pc + 1) L (v :: w :: v :: w :: st) h K S o h') : Ev g nm cc nL rt hh dd pc L (v :: w :: st) h K S o h' := by
  intro p e R s m args below meth c Q ad H locs cells slots ls Z
  exact lv_dup2_11 Z.x Z.b hd (by rw [x_cv_cat]; exact hc) (by rw [x_cv_cat]; exact hc2) (k p e R s m args below meth c Q ad H locs cells slots ls ((Z.push Z.pop.ok).push Z.ok))

theorem e_icmp_eq {a b off : Int} {tgt : Nat} (hd : decode cc pc = .ok (.if_icmp .eq off, 3)) (ht : (pc : Int) + off = (tgt : Int)) (kt : a = b → Ev g nm cc nL rt hh dd tgt L st h K S o h') (kf : ¬ a = b → Ev g nm cc nL rt hh dd (pc + 3) L st h K S o h') : Ev g nm cc nL rt hh dd pc L (x_i b :: x_i a :: st) h K S o h' := by
  intro p e R s m args below meth c Q ad H locs cells slots ls Z
  exact lv_icmp_eq Z.x Z.b hd ht (fun q => kt ((x_eq32 Z.pop.ok Z.ok).mp q) p e R s m args below meth c Q ad H locs cells slots ls Z.pop.pop) (fun q => kf (fun q2 => q ((x_eq32 Z.pop.ok Z.ok).mpr q2)) p e R s m args below meth c Q ad H locs cells slots ls Z.pop.pop)

theorem e_icmp_ne {a b off : Int} {tgt : Nat} (hd : decode cc pc = .ok (.if_icmp .ne off, 3)) (ht : (pc : Int) + off = (tgt : Int)) (kt : ¬ a = b → Ev g nm cc nL rt hh dd tgt L st h K S o h') (kf : a = b → Ev g nm cc nL rt hh dd (pc + 3) L st h K S o h') : Ev g nm cc nL rt hh dd pc L (x_i b :: x_i a :: st) h K S o h' := by
  intro p e R s m args below meth c Q ad H locs cells slots ls Z
  exact lv_icmp_ne Z.x Z.b hd ht (fun q => kt (fun q2 => q (congrArg Int32.ofInt q2)) p e R s m args below meth c Q ad H locs cells slots ls Z.pop.pop) (fun q => kf ((x_eq32 Z.pop.ok Z.ok).mp q) p e R s m args below meth c Q ad H locs cells slots ls Z.pop.pop)

theorem e_icmp_lt {a b off : Int} {tgt : Nat} (hd : decode cc pc = .ok (.if_icmp .lt off, 3)) (ht : (pc : Int) + off = (tgt : Int)) (kt : a < b → Ev g nm cc nL rt hh dd tgt L st h K S o h') (kf : ¬ a < b → Ev g nm cc nL rt hh dd (pc + 3) L st h K S o h') : Ev g nm cc nL rt hh dd pc L (x_i b :: x_i a :: st) h K S o h' := by
  intro p e R s m args below meth c Q ad H locs cells slots ls Z
  exact lv_icmp_lt Z.x Z.b hd ht (fun q => kt ((x_lt32 Z.pop.ok Z.ok).mp q) p e R s m args below meth c Q ad H locs cells slots ls Z.pop.pop) (fun q => kf (fun q2 => q ((x_lt32 Z.pop.ok Z.ok).mpr q2)) p e R s m args below meth c Q ad H locs cells slots ls Z.pop.pop)

theorem e_icmp_ge {a b off : Int} {tgt : Nat} (hd : decode cc pc = .ok (.if_icmp .ge off, 3)) (ht : (pc : Int) + off = (tgt : Int)) (kt : b ≤ a → Ev g nm cc nL rt hh dd tgt L st h K S o h') (kf : ¬ b ≤ a → Ev g nm cc nL rt hh dd (pc + 3) L st h K S o h') : Ev g nm cc nL rt hh dd pc L (x_i b :: x_i a :: st) h K S o h' := by
  intro p e R s m args below meth c Q ad H locs cells slots ls Z
  exact lv_icmp_ge Z.x Z.b hd ht (fun q => kt ((x_le32 Z.ok Z.pop.ok).mp q) p e R s m args below meth c Q ad H locs cells slots ls Z.pop.pop) (fun q => kf (fun q2 => q ((x_le32 Z.ok Z.pop.ok).mpr q2)) p e R s m args below meth c Q ad H locs cells slots ls Z.pop.pop)

theorem e_icmp_gt {a b off : Int} {tgt : Nat} (hd : decode cc pc = .ok (.if_icmp .gt off, 3)) (ht : (pc : Int) + off = (tgt : Int)) (kt : b < a → Ev g nm cc nL rt hh dd tgt L st h K S o h') (kf : ¬ b < a → Ev g nm cc nL rt hh dd (pc + 3) L st h K S o h') : Ev g nm cc nL rt hh dd pc L (x_i b :: x_i a :: st) h K S o h' := by
  intro p e R s m args below meth c Q ad H locs cells slots ls Z
  exact lv_icmp_gt Z.x Z.b hd ht (fun q => kt ((x_lt32 Z.ok Z.pop.ok).mp q) p e R s m args below meth c Q ad H locs cells slots ls Z.pop.pop) (fun q => kf (fun q2 => q ((x_lt32 Z.ok Z.pop.ok).mpr q2)) p e R s m args below meth c Q ad H locs cells slots ls Z.pop.pop)

theorem e_icmp_le {a b off : Int} {tgt : Nat} (hd : decode cc pc = .ok (.if_icmp .le off, 3)) (ht : (pc : Int) + off = (tgt : Int)) (kt : a ≤ b → Ev g nm cc nL rt hh dd tgt L st h K S o h') (kf : ¬ a ≤ b → Ev g nm cc nL rt hh dd (pc + 3) L st h K S o h') : Ev g nm cc nL rt hh dd pc L (x_i b :: x_i a :: st) h K S o h' := by
  intro p e R s m args below meth c Q ad H locs cells slots ls Z
  exact lv_icmp_le Z.x Z.b hd ht (fun q => kt ((x_le32 Z.pop.ok Z.ok).mp q) p e R s m args below meth c Q ad H locs cells slots ls Z.pop.pop) (fun q => kf (fun q2 => q ((x_le32 Z.pop.ok Z.ok).mpr q2)) p e R s m args below meth c Q ad H locs cells slots ls Z.pop.pop)

theorem e_if_eq {a off : Int} {tgt : Nat} (hd : decode cc pc = .ok (.ifCond .eq off, 3)) (ht : (pc : Int) + off = (tgt : Int)) (kt : a = 0 → Ev g nm cc nL rt hh dd tgt L st h K S o h') (kf : ¬ a = 0 → Ev g nm cc nL rt hh dd (pc + 3) L st h K S o h') : Ev g nm cc nL rt hh dd pc L (x_i a :: st) h K S o h' := by
  intro p e R s m args below meth c Q ad H locs cells slots ls Z
  exact lv_if_eq Z.x Z.b hd ht (fun q => kt ((x_eq32 Z.ok x_k32).mp (by rw [x_z32]; exact q)) p e R s m args below meth c Q ad H locs cells slots ls Z.pop) (fun q => kf (fun q2 => q (by have q3 := (x_eq32 Z.ok x_k32).mpr q2; rw [x_z32] at q3; exact q3)) p e R s m args below meth c Q ad H locs cells slots ls Z.pop)

theorem e_if_ne {a off : Int} {tgt : Nat} (hd : decode cc pc = .ok (.ifCond .ne off, 3)) (ht : (pc : Int) + off = (tgt : Int)) (kt : ¬ a = 0 → Ev g nm cc nL rt hh dd tgt L st h K S o h') (kf : a = 0 → Ev g nm cc nL rt hh dd (pc + 3) L st h K S o h') : Ev g nm cc nL rt hh dd pc L (x_i a :: st) h K S o h' := by
  intro p e R s m args below meth c Q ad H locs cells slots ls Z
  exact lv_if_ne Z.x Z.b hd ht (fun q => kt (fun q2 => q (by rw [q2]; exact x_z32)) p e R s m args below meth c Q ad H locs cells slots ls Z.pop) (fun q => kf ((x_eq32 Z.ok x_k32).mp (q.trans x_z32.symm)) p e R s m args below meth c Q ad H locs cells slots ls Z.pop)

theorem e_if_lt {a off : Int} {tgt : Nat} (hd : decode cc pc = .ok (.ifCond .lt off, 3)) (ht : (pc : Int) + off = (tgt : Int)) (kt : a < 0 → Ev g nm cc nL rt hh dd tgt L st h K S o h') (kf : ¬ a < 0 → Ev g nm cc nL rt hh dd (pc + 3) L st h K S o h') : Ev g nm cc nL rt hh dd pc L (x_i a :: st) h K S o h' := by
  intro p e R s m args below meth c Q ad H locs cells slots ls Z
  exact lv_if_lt Z.x Z.b hd ht (fun q => kt ((x_lt32 Z.ok x_k32).mp (by rw [x_z32]; exact q)) p e R s m args below meth c Q ad H locs cells slots ls Z.pop) (fun q => kf (fun q2 => q (by have q3 := (x_lt32 Z.ok x_k32).mpr q2; rw [x_z32] at q3; exact q3)) p e R s m args below meth c Q ad H locs cells slots ls Z.pop)

theorem e_if_ge {a off : Int} {tgt : Nat} (hd : decode cc pc = .ok (.ifCond .ge off, 3)) (ht : (pc : Int) + off = (tgt : Int)) (kt : 0 ≤ a → Ev g nm cc nL rt hh dd tgt L st h K S o h') (kf : ¬ 0 ≤ a → Ev g nm cc nL rt hh dd (pc + 3) L st h K S o h') : Ev g nm cc nL rt hh dd pc L (x_i a :: st) h K S o h' := by
  intro p e R s m args below meth c Q ad H locs cells slots ls Z
  exact lv_if_ge Z.x Z.b hd ht (fun q => kt ((x_le32 x_k32 Z.ok).mp (by rw [x_z32]; exact q)) p e R s m args below meth c Q ad H locs cells slots ls Z.pop) (fun q => kf (fun q2 => q (by have q3 := (x_le32 x_k32 Z.ok).mpr q2; rw [x_z32] at q3; exact q3)) p e R s m args below meth c Q ad H locs cells slots ls Z.pop)

theorem e_if_gt {a off : Int} {tgt : Nat} (hd : decode cc pc = .ok (.ifCond .gt off, 3)) (ht : (pc : Int) + off = (tgt : Int)) (kt : 0 < a → Ev g nm cc nL rt hh dd tgt L st h K S o h') (kf : ¬ 0 < a → Ev g nm cc nL rt hh dd (pc + 3) L st h K S o h') : Ev g nm cc nL rt hh dd pc L (x_i a :: st) h K S o h' := by
  intro p e R s m args below meth c Q ad H locs cells slots ls Z
  exact lv_if_gt Z.x Z.b hd ht (fun q => kt ((x_lt32 x_k32 Z.ok).mp (by rw [x_z32]; exact q)) p e R s m args below meth c Q ad H locs cells slots ls Z.pop) (fun q => kf (fun q2 => q (by have q3 := (x_lt32 x_k32 Z.ok).mpr q2; rw [x_z32] at q3; exact q3)) p e R s m args below meth c Q ad H locs cells slots ls Z.pop)

theorem e_if_le {a off : Int} {tgt : Nat} (hd : decode cc pc = .ok (.ifCond .le off, 3)) (ht : (pc : Int) + off = (tgt : Int)) (kt : a ≤ 0 → Ev g nm cc nL rt hh dd tgt L st h K S o h') (kf : ¬ a ≤ 0 → Ev g nm cc nL rt hh dd (pc + 3) L st h K S o h') : Ev g nm cc nL rt hh dd pc L (x_i a :: st) h K S o h' := by
  intro p e R s m args below meth c Q ad H locs cells slots ls Z
  exact lv_if_le Z.x Z.b hd ht (fun q => kt ((x_le32 Z.ok x_k32).mp (by rw [x_z32]; exact q)) p e R s m args below meth c Q ad H locs cells slots ls Z.pop) (fun q => kf (fun q2 => q (by have q3 := (x_le32 Z.ok x_k32).mpr q2; rw [x_z32] at q3; exact q3)) p e R s m args below meth c Q ad H locs cells slots ls Z.pop)

theorem e_ifnull_r {n : Nat} {off : Int} (hd : decode cc pc = .ok (.ifnull off, 3)) (k : Ev g nm cc nL rt hh dd (pc + 3) L st h K S o h') : Ev g nm cc nL rt hh dd pc L (x_r n :: st) h K S o h' := by
  intro p e R s m args below meth c Q ad H locs cells slots ls Z
  exact lv_ifnull Z.x Z.b hd (k p e R s m args below meth c Q ad H locs cells slots ls Z.pop)

theorem e_goto {off : Int} {tgt : Nat} (hd : decode cc pc = .ok (.goto off, 3)) (ht : (pc : Int) + off = (tgt : Int)) (k : Ev g nm cc nL rt hh dd tgt L st h K S o h') : Ev g nm cc nL rt hh dd pc L st h K S o h' := by
  intro p e R s m args below meth c Q ad H locs cells slots ls Z
  exact lv_goto Z.x Z.b hd ht (k p e R s m args below meth c Q ad H locs cells slots ls Z)

theorem e_tabIn {dflt lo hi : Int} {offs : Array Int} {len tgt : Nat} {a off : Int} (hd : decode cc pc = .ok (.tableswitch dflt lo hi offs, len)) (h1 : lo ≤ a) (h2 : a ≤ hi) (ho : offs[(a - lo).toNat]? = some off) (ht : (pc : Int) + off = (tgt : Int)) (k : Ev g nm cc nL rt hh dd tgt L st h K S o h') : Ev g nm cc nL rt hh dd pc L (x_i a :: st) h K S o h' := by
  intro p e R s m args below meth c Q ad H locs cells slots ls Z
  have ea : (Int32.ofInt a).toInt = a := x_to32 Z.ok
  exact lv_tableIn Z.x Z.b hd (by rw [ea]; omega) (by rw [ea]; omega) (by rw [ea]; exact ho) ht (k p e R s m args below meth c Q ad H locs cells slots ls Z.pop)

theorem e_tabOut {dflt lo hi : Int} {offs : Array Int} {len tgt : Nat} {a : Int} (hd : decode cc pc = .ok (.tableswitch dflt lo hi offs, len)) (h1 : a < lo ∨ hi < a) (ht : (pc : Int) + dflt = (tgt : Int)) (k : Ev g nm cc nL rt hh dd tgt L st h K S o h') : Ev g nm cc nL rt hh dd pc L (x_i a :: st) h K S o h' := by
  intro p e R s m args below meth c Q ad H locs cells slots ls Z
  have ea : (Int32.ofInt a).toInt = a := x_to32 Z.ok
  exact lv_tableOut Z.x Z.b hd (by rw [ea]; exact h1) ht (k p e R s m args below meth c Q ad H locs cells slots ls Z.pop)

theorem e_return (hr : rt = none) (hd : decode cc pc = .ok (.return_, 1)) : Ev g nm cc nL rt hh dd pc L [] h 0 0 (.inl none) h := by
  intro p e R s m args below meth c Q ad H locs cells slots ls Z
  exact Z.2.2.2.2.2.2.2.2.2 ad H locs cells slots ls pc x_ext.rf Z.2.1 Z.2.2.1 (Nat.le_refl _) (Nat.le_refl _) ⟨hr, hd⟩

theorem e_ireturn {x : Int} {ty : FieldType} (hr : rt = some ty) (hd : decode cc pc = .ok (.ireturn, 1)) (hn : narrow ty (.int (Int32.ofInt x)) = .int (Int32.ofInt x)) : Ev g nm cc nL rt hh dd pc L [x_i x] h 0 0 (.inl (some (x_i x))) h := by
  intro p e R s m args below meth c Q ad H locs cells slots ls Z
  exact Z.2.2.2.2.2.2.2.2.2 ad H locs cells slots ls pc x_ext.rf Z.2.1 Z.2.2.1 (Nat.le_refl _) (Nat.le_refl _) ⟨hd, ⟨ty, hr, hn⟩, Z.ok⟩

theorem e_areturn {r : Option Nat} {ty : FieldType} (hr : rt = some ty) (hd : decode cc pc = .ok (.areturn, 1)) (hn : (∃ n, ty = .object n) ∨ ∃ t, ty = .array t) : Ev g nm cc nL rt hh dd pc L [x_o r] h 0 0 (.inl (some (x_o r))) h := by
  intro p e R s m args below meth c Q ad H locs cells slots ls Z
  exact Z.2.2.2.2.2.2.2.2.2 ad H locs cells slots ls pc x_ext.rf Z.2.1 Z.2.2.1 (Nat.le_refl _) (Nat.le_refl _) ⟨hd, ty, hr, hn⟩

theorem e_wide {K0 S0 : Nat} (h1 : K0 ≤ K) (h2 : S0 ≤ S) (k : Ev g nm cc nL rt hh dd pc L st h K0 S0 o h') : Ev g nm cc nL rt hh dd pc L st h K S o h' := by
  intro p e R s m args below meth c Q ad H locs cells slots ls Z
  obtain ⟨z1, z2, z3, z4, z5, z6, z7, z8, z9, z10⟩ := Z
  refine k p e R s m args below meth c Q ad H locs cells slots ls ⟨z1, z2, z3, z4, z5, z6, z7, by omega, by omega, ?_⟩
  rcases o with vo | E
  · exact fun ad' H' locs' cells' slots' ls' pc' q1 q2 q3 q4 q5 q6 => z10 ad' H' locs' cells' slots' ls' pc' q1 q2 q3 (by omega) (by omega) q6
  · exact fun ad' H' locs' cells' slots' ls' pc' rest q ce q1 q2 q3 q4 q5 q6 q7 q8 q9 => z10 ad' H' locs' cells' slots' ls' pc' rest q ce q1 q2 q3 (by omega) (by omega) q6 q7 q8 q9

end XROWS
