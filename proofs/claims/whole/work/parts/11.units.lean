/-! The memory by units of sixteen cells: a unit is an object with what it owns. -/
def fl (M : Nat → xU) : xM := fun id i => M (id / 16) (id % 16) i
def u_s (M : Nat → xU) (u : Nat) (S : xU) : Nat → xU := fun v => if v = u then S else M v
def ml (M : Nat → xU) : List Nat → List xU → (Nat → xU)
  | u :: us, S :: ss => ml (u_s M u S) us ss
  | _, _ => M
theorem u_s_same {M : Nat → xU} {u : Nat} {S : xU} : u_s M u S u = S := by simp [u_s]
theorem u_s_ne {M : Nat → xU} {u v : Nat} {S : xU} (h : v ≠ u) : u_s M u S v = M v := by simp [u_s, h]
theorem u_s_us {M : Nat → xU} {u : Nat} {S S' : xU} : u_s (u_s M u S) u S' = u_s M u S' := by
  funext v; by_cases h : v = u <;> simp [u_s, h]
theorem u_s_comm {M : Nat → xU} {u v : Nat} {S S' : xU} (h : u ≠ v) : u_s (u_s M u S) v S' = u_s (u_s M v S') u S := by
  funext w
  by_cases h1 : w = u
  · subst h1; simp [u_s, h]
  · by_cases h2 : w = v
    · subst h2; simp [u_s, h1]
    · simp [u_s, h1, h2]
theorem ml_out {us : List Nat} : ∀ {M : Nat → xU} {ss : List xU} {u : Nat}, u ∉ us → ml M us ss u = M u := by
  induction us with
  | nil => intro M ss u _; rfl
  | cons a t ih =>
    intro M ss u h
    cases ss with
    | nil => rfl
    | cons S ss =>
      rw [ml, ih (fun q => h (List.mem_cons_of_mem _ q)), u_s_ne (fun q => h (by rw [q]; exact List.mem_cons_self))]
theorem ml_out2 {us : List Nat} : ∀ {M : Nat → xU} {ss : List xU} {u : Nat} {S : xU}, u ∉ us → u_s (ml M us ss) u S = ml (u_s M u S) us ss := by
  induction us with
  | nil => intro M ss u S _; rfl
  | cons a t ih =>
    intro M ss u S h
    cases ss with
    | nil => rfl
    | cons S2 ss =>
      rw [ml, ih (fun q => h (List.mem_cons_of_mem _ q)), ml, u_s_comm (fun q => h (by rw [← q]; exact List.mem_cons_self))]
theorem ml_at {us : List Nat} : ∀ {M : Nat → xU} {ss : List xU} {k u : Nat} {S : xU}, us.Nodup → us[k]? = some u → ss[k]? = some S → ml M us ss u = S := by
  induction us with
  | nil => intro M ss k u S _ h; simp at h
  | cons a t ih =>
    intro M ss k u S hn h1 h2
    cases ss with
    | nil => simp at h2
    | cons S2 ss =>
      have hn2 := List.nodup_cons.mp hn
      cases k with
      | zero =>
        have e1 : a = u := by simpa using h1
        have e2 : S2 = S := by simpa using h2
        subst e1; subst e2
        rw [ml, ml_out hn2.1, u_s_same]
      | succ k => exact ih hn2.2 (by simpa using h1) (by simpa using h2)
theorem ml_up {us : List Nat} : ∀ {M : Nat → xU} {ss : List xU} {k u : Nat} {S : xU}, us.Nodup → us.length = ss.length → us[k]? = some u → u_s (ml M us ss) u S = ml M us (ss.set k S) := by
  induction us with
  | nil => intro M ss k u S _ _ h; simp at h
  | cons a t ih =>
    intro M ss k u S hn hl h1
    cases ss with
    | nil => simp at hl
    | cons S2 ss =>
      have hn2 := List.nodup_cons.mp hn
      cases k with
      | zero =>
        have e1 : a = u := by simpa using h1
        subst e1
        rw [ml, List.set_cons_zero, ml, ml_out2 hn2.1, u_s_us]
      | succ k => exact ih hn2.2 (by simpa using hl) (by simpa using h1)
def ml_ok (us : List Nat) : List Nat → List Nat → Prop
  | j :: js, u :: us2 => us[j]? = some u ∧ ml_ok us js us2
  | [], [] => True
  | _, _ => False
def ml_put (ss : List xU) : List Nat → List xU → List xU
  | j :: js, S :: ss2 => ml_put (ss.set j S) js ss2
  | _, _ => ss
theorem ml_call {M : Nat → xU} {us : List Nat} (hn : us.Nodup) : ∀ (js us2 : List Nat) (ss2 ss : List xU), us.length = ss.length → ml_ok us js us2 → js.length = ss2.length → ml (ml M us ss) us2 ss2 = ml M us (ml_put ss js ss2) := by
  intro js
  induction js with
  | nil =>
    intro us2 ss2 ss hl hk h2
    cases us2 with
    | nil =>
      cases ss2 with
      | nil => rfl
      | cons a t => simp at h2
    | cons a t => exact absurd hk id
  | cons j js ih =>
    intro us2 ss2 ss hl hk h2
    cases us2 with
    | nil => exact absurd hk id
    | cons a t =>
      cases ss2 with
      | nil => simp at h2
      | cons S ss2 =>
        rw [ml, ml_up hn hl hk.1]
        exact ih t ss2 _ (by simpa using hl) hk.2 (by simpa using h2)
theorem fl_get {M : Nat → xU} {u o i : Nat} (ho : o < 16) : fl M (16 * u + o) i = M u o i := by
  rw [fl, show (16 * u + o) / 16 = u by omega, show (16 * u + o) % 16 = o by omega]
theorem fl_up {M : Nat → xU} {u o i : Nat} {x : Int} (ho : o < 16) : x_up (fl M) (16 * u + o) i x = fl (u_s M u (x_up (M u) o i x)) := by
  funext id j
  unfold x_up fl u_s
  by_cases h1 : id / 16 = u
  · by_cases h2 : id % 16 = o
    · have h3 : id = 16 * u + o := by omega
      subst h3
      simp only [show (16 * u + o) / 16 = u by omega, show (16 * u + o) % 16 = o by omega, if_true, true_and]
    · have h3 : id ≠ 16 * u + o := by omega
      rw [if_neg (fun q => h3 q.1), if_pos h1, if_neg (fun q => h2 q.1), h1]
  · have h3 : id ≠ 16 * u + o := by omega
    rw [if_neg (fun q => h3 q.1), if_neg h1]
section XUNIT
variable {g : xG} {nm : MethodName} {cc : ByteArray} {nL : Nat} {rt : Option FieldType} {hh : xHH} {dd pc : Nat} {L : xK} {st : List xV} {h' : xH} {K S : Nat} {o : xO}
variable {al : List (Nat × Nat × Nat)} {ro : Nat → Nat → Option Nat} {M : Nat → xU} {us : List Nat} {ss : List xU}
theorem f_geti {k u q idx ci kf : Nat} {C : String} {T : u_T} {N : Nat} {U : xU} (hd : decode cc pc = .ok (.getfield idx, 3)) (hf : x_FL nm.cls idx ci kf C T N) (hm : (16 * u + q, ci, N) ∈ al) (ht : x_tg ci kf = 0) (hn : us.Nodup) (hu : us[k]? = some u) (hs : ss[k]? = some U) (hq : q < 16)
    (kk : Ev g nm cc nL rt hh dd (pc + 3) L (x_i (U q kf) :: st) (al, ro, fl (ml M us ss)) K S o h') : Ev g nm cc nL rt hh dd pc L (x_r (16 * u + q) :: st) (al, ro, fl (ml M us ss)) K S o h' := by
  refine e_geti hd hf hm ht ?_
  show Ev g nm cc nL rt hh dd (pc + 3) L (x_i (fl (ml M us ss) (16 * u + q) kf) :: st) _ K S o h'
  rw [fl_get hq, ml_at hn hu hs]
  exact kk
theorem f_getr {u q idx ci kf n : Nat} {C : String} {T : u_T} {N : Nat} {μ : xM} (hd : decode cc pc = .ok (.getfield idx, 3)) (hf : x_FL nm.cls idx ci kf C T N) (hm : (16 * u + q, ci, N) ∈ al) (ht : x_tg ci kf = 1) (hr : ro (16 * u + q) kf = some n)
    (kk : Ev g nm cc nL rt hh dd (pc + 3) L (x_r n :: st) (al, ro, μ) K S o h') : Ev g nm cc nL rt hh dd pc L (x_r (16 * u + q) :: st) (al, ro, μ) K S o h' := e_getr hd hf hm ht hr kk
theorem f_mem {k u q i : Nat} {x : Int} {U : xU} (hn : us.Nodup) (hl : us.length = ss.length) (hu : us[k]? = some u) (hs : ss[k]? = some U) (hq : q < 16) : x_up (fl (ml M us ss)) (16 * u + q) i x = fl (ml M us (ss.set k (x_up U q i x))) := by
  rw [fl_up hq, ml_at hn hu hs, ml_up hn hl hu]
theorem f_puti {k u q idx ci kf : Nat} {C : String} {T : u_T} {N : Nat} {x : Int} {U : xU} (hd : decode cc pc = .ok (.putfield idx, 3)) (hf : x_FL nm.cls idx ci kf C T N) (hw : x_FW ci kf T N .int) (hm : (16 * u + q, ci, N) ∈ al) (hn : us.Nodup) (hl : us.length = ss.length) (hu : us[k]? = some u) (hs : ss[k]? = some U) (hq : q < 16)
    (kk : Ev g nm cc nL rt hh dd (pc + 3) L st (al, ro, fl (ml M us (ss.set k (x_up U q kf x)))) K S o h') : Ev g nm cc nL rt hh dd pc L (x_i x :: x_r (16 * u + q) :: st) (al, ro, fl (ml M us ss)) K S o h' := by
  refine e_puti hd hf hw hm ?_
  show Ev g nm cc nL rt hh dd (pc + 3) L st (al, ro, x_up (fl (ml M us ss)) (16 * u + q) kf x) K S o h'
  rw [f_mem hn hl hu hs hq]
  exact kk
theorem f_putz {k u q idx ci kf : Nat} {C : String} {T : u_T} {N : Nat} {x : Int} {U : xU} (hd : decode cc pc = .ok (.putfield idx, 3)) (hf : x_FL nm.cls idx ci kf C T N) (hw : x_FW ci kf T N .boolean) (hx : x = 0 ∨ x = 1) (hm : (16 * u + q, ci, N) ∈ al) (hn : us.Nodup) (hl : us.length = ss.length) (hu : us[k]? = some u) (hs : ss[k]? = some U) (hq : q < 16)
    (kk : Ev g nm cc nL rt hh dd (pc + 3) L st (al, ro, fl (ml M us (ss.set k (x_up U q kf x)))) K S o h') : Ev g nm cc nL rt hh dd pc L (x_i x :: x_r (16 * u + q) :: st) (al, ro, fl (ml M us ss)) K S o h' := by
  refine e_putz hd hf hw hx hm ?_
  show Ev g nm cc nL rt hh dd (pc + 3) L st (al, ro, x_up (fl (ml M us ss)) (16 * u + q) kf x) K S o h'
  rw [f_mem hn hl hu hs hq]
  exact kk
theorem f_iald {k u q len : Nat} {i : Int} {U : xU} (hd : decode cc pc = .ok (.iaload, 1)) (hm : (16 * u + q, 20, len) ∈ al) (hc : 0 ≤ i ∧ i < len) (hn : us.Nodup) (hu : us[k]? = some u) (hs : ss[k]? = some U) (hq : q < 16)
    (kk : Ev g nm cc nL rt hh dd (pc + 1) L (x_i (U q i.toNat) :: st) (al, ro, fl (ml M us ss)) K S o h') : Ev g nm cc nL rt hh dd pc L (x_i i :: x_r (16 * u + q) :: st) (al, ro, fl (ml M us ss)) K S o h' := by
  refine e_iaload hd hm hc.1 hc.2 ?_
  show Ev g nm cc nL rt hh dd (pc + 1) L (x_i (fl (ml M us ss) (16 * u + q) i.toNat) :: st) _ K S o h'
  rw [fl_get hq, ml_at hn hu hs]
  exact kk
theorem f_zald {k u q len : Nat} {i : Int} {U : xU} (hd : decode cc pc = .ok (.baload, 1)) (hm : (16 * u + q, 22, len) ∈ al) (hc : 0 ≤ i ∧ i < len) (hn : us.Nodup) (hu : us[k]? = some u) (hs : ss[k]? = some U) (hq : q < 16)
    (kk : Ev g nm cc nL rt hh dd (pc + 1) L (x_i (U q i.toNat) :: st) (al, ro, fl (ml M us ss)) K S o h') : Ev g nm cc nL rt hh dd pc L (x_i i :: x_r (16 * u + q) :: st) (al, ro, fl (ml M us ss)) K S o h' := by
  refine e_zaload hd hm hc.1 hc.2 ?_
  show Ev g nm cc nL rt hh dd (pc + 1) L (x_i (fl (ml M us ss) (16 * u + q) i.toNat) :: st) _ K S o h'
  rw [fl_get hq, ml_at hn hu hs]
  exact kk
theorem f_lald {k u q len : Nat} {i : Int} {U : xU} (hd : decode cc pc = .ok (.laload, 1)) (hm : (16 * u + q, 21, len) ∈ al) (hc : 0 ≤ i ∧ i < len) (hn : us.Nodup) (hu : us[k]? = some u) (hs : ss[k]? = some U) (hq : q < 16)
    (kk : Ev g nm cc nL rt hh dd (pc + 1) L (x_l (U q i.toNat) :: st) (al, ro, fl (ml M us ss)) K S o h') : Ev g nm cc nL rt hh dd pc L (x_i i :: x_r (16 * u + q) :: st) (al, ro, fl (ml M us ss)) K S o h' := by
  refine e_laload hd hm hc.1 hc.2 ?_
  show Ev g nm cc nL rt hh dd (pc + 1) L (x_l (fl (ml M us ss) (16 * u + q) i.toNat) :: st) _ K S o h'
  rw [fl_get hq, ml_at hn hu hs]
  exact kk
theorem f_iast {k u q len : Nat} {i x : Int} {U : xU} (hd : decode cc pc = .ok (.iastore, 1)) (hm : (16 * u + q, 20, len) ∈ al) (hc : 0 ≤ i ∧ i < len) (hn : us.Nodup) (hl : us.length = ss.length) (hu : us[k]? = some u) (hs : ss[k]? = some U) (hq : q < 16)
    (kk : Ev g nm cc nL rt hh dd (pc + 1) L st (al, ro, fl (ml M us (ss.set k (x_up U q i.toNat x)))) K S o h') : Ev g nm cc nL rt hh dd pc L (x_i x :: x_i i :: x_r (16 * u + q) :: st) (al, ro, fl (ml M us ss)) K S o h' := by
  refine e_iastore hd hm hc.1 hc.2 ?_
  show Ev g nm cc nL rt hh dd (pc + 1) L st (al, ro, x_up (fl (ml M us ss)) (16 * u + q) i.toNat x) K S o h'
  rw [f_mem hn hl hu hs hq]
  exact kk
theorem f_zast {k u q len : Nat} {i x : Int} {U : xU} (hd : decode cc pc = .ok (.bastore, 1)) (hm : (16 * u + q, 22, len) ∈ al) (hc : 0 ≤ i ∧ i < len) (hx : x = 0 ∨ x = 1) (hn : us.Nodup) (hl : us.length = ss.length) (hu : us[k]? = some u) (hs : ss[k]? = some U) (hq : q < 16)
    (kk : Ev g nm cc nL rt hh dd (pc + 1) L st (al, ro, fl (ml M us (ss.set k (x_up U q i.toNat x)))) K S o h') : Ev g nm cc nL rt hh dd pc L (x_i x :: x_i i :: x_r (16 * u + q) :: st) (al, ro, fl (ml M us ss)) K S o h' := by
  refine e_zastore hd hm hc.1 hc.2 hx ?_
  show Ev g nm cc nL rt hh dd (pc + 1) L st (al, ro, x_up (fl (ml M us ss)) (16 * u + q) i.toNat x) K S o h'
  rw [f_mem hn hl hu hs hq]
  exact kk
theorem f_last {k u q len : Nat} {i x : Int} {U : xU} (hd : decode cc pc = .ok (.lastore, 1)) (hm : (16 * u + q, 21, len) ∈ al) (hc : 0 ≤ i ∧ i < len) (hn : us.Nodup) (hl : us.length = ss.length) (hu : us[k]? = some u) (hs : ss[k]? = some U) (hq : q < 16)
    (kk : Ev g nm cc nL rt hh dd (pc + 1) L st (al, ro, fl (ml M us (ss.set k (x_up U q i.toNat x)))) K S o h') : Ev g nm cc nL rt hh dd pc L (x_l x :: x_i i :: x_r (16 * u + q) :: st) (al, ro, fl (ml M us ss)) K S o h' := by
  refine e_lastore hd hm hc.1 hc.2 ?_
  show Ev g nm cc nL rt hh dd (pc + 1) L st (al, ro, x_up (fl (ml M us ss)) (16 * u + q) i.toNat x) K S o h'
  rw [f_mem hn hl hu hs hq]
  exact kk
/-- calls: js are the places of the callee's units among ours -/
theorem f_cal {nm2 : MethodName} {cc2 : ByteArray} {nL2 dd2 K1 S1 : Nat} {rt2 : Option FieldType} {av : List xV} {o1 : xO} {us2 : List Nat} {ss2 ss2' : List xU} (js : List Nat) (hn : us.Nodup) (hl : us.length = ss.length) (hk : ml_ok us js us2) (h2 : js.length = ss2.length) (h3 : js.length = ss2'.length) (hp : ml_put ss js ss2 = ss)
    (hM : Cal g nm2 cc2 nL2 rt2 dd2 av (al, ro, fl (ml (ml M us ss) us2 ss2)) K1 S1 o1 (al, ro, fl (ml (ml M us ss) us2 ss2'))) : Cal g nm2 cc2 nL2 rt2 dd2 av (al, ro, fl (ml M us ss)) K1 S1 o1 (al, ro, fl (ml M us (ml_put ss js ss2'))) := by
  rw [ml_call hn js us2 ss2 ss hl hk h2, ml_call hn js us2 ss2' ss hl hk h3, hp] at hM
  exact hM
end XUNIT
