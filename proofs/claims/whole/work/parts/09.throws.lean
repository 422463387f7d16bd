/-! Throws and catches; texts. -/
def x_nms : List String := ["java/lang/RuntimeException", "java/lang/Exception"]
def x_TL (own : String) (ik ic E : Nat) : Prop := E < 5 ∧ Cond.classLink own ik (x_en.getD E "") ∈ x_big ∧ Cond.initialized (x_en.getD E "") ∈ x_big ∧ (∀ w ∈ vx_at0 own ic (x_en.getD E "") x_nms, w ∈ x_big ∨ (w ∈ x_nst ∧ w.onTables = true)) ∧ (∀ w ∈ Cond.classLink own ik (x_en.getD E "") :: Cond.initialized (x_en.getD E "") :: vx_at0 own ic (x_en.getD E "") x_nms, vx_ot w = true)
theorem x_enF : ∀ E, E < 5 → Bundle.fit (x_en.getD E "") = true := by decide +kernel
theorem x_nmF : ∀ n ∈ x_nms, Bundle.fit n = true := by decide +kernel
theorem x_clE {E : Nat} (h : E < 5) : x_cl[11 + E]? = some (x_en.getD E "", x_te (x_en.getD E ""), 0) := by
  rcases (show E = 0 ∨ E = 1 ∨ E = 2 ∨ E = 3 ∨ E = 4 by omega) with rfl | rfl | rfl | rfl | rfl <;> rfl
section XTHROW
variable {g : xG} {nm : MethodName} {cc : ByteArray} {nL : Nat} {rt : Option FieldType} {hh : xHH} {dd pc : Nat} {L : xK} {st : List xV} {h h' : xH} {K S : Nat} {o : xO}
variable {p : Program} {e : Env} {R : Room} {s : State} {m : MethodId} {args : Array Value} {below : List Frame} {meth : Method} {c : Code} {Q : State → Prop} {ad : Nat → Nat} {H : Heap} {locs : List Loc} {cells slots : Nat} {ls : Array Slot}
theorem x_P_left {D : va_G} {ws ws2 : va_W} {H : Heap} (h : va_P D x_cl (ws ++ ws2) H) : va_P D x_cl ws H := fun k q hq => h k q (by
  rw [List.getElem?_append_left (List.getElem?_eq_some_iff.mp hq).1]; exact hq)
theorem x_D_left {A : Nat → Prop} {ws ws2 : va_W} (h : va_D A (ws ++ ws2)) : va_D A ws := ⟨fun i j p q hi hj => h.1 i j p q (by
  rw [List.getElem?_append_left (List.getElem?_eq_some_iff.mp hi).1]; exact hi) (by
  rw [List.getElem?_append_left (List.getElem?_eq_some_iff.mp hj).1]; exact hj), fun k q hq => h.2 k q (by
  rw [List.getElem?_append_left (List.getElem?_eq_some_iff.mp hq).1]; exact hq)⟩
theorem e_throw {ik ic E : Nat} (h1 : x_TL nm.cls ik ic E) (d0 : decode cc pc = .ok (.new ik, 3)) (d3 : decode cc (pc + 3) = .ok (.dup, 1)) (d4 : decode cc (pc + 4) = .ok (.invokespecial ic, 3)) (d7 : decode cc (pc + 7) = .ok (.athrow, 1)) (hcat : (st.map x_cat).sum ≤ 8)
    (hout : ∀ x ∈ tableOf hh, covers x (pc + 7) = false) : Ev g nm cc nL rt hh dd pc L st h 1 6 (.inr E) h := by
  intro p e R s m args below meth c Q ad H locs cells slots ls Z
  obtain ⟨hE, w1, w2, w3, w4⟩ := h1
  have hts := Z.1.2.2.2.2.2.1
  have hR := Z.2.2.2.2.2.2.1
  have hc1 := Z.2.2.2.2.2.2.2.1
  have hs1 := Z.2.2.2.2.2.2.2.2.1
  have hEE := Z.1.2.2.2.2.2.2.2.2.1
  refine vx_make0 (ci := 11 + E) (names := x_nms) Z.x Z.b Z.1.2.2.2.2.2.2.2.2.2.2.2 Z.1.2.2.2.2.1 (x_enF E hE) x_nmF (hts _ w1) (hts _ w2) (fun w hw => (w3 w hw).elim (hts w) (fun q => va_Nw.use q.2 (hEE.2.2.2.2.2.2.2.1 w q.1))) w4 hEE.2.2.2.2.2.1 hEE.2.2.2.2.2.2.1 Z.2.2.1 (Z.sz.trans Z.1.2.2.2.1.symm) d0 d3 d4 Z.1.2.2.2.2.2.2.2.1 Z.2.1.1 Z.2.1.2.1 (fun q hq => Nat.le_trans hEE.1 hq) (x_clE hE) ?_ ?_ (by omega) (by omega) ?_
  · show 2 + 3 < R.frames; omega
  · rw [x_cats]; show _ + (13 * 3 + 42) ≤ _; omega
  · intro q H1 hP hD hS
    refine vx_athrow Z.x Z.b d7 ?_
    obtain ⟨r, hr, cell, a1, a2, a3, -⟩ := hP (x_ws g ad h).length (q, .inr (11 + E, [])) (by simp)
    have hcl := (Z.1.2.2.2.2.2.2.2.1.1 (11 + E) _ (x_clE hE)).2.1
    exact Z.2.2.2.2.2.2.2.2.2 ad H1 locs (cells + 1) (slots + 6) ls (pc + 7) _ q cell x_ext.rf ⟨x_P_left hP, x_D_left hD, Z.2.1.2.2⟩ hS (Nat.le_refl _) (Nat.le_refl _) (by rw [Z.1.2.2.2.2.2.2.2.2.2.1]; exact hout) a1 a3 (by rw [a2]; exact hcl)
/-- a call that throws what a handler here catches; the handler's first instruction puts it away -/
theorem x_backC {stk : List Value} {E i1 : Nat} {aa : Array Value} {h1 : xH} {K1 S1 hp : Nat} {f : Fin 4} {st0 : List xV} {rest : List Value} (pre suf : List ExceptionTableEntry) (x : ExceptionTableEntry) (hsplit : tableOf hh = pre ++ x :: suf)
    (hpass : ∀ z ∈ pre, covers z pc = false ∨ (z.catchType ≠ 0 ∧ ∃ j, j < 5 ∧ j ≠ E ∧ Cond.classLink nm.cls z.catchType (x_en.getD j "") ∈ x_big)) (hx : covers x pc = true) (h0 : x.catchType ≠ 0) (hE : E < 5) (hlink : Cond.classLink nm.cls x.catchType (x_en.getD E "") ∈ x_big) (hcast : Cond.castable (x_en.getD E "") (x_en.getD E "") ∈ x_nst) (hhp : x.handlerPc = hp)
    (hd : decode cc hp = .ok (.astore_n f, 1)) (hf : (f : Nat) = i1) (hi : i1 < nL) (hnl : x_nl L i1 = true)
    (hr : vx_Run p g.1 e R s m args below meth c H locs cells slots K1 S1 (F0 m pc ls stk) rest (x_Q g ad h.1 h1 (.inr E) aa) (x_X g ad h.1 h1 (.inr E)) (x_A g))
    (Z : x_Z g nm cc nL rt hh dd L st0 h (K1 + K) (S1 + S) o h' p e R s m args below meth c Q ad H locs cells slots ls) (hv : h1.1.length = h.1.length)
    (k : Ev g nm cc nL rt hh dd (hp + 1) (L.set i1 none) [] h1 K S o h') : W p g.1 e R s m args below meth c H locs cells slots Q (F0 m pc ls stk) := by
  intro T hT X
  rcases hr T hT X with ⟨v, st₀, t, T', Lo, h0, X', hL, e1, e2, hX, -⟩ | ⟨q, st₀, t, T', Lo, E9, ce, h00, X', hL, e1, e2, ⟨hF, hE9, ad1, hx1, hW⟩, hce, hcv, hcl, go⟩
  · exact absurd hX id
  · subst hE9
    obtain ⟨k1, k2, k3⟩ := vx_keep h00 e1 Z.2.2.1 (fun _ _ q => q) (fun _ q => q) hL hF
    obtain ⟨kL, -⟩ := x_kept (g := g) (L := L) (st := []) hx1 (Or.inl hv)
    have Z2 := Z.behind (st := []) (K := K) (S := S) hx1 (show x_W g ad1 h1 T'.heap by rw [e1]; exact hW) k3 kL (fun w hw => absurd hw List.not_mem_nil)
    have hts := Z.1.2.2.2.2.2.1
    have hEE := Z.1.2.2.2.2.2.2.2.2.1
    have hgo : vx_W p g.1 e R s m args below meth c T'.heap (locs ++ Lo) (cells + K1) (slots + S1) Q (F0 m pc ls rest) q := by
      refine vx_catch (own := nm.cls) (E := x_en.getD E "") (name := x_en.getD E "") Z.1.2.2.2.2.1 pre x suf (by rw [Z.1.2.2.2.2.2.2.2.2.2.1]; exact hsplit) (fun z hz => ?_) hx h0 (hts _ hlink) (va_Nw.use rfl (hEE.2.2.2.2.2.2.2.1 _ hcast)) (by rw [e1]; exact hce) hcv hcl ?_
      · rcases hpass z hz with hz | ⟨z1, j, z2, z3, z4⟩
        · exact Or.inl hz
        · exact Or.inr ⟨z1, _, hts _ z4, hEE.2.2.2.2.2.2.2.2.1 E j hE z2 (fun q => z3 q.symm)⟩
      · rw [hhp]
        refine lv_astore_n Z.x Z.b hd hf Z2.2.2.2.1 hi rfl (fun ls' hls => ?_)
        refine k p e R s m args below meth c Q ad1 T'.heap _ _ _ ls' ?_
        refine Z2.loc ⟨hls.1, hls.2.1, fun q2 hq2 => hls.2.2 q2 ?_⟩ ?_
        · obtain ⟨k9, v, b1, b2⟩ := (x_as_mem _ _ _).mp hq2
          rw [Nat.zero_add] at b2
          subst b2
          rw [List.getElem?_set] at b1
          by_cases hk : i1 = k9
          · subst hk
            rw [if_pos rfl] at b1
            split at b1 <;> simp at b1
          · rw [if_neg hk] at b1
            refine List.mem_cons_of_mem _ (List.mem_filter.mpr ⟨(x_as_mem _ _ _).mpr ⟨k9, v, b1, by rw [Nat.zero_add]⟩, ?_⟩)
            have b3 : (k9 == i1) = false := by simp; omega
            simp only [b3, x_cv_cat]
            cases i1 with
            | zero => simp
            | succ j =>
              by_cases hj : k9 = j
              · subst hj
                simp only [x_nl, b1] at hnl
                rcases v with w | w | w
                · simp [x_cat]
                · simp [x_cat]
                · simp at hnl
              · have : (k9 + 1 == j + 1) = false := by simp; omega
                simp [this]
        · intro v hv
          rcases List.mem_or_eq_of_mem_set hv with hv | hv
          · exact Z2.2.2.2.2.2.1 v hv
          · cases hv
    obtain ⟨t2, a1, b1⟩ := hgo T' rfl X'
    exact ⟨t2, go.trans a1, b1⟩
theorem e_invVC {nm2 : MethodName} {cc2 : ByteArray} {nL2 dd2 idx id K1 S1 : Nat} {rt2 : Option FieldType} {av stk : List xV} {h1 : xH} {E i1 hp : Nat} {f : Fin 4} (hd : decode cc pc = .ok (.invokevirtual idx, 3)) (hl : x_LV nm.cls idx nm2 cc2 nL2 rt2 av.length) (hst : stk = av.reverse ++ x_r id :: st)
    (hrc : x_Rc h id nm2.cls) (hM : Cal g nm2 cc2 nL2 rt2 dd2 (x_r id :: av) h K1 S1 (.inr E) h1) (hdd : dd2 + 1 ≤ dd) (hcat : (st.map x_cat).sum ≤ 8) (pre suf : List ExceptionTableEntry) (x : ExceptionTableEntry) (hsplit : tableOf hh = pre ++ x :: suf)
    (hpass : ∀ z ∈ pre, covers z pc = false ∨ (z.catchType ≠ 0 ∧ ∃ j, j < 5 ∧ j ≠ E ∧ Cond.classLink nm.cls z.catchType (x_en.getD j "") ∈ x_big)) (hx : covers x pc = true) (h0 : x.catchType ≠ 0) (hE : E < 5) (hlink : Cond.classLink nm.cls x.catchType (x_en.getD E "") ∈ x_big) (hcast : Cond.castable (x_en.getD E "") (x_en.getD E "") ∈ x_nst) (hhp : x.handlerPc = hp)
    (hd2 : decode cc hp = .ok (.astore_n f, 1)) (hf : (f : Nat) = i1) (hi : i1 < nL) (hnl : x_nl L i1 = true) (hv : h1.1.length = h.1.length)
    (k : Ev g nm cc nL rt hh dd (hp + 1) (L.set i1 none) [] h1 K S o h') : Ev g nm cc nL rt hh dd pc L stk h (K1 + K) (S1 + S) o h' := by
  intro p e R s m args below meth c Q ad H locs cells slots ls Z
  exact x_backC pre suf x hsplit hpass hx h0 hE hlink hcast hhp hd2 hf hi hnl (x_runV hd hl hst hrc hM hdd hcat (by omega) (by omega) Z) Z hv k
/-! texts -/
theorem e_ldcS {idx i : Nat} {tx : String} (hd : decode cc pc = .ok (.ldc idx, 2)) (hx : (nm.cls, idx, tx, i) ∈ x_tx) (hi : i < x_nS) (k : Ev g nm cc nL rt hh dd (pc + 2) L (x_r (x_s0 + i) :: st) h K S o h') : Ev g nm cc nL rt hh dd pc L st h K S o h' := by
  intro p e R s m args below meth c Q ad H locs cells slots ls Z
  refine va_ldcS Z.x Z.b Z.1.2.2.2.2.1 (Z.1.2.2.2.2.2.2.2.2.1.2.2.2.2.1 _ hx) hd ?_
  have := k p e R s m args below meth c Q ad H locs cells slots ls (Z.push trivial)
  rw [List.map_cons, x_cv_r, (Z.2.1.2.2.2.2.2.2.2.2 i hi).1] at this
  exact this
theorem e_strV {idx i : Nat} (hd : decode cc pc = .ok (.getfield idx, 3)) (hi : i < x_nS) (hl : Cond.fieldLink nm.cls idx "java/lang/String" "value" "[B" ∈ x_big) (k : Ev g nm cc nL rt hh dd (pc + 3) L (x_r (2 * x_s0 + i) :: st) h K S o h') : Ev g nm cc nL rt hh dd pc L (x_r (x_s0 + i) :: st) h K S o h' := by
  intro p e R s m args below meth c Q ad H locs cells slots ls Z
  rw [List.map_cons, x_cv_r, (Z.2.1.2.2.2.2.2.2.2.2 i hi).1]
  refine vk_getf Z.x Z.b (Z.1.2.2.2.2.2.2.2.2.1.2.2.2.1.1 i hi).2.2.1 Z.2.2.1 Z.1.2.2.2.2.1 (Z.1.2.2.2.2.2.1 _ hl) (fun _ q => q) hd ?_
  have := k p e R s m args below meth c Q ad H locs cells slots ls (Z.pop.push trivial)
  rw [List.map_cons, x_cv_r, (Z.2.1.2.2.2.2.2.2.2.2 i hi).2] at this
  exact this
theorem e_strC {idx i : Nat} (hd : decode cc pc = .ok (.getfield idx, 3)) (hi : i < x_nS) (hl : Cond.fieldLink nm.cls idx "java/lang/String" "coder" "B" ∈ x_big) (k : Ev g nm cc nL rt hh dd (pc + 3) L (x_i 0 :: st) h K S o h') : Ev g nm cc nL rt hh dd pc L (x_r (x_s0 + i) :: st) h K S o h' := by
  intro p e R s m args below meth c Q ad H locs cells slots ls Z
  rw [List.map_cons, x_cv_r, (Z.2.1.2.2.2.2.2.2.2.2 i hi).1]
  exact vk_getf Z.x Z.b (Z.1.2.2.2.2.2.2.2.2.1.2.2.2.1.1 i hi).2.1 Z.2.2.1 Z.1.2.2.2.2.1 (Z.1.2.2.2.2.2.1 _ hl) (fun _ q => q) hd (k p e R s m args below meth c Q ad H locs cells slots ls (Z.pop.push x_k32))
theorem e_compact {idx : Nat} (hd : decode cc pc = .ok (.getstatic idx, 3)) (hl : Cond.fieldLink nm.cls idx "java/lang/String" "COMPACT_STRINGS" "Z" ∈ x_big) (k : Ev g nm cc nL rt hh dd (pc + 3) L (x_i 1 :: st) h K S o h') : Ev g nm cc nL rt hh dd pc L st h K S o h' := by
  intro p e R s m args below meth c Q ad H locs cells slots ls Z
  exact va_gets Z.x Z.b Z.1.2.2.2.2.2.2.2.2.1.2.2.2.2.2.2.2.2.2.1 Z.2.2.1 Z.1.2.2.2.2.1 (Z.1.2.2.2.2.2.1 _ hl) (fun _ q => q) hd (k p e R s m args below meth c Q ad H locs cells slots ls (Z.push ⟨by omega, by omega⟩))
theorem e_sioobe {idx : Nat} (hd : decode cc pc = .ok (.getstatic idx, 3)) (hl : Cond.fieldLink nm.cls idx "jdk/internal/util/Preconditions" "SIOOBE_FORMATTER" "Ljava/util/function/BiFunction;" ∈ x_big) (k : ∀ r : Option Nat, Ev g nm cc nL rt hh dd (pc + 3) L (x_o r :: st) h K S o h') : Ev g nm cc nL rt hh dd pc L st h K S o h' := by
  intro p e R s m args below meth c Q ad H locs cells slots ls Z
  rcases Z.1.2.2.2.2.2.2.2.2.1.2.2.2.2.2.2.2.2.2.2 with hz | hz
  · refine va_gets Z.x Z.b hz Z.2.2.1 Z.1.2.2.2.2.1 (Z.1.2.2.2.2.2.1 _ hl) (fun _ q => q) hd ?_
    have k2 : Ev g nm cc nL rt hh dd (pc + 3) L (x_r 2 :: st) h K S o h' := k (some 2)
    have := k2 p e R s m args below meth c Q ad H locs cells slots ls (Z.push trivial)
    rw [List.map_cons, x_cv_r, Z.2.1.2.2.2.2.2.2.2.1] at this
    exact this
  · exact va_gets Z.x Z.b hz Z.2.2.1 Z.1.2.2.2.2.1 (Z.1.2.2.2.2.2.1 _ hl) (fun _ q => q) hd (k none p e R s m args below meth c Q ad H locs cells slots ls (Z.push trivial))
theorem e_blen {i : Nat} (hd : decode cc pc = .ok (.arraylength, 1)) (hi : i < x_nS) (hl : x_sl.getD i 0 < 2147483648) (k : Ev g nm cc nL rt hh dd (pc + 1) L (x_i (x_sl.getD i 0 : Nat) :: st) h K S o h') : Ev g nm cc nL rt hh dd pc L (x_r (2 * x_s0 + i) :: st) h K S o h' := by
  intro p e R s m args below meth c Q ad H locs cells slots ls Z
  rw [List.map_cons, x_cv_r, (Z.2.1.2.2.2.2.2.2.2.2 i hi).2]
  exact va_tlen (v := Int32.ofInt (x_sl.getD i 0 : Nat)) Z.x Z.b (Z.1.2.2.2.2.2.2.2.2.1.2.2.2.1.1 i hi).2.2.2 Z.2.2.1 (Int32.ofInt_eq_ofNat (n := x_sl.getD i 0)).symm hd (k p e R s m args below meth c Q ad H locs cells slots ls (Z.pop.push ⟨by omega, by omega⟩))
theorem e_bald {i : Nat} {j : Int} (hd : decode cc pc = .ok (.baload, 1)) (hi : i < x_nS) (h0 : 0 ≤ j) (h1 : j < x_sl.getD i 0) (k : Ev g nm cc nL rt hh dd (pc + 1) L (x_i ((x_sb.getD i []).getD j.toNat 0).toInt :: st) h K S o h') : Ev g nm cc nL rt hh dd pc L (x_i j :: x_r (2 * x_s0 + i) :: st) h K S o h' := by
  intro p e R s m args below meth c Q ad H locs cells slots ls Z
  obtain ⟨hv, he⟩ := x_ix Z.ok h0 h1
  rw [List.map_cons, List.map_cons, x_cv_r, (Z.2.1.2.2.2.2.2.2.2.2 i hi).2]
  refine va_tb Z.x Z.b (Z.1.2.2.2.2.2.2.2.2.1.2.2.2.1.1 i hi).2.2.2 Z.2.2.1 hv rfl hd ?_
  have := k p e R s m args below meth c Q ad H locs cells slots ls (Z.pop.pop.push (x_r32 _))
  rw [List.map_cons, x_cv_i, x_of32] at this
  rw [he]
  exact this
theorem e_i2c {a : Int} (hd : decode cc pc = .ok (.i2c, 1)) (k : Ev g nm cc nL rt hh dd (pc + 1) L (x_i (((Int32.ofInt a).toUInt32 % 65536).toInt32.toInt) :: st) h K S o h') : Ev g nm cc nL rt hh dd pc L (x_i a :: st) h K S o h' := by
  intro p e R s m args below meth c Q ad H locs cells slots ls Z
  refine lv_i2c Z.x Z.b hd rfl ?_
  have := k p e R s m args below meth c Q ad H locs cells slots ls (Z.pop.push (x_r32 _))
  rw [List.map_cons, x_cv_i, x_of32] at this
  exact this
end XTHROW
