/-! The law, case by case. -/
def x_sc (g : xG) (n : Nat) : Int := (x_xs g n).toInt
def x_zb (v : Int) : Int := if v = 0 then 0 else 1
def x_cd (l : List Nat) (E : Nat) : Int := ((l.idxOf E : Nat) : Int) + 1
theorem x_ag_k {l : List Nat} {o : Int ⊕ Nat} {b : Int} {S : xU} (h : Ag (x_cd l) o b S) : S 0 0 = x_wc l o := by
  cases o with
  | inl v => exact h.1
  | inr E => exact h
theorem x_wc_r (l : List Nat) (E : Nat) : ¬ x_wc l (.inr E) = 0 := by
  show ¬ ((l.idxOf E : Nat) : Int) + 1 = 0
  omega
theorem x_lcs : ∀ a : Int64, lg_cmp a a = 0 := by
  intro a
  simp [lg_cmp]
theorem x_lc {v b : Int} (h : v = b) : x_lcmp (x_i2l v) (x_i2l b) = 0 := by
  subst h
  rw [x_lcmp, x_lcs]
  rfl
theorem x_ni {i k : Nat} (h : i + k < 2147483648) : x_add (i : Int) (k : Int) = ((i + k : Nat) : Int) := n_add h
section XLAWC
variable {g : xG} {al : List (Nat × Nat × Nat)} {ro : Nat → Nat → Option Nat} {M : Nat → xU} {us : List Nat} {ss : List xU}
theorem f_calH {nm2 : MethodName} {cc2 : ByteArray} {nL2 dd2 K1 S1 : Nat} {rt2 : Option FieldType} {hh2 : xHH} {av : List xV} {o1 : xO} {us2 : List Nat} {ss2 ss2' : List xU} (js : List Nat) (hn : us.Nodup) (hl : us.length = ss.length) (hk : ml_ok us js us2) (h2 : js.length = ss2.length) (h3 : js.length = ss2'.length) (hp : ml_put ss js ss2 = ss)
    (hM : CalH g nm2 cc2 nL2 rt2 hh2 dd2 av (al, ro, fl (ml (ml M us ss) us2 ss2)) K1 S1 o1 (al, ro, fl (ml (ml M us ss) us2 ss2'))) : CalH g nm2 cc2 nL2 rt2 hh2 dd2 av (al, ro, fl (ml M us ss)) K1 S1 o1 (al, ro, fl (ml M us (ml_put ss js ss2'))) := by
  rw [ml_call hn js us2 ss2 ss hl hk h2, ml_call hn js us2 ss2' ss hl hk h3, hp] at hM
  exact hM
theorem f_calHA {A A' : xA} {nm2 : MethodName} {cc2 : ByteArray} {nL2 dd2 K1 S1 : Nat} {rt2 : Option FieldType} {hh2 : xHH} {av : List xV} {o1 : xO} {us2 : List Nat} {ss2 ss2' : List xU} (js : List Nat) (hn : us.Nodup) (hl : us.length = ss.length) (hk : ml_ok us js us2) (h2 : js.length = ss2.length) (h3 : js.length = ss2'.length) (hp : ml_put ss js ss2 = ss)
    (hd : (us ++ us2).all (fun u => decide (u < 6) || decide (17 < u)) = true)
    (hM : ∀ {M2 : Nat → xU}, CalH g nm2 cc2 nL2 rt2 hh2 dd2 av (al, ro, fl (ml (x_ac M2 A) us2 ss2)) K1 S1 o1 (al, ro, fl (ml (x_ac M2 A') us2 ss2'))) : CalH g nm2 cc2 nL2 rt2 hh2 dd2 av (al, ro, fl (ml (x_ac M A) us ss)) K1 S1 o1 (al, ro, fl (ml (x_ac M A') us (ml_put ss js ss2'))) := by
  rw [List.all_append, Bool.and_eq_true] at hd
  have q := hM (M2 := ml M us ss)
  rw [← x_ac_ml us ss hd.1, ← x_ac_ml us ss hd.1, ml_call hn js us2 ss2 ss hl hk h2, ml_call hn js us2 ss2' ss hl hk h3, hp] at q
  exact q
end XLAWC
set_option maxRecDepth 100000 in
set_option maxHeartbeats 4000000 in
theorem k0 {g : xG} {al : List (Nat × Nat × Nat)} {ro : Nat → Nat → Option Nat} (hst : g.1.stackTraces = false) (hs : SH al ro) (ho : (16 * 27 + 0, 21, 1) ∈ al) {M : Nat → xU} {h' : xH} {i K S0 : Nat} (hi : i + 6 ≤ x_L g) (hL : x_L g < 2147483648) {X T N Dr Kp Th La Lb Lc Fo St Ri Br Ro Ot S : xU} {A : xA} {a : Int} {Tx : xU} {b : Int} {Sy : xU} (hX : G11_feed (x_sc g (i + 1)) (x_sc g (i + 2)) (x_sc g (i + 3)) (x_sc g (i + 4)) (x_sc g (i + 5)) T = some (a, Tx)) (hS : G12_feed (x_sc g (i + 1)) (x_sc g (i + 2)) (x_sc g (i + 3)) (x_sc g (i + 4)) (x_sc g (i + 5)) S = some (b, Sy)) (hA : a = b)
    (kk : Ev g yL_law_ cL_law_ 7 (some .boolean) [] 60 3041 [some (x_r 1), some (x_r (16 * 1 + 0)), some (x_r (16 * 32 + 0)), some (x_r (16 * 27 + 0)), some (x_i (i : Int)), none, none] [] (al, ro, fl (ml (x_ac M A) [1, 2, 3, 4, 5, 18, 19, 20, 21, 22, 23, 24, 25, 26, 27, 32] [X, Tx, N, Dr, Kp, Th, La, Lb, Lc, Fo, St, Ri, Br, Ro, Ot, Sy])) K S0 (.inl (some (x_i 1))) h') : Ev g yL_law_ cL_law_ 7 (some .boolean) [] 60 296 [some (x_r 1), some (x_r (16 * 1 + 0)), some (x_r (16 * 32 + 0)), some (x_r (16 * 27 + 0)), some (x_i (i : Int)), none, none] [] (al, ro, fl (ml (x_ac M A) [1, 2, 3, 4, 5, 18, 19, 20, 21, 22, 23, 24, 25, 26, 27, 32] [X, T, N, Dr, Kp, Th, La, Lb, Lc, Fo, St, Ri, Br, Ro, Ot, S])) K S0 (.inl (some (x_i 1))) h' := by
  have hn : ([1, 2, 3, 4, 5, 18, 19, 20, 21, 22, 23, 24, 25, 26, 27, 32] : List Nat).Nodup := by decide
  refine e_aloadn (pc := 296) (i := 1) dL_law__296 rfl rfl ?_
  refine e_aloadn (pc := 297) (i := 0) dL_law__297 rfl rfl ?_
  refine e_iload (pc := 298) dL_law__298 rfl ?_
  refine e_iconst (pc := 300) dL_law__300 (x_R rfl) ?_
  refine e_iadd (pc := 301) dL_law__301 ?_
  rw [show x_add (i : Int) 1 = ((i + 1 : Nat) : Int) from x_ni (k := 1) (by omega)]
  refine e_sld (pc := 302) dL_law__302 (by omega) (by omega) ?_
  show Ev g _ _ _ _ _ _ 303 [some (x_r 1), some (x_r (16 * 1 + 0)), some (x_r (16 * 32 + 0)), some (x_r (16 * 27 + 0)), some (x_i (i : Int)), none, none] [x_i (x_sc g (i + 1)), x_r (16 * 1 + 0)] (al, ro, fl (ml (x_ac M A) [1, 2, 3, 4, 5, 18, 19, 20, 21, 22, 23, 24, 25, 26, 27, 32] [X, T, N, Dr, Kp, Th, La, Lb, Lc, Fo, St, Ri, Br, Ro, Ot, S])) _ _ _ _
  refine e_aloadn (pc := 303) (i := 0) dL_law__303 rfl rfl ?_
  refine e_iload (pc := 304) dL_law__304 rfl ?_
  refine e_iconst (pc := 306) dL_law__306 (x_R rfl) ?_
  refine e_iadd (pc := 307) dL_law__307 ?_
  rw [show x_add (i : Int) 2 = ((i + 2 : Nat) : Int) from x_ni (k := 2) (by omega)]
  refine e_sld (pc := 308) dL_law__308 (by omega) (by omega) ?_
  show Ev g _ _ _ _ _ _ 309 [some (x_r 1), some (x_r (16 * 1 + 0)), some (x_r (16 * 32 + 0)), some (x_r (16 * 27 + 0)), some (x_i (i : Int)), none, none] [x_i (x_sc g (i + 2)), x_i (x_sc g (i + 1)), x_r (16 * 1 + 0)] (al, ro, fl (ml (x_ac M A) [1, 2, 3, 4, 5, 18, 19, 20, 21, 22, 23, 24, 25, 26, 27, 32] [X, T, N, Dr, Kp, Th, La, Lb, Lc, Fo, St, Ri, Br, Ro, Ot, S])) _ _ _ _
  refine e_aloadn (pc := 309) (i := 0) dL_law__309 rfl rfl ?_
  refine e_iload (pc := 310) dL_law__310 rfl ?_
  refine e_iconst (pc := 312) dL_law__312 (x_R rfl) ?_
  refine e_iadd (pc := 313) dL_law__313 ?_
  rw [show x_add (i : Int) 3 = ((i + 3 : Nat) : Int) from x_ni (k := 3) (by omega)]
  refine e_sld (pc := 314) dL_law__314 (by omega) (by omega) ?_
  show Ev g _ _ _ _ _ _ 315 [some (x_r 1), some (x_r (16 * 1 + 0)), some (x_r (16 * 32 + 0)), some (x_r (16 * 27 + 0)), some (x_i (i : Int)), none, none] [x_i (x_sc g (i + 3)), x_i (x_sc g (i + 2)), x_i (x_sc g (i + 1)), x_r (16 * 1 + 0)] (al, ro, fl (ml (x_ac M A) [1, 2, 3, 4, 5, 18, 19, 20, 21, 22, 23, 24, 25, 26, 27, 32] [X, T, N, Dr, Kp, Th, La, Lb, Lc, Fo, St, Ri, Br, Ro, Ot, S])) _ _ _ _
  refine e_aloadn (pc := 315) (i := 0) dL_law__315 rfl rfl ?_
  refine e_iload (pc := 316) dL_law__316 rfl ?_
  refine e_iconst (pc := 318) dL_law__318 (x_R rfl) ?_
  refine e_iadd (pc := 319) dL_law__319 ?_
  rw [show x_add (i : Int) 4 = ((i + 4 : Nat) : Int) from x_ni (k := 4) (by omega)]
  refine e_sld (pc := 320) dL_law__320 (by omega) (by omega) ?_
  show Ev g _ _ _ _ _ _ 321 [some (x_r 1), some (x_r (16 * 1 + 0)), some (x_r (16 * 32 + 0)), some (x_r (16 * 27 + 0)), some (x_i (i : Int)), none, none] [x_i (x_sc g (i + 4)), x_i (x_sc g (i + 3)), x_i (x_sc g (i + 2)), x_i (x_sc g (i + 1)), x_r (16 * 1 + 0)] (al, ro, fl (ml (x_ac M A) [1, 2, 3, 4, 5, 18, 19, 20, 21, 22, 23, 24, 25, 26, 27, 32] [X, T, N, Dr, Kp, Th, La, Lb, Lc, Fo, St, Ri, Br, Ro, Ot, S])) _ _ _ _
  refine e_aloadn (pc := 321) (i := 0) dL_law__321 rfl rfl ?_
  refine e_iload (pc := 322) dL_law__322 rfl ?_
  refine e_iconst (pc := 324) dL_law__324 (x_R rfl) ?_
  refine e_iadd (pc := 325) dL_law__325 ?_
  rw [show x_add (i : Int) 5 = ((i + 5 : Nat) : Int) from x_ni (k := 5) (by omega)]
  refine e_sld (pc := 326) dL_law__326 (by omega) (by omega) ?_
  show Ev g _ _ _ _ _ _ 327 [some (x_r 1), some (x_r (16 * 1 + 0)), some (x_r (16 * 32 + 0)), some (x_r (16 * 27 + 0)), some (x_i (i : Int)), none, none] [x_i (x_sc g (i + 5)), x_i (x_sc g (i + 4)), x_i (x_sc g (i + 3)), x_i (x_sc g (i + 2)), x_i (x_sc g (i + 1)), x_r (16 * 1 + 0)] (al, ro, fl (ml (x_ac M A) [1, 2, 3, 4, 5, 18, 19, 20, 21, 22, 23, 24, 25, 26, 27, 32] [X, T, N, Dr, Kp, Th, La, Lb, Lc, Fo, St, Ri, Br, Ro, Ot, S])) _ _ _ _
  refine e_wide (K0 := 0 + K) (S0 := 0 + S0) (by omega) (by omega) ?_
  refine e_invV (pc := 327) (K1 := 0) (S1 := 0) (K := K) (S := S0) (dd2 := 2) (av := [x_i (x_sc g (i + 1)), x_i (x_sc g (i + 2)), x_i (x_sc g (i + 3)), x_i (x_sc g (i + 4)), x_i (x_sc g (i + 5))]) (st := []) (id := 16 * 1 + 0) dL_law__327 xmL_140 rfl (Or.inl ⟨9, 17, TX11, (sa_1_0 hs), rfl, by decide⟩) (f_cal (M := (x_ac M A)) (us2 := [2]) [1] hn rfl (And.intro rfl trivial) rfl rfl rfl (c_X11_feed hst hs hX)) (by decide) (Nat.le_of_ble_eq_true rfl) (Or.inl rfl) ?_
  show Ev g _ _ _ _ _ _ 330 [some (x_r 1), some (x_r (16 * 1 + 0)), some (x_r (16 * 32 + 0)), some (x_r (16 * 27 + 0)), some (x_i (i : Int)), none, none] [x_i a] (al, ro, fl (ml (x_ac M A) [1, 2, 3, 4, 5, 18, 19, 20, 21, 22, 23, 24, 25, 26, 27, 32] [X, Tx, N, Dr, Kp, Th, La, Lb, Lc, Fo, St, Ri, Br, Ro, Ot, S])) _ _ _ _
  refine e_aloadn (pc := 330) (i := 2) dL_law__330 rfl rfl ?_
  refine e_aloadn (pc := 331) (i := 0) dL_law__331 rfl rfl ?_
  refine e_iload (pc := 332) dL_law__332 rfl ?_
  refine e_iconst (pc := 334) dL_law__334 (x_R rfl) ?_
  refine e_iadd (pc := 335) dL_law__335 ?_
  rw [show x_add (i : Int) 1 = ((i + 1 : Nat) : Int) from x_ni (k := 1) (by omega)]
  refine e_sld (pc := 336) dL_law__336 (by omega) (by omega) ?_
  show Ev g _ _ _ _ _ _ 337 [some (x_r 1), some (x_r (16 * 1 + 0)), some (x_r (16 * 32 + 0)), some (x_r (16 * 27 + 0)), some (x_i (i : Int)), none, none] [x_i (x_sc g (i + 1)), x_r (16 * 32 + 0), x_i a] (al, ro, fl (ml (x_ac M A) [1, 2, 3, 4, 5, 18, 19, 20, 21, 22, 23, 24, 25, 26, 27, 32] [X, Tx, N, Dr, Kp, Th, La, Lb, Lc, Fo, St, Ri, Br, Ro, Ot, S])) _ _ _ _
  refine e_aloadn (pc := 337) (i := 0) dL_law__337 rfl rfl ?_
  refine e_iload (pc := 338) dL_law__338 rfl ?_
  refine e_iconst (pc := 340) dL_law__340 (x_R rfl) ?_
  refine e_iadd (pc := 341) dL_law__341 ?_
  rw [show x_add (i : Int) 2 = ((i + 2 : Nat) : Int) from x_ni (k := 2) (by omega)]
  refine e_sld (pc := 342) dL_law__342 (by omega) (by omega) ?_
  show Ev g _ _ _ _ _ _ 343 [some (x_r 1), some (x_r (16 * 1 + 0)), some (x_r (16 * 32 + 0)), some (x_r (16 * 27 + 0)), some (x_i (i : Int)), none, none] [x_i (x_sc g (i + 2)), x_i (x_sc g (i + 1)), x_r (16 * 32 + 0), x_i a] (al, ro, fl (ml (x_ac M A) [1, 2, 3, 4, 5, 18, 19, 20, 21, 22, 23, 24, 25, 26, 27, 32] [X, Tx, N, Dr, Kp, Th, La, Lb, Lc, Fo, St, Ri, Br, Ro, Ot, S])) _ _ _ _
  refine e_aloadn (pc := 343) (i := 0) dL_law__343 rfl rfl ?_
  refine e_iload (pc := 344) dL_law__344 rfl ?_
  refine e_iconst (pc := 346) dL_law__346 (x_R rfl) ?_
  refine e_iadd (pc := 347) dL_law__347 ?_
  rw [show x_add (i : Int) 3 = ((i + 3 : Nat) : Int) from x_ni (k := 3) (by omega)]
  refine e_sld (pc := 348) dL_law__348 (by omega) (by omega) ?_
  show Ev g _ _ _ _ _ _ 349 [some (x_r 1), some (x_r (16 * 1 + 0)), some (x_r (16 * 32 + 0)), some (x_r (16 * 27 + 0)), some (x_i (i : Int)), none, none] [x_i (x_sc g (i + 3)), x_i (x_sc g (i + 2)), x_i (x_sc g (i + 1)), x_r (16 * 32 + 0), x_i a] (al, ro, fl (ml (x_ac M A) [1, 2, 3, 4, 5, 18, 19, 20, 21, 22, 23, 24, 25, 26, 27, 32] [X, Tx, N, Dr, Kp, Th, La, Lb, Lc, Fo, St, Ri, Br, Ro, Ot, S])) _ _ _ _
  refine e_aloadn (pc := 349) (i := 0) dL_law__349 rfl rfl ?_
  refine e_iload (pc := 350) dL_law__350 rfl ?_
  refine e_iconst (pc := 352) dL_law__352 (x_R rfl) ?_
  refine e_iadd (pc := 353) dL_law__353 ?_
  rw [show x_add (i : Int) 4 = ((i + 4 : Nat) : Int) from x_ni (k := 4) (by omega)]
  refine e_sld (pc := 354) dL_law__354 (by omega) (by omega) ?_
  show Ev g _ _ _ _ _ _ 355 [some (x_r 1), some (x_r (16 * 1 + 0)), some (x_r (16 * 32 + 0)), some (x_r (16 * 27 + 0)), some (x_i (i : Int)), none, none] [x_i (x_sc g (i + 4)), x_i (x_sc g (i + 3)), x_i (x_sc g (i + 2)), x_i (x_sc g (i + 1)), x_r (16 * 32 + 0), x_i a] (al, ro, fl (ml (x_ac M A) [1, 2, 3, 4, 5, 18, 19, 20, 21, 22, 23, 24, 25, 26, 27, 32] [X, Tx, N, Dr, Kp, Th, La, Lb, Lc, Fo, St, Ri, Br, Ro, Ot, S])) _ _ _ _
  refine e_aloadn (pc := 355) (i := 0) dL_law__355 rfl rfl ?_
  refine e_iload (pc := 356) dL_law__356 rfl ?_
  refine e_iconst (pc := 358) dL_law__358 (x_R rfl) ?_
  refine e_iadd (pc := 359) dL_law__359 ?_
  rw [show x_add (i : Int) 5 = ((i + 5 : Nat) : Int) from x_ni (k := 5) (by omega)]
  refine e_sld (pc := 360) dL_law__360 (by omega) (by omega) ?_
  show Ev g _ _ _ _ _ _ 361 [some (x_r 1), some (x_r (16 * 1 + 0)), some (x_r (16 * 32 + 0)), some (x_r (16 * 27 + 0)), some (x_i (i : Int)), none, none] [x_i (x_sc g (i + 5)), x_i (x_sc g (i + 4)), x_i (x_sc g (i + 3)), x_i (x_sc g (i + 2)), x_i (x_sc g (i + 1)), x_r (16 * 32 + 0), x_i a] (al, ro, fl (ml (x_ac M A) [1, 2, 3, 4, 5, 18, 19, 20, 21, 22, 23, 24, 25, 26, 27, 32] [X, Tx, N, Dr, Kp, Th, La, Lb, Lc, Fo, St, Ri, Br, Ro, Ot, S])) _ _ _ _
  refine e_wide (K0 := 0 + K) (S0 := 0 + S0) (by omega) (by omega) ?_
  refine e_invV (pc := 361) (K1 := 0) (S1 := 0) (K := K) (S := S0) (dd2 := 0) (av := [x_i (x_sc g (i + 1)), x_i (x_sc g (i + 2)), x_i (x_sc g (i + 3)), x_i (x_sc g (i + 4)), x_i (x_sc g (i + 5))]) (st := [x_i a]) (id := 16 * 32 + 0) dL_law__361 xmL_144 rfl (Or.inl ⟨10, 27, TX12, (sa_32_0 hs), rfl, by decide⟩) (f_cal (M := (x_ac M A)) (us2 := [32]) [15] hn rfl (And.intro rfl trivial) rfl rfl rfl (c_X12_feed hst hs hS)) (by decide) (Nat.le_of_ble_eq_true rfl) (Or.inl rfl) ?_
  show Ev g _ _ _ _ _ _ 364 [some (x_r 1), some (x_r (16 * 1 + 0)), some (x_r (16 * 32 + 0)), some (x_r (16 * 27 + 0)), some (x_i (i : Int)), none, none] [x_i b, x_i a] (al, ro, fl (ml (x_ac M A) [1, 2, 3, 4, 5, 18, 19, 20, 21, 22, 23, 24, 25, 26, 27, 32] [X, Tx, N, Dr, Kp, Th, La, Lb, Lc, Fo, St, Ri, Br, Ro, Ot, Sy])) _ _ _ _
  refine e_icmp_eq (pc := 364) (tgt := 3041) dL_law__364 (by decide) (fun _ => ?_) (fun q => absurd hA q)
  exact kk
set_option maxRecDepth 100000 in
set_option maxHeartbeats 4000000 in
theorem k1 {g : xG} {al : List (Nat × Nat × Nat)} {ro : Nat → Nat → Option Nat} (hst : g.1.stackTraces = false) (hs : SH al ro) (ho : (16 * 27 + 0, 21, 1) ∈ al) {M : Nat → xU} {h' : xH} {i K S0 : Nat} (hi : i + 6 ≤ x_L g) (hL : x_L g < 2147483648) {X T N Dr Kp Th La Lb Lc Fo St Ri Br Ro Ot S : xU} {A : xA} {a : Int} {Tx : xU} {b : Int} {Sy : xU} (hX : G11_end (x_sc g (i + 1)) T = some (a, Tx)) (hS : G12_end (x_sc g (i + 1)) S = some (b, Sy)) (hA : a = b)
    (kk : Ev g yL_law_ cL_law_ 7 (some .boolean) [] 60 3041 [some (x_r 1), some (x_r (16 * 1 + 0)), some (x_r (16 * 32 + 0)), some (x_r (16 * 27 + 0)), some (x_i (i : Int)), none, none] [] (al, ro, fl (ml (x_ac M A) [1, 2, 3, 4, 5, 18, 19, 20, 21, 22, 23, 24, 25, 26, 27, 32] [X, Tx, N, Dr, Kp, Th, La, Lb, Lc, Fo, St, Ri, Br, Ro, Ot, Sy])) K S0 (.inl (some (x_i 1))) h') : Ev g yL_law_ cL_law_ 7 (some .boolean) [] 60 369 [some (x_r 1), some (x_r (16 * 1 + 0)), some (x_r (16 * 32 + 0)), some (x_r (16 * 27 + 0)), some (x_i (i : Int)), none, none] [] (al, ro, fl (ml (x_ac M A) [1, 2, 3, 4, 5, 18, 19, 20, 21, 22, 23, 24, 25, 26, 27, 32] [X, T, N, Dr, Kp, Th, La, Lb, Lc, Fo, St, Ri, Br, Ro, Ot, S])) K S0 (.inl (some (x_i 1))) h' := by
  have hn : ([1, 2, 3, 4, 5, 18, 19, 20, 21, 22, 23, 24, 25, 26, 27, 32] : List Nat).Nodup := by decide
  refine e_aloadn (pc := 369) (i := 1) dL_law__369 rfl rfl ?_
  refine e_aloadn (pc := 370) (i := 0) dL_law__370 rfl rfl ?_
  refine e_iload (pc := 371) dL_law__371 rfl ?_
  refine e_iconst (pc := 373) dL_law__373 (x_R rfl) ?_
  refine e_iadd (pc := 374) dL_law__374 ?_
  rw [show x_add (i : Int) 1 = ((i + 1 : Nat) : Int) from x_ni (k := 1) (by omega)]
  refine e_sld (pc := 375) dL_law__375 (by omega) (by omega) ?_
  show Ev g _ _ _ _ _ _ 376 [some (x_r 1), some (x_r (16 * 1 + 0)), some (x_r (16 * 32 + 0)), some (x_r (16 * 27 + 0)), some (x_i (i : Int)), none, none] [x_i (x_sc g (i + 1)), x_r (16 * 1 + 0)] (al, ro, fl (ml (x_ac M A) [1, 2, 3, 4, 5, 18, 19, 20, 21, 22, 23, 24, 25, 26, 27, 32] [X, T, N, Dr, Kp, Th, La, Lb, Lc, Fo, St, Ri, Br, Ro, Ot, S])) _ _ _ _
  refine e_wide (K0 := 0 + K) (S0 := 0 + S0) (by omega) (by omega) ?_
  refine e_invV (pc := 376) (K1 := 0) (S1 := 0) (K := K) (S := S0) (dd2 := 0) (av := [x_i (x_sc g (i + 1))]) (st := []) (id := 16 * 1 + 0) dL_law__376 xmL_145 rfl (Or.inl ⟨9, 17, TX11, (sa_1_0 hs), rfl, by decide⟩) (f_cal (M := (x_ac M A)) (us2 := [2]) [1] hn rfl (And.intro rfl trivial) rfl rfl rfl (c_X11_end hst hs hX)) (by decide) (Nat.le_of_ble_eq_true rfl) (Or.inl rfl) ?_
  show Ev g _ _ _ _ _ _ 379 [some (x_r 1), some (x_r (16 * 1 + 0)), some (x_r (16 * 32 + 0)), some (x_r (16 * 27 + 0)), some (x_i (i : Int)), none, none] [x_i a] (al, ro, fl (ml (x_ac M A) [1, 2, 3, 4, 5, 18, 19, 20, 21, 22, 23, 24, 25, 26, 27, 32] [X, Tx, N, Dr, Kp, Th, La, Lb, Lc, Fo, St, Ri, Br, Ro, Ot, S])) _ _ _ _
  refine e_aloadn (pc := 379) (i := 2) dL_law__379 rfl rfl ?_
  refine e_aloadn (pc := 380) (i := 0) dL_law__380 rfl rfl ?_
  refine e_iload (pc := 381) dL_law__381 rfl ?_
  refine e_iconst (pc := 383) dL_law__383 (x_R rfl) ?_
  refine e_iadd (pc := 384) dL_law__384 ?_
  rw [show x_add (i : Int) 1 = ((i + 1 : Nat) : Int) from x_ni (k := 1) (by omega)]
  refine e_sld (pc := 385) dL_law__385 (by omega) (by omega) ?_
  show Ev g _ _ _ _ _ _ 386 [some (x_r 1), some (x_r (16 * 1 + 0)), some (x_r (16 * 32 + 0)), some (x_r (16 * 27 + 0)), some (x_i (i : Int)), none, none] [x_i (x_sc g (i + 1)), x_r (16 * 32 + 0), x_i a] (al, ro, fl (ml (x_ac M A) [1, 2, 3, 4, 5, 18, 19, 20, 21, 22, 23, 24, 25, 26, 27, 32] [X, Tx, N, Dr, Kp, Th, La, Lb, Lc, Fo, St, Ri, Br, Ro, Ot, S])) _ _ _ _
  refine e_wide (K0 := 0 + K) (S0 := 0 + S0) (by omega) (by omega) ?_
  refine e_invV (pc := 386) (K1 := 0) (S1 := 0) (K := K) (S := S0) (dd2 := 1) (av := [x_i (x_sc g (i + 1))]) (st := [x_i a]) (id := 16 * 32 + 0) dL_law__386 xmL_149 rfl (Or.inl ⟨10, 27, TX12, (sa_32_0 hs), rfl, by decide⟩) (f_cal (M := (x_ac M A)) (us2 := [32]) [15] hn rfl (And.intro rfl trivial) rfl rfl rfl (c_X12_end hst hs hS)) (by decide) (Nat.le_of_ble_eq_true rfl) (Or.inl rfl) ?_
  show Ev g _ _ _ _ _ _ 389 [some (x_r 1), some (x_r (16 * 1 + 0)), some (x_r (16 * 32 + 0)), some (x_r (16 * 27 + 0)), some (x_i (i : Int)), none, none] [x_i b, x_i a] (al, ro, fl (ml (x_ac M A) [1, 2, 3, 4, 5, 18, 19, 20, 21, 22, 23, 24, 25, 26, 27, 32] [X, Tx, N, Dr, Kp, Th, La, Lb, Lc, Fo, St, Ri, Br, Ro, Ot, Sy])) _ _ _ _
  refine e_icmp_eq (pc := 389) (tgt := 3041) dL_law__389 (by decide) (fun _ => ?_) (fun q => absurd hA q)
  exact kk
set_option maxRecDepth 100000 in
set_option maxHeartbeats 4000000 in
theorem k2 {g : xG} {al : List (Nat × Nat × Nat)} {ro : Nat → Nat → Option Nat} (hst : g.1.stackTraces = false) (hs : SH al ro) (ho : (16 * 27 + 0, 21, 1) ∈ al) {M : Nat → xU} {h' : xH} {i K S0 : Nat} (hi : i + 6 ≤ x_L g) (hL : x_L g < 2147483648) {X T N Dr Kp Th La Lb Lc Fo St Ri Br Ro Ot S : xU} {A : xA} {t0 : (Int ⊕ Nat)} {Xx : xU} {Tx : xU} {Nx : xU} {Drx : xU} {b : Int} {Sy : xU} (hX : G11_cloister X T N Dr = some (t0, Xx, Tx, Nx, Drx)) (hE : ∀ E, t0 = .inr E → E ∈ ([0, 4] : List Nat)) (hS : G12_cloister S = some (b, Sy)) (hA : Ag (x_cd [0, 4]) t0 b Sy)
    (kk : Ev g yL_law_ cL_law_ 7 (some .boolean) [] 60 3041 [some (x_r 1), some (x_r (16 * 1 + 0)), some (x_r (16 * 32 + 0)), some (x_r (16 * 27 + 0)), some (x_i (i : Int)), none, none] [] (al, ro, fl (ml (x_ac M A) [1, 2, 3, 4, 5, 18, 19, 20, 21, 22, 23, 24, 25, 26, 27, 32] [Xx, Tx, Nx, Drx, Kp, Th, La, Lb, Lc, Fo, St, Ri, Br, Ro, (x_out Ot t0), Sy])) K S0 (.inl (some (x_i 1))) h') : Ev g yL_law_ cL_law_ 7 (some .boolean) [] 60 394 [some (x_r 1), some (x_r (16 * 1 + 0)), some (x_r (16 * 32 + 0)), some (x_r (16 * 27 + 0)), some (x_i (i : Int)), none, none] [] (al, ro, fl (ml (x_ac M A) [1, 2, 3, 4, 5, 18, 19, 20, 21, 22, 23, 24, 25, 26, 27, 32] [X, T, N, Dr, Kp, Th, La, Lb, Lc, Fo, St, Ri, Br, Ro, Ot, S])) (1 + K) (6 + S0) (.inl (some (x_i 1))) h' := by
  have hn : ([1, 2, 3, 4, 5, 18, 19, 20, 21, 22, 23, 24, 25, 26, 27, 32] : List Nat).Nodup := by decide
  refine e_aloadn (pc := 394) (i := 1) dL_law__394 rfl rfl ?_
  refine e_aloadn (pc := 395) (i := 3) dL_law__395 rfl rfl ?_
  refine e_invSH (pc := 396) (K1 := 1) (S1 := 6) (K := K) (S := S0) (dd2 := 13) (av := [x_r (16 * 1 + 0), x_r (16 * 27 + 0)]) (st := []) dL_law__396 (xmH_cloister 150 (x_inB (x_t3 (List.mem_of_getElem? (i := 178) rfl)) rfl)) rfl (f_calH (M := (x_ac M A)) (us2 := [1, 2, 3, 4, 27]) [0, 1, 2, 3, 14] hn rfl (And.intro rfl (And.intro rfl (And.intro rfl (And.intro rfl (And.intro rfl trivial))))) rfl rfl rfl (c_L_cloister hst hs ho hX hE)) (by decide) (Nat.le_of_ble_eq_true rfl) (Or.inl rfl) ?_
  show Ev g _ _ _ _ _ _ 399 [some (x_r 1), some (x_r (16 * 1 + 0)), some (x_r (16 * 32 + 0)), some (x_r (16 * 27 + 0)), some (x_i (i : Int)), none, none] [x_i (x_wc [0, 4] t0)] (al, ro, fl (ml (x_ac M A) [1, 2, 3, 4, 5, 18, 19, 20, 21, 22, 23, 24, 25, 26, 27, 32] [Xx, Tx, Nx, Drx, Kp, Th, La, Lb, Lc, Fo, St, Ri, Br, Ro, (x_out Ot t0), S])) _ _ _ _
  refine e_istore (pc := 399) (i := 5) dL_law__399 (by decide) rfl ?_
  show Ev g _ _ _ _ _ _ 401 [some (x_r 1), some (x_r (16 * 1 + 0)), some (x_r (16 * 32 + 0)), some (x_r (16 * 27 + 0)), some (x_i (i : Int)), some (x_i (x_wc [0, 4] t0)), none] [] (al, ro, fl (ml (x_ac M A) [1, 2, 3, 4, 5, 18, 19, 20, 21, 22, 23, 24, 25, 26, 27, 32] [Xx, Tx, Nx, Drx, Kp, Th, La, Lb, Lc, Fo, St, Ri, Br, Ro, (x_out Ot t0), S])) _ _ _ _
  refine e_aloadn (pc := 401) (i := 2) dL_law__401 rfl rfl ?_
  refine e_wide (K0 := 0 + K) (S0 := 0 + S0) (by omega) (by omega) ?_
  refine e_invV (pc := 402) (K1 := 0) (S1 := 0) (K := K) (S := S0) (dd2 := 43) (av := []) (st := []) (id := 16 * 32 + 0) dL_law__402 xmL_155 rfl (Or.inl ⟨10, 27, TX12, (sa_32_0 hs), rfl, by decide⟩) (f_cal (M := (x_ac M A)) (us2 := [32]) [15] hn rfl (And.intro rfl trivial) rfl rfl rfl (c_X12_cloister hst hs hS)) (by decide) (Nat.le_of_ble_eq_true rfl) (Or.inl rfl) ?_
  show Ev g _ _ _ _ _ _ 405 [some (x_r 1), some (x_r (16 * 1 + 0)), some (x_r (16 * 32 + 0)), some (x_r (16 * 27 + 0)), some (x_i (i : Int)), some (x_i (x_wc [0, 4] t0)), none] [x_i b] (al, ro, fl (ml (x_ac M A) [1, 2, 3, 4, 5, 18, 19, 20, 21, 22, 23, 24, 25, 26, 27, 32] [Xx, Tx, Nx, Drx, Kp, Th, La, Lb, Lc, Fo, St, Ri, Br, Ro, (x_out Ot t0), Sy])) _ _ _ _
  refine e_istore (pc := 405) (i := 6) dL_law__405 (by decide) rfl ?_
  show Ev g _ _ _ _ _ _ 407 [some (x_r 1), some (x_r (16 * 1 + 0)), some (x_r (16 * 32 + 0)), some (x_r (16 * 27 + 0)), some (x_i (i : Int)), some (x_i (x_wc [0, 4] t0)), some (x_i b)] [] (al, ro, fl (ml (x_ac M A) [1, 2, 3, 4, 5, 18, 19, 20, 21, 22, 23, 24, 25, 26, 27, 32] [Xx, Tx, Nx, Drx, Kp, Th, La, Lb, Lc, Fo, St, Ri, Br, Ro, (x_out Ot t0), Sy])) _ _ _ _
  refine e_aloadn (pc := 407) (i := 2) dL_law__407 rfl rfl ?_
  refine e_wide (K0 := 0 + K) (S0 := 0 + S0) (by omega) (by omega) ?_
  refine e_invV (pc := 408) (K1 := 0) (S1 := 0) (K := K) (S := S0) (dd2 := 0) (av := []) (st := []) (id := 16 * 32 + 0) dL_law__408 xmL_156 rfl (Or.inl ⟨10, 27, TX12, (sa_32_0 hs), rfl, by decide⟩) (f_cal (M := (x_ac M A)) (us2 := [32]) [15] hn rfl (And.intro rfl trivial) rfl rfl rfl (c_X12_thrown hst hs (show G12_thrown Sy = some (Sy 0 0) from rfl))) (by decide) (Nat.le_of_ble_eq_true rfl) (Or.inl rfl) ?_
  show Ev g _ _ _ _ _ _ 411 [some (x_r 1), some (x_r (16 * 1 + 0)), some (x_r (16 * 32 + 0)), some (x_r (16 * 27 + 0)), some (x_i (i : Int)), some (x_i (x_wc [0, 4] t0)), some (x_i b)] [x_i (Sy 0 0)] (al, ro, fl (ml (x_ac M A) [1, 2, 3, 4, 5, 18, 19, 20, 21, 22, 23, 24, 25, 26, 27, 32] [Xx, Tx, Nx, Drx, Kp, Th, La, Lb, Lc, Fo, St, Ri, Br, Ro, (x_out Ot t0), Sy])) _ _ _ _
  have hk : Sy 0 0 = x_wc [0, 4] t0 := x_ag_k hA
  refine e_iload (pc := 411) dL_law__411 rfl ?_
  refine e_icmp_eq (pc := 413) (tgt := 418) dL_law__413 (by decide) (fun _ => ?_) (fun q => absurd hk q)
  refine e_iload (pc := 418) dL_law__418 rfl ?_
  cases t0 with
  | inr E =>
    refine e_if_ne (pc := 420) (tgt := 435) dL_law__420 (by decide) (fun _ => ?_) (fun q => absurd q (x_wc_r [0, 4] E))
    refine e_goto (pc := 435) (tgt := 3041) dL_law__435 (by decide) ?_
    refine e_drop (i := 5) ?_
    refine e_drop (i := 6) ?_
    exact kk
  | inl v =>
    refine e_if_ne (pc := 420) (tgt := 435) dL_law__420 (by decide) (fun q => absurd rfl q) (fun _ => ?_)
    refine e_aloadn (pc := 423) (i := 3) dL_law__423 rfl rfl ?_
    refine e_iconst (pc := 424) dL_law__424 (x_R rfl) ?_
    refine f_lald (pc := 425) (k := 14) (u := 27) (q := 0) (len := 1) dL_law__425 ho (by decide) hn rfl rfl (by decide) ?_
    refine e_iload (pc := 426) dL_law__426 rfl ?_
    refine e_i2l (pc := 428) dL_law__428 ?_
    refine e_lcmp (pc := 429) dL_law__429 ?_
    refine e_if_eq (pc := 430) (tgt := 435) dL_law__430 (by decide) (fun _ => ?_) (fun q => absurd (x_lc (show v = b from hA.2.symm)) q)
    refine e_goto (pc := 435) (tgt := 3041) dL_law__435 (by decide) ?_
    refine e_drop (i := 5) ?_
    refine e_drop (i := 6) ?_
    exact kk
set_option maxRecDepth 100000 in
set_option maxHeartbeats 4000000 in
theorem k3 {g : xG} {al : List (Nat × Nat × Nat)} {ro : Nat → Nat → Option Nat} (hst : g.1.stackTraces = false) (hs : SH al ro) (ho : (16 * 27 + 0, 21, 1) ∈ al) {M : Nat → xU} {h' : xH} {i K S0 : Nat} (hi : i + 6 ≤ x_L g) (hL : x_L g < 2147483648) {X T N Dr Kp Th La Lb Lc Fo St Ri Br Ro Ot S : xU} {A : xA} {t0 : (Int ⊕ Nat)} {Xx : xU} {Tx : xU} {Lax : xU} {Lbx : xU} {b : Int} {Sy : xU} (hX : G11_law X T La Lb = some (t0, Xx, Tx, Lax, Lbx)) (hE : ∀ E, t0 = .inr E → E ∈ ([0] : List Nat)) (hS : G12_law S = some (b, Sy)) (hA : Ag (x_cd [0]) t0 b Sy)
    (kk : Ev g yL_law_ cL_law_ 7 (some .boolean) [] 60 3041 [some (x_r 1), some (x_r (16 * 1 + 0)), some (x_r (16 * 32 + 0)), some (x_r (16 * 27 + 0)), some (x_i (i : Int)), none, none] [] (al, ro, fl (ml (x_ac M A) [1, 2, 3, 4, 5, 18, 19, 20, 21, 22, 23, 24, 25, 26, 27, 32] [Xx, Tx, N, Dr, Kp, Th, Lax, Lbx, Lc, Fo, St, Ri, Br, Ro, (x_out Ot t0), Sy])) K S0 (.inl (some (x_i 1))) h') : Ev g yL_law_ cL_law_ 7 (some .boolean) [] 60 438 [some (x_r 1), some (x_r (16 * 1 + 0)), some (x_r (16 * 32 + 0)), some (x_r (16 * 27 + 0)), some (x_i (i : Int)), none, none] [] (al, ro, fl (ml (x_ac M A) [1, 2, 3, 4, 5, 18, 19, 20, 21, 22, 23, 24, 25, 26, 27, 32] [X, T, N, Dr, Kp, Th, La, Lb, Lc, Fo, St, Ri, Br, Ro, Ot, S])) (1 + K) (6 + S0) (.inl (some (x_i 1))) h' := by
  have hn : ([1, 2, 3, 4, 5, 18, 19, 20, 21, 22, 23, 24, 25, 26, 27, 32] : List Nat).Nodup := by decide
  refine e_aloadn (pc := 438) (i := 1) dL_law__438 rfl rfl ?_
  refine e_aloadn (pc := 439) (i := 3) dL_law__439 rfl rfl ?_
  refine e_invSH (pc := 440) (K1 := 1) (S1 := 6) (K := K) (S := S0) (dd2 := 33) (av := [x_r (16 * 1 + 0), x_r (16 * 27 + 0)]) (st := []) dL_law__440 (xmH_law 159 (x_inB (x_t4 (List.mem_of_getElem? (i := 189) rfl)) rfl)) rfl (f_calH (M := (x_ac M A)) (us2 := [1, 2, 19, 20, 27]) [0, 1, 6, 7, 14] hn rfl (And.intro rfl (And.intro rfl (And.intro rfl (And.intro rfl (And.intro rfl trivial))))) rfl rfl rfl (c_L_law hst hs ho hX hE)) (by decide) (Nat.le_of_ble_eq_true rfl) (Or.inl rfl) ?_
  show Ev g _ _ _ _ _ _ 443 [some (x_r 1), some (x_r (16 * 1 + 0)), some (x_r (16 * 32 + 0)), some (x_r (16 * 27 + 0)), some (x_i (i : Int)), none, none] [x_i (x_wc [0] t0)] (al, ro, fl (ml (x_ac M A) [1, 2, 3, 4, 5, 18, 19, 20, 21, 22, 23, 24, 25, 26, 27, 32] [Xx, Tx, N, Dr, Kp, Th, Lax, Lbx, Lc, Fo, St, Ri, Br, Ro, (x_out Ot t0), S])) _ _ _ _
  refine e_istore (pc := 443) (i := 5) dL_law__443 (by decide) rfl ?_
  show Ev g _ _ _ _ _ _ 445 [some (x_r 1), some (x_r (16 * 1 + 0)), some (x_r (16 * 32 + 0)), some (x_r (16 * 27 + 0)), some (x_i (i : Int)), some (x_i (x_wc [0] t0)), none] [] (al, ro, fl (ml (x_ac M A) [1, 2, 3, 4, 5, 18, 19, 20, 21, 22, 23, 24, 25, 26, 27, 32] [Xx, Tx, N, Dr, Kp, Th, Lax, Lbx, Lc, Fo, St, Ri, Br, Ro, (x_out Ot t0), S])) _ _ _ _
  refine e_aloadn (pc := 445) (i := 2) dL_law__445 rfl rfl ?_
  refine e_wide (K0 := 0 + K) (S0 := 0 + S0) (by omega) (by omega) ?_
  refine e_invV (pc := 446) (K1 := 0) (S1 := 0) (K := K) (S := S0) (dd2 := 43) (av := []) (st := []) (id := 16 * 32 + 0) dL_law__446 xmL_161 rfl (Or.inl ⟨10, 27, TX12, (sa_32_0 hs), rfl, by decide⟩) (f_cal (M := (x_ac M A)) (us2 := [32]) [15] hn rfl (And.intro rfl trivial) rfl rfl rfl (c_X12_law hst hs hS)) (by decide) (Nat.le_of_ble_eq_true rfl) (Or.inl rfl) ?_
  show Ev g _ _ _ _ _ _ 449 [some (x_r 1), some (x_r (16 * 1 + 0)), some (x_r (16 * 32 + 0)), some (x_r (16 * 27 + 0)), some (x_i (i : Int)), some (x_i (x_wc [0] t0)), none] [x_i b] (al, ro, fl (ml (x_ac M A) [1, 2, 3, 4, 5, 18, 19, 20, 21, 22, 23, 24, 25, 26, 27, 32] [Xx, Tx, N, Dr, Kp, Th, Lax, Lbx, Lc, Fo, St, Ri, Br, Ro, (x_out Ot t0), Sy])) _ _ _ _
  refine e_istore (pc := 449) (i := 6) dL_law__449 (by decide) rfl ?_
  show Ev g _ _ _ _ _ _ 451 [some (x_r 1), some (x_r (16 * 1 + 0)), some (x_r (16 * 32 + 0)), some (x_r (16 * 27 + 0)), some (x_i (i : Int)), some (x_i (x_wc [0] t0)), some (x_i b)] [] (al, ro, fl (ml (x_ac M A) [1, 2, 3, 4, 5, 18, 19, 20, 21, 22, 23, 24, 25, 26, 27, 32] [Xx, Tx, N, Dr, Kp, Th, Lax, Lbx, Lc, Fo, St, Ri, Br, Ro, (x_out Ot t0), Sy])) _ _ _ _
  refine e_aloadn (pc := 451) (i := 2) dL_law__451 rfl rfl ?_
  refine e_wide (K0 := 0 + K) (S0 := 0 + S0) (by omega) (by omega) ?_
  refine e_invV (pc := 452) (K1 := 0) (S1 := 0) (K := K) (S := S0) (dd2 := 0) (av := []) (st := []) (id := 16 * 32 + 0) dL_law__452 xmL_156 rfl (Or.inl ⟨10, 27, TX12, (sa_32_0 hs), rfl, by decide⟩) (f_cal (M := (x_ac M A)) (us2 := [32]) [15] hn rfl (And.intro rfl trivial) rfl rfl rfl (c_X12_thrown hst hs (show G12_thrown Sy = some (Sy 0 0) from rfl))) (by decide) (Nat.le_of_ble_eq_true rfl) (Or.inl rfl) ?_
  show Ev g _ _ _ _ _ _ 455 [some (x_r 1), some (x_r (16 * 1 + 0)), some (x_r (16 * 32 + 0)), some (x_r (16 * 27 + 0)), some (x_i (i : Int)), some (x_i (x_wc [0] t0)), some (x_i b)] [x_i (Sy 0 0)] (al, ro, fl (ml (x_ac M A) [1, 2, 3, 4, 5, 18, 19, 20, 21, 22, 23, 24, 25, 26, 27, 32] [Xx, Tx, N, Dr, Kp, Th, Lax, Lbx, Lc, Fo, St, Ri, Br, Ro, (x_out Ot t0), Sy])) _ _ _ _
  have hk : Sy 0 0 = x_wc [0] t0 := x_ag_k hA
  refine e_iload (pc := 455) dL_law__455 rfl ?_
  refine e_icmp_eq (pc := 457) (tgt := 462) dL_law__457 (by decide) (fun _ => ?_) (fun q => absurd hk q)
  refine e_iload (pc := 462) dL_law__462 rfl ?_
  cases t0 with
  | inr E =>
    refine e_if_ne (pc := 464) (tgt := 479) dL_law__464 (by decide) (fun _ => ?_) (fun q => absurd q (x_wc_r [0] E))
    refine e_goto (pc := 479) (tgt := 3041) dL_law__479 (by decide) ?_
    refine e_drop (i := 5) ?_
    refine e_drop (i := 6) ?_
    exact kk
  | inl v =>
    refine e_if_ne (pc := 464) (tgt := 479) dL_law__464 (by decide) (fun q => absurd rfl q) (fun _ => ?_)
    refine e_aloadn (pc := 467) (i := 3) dL_law__467 rfl rfl ?_
    refine e_iconst (pc := 468) dL_law__468 (x_R rfl) ?_
    refine f_lald (pc := 469) (k := 14) (u := 27) (q := 0) (len := 1) dL_law__469 ho (by decide) hn rfl rfl (by decide) ?_
    refine e_iload (pc := 470) dL_law__470 rfl ?_
    refine e_i2l (pc := 472) dL_law__472 ?_
    refine e_lcmp (pc := 473) dL_law__473 ?_
    refine e_if_eq (pc := 474) (tgt := 479) dL_law__474 (by decide) (fun _ => ?_) (fun q => absurd (x_lc (show v = b from hA.2.symm)) q)
    refine e_goto (pc := 479) (tgt := 3041) dL_law__479 (by decide) ?_
    refine e_drop (i := 5) ?_
    refine e_drop (i := 6) ?_
    exact kk
set_option maxRecDepth 100000 in
set_option maxHeartbeats 4000000 in
theorem k4 {g : xG} {al : List (Nat × Nat × Nat)} {ro : Nat → Nat → Option Nat} (hst : g.1.stackTraces = false) (hs : SH al ro) (ho : (16 * 27 + 0, 21, 1) ∈ al) {M : Nat → xU} {h' : xH} {i K S0 : Nat} (hi : i + 6 ≤ x_L g) (hL : x_L g < 2147483648) {X T N Dr Kp Th La Lb Lc Fo St Ri Br Ro Ot S : xU} {A : xA} {a : Int} {b : Int} {Sy : xU} (hX : G11_fault X = some a) (hS : G12_fault S = some (b, Sy)) (hA : a = b)
    (kk : Ev g yL_law_ cL_law_ 7 (some .boolean) [] 60 3041 [some (x_r 1), some (x_r (16 * 1 + 0)), some (x_r (16 * 32 + 0)), some (x_r (16 * 27 + 0)), some (x_i (i : Int)), none, none] [] (al, ro, fl (ml (x_ac M A) [1, 2, 3, 4, 5, 18, 19, 20, 21, 22, 23, 24, 25, 26, 27, 32] [X, T, N, Dr, Kp, Th, La, Lb, Lc, Fo, St, Ri, Br, Ro, Ot, Sy])) K S0 (.inl (some (x_i 1))) h') : Ev g yL_law_ cL_law_ 7 (some .boolean) [] 60 482 [some (x_r 1), some (x_r (16 * 1 + 0)), some (x_r (16 * 32 + 0)), some (x_r (16 * 27 + 0)), some (x_i (i : Int)), none, none] [] (al, ro, fl (ml (x_ac M A) [1, 2, 3, 4, 5, 18, 19, 20, 21, 22, 23, 24, 25, 26, 27, 32] [X, T, N, Dr, Kp, Th, La, Lb, Lc, Fo, St, Ri, Br, Ro, Ot, S])) K S0 (.inl (some (x_i 1))) h' := by
  have hn : ([1, 2, 3, 4, 5, 18, 19, 20, 21, 22, 23, 24, 25, 26, 27, 32] : List Nat).Nodup := by decide
  refine e_aloadn (pc := 482) (i := 1) dL_law__482 rfl rfl ?_
  refine e_wide (K0 := 0 + K) (S0 := 0 + S0) (by omega) (by omega) ?_
  refine e_invV (pc := 483) (K1 := 0) (S1 := 0) (K := K) (S := S0) (dd2 := 0) (av := []) (st := []) (id := 16 * 1 + 0) dL_law__483 xmL_162 rfl (Or.inl ⟨9, 17, TX11, (sa_1_0 hs), rfl, by decide⟩) (f_cal (M := (x_ac M A)) (us2 := [1]) [0] hn rfl (And.intro rfl trivial) rfl rfl rfl (c_X11_fault hst hs hX)) (by decide) (Nat.le_of_ble_eq_true rfl) (Or.inl rfl) ?_
  show Ev g _ _ _ _ _ _ 486 [some (x_r 1), some (x_r (16 * 1 + 0)), some (x_r (16 * 32 + 0)), some (x_r (16 * 27 + 0)), some (x_i (i : Int)), none, none] [x_i a] (al, ro, fl (ml (x_ac M A) [1, 2, 3, 4, 5, 18, 19, 20, 21, 22, 23, 24, 25, 26, 27, 32] [X, T, N, Dr, Kp, Th, La, Lb, Lc, Fo, St, Ri, Br, Ro, Ot, S])) _ _ _ _
  refine e_aloadn (pc := 486) (i := 2) dL_law__486 rfl rfl ?_
  refine e_wide (K0 := 0 + K) (S0 := 0 + S0) (by omega) (by omega) ?_
  refine e_invV (pc := 487) (K1 := 0) (S1 := 0) (K := K) (S := S0) (dd2 := 0) (av := []) (st := [x_i a]) (id := 16 * 32 + 0) dL_law__487 xmL_165 rfl (Or.inl ⟨10, 27, TX12, (sa_32_0 hs), rfl, by decide⟩) (f_cal (M := (x_ac M A)) (us2 := [32]) [15] hn rfl (And.intro rfl trivial) rfl rfl rfl (c_X12_fault hst hs hS)) (by decide) (Nat.le_of_ble_eq_true rfl) (Or.inl rfl) ?_
  show Ev g _ _ _ _ _ _ 490 [some (x_r 1), some (x_r (16 * 1 + 0)), some (x_r (16 * 32 + 0)), some (x_r (16 * 27 + 0)), some (x_i (i : Int)), none, none] [x_i b, x_i a] (al, ro, fl (ml (x_ac M A) [1, 2, 3, 4, 5, 18, 19, 20, 21, 22, 23, 24, 25, 26, 27, 32] [X, T, N, Dr, Kp, Th, La, Lb, Lc, Fo, St, Ri, Br, Ro, Ot, Sy])) _ _ _ _
  refine e_icmp_eq (pc := 490) (tgt := 3041) dL_law__490 (by decide) (fun _ => ?_) (fun q => absurd hA q)
  exact kk
set_option maxRecDepth 100000 in
set_option maxHeartbeats 4000000 in
theorem k5 {g : xG} {al : List (Nat × Nat × Nat)} {ro : Nat → Nat → Option Nat} (hst : g.1.stackTraces = false) (hs : SH al ro) (ho : (16 * 27 + 0, 21, 1) ∈ al) {M : Nat → xU} {h' : xH} {i K S0 : Nat} (hi : i + 6 ≤ x_L g) (hL : x_L g < 2147483648) {X T N Dr Kp Th La Lb Lc Fo St Ri Br Ro Ot S : xU} {A : xA} {t0 : (Int ⊕ Nat)} {Lax : xU} {b : Int} {Sy : xU} (hX : G11_monk (x_sc g (i + 1)) (x_sc g (i + 2)) N La = some (t0, Lax)) (hE : ∀ E, t0 = .inr E → E ∈ ([1, 3] : List Nat)) (hS : G12_monk (x_sc g (i + 1)) (x_sc g (i + 2)) S = some (b, Sy)) (hA : Ag (x_cd [1, 3]) t0 b Sy)
    (kk : Ev g yL_law_ cL_law_ 7 (some .boolean) [] 60 3041 [some (x_r 1), some (x_r (16 * 1 + 0)), some (x_r (16 * 32 + 0)), some (x_r (16 * 27 + 0)), some (x_i (i : Int)), none, none] [] (al, ro, fl (ml (x_ac M A) [1, 2, 3, 4, 5, 18, 19, 20, 21, 22, 23, 24, 25, 26, 27, 32] [X, T, N, Dr, Kp, Th, Lax, Lb, Lc, Fo, St, Ri, Br, Ro, (x_out Ot t0), Sy])) K S0 (.inl (some (x_i 1))) h') : Ev g yL_law_ cL_law_ 7 (some .boolean) [] 60 495 [some (x_r 1), some (x_r (16 * 1 + 0)), some (x_r (16 * 32 + 0)), some (x_r (16 * 27 + 0)), some (x_i (i : Int)), none, none] [] (al, ro, fl (ml (x_ac M A) [1, 2, 3, 4, 5, 18, 19, 20, 21, 22, 23, 24, 25, 26, 27, 32] [X, T, N, Dr, Kp, Th, La, Lb, Lc, Fo, St, Ri, Br, Ro, Ot, S])) (2 + K) (12 + S0) (.inl (some (x_i 1))) h' := by
  have hn : ([1, 2, 3, 4, 5, 18, 19, 20, 21, 22, 23, 24, 25, 26, 27, 32] : List Nat).Nodup := by decide
  refine e_aloadn (pc := 495) (i := 1) dL_law__495 rfl rfl ?_
  refine e_aloadn (pc := 496) (i := 0) dL_law__496 rfl rfl ?_
  refine e_iload (pc := 497) dL_law__497 rfl ?_
  refine e_iconst (pc := 499) dL_law__499 (x_R rfl) ?_
  refine e_iadd (pc := 500) dL_law__500 ?_
  rw [show x_add (i : Int) 1 = ((i + 1 : Nat) : Int) from x_ni (k := 1) (by omega)]
  refine e_sld (pc := 501) dL_law__501 (by omega) (by omega) ?_
  show Ev g _ _ _ _ _ _ 502 [some (x_r 1), some (x_r (16 * 1 + 0)), some (x_r (16 * 32 + 0)), some (x_r (16 * 27 + 0)), some (x_i (i : Int)), none, none] [x_i (x_sc g (i + 1)), x_r (16 * 1 + 0)] (al, ro, fl (ml (x_ac M A) [1, 2, 3, 4, 5, 18, 19, 20, 21, 22, 23, 24, 25, 26, 27, 32] [X, T, N, Dr, Kp, Th, La, Lb, Lc, Fo, St, Ri, Br, Ro, Ot, S])) _ _ _ _
  refine e_aloadn (pc := 502) (i := 0) dL_law__502 rfl rfl ?_
  refine e_iload (pc := 503) dL_law__503 rfl ?_
  refine e_iconst (pc := 505) dL_law__505 (x_R rfl) ?_
  refine e_iadd (pc := 506) dL_law__506 ?_
  rw [show x_add (i : Int) 2 = ((i + 2 : Nat) : Int) from x_ni (k := 2) (by omega)]
  refine e_sld (pc := 507) dL_law__507 (by omega) (by omega) ?_
  show Ev g _ _ _ _ _ _ 508 [some (x_r 1), some (x_r (16 * 1 + 0)), some (x_r (16 * 32 + 0)), some (x_r (16 * 27 + 0)), some (x_i (i : Int)), none, none] [x_i (x_sc g (i + 2)), x_i (x_sc g (i + 1)), x_r (16 * 1 + 0)] (al, ro, fl (ml (x_ac M A) [1, 2, 3, 4, 5, 18, 19, 20, 21, 22, 23, 24, 25, 26, 27, 32] [X, T, N, Dr, Kp, Th, La, Lb, Lc, Fo, St, Ri, Br, Ro, Ot, S])) _ _ _ _
  refine e_aloadn (pc := 508) (i := 3) dL_law__508 rfl rfl ?_
  refine e_invSH (pc := 509) (K1 := 2) (S1 := 12) (K := K) (S := S0) (dd2 := 4) (av := [x_r (16 * 1 + 0), x_i (x_sc g (i + 1)), x_i (x_sc g (i + 2)), x_r (16 * 27 + 0)]) (st := []) dL_law__509 (xmH_monk 166 (x_inB (x_t5 (List.mem_of_getElem? (i := 17) rfl)) rfl)) rfl (f_calH (M := (x_ac M A)) (us2 := [3, 19, 27]) [2, 6, 14] hn rfl (And.intro rfl (And.intro rfl (And.intro rfl trivial))) rfl rfl rfl (c_L_monk hst hs ho hX hE)) (by decide) (Nat.le_of_ble_eq_true rfl) (Or.inl rfl) ?_
  show Ev g _ _ _ _ _ _ 512 [some (x_r 1), some (x_r (16 * 1 + 0)), some (x_r (16 * 32 + 0)), some (x_r (16 * 27 + 0)), some (x_i (i : Int)), none, none] [x_i (x_wc [1, 3] t0)] (al, ro, fl (ml (x_ac M A) [1, 2, 3, 4, 5, 18, 19, 20, 21, 22, 23, 24, 25, 26, 27, 32] [X, T, N, Dr, Kp, Th, Lax, Lb, Lc, Fo, St, Ri, Br, Ro, (x_out Ot t0), S])) _ _ _ _
  refine e_istore (pc := 512) (i := 5) dL_law__512 (by decide) rfl ?_
  show Ev g _ _ _ _ _ _ 514 [some (x_r 1), some (x_r (16 * 1 + 0)), some (x_r (16 * 32 + 0)), some (x_r (16 * 27 + 0)), some (x_i (i : Int)), some (x_i (x_wc [1, 3] t0)), none] [] (al, ro, fl (ml (x_ac M A) [1, 2, 3, 4, 5, 18, 19, 20, 21, 22, 23, 24, 25, 26, 27, 32] [X, T, N, Dr, Kp, Th, Lax, Lb, Lc, Fo, St, Ri, Br, Ro, (x_out Ot t0), S])) _ _ _ _
  refine e_aloadn (pc := 514) (i := 2) dL_law__514 rfl rfl ?_
  refine e_aloadn (pc := 515) (i := 0) dL_law__515 rfl rfl ?_
  refine e_iload (pc := 516) dL_law__516 rfl ?_
  refine e_iconst (pc := 518) dL_law__518 (x_R rfl) ?_
  refine e_iadd (pc := 519) dL_law__519 ?_
  rw [show x_add (i : Int) 1 = ((i + 1 : Nat) : Int) from x_ni (k := 1) (by omega)]
  refine e_sld (pc := 520) dL_law__520 (by omega) (by omega) ?_
  show Ev g _ _ _ _ _ _ 521 [some (x_r 1), some (x_r (16 * 1 + 0)), some (x_r (16 * 32 + 0)), some (x_r (16 * 27 + 0)), some (x_i (i : Int)), some (x_i (x_wc [1, 3] t0)), none] [x_i (x_sc g (i + 1)), x_r (16 * 32 + 0)] (al, ro, fl (ml (x_ac M A) [1, 2, 3, 4, 5, 18, 19, 20, 21, 22, 23, 24, 25, 26, 27, 32] [X, T, N, Dr, Kp, Th, Lax, Lb, Lc, Fo, St, Ri, Br, Ro, (x_out Ot t0), S])) _ _ _ _
  refine e_aloadn (pc := 521) (i := 0) dL_law__521 rfl rfl ?_
  refine e_iload (pc := 522) dL_law__522 rfl ?_
  refine e_iconst (pc := 524) dL_law__524 (x_R rfl) ?_
  refine e_iadd (pc := 525) dL_law__525 ?_
  rw [show x_add (i : Int) 2 = ((i + 2 : Nat) : Int) from x_ni (k := 2) (by omega)]
  refine e_sld (pc := 526) dL_law__526 (by omega) (by omega) ?_
  show Ev g _ _ _ _ _ _ 527 [some (x_r 1), some (x_r (16 * 1 + 0)), some (x_r (16 * 32 + 0)), some (x_r (16 * 27 + 0)), some (x_i (i : Int)), some (x_i (x_wc [1, 3] t0)), none] [x_i (x_sc g (i + 2)), x_i (x_sc g (i + 1)), x_r (16 * 32 + 0)] (al, ro, fl (ml (x_ac M A) [1, 2, 3, 4, 5, 18, 19, 20, 21, 22, 23, 24, 25, 26, 27, 32] [X, T, N, Dr, Kp, Th, Lax, Lb, Lc, Fo, St, Ri, Br, Ro, (x_out Ot t0), S])) _ _ _ _
  refine e_wide (K0 := 0 + K) (S0 := 0 + S0) (by omega) (by omega) ?_
  refine e_invV (pc := 527) (K1 := 0) (S1 := 0) (K := K) (S := S0) (dd2 := 44) (av := [x_i (x_sc g (i + 1)), x_i (x_sc g (i + 2))]) (st := []) (id := 16 * 32 + 0) dL_law__527 xmL_169 rfl (Or.inl ⟨10, 27, TX12, (sa_32_0 hs), rfl, by decide⟩) (f_cal (M := (x_ac M A)) (us2 := [32]) [15] hn rfl (And.intro rfl trivial) rfl rfl rfl (c_X12_monk hst hs hS)) (by decide) (Nat.le_of_ble_eq_true rfl) (Or.inl rfl) ?_
  show Ev g _ _ _ _ _ _ 530 [some (x_r 1), some (x_r (16 * 1 + 0)), some (x_r (16 * 32 + 0)), some (x_r (16 * 27 + 0)), some (x_i (i : Int)), some (x_i (x_wc [1, 3] t0)), none] [x_i b] (al, ro, fl (ml (x_ac M A) [1, 2, 3, 4, 5, 18, 19, 20, 21, 22, 23, 24, 25, 26, 27, 32] [X, T, N, Dr, Kp, Th, Lax, Lb, Lc, Fo, St, Ri, Br, Ro, (x_out Ot t0), Sy])) _ _ _ _
  refine e_istore (pc := 530) (i := 6) dL_law__530 (by decide) rfl ?_
  show Ev g _ _ _ _ _ _ 532 [some (x_r 1), some (x_r (16 * 1 + 0)), some (x_r (16 * 32 + 0)), some (x_r (16 * 27 + 0)), some (x_i (i : Int)), some (x_i (x_wc [1, 3] t0)), some (x_i b)] [] (al, ro, fl (ml (x_ac M A) [1, 2, 3, 4, 5, 18, 19, 20, 21, 22, 23, 24, 25, 26, 27, 32] [X, T, N, Dr, Kp, Th, Lax, Lb, Lc, Fo, St, Ri, Br, Ro, (x_out Ot t0), Sy])) _ _ _ _
  refine e_aloadn (pc := 532) (i := 2) dL_law__532 rfl rfl ?_
  refine e_wide (K0 := 0 + K) (S0 := 0 + S0) (by omega) (by omega) ?_
  refine e_invV (pc := 533) (K1 := 0) (S1 := 0) (K := K) (S := S0) (dd2 := 0) (av := []) (st := []) (id := 16 * 32 + 0) dL_law__533 xmL_156 rfl (Or.inl ⟨10, 27, TX12, (sa_32_0 hs), rfl, by decide⟩) (f_cal (M := (x_ac M A)) (us2 := [32]) [15] hn rfl (And.intro rfl trivial) rfl rfl rfl (c_X12_thrown hst hs (show G12_thrown Sy = some (Sy 0 0) from rfl))) (by decide) (Nat.le_of_ble_eq_true rfl) (Or.inl rfl) ?_
  show Ev g _ _ _ _ _ _ 536 [some (x_r 1), some (x_r (16 * 1 + 0)), some (x_r (16 * 32 + 0)), some (x_r (16 * 27 + 0)), some (x_i (i : Int)), some (x_i (x_wc [1, 3] t0)), some (x_i b)] [x_i (Sy 0 0)] (al, ro, fl (ml (x_ac M A) [1, 2, 3, 4, 5, 18, 19, 20, 21, 22, 23, 24, 25, 26, 27, 32] [X, T, N, Dr, Kp, Th, Lax, Lb, Lc, Fo, St, Ri, Br, Ro, (x_out Ot t0), Sy])) _ _ _ _
  have hk : Sy 0 0 = x_wc [1, 3] t0 := x_ag_k hA
  refine e_iload (pc := 536) dL_law__536 rfl ?_
  refine e_icmp_eq (pc := 538) (tgt := 543) dL_law__538 (by decide) (fun _ => ?_) (fun q => absurd hk q)
  refine e_iload (pc := 543) dL_law__543 rfl ?_
  cases t0 with
  | inr E =>
    refine e_if_ne (pc := 545) (tgt := 560) dL_law__545 (by decide) (fun _ => ?_) (fun q => absurd q (x_wc_r [1, 3] E))
    refine e_goto (pc := 560) (tgt := 3041) dL_law__560 (by decide) ?_
    refine e_drop (i := 5) ?_
    refine e_drop (i := 6) ?_
    exact kk
  | inl v =>
    refine e_if_ne (pc := 545) (tgt := 560) dL_law__545 (by decide) (fun q => absurd rfl q) (fun _ => ?_)
    refine e_aloadn (pc := 548) (i := 3) dL_law__548 rfl rfl ?_
    refine e_iconst (pc := 549) dL_law__549 (x_R rfl) ?_
    refine f_lald (pc := 550) (k := 14) (u := 27) (q := 0) (len := 1) dL_law__550 ho (by decide) hn rfl rfl (by decide) ?_
    refine e_iload (pc := 551) dL_law__551 rfl ?_
    refine e_i2l (pc := 553) dL_law__553 ?_
    refine e_lcmp (pc := 554) dL_law__554 ?_
    refine e_if_eq (pc := 555) (tgt := 560) dL_law__555 (by decide) (fun _ => ?_) (fun q => absurd (x_lc (show v = b from hA.2.symm)) q)
    refine e_goto (pc := 560) (tgt := 3041) dL_law__560 (by decide) ?_
    refine e_drop (i := 5) ?_
    refine e_drop (i := 6) ?_
    exact kk
set_option maxRecDepth 100000 in
set_option maxHeartbeats 4000000 in
theorem k6 {g : xG} {al : List (Nat × Nat × Nat)} {ro : Nat → Nat → Option Nat} (hst : g.1.stackTraces = false) (hs : SH al ro) (ho : (16 * 27 + 0, 21, 1) ∈ al) {M : Nat → xU} {h' : xH} {i K S0 : Nat} (hi : i + 6 ≤ x_L g) (hL : x_L g < 2147483648) {X T N Dr Kp Th La Lb Lc Fo St Ri Br Ro Ot S : xU} {A : xA} {t0 : (Int ⊕ Nat)} {b : Int} {Sy : xU} (hX : G11_store (x_sc g (i + 1)) N = some t0) (hE : ∀ E, t0 = .inr E → E ∈ ([1] : List Nat)) (hS : G12_store (x_sc g (i + 1)) S = some (b, Sy)) (hA : Ag (x_cd [1]) t0 b Sy)
    (kk : Ev g yL_law_ cL_law_ 7 (some .boolean) [] 60 3041 [some (x_r 1), some (x_r (16 * 1 + 0)), some (x_r (16 * 32 + 0)), some (x_r (16 * 27 + 0)), some (x_i (i : Int)), none, none] [] (al, ro, fl (ml (x_ac M A) [1, 2, 3, 4, 5, 18, 19, 20, 21, 22, 23, 24, 25, 26, 27, 32] [X, T, N, Dr, Kp, Th, La, Lb, Lc, Fo, St, Ri, Br, Ro, (x_out Ot t0), Sy])) K S0 (.inl (some (x_i 1))) h') : Ev g yL_law_ cL_law_ 7 (some .boolean) [] 60 563 [some (x_r 1), some (x_r (16 * 1 + 0)), some (x_r (16 * 32 + 0)), some (x_r (16 * 27 + 0)), some (x_i (i : Int)), none, none] [] (al, ro, fl (ml (x_ac M A) [1, 2, 3, 4, 5, 18, 19, 20, 21, 22, 23, 24, 25, 26, 27, 32] [X, T, N, Dr, Kp, Th, La, Lb, Lc, Fo, St, Ri, Br, Ro, Ot, S])) (1 + K) (6 + S0) (.inl (some (x_i 1))) h' := by
  have hn : ([1, 2, 3, 4, 5, 18, 19, 20, 21, 22, 23, 24, 25, 26, 27, 32] : List Nat).Nodup := by decide
  refine e_aloadn (pc := 563) (i := 1) dL_law__563 rfl rfl ?_
  refine e_aloadn (pc := 564) (i := 0) dL_law__564 rfl rfl ?_
  refine e_iload (pc := 565) dL_law__565 rfl ?_
  refine e_iconst (pc := 567) dL_law__567 (x_R rfl) ?_
  refine e_iadd (pc := 568) dL_law__568 ?_
  rw [show x_add (i : Int) 1 = ((i + 1 : Nat) : Int) from x_ni (k := 1) (by omega)]
  refine e_sld (pc := 569) dL_law__569 (by omega) (by omega) ?_
  show Ev g _ _ _ _ _ _ 570 [some (x_r 1), some (x_r (16 * 1 + 0)), some (x_r (16 * 32 + 0)), some (x_r (16 * 27 + 0)), some (x_i (i : Int)), none, none] [x_i (x_sc g (i + 1)), x_r (16 * 1 + 0)] (al, ro, fl (ml (x_ac M A) [1, 2, 3, 4, 5, 18, 19, 20, 21, 22, 23, 24, 25, 26, 27, 32] [X, T, N, Dr, Kp, Th, La, Lb, Lc, Fo, St, Ri, Br, Ro, Ot, S])) _ _ _ _
  refine e_aloadn (pc := 570) (i := 3) dL_law__570 rfl rfl ?_
  refine e_invSH (pc := 571) (K1 := 1) (S1 := 6) (K := K) (S := S0) (dd2 := 2) (av := [x_r (16 * 1 + 0), x_i (x_sc g (i + 1)), x_r (16 * 27 + 0)]) (st := []) dL_law__571 (xmH_store 170 (x_inB (x_t5 (List.mem_of_getElem? (i := 66) rfl)) rfl)) rfl (f_calH (M := (x_ac M A)) (us2 := [3, 27]) [2, 14] hn rfl (And.intro rfl (And.intro rfl trivial)) rfl rfl rfl (c_L_store hst hs ho hX hE)) (by decide) (Nat.le_of_ble_eq_true rfl) (Or.inl rfl) ?_
  show Ev g _ _ _ _ _ _ 574 [some (x_r 1), some (x_r (16 * 1 + 0)), some (x_r (16 * 32 + 0)), some (x_r (16 * 27 + 0)), some (x_i (i : Int)), none, none] [x_i (x_wc [1] t0)] (al, ro, fl (ml (x_ac M A) [1, 2, 3, 4, 5, 18, 19, 20, 21, 22, 23, 24, 25, 26, 27, 32] [X, T, N, Dr, Kp, Th, La, Lb, Lc, Fo, St, Ri, Br, Ro, (x_out Ot t0), S])) _ _ _ _
  refine e_istore (pc := 574) (i := 5) dL_law__574 (by decide) rfl ?_
  show Ev g _ _ _ _ _ _ 576 [some (x_r 1), some (x_r (16 * 1 + 0)), some (x_r (16 * 32 + 0)), some (x_r (16 * 27 + 0)), some (x_i (i : Int)), some (x_i (x_wc [1] t0)), none] [] (al, ro, fl (ml (x_ac M A) [1, 2, 3, 4, 5, 18, 19, 20, 21, 22, 23, 24, 25, 26, 27, 32] [X, T, N, Dr, Kp, Th, La, Lb, Lc, Fo, St, Ri, Br, Ro, (x_out Ot t0), S])) _ _ _ _
  refine e_aloadn (pc := 576) (i := 2) dL_law__576 rfl rfl ?_
  refine e_aloadn (pc := 577) (i := 0) dL_law__577 rfl rfl ?_
  refine e_iload (pc := 578) dL_law__578 rfl ?_
  refine e_iconst (pc := 580) dL_law__580 (x_R rfl) ?_
  refine e_iadd (pc := 581) dL_law__581 ?_
  rw [show x_add (i : Int) 1 = ((i + 1 : Nat) : Int) from x_ni (k := 1) (by omega)]
  refine e_sld (pc := 582) dL_law__582 (by omega) (by omega) ?_
  show Ev g _ _ _ _ _ _ 583 [some (x_r 1), some (x_r (16 * 1 + 0)), some (x_r (16 * 32 + 0)), some (x_r (16 * 27 + 0)), some (x_i (i : Int)), some (x_i (x_wc [1] t0)), none] [x_i (x_sc g (i + 1)), x_r (16 * 32 + 0)] (al, ro, fl (ml (x_ac M A) [1, 2, 3, 4, 5, 18, 19, 20, 21, 22, 23, 24, 25, 26, 27, 32] [X, T, N, Dr, Kp, Th, La, Lb, Lc, Fo, St, Ri, Br, Ro, (x_out Ot t0), S])) _ _ _ _
  refine e_wide (K0 := 0 + K) (S0 := 0 + S0) (by omega) (by omega) ?_
  refine e_invV (pc := 583) (K1 := 0) (S1 := 0) (K := K) (S := S0) (dd2 := 2) (av := [x_i (x_sc g (i + 1))]) (st := []) (id := 16 * 32 + 0) dL_law__583 xmL_173 rfl (Or.inl ⟨10, 27, TX12, (sa_32_0 hs), rfl, by decide⟩) (f_cal (M := (x_ac M A)) (us2 := [32]) [15] hn rfl (And.intro rfl trivial) rfl rfl rfl (c_X12_store hst hs hS)) (by decide) (Nat.le_of_ble_eq_true rfl) (Or.inl rfl) ?_
  show Ev g _ _ _ _ _ _ 586 [some (x_r 1), some (x_r (16 * 1 + 0)), some (x_r (16 * 32 + 0)), some (x_r (16 * 27 + 0)), some (x_i (i : Int)), some (x_i (x_wc [1] t0)), none] [x_i b] (al, ro, fl (ml (x_ac M A) [1, 2, 3, 4, 5, 18, 19, 20, 21, 22, 23, 24, 25, 26, 27, 32] [X, T, N, Dr, Kp, Th, La, Lb, Lc, Fo, St, Ri, Br, Ro, (x_out Ot t0), Sy])) _ _ _ _
  refine e_istore (pc := 586) (i := 6) dL_law__586 (by decide) rfl ?_
  show Ev g _ _ _ _ _ _ 588 [some (x_r 1), some (x_r (16 * 1 + 0)), some (x_r (16 * 32 + 0)), some (x_r (16 * 27 + 0)), some (x_i (i : Int)), some (x_i (x_wc [1] t0)), some (x_i b)] [] (al, ro, fl (ml (x_ac M A) [1, 2, 3, 4, 5, 18, 19, 20, 21, 22, 23, 24, 25, 26, 27, 32] [X, T, N, Dr, Kp, Th, La, Lb, Lc, Fo, St, Ri, Br, Ro, (x_out Ot t0), Sy])) _ _ _ _
  refine e_aloadn (pc := 588) (i := 2) dL_law__588 rfl rfl ?_
  refine e_wide (K0 := 0 + K) (S0 := 0 + S0) (by omega) (by omega) ?_
  refine e_invV (pc := 589) (K1 := 0) (S1 := 0) (K := K) (S := S0) (dd2 := 0) (av := []) (st := []) (id := 16 * 32 + 0) dL_law__589 xmL_156 rfl (Or.inl ⟨10, 27, TX12, (sa_32_0 hs), rfl, by decide⟩) (f_cal (M := (x_ac M A)) (us2 := [32]) [15] hn rfl (And.intro rfl trivial) rfl rfl rfl (c_X12_thrown hst hs (show G12_thrown Sy = some (Sy 0 0) from rfl))) (by decide) (Nat.le_of_ble_eq_true rfl) (Or.inl rfl) ?_
  show Ev g _ _ _ _ _ _ 592 [some (x_r 1), some (x_r (16 * 1 + 0)), some (x_r (16 * 32 + 0)), some (x_r (16 * 27 + 0)), some (x_i (i : Int)), some (x_i (x_wc [1] t0)), some (x_i b)] [x_i (Sy 0 0)] (al, ro, fl (ml (x_ac M A) [1, 2, 3, 4, 5, 18, 19, 20, 21, 22, 23, 24, 25, 26, 27, 32] [X, T, N, Dr, Kp, Th, La, Lb, Lc, Fo, St, Ri, Br, Ro, (x_out Ot t0), Sy])) _ _ _ _
  have hk : Sy 0 0 = x_wc [1] t0 := x_ag_k hA
  refine e_iload (pc := 592) dL_law__592 rfl ?_
  refine e_icmp_eq (pc := 594) (tgt := 599) dL_law__594 (by decide) (fun _ => ?_) (fun q => absurd hk q)
  refine e_iload (pc := 599) dL_law__599 rfl ?_
  cases t0 with
  | inr E =>
    refine e_if_ne (pc := 601) (tgt := 616) dL_law__601 (by decide) (fun _ => ?_) (fun q => absurd q (x_wc_r [1] E))
    refine e_goto (pc := 616) (tgt := 3041) dL_law__616 (by decide) ?_
    refine e_drop (i := 5) ?_
    refine e_drop (i := 6) ?_
    exact kk
  | inl v =>
    refine e_if_ne (pc := 601) (tgt := 616) dL_law__601 (by decide) (fun q => absurd rfl q) (fun _ => ?_)
    refine e_aloadn (pc := 604) (i := 3) dL_law__604 rfl rfl ?_
    refine e_iconst (pc := 605) dL_law__605 (x_R rfl) ?_
    refine f_lald (pc := 606) (k := 14) (u := 27) (q := 0) (len := 1) dL_law__606 ho (by decide) hn rfl rfl (by decide) ?_
    refine e_iload (pc := 607) dL_law__607 rfl ?_
    refine e_i2l (pc := 609) dL_law__609 ?_
    refine e_lcmp (pc := 610) dL_law__610 ?_
    refine e_if_eq (pc := 611) (tgt := 616) dL_law__611 (by decide) (fun _ => ?_) (fun q => absurd (x_lc (show v = b from hA.2.symm)) q)
    refine e_goto (pc := 616) (tgt := 3041) dL_law__616 (by decide) ?_
    refine e_drop (i := 5) ?_
    refine e_drop (i := 6) ?_
    exact kk
set_option maxRecDepth 100000 in
set_option maxHeartbeats 4000000 in
theorem k7 {g : xG} {al : List (Nat × Nat × Nat)} {ro : Nat → Nat → Option Nat} (hst : g.1.stackTraces = false) (hs : SH al ro) (ho : (16 * 27 + 0, 21, 1) ∈ al) {M : Nat → xU} {h' : xH} {i K S0 : Nat} (hi : i + 6 ≤ x_L g) (hL : x_L g < 2147483648) {X T N Dr Kp Th La Lb Lc Fo St Ri Br Ro Ot S : xU} {A : xA} {t0 : (Int ⊕ Nat)} {b : Int} {Sy : xU} (hX : G11_season (x_sc g (i + 1)) N = some t0) (hE : ∀ E, t0 = .inr E → E ∈ ([1] : List Nat)) (hS : G12_season (x_sc g (i + 1)) S = some (b, Sy)) (hA : Ag (x_cd [1]) t0 b Sy)
    (kk : Ev g yL_law_ cL_law_ 7 (some .boolean) [] 60 3041 [some (x_r 1), some (x_r (16 * 1 + 0)), some (x_r (16 * 32 + 0)), some (x_r (16 * 27 + 0)), some (x_i (i : Int)), none, none] [] (al, ro, fl (ml (x_ac M A) [1, 2, 3, 4, 5, 18, 19, 20, 21, 22, 23, 24, 25, 26, 27, 32] [X, T, N, Dr, Kp, Th, La, Lb, Lc, Fo, St, Ri, Br, Ro, (x_out Ot t0), Sy])) K S0 (.inl (some (x_i 1))) h') : Ev g yL_law_ cL_law_ 7 (some .boolean) [] 60 619 [some (x_r 1), some (x_r (16 * 1 + 0)), some (x_r (16 * 32 + 0)), some (x_r (16 * 27 + 0)), some (x_i (i : Int)), none, none] [] (al, ro, fl (ml (x_ac M A) [1, 2, 3, 4, 5, 18, 19, 20, 21, 22, 23, 24, 25, 26, 27, 32] [X, T, N, Dr, Kp, Th, La, Lb, Lc, Fo, St, Ri, Br, Ro, Ot, S])) (1 + K) (6 + S0) (.inl (some (x_i 1))) h' := by
  have hn : ([1, 2, 3, 4, 5, 18, 19, 20, 21, 22, 23, 24, 25, 26, 27, 32] : List Nat).Nodup := by decide
  refine e_aloadn (pc := 619) (i := 1) dL_law__619 rfl rfl ?_
  refine e_aloadn (pc := 620) (i := 0) dL_law__620 rfl rfl ?_
  refine e_iload (pc := 621) dL_law__621 rfl ?_
  refine e_iconst (pc := 623) dL_law__623 (x_R rfl) ?_
  refine e_iadd (pc := 624) dL_law__624 ?_
  rw [show x_add (i : Int) 1 = ((i + 1 : Nat) : Int) from x_ni (k := 1) (by omega)]
  refine e_sld (pc := 625) dL_law__625 (by omega) (by omega) ?_
  show Ev g _ _ _ _ _ _ 626 [some (x_r 1), some (x_r (16 * 1 + 0)), some (x_r (16 * 32 + 0)), some (x_r (16 * 27 + 0)), some (x_i (i : Int)), none, none] [x_i (x_sc g (i + 1)), x_r (16 * 1 + 0)] (al, ro, fl (ml (x_ac M A) [1, 2, 3, 4, 5, 18, 19, 20, 21, 22, 23, 24, 25, 26, 27, 32] [X, T, N, Dr, Kp, Th, La, Lb, Lc, Fo, St, Ri, Br, Ro, Ot, S])) _ _ _ _
  refine e_aloadn (pc := 626) (i := 3) dL_law__626 rfl rfl ?_
  refine e_invSH (pc := 627) (K1 := 1) (S1 := 6) (K := K) (S := S0) (dd2 := 2) (av := [x_r (16 * 1 + 0), x_i (x_sc g (i + 1)), x_r (16 * 27 + 0)]) (st := []) dL_law__627 (xmH_season 174 (x_inB (x_t5 (List.mem_of_getElem? (i := 77) rfl)) rfl)) rfl (f_calH (M := (x_ac M A)) (us2 := [3, 27]) [2, 14] hn rfl (And.intro rfl (And.intro rfl trivial)) rfl rfl rfl (c_L_season hst hs ho hX hE)) (by decide) (Nat.le_of_ble_eq_true rfl) (Or.inl rfl) ?_
  show Ev g _ _ _ _ _ _ 630 [some (x_r 1), some (x_r (16 * 1 + 0)), some (x_r (16 * 32 + 0)), some (x_r (16 * 27 + 0)), some (x_i (i : Int)), none, none] [x_i (x_wc [1] t0)] (al, ro, fl (ml (x_ac M A) [1, 2, 3, 4, 5, 18, 19, 20, 21, 22, 23, 24, 25, 26, 27, 32] [X, T, N, Dr, Kp, Th, La, Lb, Lc, Fo, St, Ri, Br, Ro, (x_out Ot t0), S])) _ _ _ _
  refine e_istore (pc := 630) (i := 5) dL_law__630 (by decide) rfl ?_
  show Ev g _ _ _ _ _ _ 632 [some (x_r 1), some (x_r (16 * 1 + 0)), some (x_r (16 * 32 + 0)), some (x_r (16 * 27 + 0)), some (x_i (i : Int)), some (x_i (x_wc [1] t0)), none] [] (al, ro, fl (ml (x_ac M A) [1, 2, 3, 4, 5, 18, 19, 20, 21, 22, 23, 24, 25, 26, 27, 32] [X, T, N, Dr, Kp, Th, La, Lb, Lc, Fo, St, Ri, Br, Ro, (x_out Ot t0), S])) _ _ _ _
  refine e_aloadn (pc := 632) (i := 2) dL_law__632 rfl rfl ?_
  refine e_aloadn (pc := 633) (i := 0) dL_law__633 rfl rfl ?_
  refine e_iload (pc := 634) dL_law__634 rfl ?_
  refine e_iconst (pc := 636) dL_law__636 (x_R rfl) ?_
  refine e_iadd (pc := 637) dL_law__637 ?_
  rw [show x_add (i : Int) 1 = ((i + 1 : Nat) : Int) from x_ni (k := 1) (by omega)]
  refine e_sld (pc := 638) dL_law__638 (by omega) (by omega) ?_
  show Ev g _ _ _ _ _ _ 639 [some (x_r 1), some (x_r (16 * 1 + 0)), some (x_r (16 * 32 + 0)), some (x_r (16 * 27 + 0)), some (x_i (i : Int)), some (x_i (x_wc [1] t0)), none] [x_i (x_sc g (i + 1)), x_r (16 * 32 + 0)] (al, ro, fl (ml (x_ac M A) [1, 2, 3, 4, 5, 18, 19, 20, 21, 22, 23, 24, 25, 26, 27, 32] [X, T, N, Dr, Kp, Th, La, Lb, Lc, Fo, St, Ri, Br, Ro, (x_out Ot t0), S])) _ _ _ _
  refine e_wide (K0 := 0 + K) (S0 := 0 + S0) (by omega) (by omega) ?_
  refine e_invV (pc := 639) (K1 := 0) (S1 := 0) (K := K) (S := S0) (dd2 := 2) (av := [x_i (x_sc g (i + 1))]) (st := []) (id := 16 * 32 + 0) dL_law__639 xmL_176 rfl (Or.inl ⟨10, 27, TX12, (sa_32_0 hs), rfl, by decide⟩) (f_cal (M := (x_ac M A)) (us2 := [32]) [15] hn rfl (And.intro rfl trivial) rfl rfl rfl (c_X12_season hst hs hS)) (by decide) (Nat.le_of_ble_eq_true rfl) (Or.inl rfl) ?_
  show Ev g _ _ _ _ _ _ 642 [some (x_r 1), some (x_r (16 * 1 + 0)), some (x_r (16 * 32 + 0)), some (x_r (16 * 27 + 0)), some (x_i (i : Int)), some (x_i (x_wc [1] t0)), none] [x_i b] (al, ro, fl (ml (x_ac M A) [1, 2, 3, 4, 5, 18, 19, 20, 21, 22, 23, 24, 25, 26, 27, 32] [X, T, N, Dr, Kp, Th, La, Lb, Lc, Fo, St, Ri, Br, Ro, (x_out Ot t0), Sy])) _ _ _ _
  refine e_istore (pc := 642) (i := 6) dL_law__642 (by decide) rfl ?_
  show Ev g _ _ _ _ _ _ 644 [some (x_r 1), some (x_r (16 * 1 + 0)), some (x_r (16 * 32 + 0)), some (x_r (16 * 27 + 0)), some (x_i (i : Int)), some (x_i (x_wc [1] t0)), some (x_i b)] [] (al, ro, fl (ml (x_ac M A) [1, 2, 3, 4, 5, 18, 19, 20, 21, 22, 23, 24, 25, 26, 27, 32] [X, T, N, Dr, Kp, Th, La, Lb, Lc, Fo, St, Ri, Br, Ro, (x_out Ot t0), Sy])) _ _ _ _
  refine e_aloadn (pc := 644) (i := 2) dL_law__644 rfl rfl ?_
  refine e_wide (K0 := 0 + K) (S0 := 0 + S0) (by omega) (by omega) ?_
  refine e_invV (pc := 645) (K1 := 0) (S1 := 0) (K := K) (S := S0) (dd2 := 0) (av := []) (st := []) (id := 16 * 32 + 0) dL_law__645 xmL_156 rfl (Or.inl ⟨10, 27, TX12, (sa_32_0 hs), rfl, by decide⟩) (f_cal (M := (x_ac M A)) (us2 := [32]) [15] hn rfl (And.intro rfl trivial) rfl rfl rfl (c_X12_thrown hst hs (show G12_thrown Sy = some (Sy 0 0) from rfl))) (by decide) (Nat.le_of_ble_eq_true rfl) (Or.inl rfl) ?_
  show Ev g _ _ _ _ _ _ 648 [some (x_r 1), some (x_r (16 * 1 + 0)), some (x_r (16 * 32 + 0)), some (x_r (16 * 27 + 0)), some (x_i (i : Int)), some (x_i (x_wc [1] t0)), some (x_i b)] [x_i (Sy 0 0)] (al, ro, fl (ml (x_ac M A) [1, 2, 3, 4, 5, 18, 19, 20, 21, 22, 23, 24, 25, 26, 27, 32] [X, T, N, Dr, Kp, Th, La, Lb, Lc, Fo, St, Ri, Br, Ro, (x_out Ot t0), Sy])) _ _ _ _
  have hk : Sy 0 0 = x_wc [1] t0 := x_ag_k hA
  refine e_iload (pc := 648) dL_law__648 rfl ?_
  refine e_icmp_eq (pc := 650) (tgt := 655) dL_law__650 (by decide) (fun _ => ?_) (fun q => absurd hk q)
  refine e_iload (pc := 655) dL_law__655 rfl ?_
  cases t0 with
  | inr E =>
    refine e_if_ne (pc := 657) (tgt := 672) dL_law__657 (by decide) (fun _ => ?_) (fun q => absurd q (x_wc_r [1] E))
    refine e_goto (pc := 672) (tgt := 3041) dL_law__672 (by decide) ?_
    refine e_drop (i := 5) ?_
    refine e_drop (i := 6) ?_
    exact kk
  | inl v =>
    refine e_if_ne (pc := 657) (tgt := 672) dL_law__657 (by decide) (fun q => absurd rfl q) (fun _ => ?_)
    refine e_aloadn (pc := 660) (i := 3) dL_law__660 rfl rfl ?_
    refine e_iconst (pc := 661) dL_law__661 (x_R rfl) ?_
    refine f_lald (pc := 662) (k := 14) (u := 27) (q := 0) (len := 1) dL_law__662 ho (by decide) hn rfl rfl (by decide) ?_
    refine e_iload (pc := 663) dL_law__663 rfl ?_
    refine e_i2l (pc := 665) dL_law__665 ?_
    refine e_lcmp (pc := 666) dL_law__666 ?_
    refine e_if_eq (pc := 667) (tgt := 672) dL_law__667 (by decide) (fun _ => ?_) (fun q => absurd (x_lc (show v = b from hA.2.symm)) q)
    refine e_goto (pc := 672) (tgt := 3041) dL_law__672 (by decide) ?_
    refine e_drop (i := 5) ?_
    refine e_drop (i := 6) ?_
    exact kk
set_option maxRecDepth 100000 in
set_option maxHeartbeats 4000000 in
theorem k8 {g : xG} {al : List (Nat × Nat × Nat)} {ro : Nat → Nat → Option Nat} (hst : g.1.stackTraces = false) (hs : SH al ro) (ho : (16 * 27 + 0, 21, 1) ∈ al) {M : Nat → xU} {h' : xH} {i K S0 : Nat} (hi : i + 6 ≤ x_L g) (hL : x_L g < 2147483648) {X T N Dr Kp Th La Lb Lc Fo St Ri Br Ro Ot S : xU} {A : xA} {t0 : (Int ⊕ Nat)} {Xx : xU} {Nx : xU} {Lax : xU} {Ax : xA} {b : Int} {Sy : xU} (hX : G11_hours (x_sc g (i + 1)) X N La A = some (t0, Xx, Nx, Lax, Ax)) (hE : ∀ E, t0 = .inr E → E ∈ ([0] : List Nat)) (hS : G12_hours (x_sc g (i + 1)) S = some (b, Sy)) (hA : Ag (x_cd [0]) t0 b Sy)
    (kk : Ev g yL_law_ cL_law_ 7 (some .boolean) [] 60 3041 [some (x_r 1), some (x_r (16 * 1 + 0)), some (x_r (16 * 32 + 0)), some (x_r (16 * 27 + 0)), some (x_i (i : Int)), none, none] [] (al, ro, fl (ml (x_ac M Ax) [1, 2, 3, 4, 5, 18, 19, 20, 21, 22, 23, 24, 25, 26, 27, 32] [Xx, T, Nx, Dr, Kp, Th, Lax, Lb, Lc, Fo, St, Ri, Br, Ro, (x_out Ot t0), Sy])) K S0 (.inl (some (x_i 1))) h') : Ev g yL_law_ cL_law_ 7 (some .boolean) [] 60 675 [some (x_r 1), some (x_r (16 * 1 + 0)), some (x_r (16 * 32 + 0)), some (x_r (16 * 27 + 0)), some (x_i (i : Int)), none, none] [] (al, ro, fl (ml (x_ac M A) [1, 2, 3, 4, 5, 18, 19, 20, 21, 22, 23, 24, 25, 26, 27, 32] [X, T, N, Dr, Kp, Th, La, Lb, Lc, Fo, St, Ri, Br, Ro, Ot, S])) (1 + K) (6 + S0) (.inl (some (x_i 1))) h' := by
  have hn : ([1, 2, 3, 4, 5, 18, 19, 20, 21, 22, 23, 24, 25, 26, 27, 32] : List Nat).Nodup := by decide
  refine e_aloadn (pc := 675) (i := 1) dL_law__675 rfl rfl ?_
  refine e_aloadn (pc := 676) (i := 0) dL_law__676 rfl rfl ?_
  refine e_iload (pc := 677) dL_law__677 rfl ?_
  refine e_iconst (pc := 679) dL_law__679 (x_R rfl) ?_
  refine e_iadd (pc := 680) dL_law__680 ?_
  rw [show x_add (i : Int) 1 = ((i + 1 : Nat) : Int) from x_ni (k := 1) (by omega)]
  refine e_sld (pc := 681) dL_law__681 (by omega) (by omega) ?_
  show Ev g _ _ _ _ _ _ 682 [some (x_r 1), some (x_r (16 * 1 + 0)), some (x_r (16 * 32 + 0)), some (x_r (16 * 27 + 0)), some (x_i (i : Int)), none, none] [x_i (x_sc g (i + 1)), x_r (16 * 1 + 0)] (al, ro, fl (ml (x_ac M A) [1, 2, 3, 4, 5, 18, 19, 20, 21, 22, 23, 24, 25, 26, 27, 32] [X, T, N, Dr, Kp, Th, La, Lb, Lc, Fo, St, Ri, Br, Ro, Ot, S])) _ _ _ _
  refine e_aloadn (pc := 682) (i := 3) dL_law__682 rfl rfl ?_
  refine e_invSH (pc := 683) (K1 := 1) (S1 := 6) (K := K) (S := S0) (dd2 := 6) (av := [x_r (16 * 1 + 0), x_i (x_sc g (i + 1)), x_r (16 * 27 + 0)]) (st := []) dL_law__683 (xmH_hours 177 (x_inB (x_t5 (List.mem_of_getElem? (i := 88) rfl)) rfl)) rfl (f_calHA (us2 := [1, 3, 19, 27]) [0, 2, 6, 14] hn rfl (And.intro rfl (And.intro rfl (And.intro rfl (And.intro rfl trivial)))) rfl rfl rfl rfl (c_L_hours hst hs ho hX hE)) (by decide) (Nat.le_of_ble_eq_true rfl) (Or.inl rfl) ?_
  show Ev g _ _ _ _ _ _ 686 [some (x_r 1), some (x_r (16 * 1 + 0)), some (x_r (16 * 32 + 0)), some (x_r (16 * 27 + 0)), some (x_i (i : Int)), none, none] [x_i (x_wc [0] t0)] (al, ro, fl (ml (x_ac M Ax) [1, 2, 3, 4, 5, 18, 19, 20, 21, 22, 23, 24, 25, 26, 27, 32] [Xx, T, Nx, Dr, Kp, Th, Lax, Lb, Lc, Fo, St, Ri, Br, Ro, (x_out Ot t0), S])) _ _ _ _
  refine e_istore (pc := 686) (i := 5) dL_law__686 (by decide) rfl ?_
  show Ev g _ _ _ _ _ _ 688 [some (x_r 1), some (x_r (16 * 1 + 0)), some (x_r (16 * 32 + 0)), some (x_r (16 * 27 + 0)), some (x_i (i : Int)), some (x_i (x_wc [0] t0)), none] [] (al, ro, fl (ml (x_ac M Ax) [1, 2, 3, 4, 5, 18, 19, 20, 21, 22, 23, 24, 25, 26, 27, 32] [Xx, T, Nx, Dr, Kp, Th, Lax, Lb, Lc, Fo, St, Ri, Br, Ro, (x_out Ot t0), S])) _ _ _ _
  refine e_aloadn (pc := 688) (i := 2) dL_law__688 rfl rfl ?_
  refine e_aloadn (pc := 689) (i := 0) dL_law__689 rfl rfl ?_
  refine e_iload (pc := 690) dL_law__690 rfl ?_
  refine e_iconst (pc := 692) dL_law__692 (x_R rfl) ?_
  refine e_iadd (pc := 693) dL_law__693 ?_
  rw [show x_add (i : Int) 1 = ((i + 1 : Nat) : Int) from x_ni (k := 1) (by omega)]
  refine e_sld (pc := 694) dL_law__694 (by omega) (by omega) ?_
  show Ev g _ _ _ _ _ _ 695 [some (x_r 1), some (x_r (16 * 1 + 0)), some (x_r (16 * 32 + 0)), some (x_r (16 * 27 + 0)), some (x_i (i : Int)), some (x_i (x_wc [0] t0)), none] [x_i (x_sc g (i + 1)), x_r (16 * 32 + 0)] (al, ro, fl (ml (x_ac M Ax) [1, 2, 3, 4, 5, 18, 19, 20, 21, 22, 23, 24, 25, 26, 27, 32] [Xx, T, Nx, Dr, Kp, Th, Lax, Lb, Lc, Fo, St, Ri, Br, Ro, (x_out Ot t0), S])) _ _ _ _
  refine e_wide (K0 := 0 + K) (S0 := 0 + S0) (by omega) (by omega) ?_
  refine e_invV (pc := 695) (K1 := 0) (S1 := 0) (K := K) (S := S0) (dd2 := 47) (av := [x_i (x_sc g (i + 1))]) (st := []) (id := 16 * 32 + 0) dL_law__695 xmL_179 rfl (Or.inl ⟨10, 27, TX12, (sa_32_0 hs), rfl, by decide⟩) (f_cal (M := (x_ac M Ax)) (us2 := [32]) [15] hn rfl (And.intro rfl trivial) rfl rfl rfl (c_X12_hours hst hs hS)) (by decide) (Nat.le_of_ble_eq_true rfl) (Or.inl rfl) ?_
  show Ev g _ _ _ _ _ _ 698 [some (x_r 1), some (x_r (16 * 1 + 0)), some (x_r (16 * 32 + 0)), some (x_r (16 * 27 + 0)), some (x_i (i : Int)), some (x_i (x_wc [0] t0)), none] [x_i b] (al, ro, fl (ml (x_ac M Ax) [1, 2, 3, 4, 5, 18, 19, 20, 21, 22, 23, 24, 25, 26, 27, 32] [Xx, T, Nx, Dr, Kp, Th, Lax, Lb, Lc, Fo, St, Ri, Br, Ro, (x_out Ot t0), Sy])) _ _ _ _
  refine e_istore (pc := 698) (i := 6) dL_law__698 (by decide) rfl ?_
  show Ev g _ _ _ _ _ _ 700 [some (x_r 1), some (x_r (16 * 1 + 0)), some (x_r (16 * 32 + 0)), some (x_r (16 * 27 + 0)), some (x_i (i : Int)), some (x_i (x_wc [0] t0)), some (x_i b)] [] (al, ro, fl (ml (x_ac M Ax) [1, 2, 3, 4, 5, 18, 19, 20, 21, 22, 23, 24, 25, 26, 27, 32] [Xx, T, Nx, Dr, Kp, Th, Lax, Lb, Lc, Fo, St, Ri, Br, Ro, (x_out Ot t0), Sy])) _ _ _ _
  refine e_aloadn (pc := 700) (i := 2) dL_law__700 rfl rfl ?_
  refine e_wide (K0 := 0 + K) (S0 := 0 + S0) (by omega) (by omega) ?_
  refine e_invV (pc := 701) (K1 := 0) (S1 := 0) (K := K) (S := S0) (dd2 := 0) (av := []) (st := []) (id := 16 * 32 + 0) dL_law__701 xmL_156 rfl (Or.inl ⟨10, 27, TX12, (sa_32_0 hs), rfl, by decide⟩) (f_cal (M := (x_ac M Ax)) (us2 := [32]) [15] hn rfl (And.intro rfl trivial) rfl rfl rfl (c_X12_thrown hst hs (show G12_thrown Sy = some (Sy 0 0) from rfl))) (by decide) (Nat.le_of_ble_eq_true rfl) (Or.inl rfl) ?_
  show Ev g _ _ _ _ _ _ 704 [some (x_r 1), some (x_r (16 * 1 + 0)), some (x_r (16 * 32 + 0)), some (x_r (16 * 27 + 0)), some (x_i (i : Int)), some (x_i (x_wc [0] t0)), some (x_i b)] [x_i (Sy 0 0)] (al, ro, fl (ml (x_ac M Ax) [1, 2, 3, 4, 5, 18, 19, 20, 21, 22, 23, 24, 25, 26, 27, 32] [Xx, T, Nx, Dr, Kp, Th, Lax, Lb, Lc, Fo, St, Ri, Br, Ro, (x_out Ot t0), Sy])) _ _ _ _
  have hk : Sy 0 0 = x_wc [0] t0 := x_ag_k hA
  refine e_iload (pc := 704) dL_law__704 rfl ?_
  refine e_icmp_eq (pc := 706) (tgt := 711) dL_law__706 (by decide) (fun _ => ?_) (fun q => absurd hk q)
  refine e_iload (pc := 711) dL_law__711 rfl ?_
  cases t0 with
  | inr E =>
    refine e_if_ne (pc := 713) (tgt := 728) dL_law__713 (by decide) (fun _ => ?_) (fun q => absurd q (x_wc_r [0] E))
    refine e_goto (pc := 728) (tgt := 3041) dL_law__728 (by decide) ?_
    refine e_drop (i := 5) ?_
    refine e_drop (i := 6) ?_
    exact kk
  | inl v =>
    refine e_if_ne (pc := 713) (tgt := 728) dL_law__713 (by decide) (fun q => absurd rfl q) (fun _ => ?_)
    refine e_aloadn (pc := 716) (i := 3) dL_law__716 rfl rfl ?_
    refine e_iconst (pc := 717) dL_law__717 (x_R rfl) ?_
    refine f_lald (pc := 718) (k := 14) (u := 27) (q := 0) (len := 1) dL_law__718 ho (by decide) hn rfl rfl (by decide) ?_
    refine e_iload (pc := 719) dL_law__719 rfl ?_
    refine e_i2l (pc := 721) dL_law__721 ?_
    refine e_lcmp (pc := 722) dL_law__722 ?_
    refine e_if_eq (pc := 723) (tgt := 728) dL_law__723 (by decide) (fun _ => ?_) (fun q => absurd (x_lc (show v = b from hA.2.symm)) q)
    refine e_goto (pc := 728) (tgt := 3041) dL_law__728 (by decide) ?_
    refine e_drop (i := 5) ?_
    refine e_drop (i := 6) ?_
    exact kk
set_option maxRecDepth 100000 in
set_option maxHeartbeats 4000000 in
theorem k9 {g : xG} {al : List (Nat × Nat × Nat)} {ro : Nat → Nat → Option Nat} (hst : g.1.stackTraces = false) (hs : SH al ro) (ho : (16 * 27 + 0, 21, 1) ∈ al) {M : Nat → xU} {h' : xH} {i K S0 : Nat} (hi : i + 6 ≤ x_L g) (hL : x_L g < 2147483648) {X T N Dr Kp Th La Lb Lc Fo St Ri Br Ro Ot S : xU} {A : xA} {t0 : (Int ⊕ Nat)} {Xx : xU} {Nx : xU} {Ax : xA} {b : Int} {Sy : xU} (hX : G11_cross (x_sc g (i + 1)) X N A = some (t0, Xx, Nx, Ax)) (hE : ∀ E, t0 = .inr E → E ∈ ([1, 2] : List Nat)) (hS : G12_cross (x_sc g (i + 1)) S = some (b, Sy)) (hA : Ag (x_cd [1, 2]) t0 b Sy)
    (kk : Ev g yL_law_ cL_law_ 7 (some .boolean) [] 60 3041 [some (x_r 1), some (x_r (16 * 1 + 0)), some (x_r (16 * 32 + 0)), some (x_r (16 * 27 + 0)), some (x_i (i : Int)), none, none] [] (al, ro, fl (ml (x_ac M Ax) [1, 2, 3, 4, 5, 18, 19, 20, 21, 22, 23, 24, 25, 26, 27, 32] [Xx, T, Nx, Dr, Kp, Th, La, Lb, Lc, Fo, St, Ri, Br, Ro, (x_out Ot t0), Sy])) K S0 (.inl (some (x_i 1))) h') : Ev g yL_law_ cL_law_ 7 (some .boolean) [] 60 731 [some (x_r 1), some (x_r (16 * 1 + 0)), some (x_r (16 * 32 + 0)), some (x_r (16 * 27 + 0)), some (x_i (i : Int)), none, none] [] (al, ro, fl (ml (x_ac M A) [1, 2, 3, 4, 5, 18, 19, 20, 21, 22, 23, 24, 25, 26, 27, 32] [X, T, N, Dr, Kp, Th, La, Lb, Lc, Fo, St, Ri, Br, Ro, Ot, S])) (2 + K) (12 + S0) (.inl (some (x_i 1))) h' := by
  have hn : ([1, 2, 3, 4, 5, 18, 19, 20, 21, 22, 23, 24, 25, 26, 27, 32] : List Nat).Nodup := by decide
  refine e_aloadn (pc := 731) (i := 1) dL_law__731 rfl rfl ?_
  refine e_aloadn (pc := 732) (i := 0) dL_law__732 rfl rfl ?_
  refine e_iload (pc := 733) dL_law__733 rfl ?_
  refine e_iconst (pc := 735) dL_law__735 (x_R rfl) ?_
  refine e_iadd (pc := 736) dL_law__736 ?_
  rw [show x_add (i : Int) 1 = ((i + 1 : Nat) : Int) from x_ni (k := 1) (by omega)]
  refine e_sld (pc := 737) dL_law__737 (by omega) (by omega) ?_
  show Ev g _ _ _ _ _ _ 738 [some (x_r 1), some (x_r (16 * 1 + 0)), some (x_r (16 * 32 + 0)), some (x_r (16 * 27 + 0)), some (x_i (i : Int)), none, none] [x_i (x_sc g (i + 1)), x_r (16 * 1 + 0)] (al, ro, fl (ml (x_ac M A) [1, 2, 3, 4, 5, 18, 19, 20, 21, 22, 23, 24, 25, 26, 27, 32] [X, T, N, Dr, Kp, Th, La, Lb, Lc, Fo, St, Ri, Br, Ro, Ot, S])) _ _ _ _
  refine e_aloadn (pc := 738) (i := 3) dL_law__738 rfl rfl ?_
  refine e_invSH (pc := 739) (K1 := 2) (S1 := 12) (K := K) (S := S0) (dd2 := 5) (av := [x_r (16 * 1 + 0), x_i (x_sc g (i + 1)), x_r (16 * 27 + 0)]) (st := []) dL_law__739 (xmH_cross 180 (x_inB (x_t5 (List.mem_of_getElem? (i := 101) rfl)) rfl)) rfl (f_calHA (us2 := [1, 3, 27]) [0, 2, 14] hn rfl (And.intro rfl (And.intro rfl (And.intro rfl trivial))) rfl rfl rfl rfl (c_L_cross hst hs ho hX hE)) (by decide) (Nat.le_of_ble_eq_true rfl) (Or.inl rfl) ?_
  show Ev g _ _ _ _ _ _ 742 [some (x_r 1), some (x_r (16 * 1 + 0)), some (x_r (16 * 32 + 0)), some (x_r (16 * 27 + 0)), some (x_i (i : Int)), none, none] [x_i (x_wc [1, 2] t0)] (al, ro, fl (ml (x_ac M Ax) [1, 2, 3, 4, 5, 18, 19, 20, 21, 22, 23, 24, 25, 26, 27, 32] [Xx, T, Nx, Dr, Kp, Th, La, Lb, Lc, Fo, St, Ri, Br, Ro, (x_out Ot t0), S])) _ _ _ _
  refine e_istore (pc := 742) (i := 5) dL_law__742 (by decide) rfl ?_
  show Ev g _ _ _ _ _ _ 744 [some (x_r 1), some (x_r (16 * 1 + 0)), some (x_r (16 * 32 + 0)), some (x_r (16 * 27 + 0)), some (x_i (i : Int)), some (x_i (x_wc [1, 2] t0)), none] [] (al, ro, fl (ml (x_ac M Ax) [1, 2, 3, 4, 5, 18, 19, 20, 21, 22, 23, 24, 25, 26, 27, 32] [Xx, T, Nx, Dr, Kp, Th, La, Lb, Lc, Fo, St, Ri, Br, Ro, (x_out Ot t0), S])) _ _ _ _
  refine e_aloadn (pc := 744) (i := 2) dL_law__744 rfl rfl ?_
  refine e_aloadn (pc := 745) (i := 0) dL_law__745 rfl rfl ?_
  refine e_iload (pc := 746) dL_law__746 rfl ?_
  refine e_iconst (pc := 748) dL_law__748 (x_R rfl) ?_
  refine e_iadd (pc := 749) dL_law__749 ?_
  rw [show x_add (i : Int) 1 = ((i + 1 : Nat) : Int) from x_ni (k := 1) (by omega)]
  refine e_sld (pc := 750) dL_law__750 (by omega) (by omega) ?_
  show Ev g _ _ _ _ _ _ 751 [some (x_r 1), some (x_r (16 * 1 + 0)), some (x_r (16 * 32 + 0)), some (x_r (16 * 27 + 0)), some (x_i (i : Int)), some (x_i (x_wc [1, 2] t0)), none] [x_i (x_sc g (i + 1)), x_r (16 * 32 + 0)] (al, ro, fl (ml (x_ac M Ax) [1, 2, 3, 4, 5, 18, 19, 20, 21, 22, 23, 24, 25, 26, 27, 32] [Xx, T, Nx, Dr, Kp, Th, La, Lb, Lc, Fo, St, Ri, Br, Ro, (x_out Ot t0), S])) _ _ _ _
  refine e_wide (K0 := 0 + K) (S0 := 0 + S0) (by omega) (by omega) ?_
  refine e_invV (pc := 751) (K1 := 0) (S1 := 0) (K := K) (S := S0) (dd2 := 2) (av := [x_i (x_sc g (i + 1))]) (st := []) (id := 16 * 32 + 0) dL_law__751 xmL_182 rfl (Or.inl ⟨10, 27, TX12, (sa_32_0 hs), rfl, by decide⟩) (f_cal (M := (x_ac M Ax)) (us2 := [32]) [15] hn rfl (And.intro rfl trivial) rfl rfl rfl (c_X12_cross hst hs hS)) (by decide) (Nat.le_of_ble_eq_true rfl) (Or.inl rfl) ?_
  show Ev g _ _ _ _ _ _ 754 [some (x_r 1), some (x_r (16 * 1 + 0)), some (x_r (16 * 32 + 0)), some (x_r (16 * 27 + 0)), some (x_i (i : Int)), some (x_i (x_wc [1, 2] t0)), none] [x_i b] (al, ro, fl (ml (x_ac M Ax) [1, 2, 3, 4, 5, 18, 19, 20, 21, 22, 23, 24, 25, 26, 27, 32] [Xx, T, Nx, Dr, Kp, Th, La, Lb, Lc, Fo, St, Ri, Br, Ro, (x_out Ot t0), Sy])) _ _ _ _
  refine e_istore (pc := 754) (i := 6) dL_law__754 (by decide) rfl ?_
  show Ev g _ _ _ _ _ _ 756 [some (x_r 1), some (x_r (16 * 1 + 0)), some (x_r (16 * 32 + 0)), some (x_r (16 * 27 + 0)), some (x_i (i : Int)), some (x_i (x_wc [1, 2] t0)), some (x_i b)] [] (al, ro, fl (ml (x_ac M Ax) [1, 2, 3, 4, 5, 18, 19, 20, 21, 22, 23, 24, 25, 26, 27, 32] [Xx, T, Nx, Dr, Kp, Th, La, Lb, Lc, Fo, St, Ri, Br, Ro, (x_out Ot t0), Sy])) _ _ _ _
  refine e_aloadn (pc := 756) (i := 2) dL_law__756 rfl rfl ?_
  refine e_wide (K0 := 0 + K) (S0 := 0 + S0) (by omega) (by omega) ?_
  refine e_invV (pc := 757) (K1 := 0) (S1 := 0) (K := K) (S := S0) (dd2 := 0) (av := []) (st := []) (id := 16 * 32 + 0) dL_law__757 xmL_156 rfl (Or.inl ⟨10, 27, TX12, (sa_32_0 hs), rfl, by decide⟩) (f_cal (M := (x_ac M Ax)) (us2 := [32]) [15] hn rfl (And.intro rfl trivial) rfl rfl rfl (c_X12_thrown hst hs (show G12_thrown Sy = some (Sy 0 0) from rfl))) (by decide) (Nat.le_of_ble_eq_true rfl) (Or.inl rfl) ?_
  show Ev g _ _ _ _ _ _ 760 [some (x_r 1), some (x_r (16 * 1 + 0)), some (x_r (16 * 32 + 0)), some (x_r (16 * 27 + 0)), some (x_i (i : Int)), some (x_i (x_wc [1, 2] t0)), some (x_i b)] [x_i (Sy 0 0)] (al, ro, fl (ml (x_ac M Ax) [1, 2, 3, 4, 5, 18, 19, 20, 21, 22, 23, 24, 25, 26, 27, 32] [Xx, T, Nx, Dr, Kp, Th, La, Lb, Lc, Fo, St, Ri, Br, Ro, (x_out Ot t0), Sy])) _ _ _ _
  have hk : Sy 0 0 = x_wc [1, 2] t0 := x_ag_k hA
  refine e_iload (pc := 760) dL_law__760 rfl ?_
  refine e_icmp_eq (pc := 762) (tgt := 767) dL_law__762 (by decide) (fun _ => ?_) (fun q => absurd hk q)
  refine e_iload (pc := 767) dL_law__767 rfl ?_
  cases t0 with
  | inr E =>
    refine e_if_ne (pc := 769) (tgt := 784) dL_law__769 (by decide) (fun _ => ?_) (fun q => absurd q (x_wc_r [1, 2] E))
    refine e_goto (pc := 784) (tgt := 3041) dL_law__784 (by decide) ?_
    refine e_drop (i := 5) ?_
    refine e_drop (i := 6) ?_
    exact kk
  | inl v =>
    refine e_if_ne (pc := 769) (tgt := 784) dL_law__769 (by decide) (fun q => absurd rfl q) (fun _ => ?_)
    refine e_aloadn (pc := 772) (i := 3) dL_law__772 rfl rfl ?_
    refine e_iconst (pc := 773) dL_law__773 (x_R rfl) ?_
    refine f_lald (pc := 774) (k := 14) (u := 27) (q := 0) (len := 1) dL_law__774 ho (by decide) hn rfl rfl (by decide) ?_
    refine e_iload (pc := 775) dL_law__775 rfl ?_
    refine e_i2l (pc := 777) dL_law__777 ?_
    refine e_lcmp (pc := 778) dL_law__778 ?_
    refine e_if_eq (pc := 779) (tgt := 784) dL_law__779 (by decide) (fun _ => ?_) (fun q => absurd (x_lc (show v = b from hA.2.symm)) q)
    refine e_goto (pc := 784) (tgt := 3041) dL_law__784 (by decide) ?_
    refine e_drop (i := 5) ?_
    refine e_drop (i := 6) ?_
    exact kk
set_option maxRecDepth 100000 in
set_option maxHeartbeats 4000000 in
theorem k10 {g : xG} {al : List (Nat × Nat × Nat)} {ro : Nat → Nat → Option Nat} (hst : g.1.stackTraces = false) (hs : SH al ro) (ho : (16 * 27 + 0, 21, 1) ∈ al) {M : Nat → xU} {h' : xH} {i K S0 : Nat} (hi : i + 6 ≤ x_L g) (hL : x_L g < 2147483648) {X T N Dr Kp Th La Lb Lc Fo St Ri Br Ro Ot S : xU} {A : xA} {t0 : (Int ⊕ Nat)} {Xx : xU} {Nx : xU} {Ax : xA} {b : Int} {Sy : xU} (hX : G11_bell (x_sc g (i + 1)) X N A = some (t0, Xx, Nx, Ax)) (hE : ∀ E, t0 = .inr E → E ∈ ([1] : List Nat)) (hS : G12_bell (x_sc g (i + 1)) S = some (b, Sy)) (hA : Ag (x_cd [1]) t0 b Sy)
    (kk : Ev g yL_law_ cL_law_ 7 (some .boolean) [] 60 3041 [some (x_r 1), some (x_r (16 * 1 + 0)), some (x_r (16 * 32 + 0)), some (x_r (16 * 27 + 0)), some (x_i (i : Int)), none, none] [] (al, ro, fl (ml (x_ac M Ax) [1, 2, 3, 4, 5, 18, 19, 20, 21, 22, 23, 24, 25, 26, 27, 32] [Xx, T, Nx, Dr, Kp, Th, La, Lb, Lc, Fo, St, Ri, Br, Ro, (x_out Ot t0), Sy])) K S0 (.inl (some (x_i 1))) h') : Ev g yL_law_ cL_law_ 7 (some .boolean) [] 60 787 [some (x_r 1), some (x_r (16 * 1 + 0)), some (x_r (16 * 32 + 0)), some (x_r (16 * 27 + 0)), some (x_i (i : Int)), none, none] [] (al, ro, fl (ml (x_ac M A) [1, 2, 3, 4, 5, 18, 19, 20, 21, 22, 23, 24, 25, 26, 27, 32] [X, T, N, Dr, Kp, Th, La, Lb, Lc, Fo, St, Ri, Br, Ro, Ot, S])) (1 + K) (6 + S0) (.inl (some (x_i 1))) h' := by
  have hn : ([1, 2, 3, 4, 5, 18, 19, 20, 21, 22, 23, 24, 25, 26, 27, 32] : List Nat).Nodup := by decide
  refine e_aloadn (pc := 787) (i := 1) dL_law__787 rfl rfl ?_
  refine e_aloadn (pc := 788) (i := 0) dL_law__788 rfl rfl ?_
  refine e_iload (pc := 789) dL_law__789 rfl ?_
  refine e_iconst (pc := 791) dL_law__791 (x_R rfl) ?_
  refine e_iadd (pc := 792) dL_law__792 ?_
  rw [show x_add (i : Int) 1 = ((i + 1 : Nat) : Int) from x_ni (k := 1) (by omega)]
  refine e_sld (pc := 793) dL_law__793 (by omega) (by omega) ?_
  show Ev g _ _ _ _ _ _ 794 [some (x_r 1), some (x_r (16 * 1 + 0)), some (x_r (16 * 32 + 0)), some (x_r (16 * 27 + 0)), some (x_i (i : Int)), none, none] [x_i (x_sc g (i + 1)), x_r (16 * 1 + 0)] (al, ro, fl (ml (x_ac M A) [1, 2, 3, 4, 5, 18, 19, 20, 21, 22, 23, 24, 25, 26, 27, 32] [X, T, N, Dr, Kp, Th, La, Lb, Lc, Fo, St, Ri, Br, Ro, Ot, S])) _ _ _ _
  refine e_aloadn (pc := 794) (i := 3) dL_law__794 rfl rfl ?_
  refine e_invSH (pc := 795) (K1 := 1) (S1 := 6) (K := K) (S := S0) (dd2 := 5) (av := [x_r (16 * 1 + 0), x_i (x_sc g (i + 1)), x_r (16 * 27 + 0)]) (st := []) dL_law__795 (xmH_bell 183 (x_inB (x_t5 (List.mem_of_getElem? (i := 125) rfl)) rfl)) rfl (f_calHA (us2 := [1, 3, 27]) [0, 2, 14] hn rfl (And.intro rfl (And.intro rfl (And.intro rfl trivial))) rfl rfl rfl rfl (c_L_bell hst hs ho hX hE)) (by decide) (Nat.le_of_ble_eq_true rfl) (Or.inl rfl) ?_
  show Ev g _ _ _ _ _ _ 798 [some (x_r 1), some (x_r (16 * 1 + 0)), some (x_r (16 * 32 + 0)), some (x_r (16 * 27 + 0)), some (x_i (i : Int)), none, none] [x_i (x_wc [1] t0)] (al, ro, fl (ml (x_ac M Ax) [1, 2, 3, 4, 5, 18, 19, 20, 21, 22, 23, 24, 25, 26, 27, 32] [Xx, T, Nx, Dr, Kp, Th, La, Lb, Lc, Fo, St, Ri, Br, Ro, (x_out Ot t0), S])) _ _ _ _
  refine e_istore (pc := 798) (i := 5) dL_law__798 (by decide) rfl ?_
  show Ev g _ _ _ _ _ _ 800 [some (x_r 1), some (x_r (16 * 1 + 0)), some (x_r (16 * 32 + 0)), some (x_r (16 * 27 + 0)), some (x_i (i : Int)), some (x_i (x_wc [1] t0)), none] [] (al, ro, fl (ml (x_ac M Ax) [1, 2, 3, 4, 5, 18, 19, 20, 21, 22, 23, 24, 25, 26, 27, 32] [Xx, T, Nx, Dr, Kp, Th, La, Lb, Lc, Fo, St, Ri, Br, Ro, (x_out Ot t0), S])) _ _ _ _
  refine e_aloadn (pc := 800) (i := 2) dL_law__800 rfl rfl ?_
  refine e_aloadn (pc := 801) (i := 0) dL_law__801 rfl rfl ?_
  refine e_iload (pc := 802) dL_law__802 rfl ?_
  refine e_iconst (pc := 804) dL_law__804 (x_R rfl) ?_
  refine e_iadd (pc := 805) dL_law__805 ?_
  rw [show x_add (i : Int) 1 = ((i + 1 : Nat) : Int) from x_ni (k := 1) (by omega)]
  refine e_sld (pc := 806) dL_law__806 (by omega) (by omega) ?_
  show Ev g _ _ _ _ _ _ 807 [some (x_r 1), some (x_r (16 * 1 + 0)), some (x_r (16 * 32 + 0)), some (x_r (16 * 27 + 0)), some (x_i (i : Int)), some (x_i (x_wc [1] t0)), none] [x_i (x_sc g (i + 1)), x_r (16 * 32 + 0)] (al, ro, fl (ml (x_ac M Ax) [1, 2, 3, 4, 5, 18, 19, 20, 21, 22, 23, 24, 25, 26, 27, 32] [Xx, T, Nx, Dr, Kp, Th, La, Lb, Lc, Fo, St, Ri, Br, Ro, (x_out Ot t0), S])) _ _ _ _
  refine e_wide (K0 := 0 + K) (S0 := 0 + S0) (by omega) (by omega) ?_
  refine e_invV (pc := 807) (K1 := 0) (S1 := 0) (K := K) (S := S0) (dd2 := 2) (av := [x_i (x_sc g (i + 1))]) (st := []) (id := 16 * 32 + 0) dL_law__807 xmL_185 rfl (Or.inl ⟨10, 27, TX12, (sa_32_0 hs), rfl, by decide⟩) (f_cal (M := (x_ac M Ax)) (us2 := [32]) [15] hn rfl (And.intro rfl trivial) rfl rfl rfl (c_X12_bell hst hs hS)) (by decide) (Nat.le_of_ble_eq_true rfl) (Or.inl rfl) ?_
  show Ev g _ _ _ _ _ _ 810 [some (x_r 1), some (x_r (16 * 1 + 0)), some (x_r (16 * 32 + 0)), some (x_r (16 * 27 + 0)), some (x_i (i : Int)), some (x_i (x_wc [1] t0)), none] [x_i b] (al, ro, fl (ml (x_ac M Ax) [1, 2, 3, 4, 5, 18, 19, 20, 21, 22, 23, 24, 25, 26, 27, 32] [Xx, T, Nx, Dr, Kp, Th, La, Lb, Lc, Fo, St, Ri, Br, Ro, (x_out Ot t0), Sy])) _ _ _ _
  refine e_istore (pc := 810) (i := 6) dL_law__810 (by decide) rfl ?_
  show Ev g _ _ _ _ _ _ 812 [some (x_r 1), some (x_r (16 * 1 + 0)), some (x_r (16 * 32 + 0)), some (x_r (16 * 27 + 0)), some (x_i (i : Int)), some (x_i (x_wc [1] t0)), some (x_i b)] [] (al, ro, fl (ml (x_ac M Ax) [1, 2, 3, 4, 5, 18, 19, 20, 21, 22, 23, 24, 25, 26, 27, 32] [Xx, T, Nx, Dr, Kp, Th, La, Lb, Lc, Fo, St, Ri, Br, Ro, (x_out Ot t0), Sy])) _ _ _ _
  refine e_aloadn (pc := 812) (i := 2) dL_law__812 rfl rfl ?_
  refine e_wide (K0 := 0 + K) (S0 := 0 + S0) (by omega) (by omega) ?_
  refine e_invV (pc := 813) (K1 := 0) (S1 := 0) (K := K) (S := S0) (dd2 := 0) (av := []) (st := []) (id := 16 * 32 + 0) dL_law__813 xmL_156 rfl (Or.inl ⟨10, 27, TX12, (sa_32_0 hs), rfl, by decide⟩) (f_cal (M := (x_ac M Ax)) (us2 := [32]) [15] hn rfl (And.intro rfl trivial) rfl rfl rfl (c_X12_thrown hst hs (show G12_thrown Sy = some (Sy 0 0) from rfl))) (by decide) (Nat.le_of_ble_eq_true rfl) (Or.inl rfl) ?_
  show Ev g _ _ _ _ _ _ 816 [some (x_r 1), some (x_r (16 * 1 + 0)), some (x_r (16 * 32 + 0)), some (x_r (16 * 27 + 0)), some (x_i (i : Int)), some (x_i (x_wc [1] t0)), some (x_i b)] [x_i (Sy 0 0)] (al, ro, fl (ml (x_ac M Ax) [1, 2, 3, 4, 5, 18, 19, 20, 21, 22, 23, 24, 25, 26, 27, 32] [Xx, T, Nx, Dr, Kp, Th, La, Lb, Lc, Fo, St, Ri, Br, Ro, (x_out Ot t0), Sy])) _ _ _ _
  have hk : Sy 0 0 = x_wc [1] t0 := x_ag_k hA
  refine e_iload (pc := 816) dL_law__816 rfl ?_
  refine e_icmp_eq (pc := 818) (tgt := 823) dL_law__818 (by decide) (fun _ => ?_) (fun q => absurd hk q)
  refine e_iload (pc := 823) dL_law__823 rfl ?_
  cases t0 with
  | inr E =>
    refine e_if_ne (pc := 825) (tgt := 840) dL_law__825 (by decide) (fun _ => ?_) (fun q => absurd q (x_wc_r [1] E))
    refine e_goto (pc := 840) (tgt := 3041) dL_law__840 (by decide) ?_
    refine e_drop (i := 5) ?_
    refine e_drop (i := 6) ?_
    exact kk
  | inl v =>
    refine e_if_ne (pc := 825) (tgt := 840) dL_law__825 (by decide) (fun q => absurd rfl q) (fun _ => ?_)
    refine e_aloadn (pc := 828) (i := 3) dL_law__828 rfl rfl ?_
    refine e_iconst (pc := 829) dL_law__829 (x_R rfl) ?_
    refine f_lald (pc := 830) (k := 14) (u := 27) (q := 0) (len := 1) dL_law__830 ho (by decide) hn rfl rfl (by decide) ?_
    refine e_iload (pc := 831) dL_law__831 rfl ?_
    refine e_i2l (pc := 833) dL_law__833 ?_
    refine e_lcmp (pc := 834) dL_law__834 ?_
    refine e_if_eq (pc := 835) (tgt := 840) dL_law__835 (by decide) (fun _ => ?_) (fun q => absurd (x_lc (show v = b from hA.2.symm)) q)
    refine e_goto (pc := 840) (tgt := 3041) dL_law__840 (by decide) ?_
    refine e_drop (i := 5) ?_
    refine e_drop (i := 6) ?_
    exact kk
set_option maxRecDepth 100000 in
set_option maxHeartbeats 4000000 in
theorem k11 {g : xG} {al : List (Nat × Nat × Nat)} {ro : Nat → Nat → Option Nat} (hst : g.1.stackTraces = false) (hs : SH al ro) (ho : (16 * 27 + 0, 21, 1) ∈ al) {M : Nat → xU} {h' : xH} {i K S0 : Nat} (hi : i + 6 ≤ x_L g) (hL : x_L g < 2147483648) {X T N Dr Kp Th La Lb Lc Fo St Ri Br Ro Ot S : xU} {A : xA} {t0 : (Int ⊕ Nat)} {Xx : xU} {Nx : xU} {Ax : xA} {b : Int} {Sy : xU} (hX : G11_mood (x_sc g (i + 1)) X N A = some (t0, Xx, Nx, Ax)) (hE : ∀ E, t0 = .inr E → E ∈ ([0] : List Nat)) (hS : G12_mood (x_sc g (i + 1)) S = some (b, Sy)) (hA : Ag (x_cd [0]) t0 b Sy)
    (kk : Ev g yL_law_ cL_law_ 7 (some .boolean) [] 60 3041 [some (x_r 1), some (x_r (16 * 1 + 0)), some (x_r (16 * 32 + 0)), some (x_r (16 * 27 + 0)), some (x_i (i : Int)), none, none] [] (al, ro, fl (ml (x_ac M Ax) [1, 2, 3, 4, 5, 18, 19, 20, 21, 22, 23, 24, 25, 26, 27, 32] [Xx, T, Nx, Dr, Kp, Th, La, Lb, Lc, Fo, St, Ri, Br, Ro, (x_out Ot t0), Sy])) K S0 (.inl (some (x_i 1))) h') : Ev g yL_law_ cL_law_ 7 (some .boolean) [] 60 843 [some (x_r 1), some (x_r (16 * 1 + 0)), some (x_r (16 * 32 + 0)), some (x_r (16 * 27 + 0)), some (x_i (i : Int)), none, none] [] (al, ro, fl (ml (x_ac M A) [1, 2, 3, 4, 5, 18, 19, 20, 21, 22, 23, 24, 25, 26, 27, 32] [X, T, N, Dr, Kp, Th, La, Lb, Lc, Fo, St, Ri, Br, Ro, Ot, S])) (1 + K) (6 + S0) (.inl (some (x_i 1))) h' := by
  have hn : ([1, 2, 3, 4, 5, 18, 19, 20, 21, 22, 23, 24, 25, 26, 27, 32] : List Nat).Nodup := by decide
  refine e_aloadn (pc := 843) (i := 1) dL_law__843 rfl rfl ?_
  refine e_aloadn (pc := 844) (i := 0) dL_law__844 rfl rfl ?_
  refine e_iload (pc := 845) dL_law__845 rfl ?_
  refine e_iconst (pc := 847) dL_law__847 (x_R rfl) ?_
  refine e_iadd (pc := 848) dL_law__848 ?_
  rw [show x_add (i : Int) 1 = ((i + 1 : Nat) : Int) from x_ni (k := 1) (by omega)]
  refine e_sld (pc := 849) dL_law__849 (by omega) (by omega) ?_
  show Ev g _ _ _ _ _ _ 850 [some (x_r 1), some (x_r (16 * 1 + 0)), some (x_r (16 * 32 + 0)), some (x_r (16 * 27 + 0)), some (x_i (i : Int)), none, none] [x_i (x_sc g (i + 1)), x_r (16 * 1 + 0)] (al, ro, fl (ml (x_ac M A) [1, 2, 3, 4, 5, 18, 19, 20, 21, 22, 23, 24, 25, 26, 27, 32] [X, T, N, Dr, Kp, Th, La, Lb, Lc, Fo, St, Ri, Br, Ro, Ot, S])) _ _ _ _
  refine e_aloadn (pc := 850) (i := 3) dL_law__850 rfl rfl ?_
  refine e_invSH (pc := 851) (K1 := 1) (S1 := 6) (K := K) (S := S0) (dd2 := 5) (av := [x_r (16 * 1 + 0), x_i (x_sc g (i + 1)), x_r (16 * 27 + 0)]) (st := []) dL_law__851 (xmH_mood 186 (x_inB (x_t5 (List.mem_of_getElem? (i := 132) rfl)) rfl)) rfl (f_calHA (us2 := [1, 3, 27]) [0, 2, 14] hn rfl (And.intro rfl (And.intro rfl (And.intro rfl trivial))) rfl rfl rfl rfl (c_L_mood hst hs ho hX hE)) (by decide) (Nat.le_of_ble_eq_true rfl) (Or.inl rfl) ?_
  show Ev g _ _ _ _ _ _ 854 [some (x_r 1), some (x_r (16 * 1 + 0)), some (x_r (16 * 32 + 0)), some (x_r (16 * 27 + 0)), some (x_i (i : Int)), none, none] [x_i (x_wc [0] t0)] (al, ro, fl (ml (x_ac M Ax) [1, 2, 3, 4, 5, 18, 19, 20, 21, 22, 23, 24, 25, 26, 27, 32] [Xx, T, Nx, Dr, Kp, Th, La, Lb, Lc, Fo, St, Ri, Br, Ro, (x_out Ot t0), S])) _ _ _ _
  refine e_istore (pc := 854) (i := 5) dL_law__854 (by decide) rfl ?_
  show Ev g _ _ _ _ _ _ 856 [some (x_r 1), some (x_r (16 * 1 + 0)), some (x_r (16 * 32 + 0)), some (x_r (16 * 27 + 0)), some (x_i (i : Int)), some (x_i (x_wc [0] t0)), none] [] (al, ro, fl (ml (x_ac M Ax) [1, 2, 3, 4, 5, 18, 19, 20, 21, 22, 23, 24, 25, 26, 27, 32] [Xx, T, Nx, Dr, Kp, Th, La, Lb, Lc, Fo, St, Ri, Br, Ro, (x_out Ot t0), S])) _ _ _ _
  refine e_aloadn (pc := 856) (i := 2) dL_law__856 rfl rfl ?_
  refine e_aloadn (pc := 857) (i := 0) dL_law__857 rfl rfl ?_
  refine e_iload (pc := 858) dL_law__858 rfl ?_
  refine e_iconst (pc := 860) dL_law__860 (x_R rfl) ?_
  refine e_iadd (pc := 861) dL_law__861 ?_
  rw [show x_add (i : Int) 1 = ((i + 1 : Nat) : Int) from x_ni (k := 1) (by omega)]
  refine e_sld (pc := 862) dL_law__862 (by omega) (by omega) ?_
  show Ev g _ _ _ _ _ _ 863 [some (x_r 1), some (x_r (16 * 1 + 0)), some (x_r (16 * 32 + 0)), some (x_r (16 * 27 + 0)), some (x_i (i : Int)), some (x_i (x_wc [0] t0)), none] [x_i (x_sc g (i + 1)), x_r (16 * 32 + 0)] (al, ro, fl (ml (x_ac M Ax) [1, 2, 3, 4, 5, 18, 19, 20, 21, 22, 23, 24, 25, 26, 27, 32] [Xx, T, Nx, Dr, Kp, Th, La, Lb, Lc, Fo, St, Ri, Br, Ro, (x_out Ot t0), S])) _ _ _ _
  refine e_wide (K0 := 0 + K) (S0 := 0 + S0) (by omega) (by omega) ?_
  refine e_invV (pc := 863) (K1 := 0) (S1 := 0) (K := K) (S := S0) (dd2 := 2) (av := [x_i (x_sc g (i + 1))]) (st := []) (id := 16 * 32 + 0) dL_law__863 xmL_188 rfl (Or.inl ⟨10, 27, TX12, (sa_32_0 hs), rfl, by decide⟩) (f_cal (M := (x_ac M Ax)) (us2 := [32]) [15] hn rfl (And.intro rfl trivial) rfl rfl rfl (c_X12_mood hst hs hS)) (by decide) (Nat.le_of_ble_eq_true rfl) (Or.inl rfl) ?_
  show Ev g _ _ _ _ _ _ 866 [some (x_r 1), some (x_r (16 * 1 + 0)), some (x_r (16 * 32 + 0)), some (x_r (16 * 27 + 0)), some (x_i (i : Int)), some (x_i (x_wc [0] t0)), none] [x_i b] (al, ro, fl (ml (x_ac M Ax) [1, 2, 3, 4, 5, 18, 19, 20, 21, 22, 23, 24, 25, 26, 27, 32] [Xx, T, Nx, Dr, Kp, Th, La, Lb, Lc, Fo, St, Ri, Br, Ro, (x_out Ot t0), Sy])) _ _ _ _
  refine e_istore (pc := 866) (i := 6) dL_law__866 (by decide) rfl ?_
  show Ev g _ _ _ _ _ _ 868 [some (x_r 1), some (x_r (16 * 1 + 0)), some (x_r (16 * 32 + 0)), some (x_r (16 * 27 + 0)), some (x_i (i : Int)), some (x_i (x_wc [0] t0)), some (x_i b)] [] (al, ro, fl (ml (x_ac M Ax) [1, 2, 3, 4, 5, 18, 19, 20, 21, 22, 23, 24, 25, 26, 27, 32] [Xx, T, Nx, Dr, Kp, Th, La, Lb, Lc, Fo, St, Ri, Br, Ro, (x_out Ot t0), Sy])) _ _ _ _
  refine e_aloadn (pc := 868) (i := 2) dL_law__868 rfl rfl ?_
  refine e_wide (K0 := 0 + K) (S0 := 0 + S0) (by omega) (by omega) ?_
  refine e_invV (pc := 869) (K1 := 0) (S1 := 0) (K := K) (S := S0) (dd2 := 0) (av := []) (st := []) (id := 16 * 32 + 0) dL_law__869 xmL_156 rfl (Or.inl ⟨10, 27, TX12, (sa_32_0 hs), rfl, by decide⟩) (f_cal (M := (x_ac M Ax)) (us2 := [32]) [15] hn rfl (And.intro rfl trivial) rfl rfl rfl (c_X12_thrown hst hs (show G12_thrown Sy = some (Sy 0 0) from rfl))) (by decide) (Nat.le_of_ble_eq_true rfl) (Or.inl rfl) ?_
  show Ev g _ _ _ _ _ _ 872 [some (x_r 1), some (x_r (16 * 1 + 0)), some (x_r (16 * 32 + 0)), some (x_r (16 * 27 + 0)), some (x_i (i : Int)), some (x_i (x_wc [0] t0)), some (x_i b)] [x_i (Sy 0 0)] (al, ro, fl (ml (x_ac M Ax) [1, 2, 3, 4, 5, 18, 19, 20, 21, 22, 23, 24, 25, 26, 27, 32] [Xx, T, Nx, Dr, Kp, Th, La, Lb, Lc, Fo, St, Ri, Br, Ro, (x_out Ot t0), Sy])) _ _ _ _
  have hk : Sy 0 0 = x_wc [0] t0 := x_ag_k hA
  refine e_iload (pc := 872) dL_law__872 rfl ?_
  refine e_icmp_eq (pc := 874) (tgt := 879) dL_law__874 (by decide) (fun _ => ?_) (fun q => absurd hk q)
  refine e_iload (pc := 879) dL_law__879 rfl ?_
  cases t0 with
  | inr E =>
    refine e_if_ne (pc := 881) (tgt := 896) dL_law__881 (by decide) (fun _ => ?_) (fun q => absurd q (x_wc_r [0] E))
    refine e_goto (pc := 896) (tgt := 3041) dL_law__896 (by decide) ?_
    refine e_drop (i := 5) ?_
    refine e_drop (i := 6) ?_
    exact kk
  | inl v =>
    refine e_if_ne (pc := 881) (tgt := 896) dL_law__881 (by decide) (fun q => absurd rfl q) (fun _ => ?_)
    refine e_aloadn (pc := 884) (i := 3) dL_law__884 rfl rfl ?_
    refine e_iconst (pc := 885) dL_law__885 (x_R rfl) ?_
    refine f_lald (pc := 886) (k := 14) (u := 27) (q := 0) (len := 1) dL_law__886 ho (by decide) hn rfl rfl (by decide) ?_
    refine e_iload (pc := 887) dL_law__887 rfl ?_
    refine e_i2l (pc := 889) dL_law__889 ?_
    refine e_lcmp (pc := 890) dL_law__890 ?_
    refine e_if_eq (pc := 891) (tgt := 896) dL_law__891 (by decide) (fun _ => ?_) (fun q => absurd (x_lc (show v = b from hA.2.symm)) q)
    refine e_goto (pc := 896) (tgt := 3041) dL_law__896 (by decide) ?_
    refine e_drop (i := 5) ?_
    refine e_drop (i := 6) ?_
    exact kk
set_option maxRecDepth 100000 in
set_option maxHeartbeats 4000000 in
theorem k12 {g : xG} {al : List (Nat × Nat × Nat)} {ro : Nat → Nat → Option Nat} (hst : g.1.stackTraces = false) (hs : SH al ro) (ho : (16 * 27 + 0, 21, 1) ∈ al) {M : Nat → xU} {h' : xH} {i K S0 : Nat} (hi : i + 6 ≤ x_L g) (hL : x_L g < 2147483648) {X T N Dr Kp Th La Lb Lc Fo St Ri Br Ro Ot S : xU} {A : xA} {t0 : (Int ⊕ Nat)} {Xx : xU} {Nx : xU} {Ax : xA} {b : Int} {Sy : xU} (hX : G11_change (x_sc g (i + 1)) (x_sc g (i + 2)) X N A = some (t0, Xx, Nx, Ax)) (hE : ∀ E, t0 = .inr E → E ∈ ([1, 0] : List Nat)) (hS : G12_change (x_sc g (i + 1)) (x_sc g (i + 2)) S = some (b, Sy)) (hA : Ag (x_cd [1, 0]) t0 b Sy)
    (kk : Ev g yL_law_ cL_law_ 7 (some .boolean) [] 60 3041 [some (x_r 1), some (x_r (16 * 1 + 0)), some (x_r (16 * 32 + 0)), some (x_r (16 * 27 + 0)), some (x_i (i : Int)), none, none] [] (al, ro, fl (ml (x_ac M Ax) [1, 2, 3, 4, 5, 18, 19, 20, 21, 22, 23, 24, 25, 26, 27, 32] [Xx, T, Nx, Dr, Kp, Th, La, Lb, Lc, Fo, St, Ri, Br, Ro, (x_out Ot t0), Sy])) K S0 (.inl (some (x_i 1))) h') : Ev g yL_law_ cL_law_ 7 (some .boolean) [] 60 899 [some (x_r 1), some (x_r (16 * 1 + 0)), some (x_r (16 * 32 + 0)), some (x_r (16 * 27 + 0)), some (x_i (i : Int)), none, none] [] (al, ro, fl (ml (x_ac M A) [1, 2, 3, 4, 5, 18, 19, 20, 21, 22, 23, 24, 25, 26, 27, 32] [X, T, N, Dr, Kp, Th, La, Lb, Lc, Fo, St, Ri, Br, Ro, Ot, S])) (3 + K) (18 + S0) (.inl (some (x_i 1))) h' := by
  have hn : ([1, 2, 3, 4, 5, 18, 19, 20, 21, 22, 23, 24, 25, 26, 27, 32] : List Nat).Nodup := by decide
  refine e_aloadn (pc := 899) (i := 1) dL_law__899 rfl rfl ?_
  refine e_aloadn (pc := 900) (i := 0) dL_law__900 rfl rfl ?_
  refine e_iload (pc := 901) dL_law__901 rfl ?_
  refine e_iconst (pc := 903) dL_law__903 (x_R rfl) ?_
  refine e_iadd (pc := 904) dL_law__904 ?_
  rw [show x_add (i : Int) 1 = ((i + 1 : Nat) : Int) from x_ni (k := 1) (by omega)]
  refine e_sld (pc := 905) dL_law__905 (by omega) (by omega) ?_
  show Ev g _ _ _ _ _ _ 906 [some (x_r 1), some (x_r (16 * 1 + 0)), some (x_r (16 * 32 + 0)), some (x_r (16 * 27 + 0)), some (x_i (i : Int)), none, none] [x_i (x_sc g (i + 1)), x_r (16 * 1 + 0)] (al, ro, fl (ml (x_ac M A) [1, 2, 3, 4, 5, 18, 19, 20, 21, 22, 23, 24, 25, 26, 27, 32] [X, T, N, Dr, Kp, Th, La, Lb, Lc, Fo, St, Ri, Br, Ro, Ot, S])) _ _ _ _
  refine e_aloadn (pc := 906) (i := 0) dL_law__906 rfl rfl ?_
  refine e_iload (pc := 907) dL_law__907 rfl ?_
  refine e_iconst (pc := 909) dL_law__909 (x_R rfl) ?_
  refine e_iadd (pc := 910) dL_law__910 ?_
  rw [show x_add (i : Int) 2 = ((i + 2 : Nat) : Int) from x_ni (k := 2) (by omega)]
  refine e_sld (pc := 911) dL_law__911 (by omega) (by omega) ?_
  show Ev g _ _ _ _ _ _ 912 [some (x_r 1), some (x_r (16 * 1 + 0)), some (x_r (16 * 32 + 0)), some (x_r (16 * 27 + 0)), some (x_i (i : Int)), none, none] [x_i (x_sc g (i + 2)), x_i (x_sc g (i + 1)), x_r (16 * 1 + 0)] (al, ro, fl (ml (x_ac M A) [1, 2, 3, 4, 5, 18, 19, 20, 21, 22, 23, 24, 25, 26, 27, 32] [X, T, N, Dr, Kp, Th, La, Lb, Lc, Fo, St, Ri, Br, Ro, Ot, S])) _ _ _ _
  refine e_aloadn (pc := 912) (i := 3) dL_law__912 rfl rfl ?_
  refine e_invSH (pc := 913) (K1 := 3) (S1 := 18) (K := K) (S := S0) (dd2 := 5) (av := [x_r (16 * 1 + 0), x_i (x_sc g (i + 1)), x_i (x_sc g (i + 2)), x_r (16 * 27 + 0)]) (st := []) dL_law__913 (xmH_change 189 (x_inB (x_t5 (List.mem_of_getElem? (i := 142) rfl)) rfl)) rfl (f_calHA (us2 := [1, 3, 27]) [0, 2, 14] hn rfl (And.intro rfl (And.intro rfl (And.intro rfl trivial))) rfl rfl rfl rfl (c_L_change hst hs ho hX hE)) (by decide) (Nat.le_of_ble_eq_true rfl) (Or.inl rfl) ?_
  show Ev g _ _ _ _ _ _ 916 [some (x_r 1), some (x_r (16 * 1 + 0)), some (x_r (16 * 32 + 0)), some (x_r (16 * 27 + 0)), some (x_i (i : Int)), none, none] [x_i (x_wc [1, 0] t0)] (al, ro, fl (ml (x_ac M Ax) [1, 2, 3, 4, 5, 18, 19, 20, 21, 22, 23, 24, 25, 26, 27, 32] [Xx, T, Nx, Dr, Kp, Th, La, Lb, Lc, Fo, St, Ri, Br, Ro, (x_out Ot t0), S])) _ _ _ _
  refine e_istore (pc := 916) (i := 5) dL_law__916 (by decide) rfl ?_
  show Ev g _ _ _ _ _ _ 918 [some (x_r 1), some (x_r (16 * 1 + 0)), some (x_r (16 * 32 + 0)), some (x_r (16 * 27 + 0)), some (x_i (i : Int)), some (x_i (x_wc [1, 0] t0)), none] [] (al, ro, fl (ml (x_ac M Ax) [1, 2, 3, 4, 5, 18, 19, 20, 21, 22, 23, 24, 25, 26, 27, 32] [Xx, T, Nx, Dr, Kp, Th, La, Lb, Lc, Fo, St, Ri, Br, Ro, (x_out Ot t0), S])) _ _ _ _
  refine e_aloadn (pc := 918) (i := 2) dL_law__918 rfl rfl ?_
  refine e_aloadn (pc := 919) (i := 0) dL_law__919 rfl rfl ?_
  refine e_iload (pc := 920) dL_law__920 rfl ?_
  refine e_iconst (pc := 922) dL_law__922 (x_R rfl) ?_
  refine e_iadd (pc := 923) dL_law__923 ?_
  rw [show x_add (i : Int) 1 = ((i + 1 : Nat) : Int) from x_ni (k := 1) (by omega)]
  refine e_sld (pc := 924) dL_law__924 (by omega) (by omega) ?_
  show Ev g _ _ _ _ _ _ 925 [some (x_r 1), some (x_r (16 * 1 + 0)), some (x_r (16 * 32 + 0)), some (x_r (16 * 27 + 0)), some (x_i (i : Int)), some (x_i (x_wc [1, 0] t0)), none] [x_i (x_sc g (i + 1)), x_r (16 * 32 + 0)] (al, ro, fl (ml (x_ac M Ax) [1, 2, 3, 4, 5, 18, 19, 20, 21, 22, 23, 24, 25, 26, 27, 32] [Xx, T, Nx, Dr, Kp, Th, La, Lb, Lc, Fo, St, Ri, Br, Ro, (x_out Ot t0), S])) _ _ _ _
  refine e_aloadn (pc := 925) (i := 0) dL_law__925 rfl rfl ?_
  refine e_iload (pc := 926) dL_law__926 rfl ?_
  refine e_iconst (pc := 928) dL_law__928 (x_R rfl) ?_
  refine e_iadd (pc := 929) dL_law__929 ?_
  rw [show x_add (i : Int) 2 = ((i + 2 : Nat) : Int) from x_ni (k := 2) (by omega)]
  refine e_sld (pc := 930) dL_law__930 (by omega) (by omega) ?_
  show Ev g _ _ _ _ _ _ 931 [some (x_r 1), some (x_r (16 * 1 + 0)), some (x_r (16 * 32 + 0)), some (x_r (16 * 27 + 0)), some (x_i (i : Int)), some (x_i (x_wc [1, 0] t0)), none] [x_i (x_sc g (i + 2)), x_i (x_sc g (i + 1)), x_r (16 * 32 + 0)] (al, ro, fl (ml (x_ac M Ax) [1, 2, 3, 4, 5, 18, 19, 20, 21, 22, 23, 24, 25, 26, 27, 32] [Xx, T, Nx, Dr, Kp, Th, La, Lb, Lc, Fo, St, Ri, Br, Ro, (x_out Ot t0), S])) _ _ _ _
  refine e_wide (K0 := 0 + K) (S0 := 0 + S0) (by omega) (by omega) ?_
  refine e_invV (pc := 931) (K1 := 0) (S1 := 0) (K := K) (S := S0) (dd2 := 3) (av := [x_i (x_sc g (i + 1)), x_i (x_sc g (i + 2))]) (st := []) (id := 16 * 32 + 0) dL_law__931 xmL_191 rfl (Or.inl ⟨10, 27, TX12, (sa_32_0 hs), rfl, by decide⟩) (f_cal (M := (x_ac M Ax)) (us2 := [32]) [15] hn rfl (And.intro rfl trivial) rfl rfl rfl (c_X12_change hst hs hS)) (by decide) (Nat.le_of_ble_eq_true rfl) (Or.inl rfl) ?_
  show Ev g _ _ _ _ _ _ 934 [some (x_r 1), some (x_r (16 * 1 + 0)), some (x_r (16 * 32 + 0)), some (x_r (16 * 27 + 0)), some (x_i (i : Int)), some (x_i (x_wc [1, 0] t0)), none] [x_i b] (al, ro, fl (ml (x_ac M Ax) [1, 2, 3, 4, 5, 18, 19, 20, 21, 22, 23, 24, 25, 26, 27, 32] [Xx, T, Nx, Dr, Kp, Th, La, Lb, Lc, Fo, St, Ri, Br, Ro, (x_out Ot t0), Sy])) _ _ _ _
  refine e_istore (pc := 934) (i := 6) dL_law__934 (by decide) rfl ?_
  show Ev g _ _ _ _ _ _ 936 [some (x_r 1), some (x_r (16 * 1 + 0)), some (x_r (16 * 32 + 0)), some (x_r (16 * 27 + 0)), some (x_i (i : Int)), some (x_i (x_wc [1, 0] t0)), some (x_i b)] [] (al, ro, fl (ml (x_ac M Ax) [1, 2, 3, 4, 5, 18, 19, 20, 21, 22, 23, 24, 25, 26, 27, 32] [Xx, T, Nx, Dr, Kp, Th, La, Lb, Lc, Fo, St, Ri, Br, Ro, (x_out Ot t0), Sy])) _ _ _ _
  refine e_aloadn (pc := 936) (i := 2) dL_law__936 rfl rfl ?_
  refine e_wide (K0 := 0 + K) (S0 := 0 + S0) (by omega) (by omega) ?_
  refine e_invV (pc := 937) (K1 := 0) (S1 := 0) (K := K) (S := S0) (dd2 := 0) (av := []) (st := []) (id := 16 * 32 + 0) dL_law__937 xmL_156 rfl (Or.inl ⟨10, 27, TX12, (sa_32_0 hs), rfl, by decide⟩) (f_cal (M := (x_ac M Ax)) (us2 := [32]) [15] hn rfl (And.intro rfl trivial) rfl rfl rfl (c_X12_thrown hst hs (show G12_thrown Sy = some (Sy 0 0) from rfl))) (by decide) (Nat.le_of_ble_eq_true rfl) (Or.inl rfl) ?_
  show Ev g _ _ _ _ _ _ 940 [some (x_r 1), some (x_r (16 * 1 + 0)), some (x_r (16 * 32 + 0)), some (x_r (16 * 27 + 0)), some (x_i (i : Int)), some (x_i (x_wc [1, 0] t0)), some (x_i b)] [x_i (Sy 0 0)] (al, ro, fl (ml (x_ac M Ax) [1, 2, 3, 4, 5, 18, 19, 20, 21, 22, 23, 24, 25, 26, 27, 32] [Xx, T, Nx, Dr, Kp, Th, La, Lb, Lc, Fo, St, Ri, Br, Ro, (x_out Ot t0), Sy])) _ _ _ _
  have hk : Sy 0 0 = x_wc [1, 0] t0 := x_ag_k hA
  refine e_iload (pc := 940) dL_law__940 rfl ?_
  refine e_icmp_eq (pc := 942) (tgt := 947) dL_law__942 (by decide) (fun _ => ?_) (fun q => absurd hk q)
  refine e_iload (pc := 947) dL_law__947 rfl ?_
  cases t0 with
  | inr E =>
    refine e_if_ne (pc := 949) (tgt := 964) dL_law__949 (by decide) (fun _ => ?_) (fun q => absurd q (x_wc_r [1, 0] E))
    refine e_goto (pc := 964) (tgt := 3041) dL_law__964 (by decide) ?_
    refine e_drop (i := 5) ?_
    refine e_drop (i := 6) ?_
    exact kk
  | inl v =>
    refine e_if_ne (pc := 949) (tgt := 964) dL_law__949 (by decide) (fun q => absurd rfl q) (fun _ => ?_)
    refine e_aloadn (pc := 952) (i := 3) dL_law__952 rfl rfl ?_
    refine e_iconst (pc := 953) dL_law__953 (x_R rfl) ?_
    refine f_lald (pc := 954) (k := 14) (u := 27) (q := 0) (len := 1) dL_law__954 ho (by decide) hn rfl rfl (by decide) ?_
    refine e_iload (pc := 955) dL_law__955 rfl ?_
    refine e_i2l (pc := 957) dL_law__957 ?_
    refine e_lcmp (pc := 958) dL_law__958 ?_
    refine e_if_eq (pc := 959) (tgt := 964) dL_law__959 (by decide) (fun _ => ?_) (fun q => absurd (x_lc (show v = b from hA.2.symm)) q)
    refine e_goto (pc := 964) (tgt := 3041) dL_law__964 (by decide) ?_
    refine e_drop (i := 5) ?_
    refine e_drop (i := 6) ?_
    exact kk
set_option maxRecDepth 100000 in
set_option maxHeartbeats 4000000 in
theorem k13 {g : xG} {al : List (Nat × Nat × Nat)} {ro : Nat → Nat → Option Nat} (hst : g.1.stackTraces = false) (hs : SH al ro) (ho : (16 * 27 + 0, 21, 1) ∈ al) {M : Nat → xU} {h' : xH} {i K S0 : Nat} (hi : i + 6 ≤ x_L g) (hL : x_L g < 2147483648) {X T N Dr Kp Th La Lb Lc Fo St Ri Br Ro Ot S : xU} {A : xA} {t0 : (Int ⊕ Nat)} {Xx : xU} {Nx : xU} {Ax : xA} {b : Int} {Sy : xU} (hX : G11_pace (x_sc g (i + 1)) (x_sc g (i + 2)) X N A = some (t0, Xx, Nx, Ax)) (hE : ∀ E, t0 = .inr E → E ∈ ([1, 0] : List Nat)) (hS : G12_pace (x_sc g (i + 1)) (x_sc g (i + 2)) S = some (b, Sy)) (hA : Ag (x_cd [1, 0]) t0 b Sy)
    (kk : Ev g yL_law_ cL_law_ 7 (some .boolean) [] 60 3041 [some (x_r 1), some (x_r (16 * 1 + 0)), some (x_r (16 * 32 + 0)), some (x_r (16 * 27 + 0)), some (x_i (i : Int)), none, none] [] (al, ro, fl (ml (x_ac M Ax) [1, 2, 3, 4, 5, 18, 19, 20, 21, 22, 23, 24, 25, 26, 27, 32] [Xx, T, Nx, Dr, Kp, Th, La, Lb, Lc, Fo, St, Ri, Br, Ro, (x_out Ot t0), Sy])) K S0 (.inl (some (x_i 1))) h') : Ev g yL_law_ cL_law_ 7 (some .boolean) [] 60 967 [some (x_r 1), some (x_r (16 * 1 + 0)), some (x_r (16 * 32 + 0)), some (x_r (16 * 27 + 0)), some (x_i (i : Int)), none, none] [] (al, ro, fl (ml (x_ac M A) [1, 2, 3, 4, 5, 18, 19, 20, 21, 22, 23, 24, 25, 26, 27, 32] [X, T, N, Dr, Kp, Th, La, Lb, Lc, Fo, St, Ri, Br, Ro, Ot, S])) (2 + K) (12 + S0) (.inl (some (x_i 1))) h' := by
  have hn : ([1, 2, 3, 4, 5, 18, 19, 20, 21, 22, 23, 24, 25, 26, 27, 32] : List Nat).Nodup := by decide
  refine e_aloadn (pc := 967) (i := 1) dL_law__967 rfl rfl ?_
  refine e_aloadn (pc := 968) (i := 0) dL_law__968 rfl rfl ?_
  refine e_iload (pc := 969) dL_law__969 rfl ?_
  refine e_iconst (pc := 971) dL_law__971 (x_R rfl) ?_
  refine e_iadd (pc := 972) dL_law__972 ?_
  rw [show x_add (i : Int) 1 = ((i + 1 : Nat) : Int) from x_ni (k := 1) (by omega)]
  refine e_sld (pc := 973) dL_law__973 (by omega) (by omega) ?_
  show Ev g _ _ _ _ _ _ 974 [some (x_r 1), some (x_r (16 * 1 + 0)), some (x_r (16 * 32 + 0)), some (x_r (16 * 27 + 0)), some (x_i (i : Int)), none, none] [x_i (x_sc g (i + 1)), x_r (16 * 1 + 0)] (al, ro, fl (ml (x_ac M A) [1, 2, 3, 4, 5, 18, 19, 20, 21, 22, 23, 24, 25, 26, 27, 32] [X, T, N, Dr, Kp, Th, La, Lb, Lc, Fo, St, Ri, Br, Ro, Ot, S])) _ _ _ _
  refine e_aloadn (pc := 974) (i := 0) dL_law__974 rfl rfl ?_
  refine e_iload (pc := 975) dL_law__975 rfl ?_
  refine e_iconst (pc := 977) dL_law__977 (x_R rfl) ?_
  refine e_iadd (pc := 978) dL_law__978 ?_
  rw [show x_add (i : Int) 2 = ((i + 2 : Nat) : Int) from x_ni (k := 2) (by omega)]
  refine e_sld (pc := 979) dL_law__979 (by omega) (by omega) ?_
  show Ev g _ _ _ _ _ _ 980 [some (x_r 1), some (x_r (16 * 1 + 0)), some (x_r (16 * 32 + 0)), some (x_r (16 * 27 + 0)), some (x_i (i : Int)), none, none] [x_i (x_sc g (i + 2)), x_i (x_sc g (i + 1)), x_r (16 * 1 + 0)] (al, ro, fl (ml (x_ac M A) [1, 2, 3, 4, 5, 18, 19, 20, 21, 22, 23, 24, 25, 26, 27, 32] [X, T, N, Dr, Kp, Th, La, Lb, Lc, Fo, St, Ri, Br, Ro, Ot, S])) _ _ _ _
  refine e_aloadn (pc := 980) (i := 3) dL_law__980 rfl rfl ?_
  refine e_invSH (pc := 981) (K1 := 2) (S1 := 12) (K := K) (S := S0) (dd2 := 5) (av := [x_r (16 * 1 + 0), x_i (x_sc g (i + 1)), x_i (x_sc g (i + 2)), x_r (16 * 27 + 0)]) (st := []) dL_law__981 (xmH_pace 192 (x_inB (x_t5 (List.mem_of_getElem? (i := 153) rfl)) rfl)) rfl (f_calHA (us2 := [1, 3, 27]) [0, 2, 14] hn rfl (And.intro rfl (And.intro rfl (And.intro rfl trivial))) rfl rfl rfl rfl (c_L_pace hst hs ho hX hE)) (by decide) (Nat.le_of_ble_eq_true rfl) (Or.inl rfl) ?_
  show Ev g _ _ _ _ _ _ 984 [some (x_r 1), some (x_r (16 * 1 + 0)), some (x_r (16 * 32 + 0)), some (x_r (16 * 27 + 0)), some (x_i (i : Int)), none, none] [x_i (x_wc [1, 0] t0)] (al, ro, fl (ml (x_ac M Ax) [1, 2, 3, 4, 5, 18, 19, 20, 21, 22, 23, 24, 25, 26, 27, 32] [Xx, T, Nx, Dr, Kp, Th, La, Lb, Lc, Fo, St, Ri, Br, Ro, (x_out Ot t0), S])) _ _ _ _
  refine e_istore (pc := 984) (i := 5) dL_law__984 (by decide) rfl ?_
  show Ev g _ _ _ _ _ _ 986 [some (x_r 1), some (x_r (16 * 1 + 0)), some (x_r (16 * 32 + 0)), some (x_r (16 * 27 + 0)), some (x_i (i : Int)), some (x_i (x_wc [1, 0] t0)), none] [] (al, ro, fl (ml (x_ac M Ax) [1, 2, 3, 4, 5, 18, 19, 20, 21, 22, 23, 24, 25, 26, 27, 32] [Xx, T, Nx, Dr, Kp, Th, La, Lb, Lc, Fo, St, Ri, Br, Ro, (x_out Ot t0), S])) _ _ _ _
  refine e_aloadn (pc := 986) (i := 2) dL_law__986 rfl rfl ?_
  refine e_aloadn (pc := 987) (i := 0) dL_law__987 rfl rfl ?_
  refine e_iload (pc := 988) dL_law__988 rfl ?_
  refine e_iconst (pc := 990) dL_law__990 (x_R rfl) ?_
  refine e_iadd (pc := 991) dL_law__991 ?_
  rw [show x_add (i : Int) 1 = ((i + 1 : Nat) : Int) from x_ni (k := 1) (by omega)]
  refine e_sld (pc := 992) dL_law__992 (by omega) (by omega) ?_
  show Ev g _ _ _ _ _ _ 993 [some (x_r 1), some (x_r (16 * 1 + 0)), some (x_r (16 * 32 + 0)), some (x_r (16 * 27 + 0)), some (x_i (i : Int)), some (x_i (x_wc [1, 0] t0)), none] [x_i (x_sc g (i + 1)), x_r (16 * 32 + 0)] (al, ro, fl (ml (x_ac M Ax) [1, 2, 3, 4, 5, 18, 19, 20, 21, 22, 23, 24, 25, 26, 27, 32] [Xx, T, Nx, Dr, Kp, Th, La, Lb, Lc, Fo, St, Ri, Br, Ro, (x_out Ot t0), S])) _ _ _ _
  refine e_aloadn (pc := 993) (i := 0) dL_law__993 rfl rfl ?_
  refine e_iload (pc := 994) dL_law__994 rfl ?_
  refine e_iconst (pc := 996) dL_law__996 (x_R rfl) ?_
  refine e_iadd (pc := 997) dL_law__997 ?_
  rw [show x_add (i : Int) 2 = ((i + 2 : Nat) : Int) from x_ni (k := 2) (by omega)]
  refine e_sld (pc := 998) dL_law__998 (by omega) (by omega) ?_
  show Ev g _ _ _ _ _ _ 999 [some (x_r 1), some (x_r (16 * 1 + 0)), some (x_r (16 * 32 + 0)), some (x_r (16 * 27 + 0)), some (x_i (i : Int)), some (x_i (x_wc [1, 0] t0)), none] [x_i (x_sc g (i + 2)), x_i (x_sc g (i + 1)), x_r (16 * 32 + 0)] (al, ro, fl (ml (x_ac M Ax) [1, 2, 3, 4, 5, 18, 19, 20, 21, 22, 23, 24, 25, 26, 27, 32] [Xx, T, Nx, Dr, Kp, Th, La, Lb, Lc, Fo, St, Ri, Br, Ro, (x_out Ot t0), S])) _ _ _ _
  refine e_wide (K0 := 0 + K) (S0 := 0 + S0) (by omega) (by omega) ?_
  refine e_invV (pc := 999) (K1 := 0) (S1 := 0) (K := K) (S := S0) (dd2 := 2) (av := [x_i (x_sc g (i + 1)), x_i (x_sc g (i + 2))]) (st := []) (id := 16 * 32 + 0) dL_law__999 xmL_194 rfl (Or.inl ⟨10, 27, TX12, (sa_32_0 hs), rfl, by decide⟩) (f_cal (M := (x_ac M Ax)) (us2 := [32]) [15] hn rfl (And.intro rfl trivial) rfl rfl rfl (c_X12_pace hst hs hS)) (by decide) (Nat.le_of_ble_eq_true rfl) (Or.inl rfl) ?_
  show Ev g _ _ _ _ _ _ 1002 [some (x_r 1), some (x_r (16 * 1 + 0)), some (x_r (16 * 32 + 0)), some (x_r (16 * 27 + 0)), some (x_i (i : Int)), some (x_i (x_wc [1, 0] t0)), none] [x_i b] (al, ro, fl (ml (x_ac M Ax) [1, 2, 3, 4, 5, 18, 19, 20, 21, 22, 23, 24, 25, 26, 27, 32] [Xx, T, Nx, Dr, Kp, Th, La, Lb, Lc, Fo, St, Ri, Br, Ro, (x_out Ot t0), Sy])) _ _ _ _
  refine e_istore (pc := 1002) (i := 6) dL_law__1002 (by decide) rfl ?_
  show Ev g _ _ _ _ _ _ 1004 [some (x_r 1), some (x_r (16 * 1 + 0)), some (x_r (16 * 32 + 0)), some (x_r (16 * 27 + 0)), some (x_i (i : Int)), some (x_i (x_wc [1, 0] t0)), some (x_i b)] [] (al, ro, fl (ml (x_ac M Ax) [1, 2, 3, 4, 5, 18, 19, 20, 21, 22, 23, 24, 25, 26, 27, 32] [Xx, T, Nx, Dr, Kp, Th, La, Lb, Lc, Fo, St, Ri, Br, Ro, (x_out Ot t0), Sy])) _ _ _ _
  refine e_aloadn (pc := 1004) (i := 2) dL_law__1004 rfl rfl ?_
  refine e_wide (K0 := 0 + K) (S0 := 0 + S0) (by omega) (by omega) ?_
  refine e_invV (pc := 1005) (K1 := 0) (S1 := 0) (K := K) (S := S0) (dd2 := 0) (av := []) (st := []) (id := 16 * 32 + 0) dL_law__1005 xmL_156 rfl (Or.inl ⟨10, 27, TX12, (sa_32_0 hs), rfl, by decide⟩) (f_cal (M := (x_ac M Ax)) (us2 := [32]) [15] hn rfl (And.intro rfl trivial) rfl rfl rfl (c_X12_thrown hst hs (show G12_thrown Sy = some (Sy 0 0) from rfl))) (by decide) (Nat.le_of_ble_eq_true rfl) (Or.inl rfl) ?_
  show Ev g _ _ _ _ _ _ 1008 [some (x_r 1), some (x_r (16 * 1 + 0)), some (x_r (16 * 32 + 0)), some (x_r (16 * 27 + 0)), some (x_i (i : Int)), some (x_i (x_wc [1, 0] t0)), some (x_i b)] [x_i (Sy 0 0)] (al, ro, fl (ml (x_ac M Ax) [1, 2, 3, 4, 5, 18, 19, 20, 21, 22, 23, 24, 25, 26, 27, 32] [Xx, T, Nx, Dr, Kp, Th, La, Lb, Lc, Fo, St, Ri, Br, Ro, (x_out Ot t0), Sy])) _ _ _ _
  have hk : Sy 0 0 = x_wc [1, 0] t0 := x_ag_k hA
  refine e_iload (pc := 1008) dL_law__1008 rfl ?_
  refine e_icmp_eq (pc := 1010) (tgt := 1015) dL_law__1010 (by decide) (fun _ => ?_) (fun q => absurd hk q)
  refine e_iload (pc := 1015) dL_law__1015 rfl ?_
  cases t0 with
  | inr E =>
    refine e_if_ne (pc := 1017) (tgt := 1032) dL_law__1017 (by decide) (fun _ => ?_) (fun q => absurd q (x_wc_r [1, 0] E))
    refine e_goto (pc := 1032) (tgt := 3041) dL_law__1032 (by decide) ?_
    refine e_drop (i := 5) ?_
    refine e_drop (i := 6) ?_
    exact kk
  | inl v =>
    refine e_if_ne (pc := 1017) (tgt := 1032) dL_law__1017 (by decide) (fun q => absurd rfl q) (fun _ => ?_)
    refine e_aloadn (pc := 1020) (i := 3) dL_law__1020 rfl rfl ?_
    refine e_iconst (pc := 1021) dL_law__1021 (x_R rfl) ?_
    refine f_lald (pc := 1022) (k := 14) (u := 27) (q := 0) (len := 1) dL_law__1022 ho (by decide) hn rfl rfl (by decide) ?_
    refine e_iload (pc := 1023) dL_law__1023 rfl ?_
    refine e_i2l (pc := 1025) dL_law__1025 ?_
    refine e_lcmp (pc := 1026) dL_law__1026 ?_
    refine e_if_eq (pc := 1027) (tgt := 1032) dL_law__1027 (by decide) (fun _ => ?_) (fun q => absurd (x_lc (show v = b from hA.2.symm)) q)
    refine e_goto (pc := 1032) (tgt := 3041) dL_law__1032 (by decide) ?_
    refine e_drop (i := 5) ?_
    refine e_drop (i := 6) ?_
    exact kk
set_option maxRecDepth 100000 in
set_option maxHeartbeats 4000000 in
theorem k14 {g : xG} {al : List (Nat × Nat × Nat)} {ro : Nat → Nat → Option Nat} (hst : g.1.stackTraces = false) (hs : SH al ro) (ho : (16 * 27 + 0, 21, 1) ∈ al) {M : Nat → xU} {h' : xH} {i K S0 : Nat} (hi : i + 6 ≤ x_L g) (hL : x_L g < 2147483648) {X T N Dr Kp Th La Lb Lc Fo St Ri Br Ro Ot S : xU} {A : xA} {t0 : (Int ⊕ Nat)} {Xx : xU} {Nx : xU} {Ax : xA} {b : Int} {Sy : xU} (hX : G11_fill (x_sc g (i + 1)) (x_sc g (i + 2)) X N A = some (t0, Xx, Nx, Ax)) (hE : ∀ E, t0 = .inr E → E ∈ ([1, 0] : List Nat)) (hS : G12_fill (x_sc g (i + 1)) (x_sc g (i + 2)) S = some (b, Sy)) (hA : Ag (x_cd [1, 0]) t0 b Sy)
    (kk : Ev g yL_law_ cL_law_ 7 (some .boolean) [] 60 3041 [some (x_r 1), some (x_r (16 * 1 + 0)), some (x_r (16 * 32 + 0)), some (x_r (16 * 27 + 0)), some (x_i (i : Int)), none, none] [] (al, ro, fl (ml (x_ac M Ax) [1, 2, 3, 4, 5, 18, 19, 20, 21, 22, 23, 24, 25, 26, 27, 32] [Xx, T, Nx, Dr, Kp, Th, La, Lb, Lc, Fo, St, Ri, Br, Ro, (x_out Ot t0), Sy])) K S0 (.inl (some (x_i 1))) h') : Ev g yL_law_ cL_law_ 7 (some .boolean) [] 60 1035 [some (x_r 1), some (x_r (16 * 1 + 0)), some (x_r (16 * 32 + 0)), some (x_r (16 * 27 + 0)), some (x_i (i : Int)), none, none] [] (al, ro, fl (ml (x_ac M A) [1, 2, 3, 4, 5, 18, 19, 20, 21, 22, 23, 24, 25, 26, 27, 32] [X, T, N, Dr, Kp, Th, La, Lb, Lc, Fo, St, Ri, Br, Ro, Ot, S])) (2 + K) (12 + S0) (.inl (some (x_i 1))) h' := by
  have hn : ([1, 2, 3, 4, 5, 18, 19, 20, 21, 22, 23, 24, 25, 26, 27, 32] : List Nat).Nodup := by decide
  refine e_aloadn (pc := 1035) (i := 1) dL_law__1035 rfl rfl ?_
  refine e_aloadn (pc := 1036) (i := 0) dL_law__1036 rfl rfl ?_
  refine e_iload (pc := 1037) dL_law__1037 rfl ?_
  refine e_iconst (pc := 1039) dL_law__1039 (x_R rfl) ?_
  refine e_iadd (pc := 1040) dL_law__1040 ?_
  rw [show x_add (i : Int) 1 = ((i + 1 : Nat) : Int) from x_ni (k := 1) (by omega)]
  refine e_sld (pc := 1041) dL_law__1041 (by omega) (by omega) ?_
  show Ev g _ _ _ _ _ _ 1042 [some (x_r 1), some (x_r (16 * 1 + 0)), some (x_r (16 * 32 + 0)), some (x_r (16 * 27 + 0)), some (x_i (i : Int)), none, none] [x_i (x_sc g (i + 1)), x_r (16 * 1 + 0)] (al, ro, fl (ml (x_ac M A) [1, 2, 3, 4, 5, 18, 19, 20, 21, 22, 23, 24, 25, 26, 27, 32] [X, T, N, Dr, Kp, Th, La, Lb, Lc, Fo, St, Ri, Br, Ro, Ot, S])) _ _ _ _
  refine e_aloadn (pc := 1042) (i := 0) dL_law__1042 rfl rfl ?_
  refine e_iload (pc := 1043) dL_law__1043 rfl ?_
  refine e_iconst (pc := 1045) dL_law__1045 (x_R rfl) ?_
  refine e_iadd (pc := 1046) dL_law__1046 ?_
  rw [show x_add (i : Int) 2 = ((i + 2 : Nat) : Int) from x_ni (k := 2) (by omega)]
  refine e_sld (pc := 1047) dL_law__1047 (by omega) (by omega) ?_
  show Ev g _ _ _ _ _ _ 1048 [some (x_r 1), some (x_r (16 * 1 + 0)), some (x_r (16 * 32 + 0)), some (x_r (16 * 27 + 0)), some (x_i (i : Int)), none, none] [x_i (x_sc g (i + 2)), x_i (x_sc g (i + 1)), x_r (16 * 1 + 0)] (al, ro, fl (ml (x_ac M A) [1, 2, 3, 4, 5, 18, 19, 20, 21, 22, 23, 24, 25, 26, 27, 32] [X, T, N, Dr, Kp, Th, La, Lb, Lc, Fo, St, Ri, Br, Ro, Ot, S])) _ _ _ _
  refine e_aloadn (pc := 1048) (i := 3) dL_law__1048 rfl rfl ?_
  refine e_invSH (pc := 1049) (K1 := 2) (S1 := 12) (K := K) (S := S0) (dd2 := 5) (av := [x_r (16 * 1 + 0), x_i (x_sc g (i + 1)), x_i (x_sc g (i + 2)), x_r (16 * 27 + 0)]) (st := []) dL_law__1049 (xmH_fill 195 (x_inB (x_t5 (List.mem_of_getElem? (i := 160) rfl)) rfl)) rfl (f_calHA (us2 := [1, 3, 27]) [0, 2, 14] hn rfl (And.intro rfl (And.intro rfl (And.intro rfl trivial))) rfl rfl rfl rfl (c_L_fill hst hs ho hX hE)) (by decide) (Nat.le_of_ble_eq_true rfl) (Or.inl rfl) ?_
  show Ev g _ _ _ _ _ _ 1052 [some (x_r 1), some (x_r (16 * 1 + 0)), some (x_r (16 * 32 + 0)), some (x_r (16 * 27 + 0)), some (x_i (i : Int)), none, none] [x_i (x_wc [1, 0] t0)] (al, ro, fl (ml (x_ac M Ax) [1, 2, 3, 4, 5, 18, 19, 20, 21, 22, 23, 24, 25, 26, 27, 32] [Xx, T, Nx, Dr, Kp, Th, La, Lb, Lc, Fo, St, Ri, Br, Ro, (x_out Ot t0), S])) _ _ _ _
  refine e_istore (pc := 1052) (i := 5) dL_law__1052 (by decide) rfl ?_
  show Ev g _ _ _ _ _ _ 1054 [some (x_r 1), some (x_r (16 * 1 + 0)), some (x_r (16 * 32 + 0)), some (x_r (16 * 27 + 0)), some (x_i (i : Int)), some (x_i (x_wc [1, 0] t0)), none] [] (al, ro, fl (ml (x_ac M Ax) [1, 2, 3, 4, 5, 18, 19, 20, 21, 22, 23, 24, 25, 26, 27, 32] [Xx, T, Nx, Dr, Kp, Th, La, Lb, Lc, Fo, St, Ri, Br, Ro, (x_out Ot t0), S])) _ _ _ _
  refine e_aloadn (pc := 1054) (i := 2) dL_law__1054 rfl rfl ?_
  refine e_aloadn (pc := 1055) (i := 0) dL_law__1055 rfl rfl ?_
  refine e_iload (pc := 1056) dL_law__1056 rfl ?_
  refine e_iconst (pc := 1058) dL_law__1058 (x_R rfl) ?_
  refine e_iadd (pc := 1059) dL_law__1059 ?_
  rw [show x_add (i : Int) 1 = ((i + 1 : Nat) : Int) from x_ni (k := 1) (by omega)]
  refine e_sld (pc := 1060) dL_law__1060 (by omega) (by omega) ?_
  show Ev g _ _ _ _ _ _ 1061 [some (x_r 1), some (x_r (16 * 1 + 0)), some (x_r (16 * 32 + 0)), some (x_r (16 * 27 + 0)), some (x_i (i : Int)), some (x_i (x_wc [1, 0] t0)), none] [x_i (x_sc g (i + 1)), x_r (16 * 32 + 0)] (al, ro, fl (ml (x_ac M Ax) [1, 2, 3, 4, 5, 18, 19, 20, 21, 22, 23, 24, 25, 26, 27, 32] [Xx, T, Nx, Dr, Kp, Th, La, Lb, Lc, Fo, St, Ri, Br, Ro, (x_out Ot t0), S])) _ _ _ _
  refine e_aloadn (pc := 1061) (i := 0) dL_law__1061 rfl rfl ?_
  refine e_iload (pc := 1062) dL_law__1062 rfl ?_
  refine e_iconst (pc := 1064) dL_law__1064 (x_R rfl) ?_
  refine e_iadd (pc := 1065) dL_law__1065 ?_
  rw [show x_add (i : Int) 2 = ((i + 2 : Nat) : Int) from x_ni (k := 2) (by omega)]
  refine e_sld (pc := 1066) dL_law__1066 (by omega) (by omega) ?_
  show Ev g _ _ _ _ _ _ 1067 [some (x_r 1), some (x_r (16 * 1 + 0)), some (x_r (16 * 32 + 0)), some (x_r (16 * 27 + 0)), some (x_i (i : Int)), some (x_i (x_wc [1, 0] t0)), none] [x_i (x_sc g (i + 2)), x_i (x_sc g (i + 1)), x_r (16 * 32 + 0)] (al, ro, fl (ml (x_ac M Ax) [1, 2, 3, 4, 5, 18, 19, 20, 21, 22, 23, 24, 25, 26, 27, 32] [Xx, T, Nx, Dr, Kp, Th, La, Lb, Lc, Fo, St, Ri, Br, Ro, (x_out Ot t0), S])) _ _ _ _
  refine e_wide (K0 := 0 + K) (S0 := 0 + S0) (by omega) (by omega) ?_
  refine e_invV (pc := 1067) (K1 := 0) (S1 := 0) (K := K) (S := S0) (dd2 := 2) (av := [x_i (x_sc g (i + 1)), x_i (x_sc g (i + 2))]) (st := []) (id := 16 * 32 + 0) dL_law__1067 xmL_197 rfl (Or.inl ⟨10, 27, TX12, (sa_32_0 hs), rfl, by decide⟩) (f_cal (M := (x_ac M Ax)) (us2 := [32]) [15] hn rfl (And.intro rfl trivial) rfl rfl rfl (c_X12_fill hst hs hS)) (by decide) (Nat.le_of_ble_eq_true rfl) (Or.inl rfl) ?_
  show Ev g _ _ _ _ _ _ 1070 [some (x_r 1), some (x_r (16 * 1 + 0)), some (x_r (16 * 32 + 0)), some (x_r (16 * 27 + 0)), some (x_i (i : Int)), some (x_i (x_wc [1, 0] t0)), none] [x_i b] (al, ro, fl (ml (x_ac M Ax) [1, 2, 3, 4, 5, 18, 19, 20, 21, 22, 23, 24, 25, 26, 27, 32] [Xx, T, Nx, Dr, Kp, Th, La, Lb, Lc, Fo, St, Ri, Br, Ro, (x_out Ot t0), Sy])) _ _ _ _
  refine e_istore (pc := 1070) (i := 6) dL_law__1070 (by decide) rfl ?_
  show Ev g _ _ _ _ _ _ 1072 [some (x_r 1), some (x_r (16 * 1 + 0)), some (x_r (16 * 32 + 0)), some (x_r (16 * 27 + 0)), some (x_i (i : Int)), some (x_i (x_wc [1, 0] t0)), some (x_i b)] [] (al, ro, fl (ml (x_ac M Ax) [1, 2, 3, 4, 5, 18, 19, 20, 21, 22, 23, 24, 25, 26, 27, 32] [Xx, T, Nx, Dr, Kp, Th, La, Lb, Lc, Fo, St, Ri, Br, Ro, (x_out Ot t0), Sy])) _ _ _ _
  refine e_aloadn (pc := 1072) (i := 2) dL_law__1072 rfl rfl ?_
  refine e_wide (K0 := 0 + K) (S0 := 0 + S0) (by omega) (by omega) ?_
  refine e_invV (pc := 1073) (K1 := 0) (S1 := 0) (K := K) (S := S0) (dd2 := 0) (av := []) (st := []) (id := 16 * 32 + 0) dL_law__1073 xmL_156 rfl (Or.inl ⟨10, 27, TX12, (sa_32_0 hs), rfl, by decide⟩) (f_cal (M := (x_ac M Ax)) (us2 := [32]) [15] hn rfl (And.intro rfl trivial) rfl rfl rfl (c_X12_thrown hst hs (show G12_thrown Sy = some (Sy 0 0) from rfl))) (by decide) (Nat.le_of_ble_eq_true rfl) (Or.inl rfl) ?_
  show Ev g _ _ _ _ _ _ 1076 [some (x_r 1), some (x_r (16 * 1 + 0)), some (x_r (16 * 32 + 0)), some (x_r (16 * 27 + 0)), some (x_i (i : Int)), some (x_i (x_wc [1, 0] t0)), some (x_i b)] [x_i (Sy 0 0)] (al, ro, fl (ml (x_ac M Ax) [1, 2, 3, 4, 5, 18, 19, 20, 21, 22, 23, 24, 25, 26, 27, 32] [Xx, T, Nx, Dr, Kp, Th, La, Lb, Lc, Fo, St, Ri, Br, Ro, (x_out Ot t0), Sy])) _ _ _ _
  have hk : Sy 0 0 = x_wc [1, 0] t0 := x_ag_k hA
  refine e_iload (pc := 1076) dL_law__1076 rfl ?_
  refine e_icmp_eq (pc := 1078) (tgt := 1083) dL_law__1078 (by decide) (fun _ => ?_) (fun q => absurd hk q)
  refine e_iload (pc := 1083) dL_law__1083 rfl ?_
  cases t0 with
  | inr E =>
    refine e_if_ne (pc := 1085) (tgt := 1100) dL_law__1085 (by decide) (fun _ => ?_) (fun q => absurd q (x_wc_r [1, 0] E))
    refine e_goto (pc := 1100) (tgt := 3041) dL_law__1100 (by decide) ?_
    refine e_drop (i := 5) ?_
    refine e_drop (i := 6) ?_
    exact kk
  | inl v =>
    refine e_if_ne (pc := 1085) (tgt := 1100) dL_law__1085 (by decide) (fun q => absurd rfl q) (fun _ => ?_)
    refine e_aloadn (pc := 1088) (i := 3) dL_law__1088 rfl rfl ?_
    refine e_iconst (pc := 1089) dL_law__1089 (x_R rfl) ?_
    refine f_lald (pc := 1090) (k := 14) (u := 27) (q := 0) (len := 1) dL_law__1090 ho (by decide) hn rfl rfl (by decide) ?_
    refine e_iload (pc := 1091) dL_law__1091 rfl ?_
    refine e_i2l (pc := 1093) dL_law__1093 ?_
    refine e_lcmp (pc := 1094) dL_law__1094 ?_
    refine e_if_eq (pc := 1095) (tgt := 1100) dL_law__1095 (by decide) (fun _ => ?_) (fun q => absurd (x_lc (show v = b from hA.2.symm)) q)
    refine e_goto (pc := 1100) (tgt := 3041) dL_law__1100 (by decide) ?_
    refine e_drop (i := 5) ?_
    refine e_drop (i := 6) ?_
    exact kk
set_option maxRecDepth 100000 in
set_option maxHeartbeats 4000000 in
theorem k15 {g : xG} {al : List (Nat × Nat × Nat)} {ro : Nat → Nat → Option Nat} (hst : g.1.stackTraces = false) (hs : SH al ro) (ho : (16 * 27 + 0, 21, 1) ∈ al) {M : Nat → xU} {h' : xH} {i K S0 : Nat} (hi : i + 6 ≤ x_L g) (hL : x_L g < 2147483648) {X T N Dr Kp Th La Lb Lc Fo St Ri Br Ro Ot S : xU} {A : xA} {t0 : (Int ⊕ Nat)} {Xx : xU} {Nx : xU} {Ax : xA} {b : Int} {Sy : xU} (hX : G11_find (x_sc g (i + 1)) X N A = some (t0, Xx, Nx, Ax)) (hE : ∀ E, t0 = .inr E → E ∈ ([1, 2] : List Nat)) (hS : G12_find (x_sc g (i + 1)) S = some (b, Sy)) (hA : Ag (x_cd [1, 2]) t0 b Sy)
    (kk : Ev g yL_law_ cL_law_ 7 (some .boolean) [] 60 3041 [some (x_r 1), some (x_r (16 * 1 + 0)), some (x_r (16 * 32 + 0)), some (x_r (16 * 27 + 0)), some (x_i (i : Int)), none, none] [] (al, ro, fl (ml (x_ac M Ax) [1, 2, 3, 4, 5, 18, 19, 20, 21, 22, 23, 24, 25, 26, 27, 32] [Xx, T, Nx, Dr, Kp, Th, La, Lb, Lc, Fo, St, Ri, Br, Ro, (x_out Ot t0), Sy])) K S0 (.inl (some (x_i 1))) h') : Ev g yL_law_ cL_law_ 7 (some .boolean) [] 60 1103 [some (x_r 1), some (x_r (16 * 1 + 0)), some (x_r (16 * 32 + 0)), some (x_r (16 * 27 + 0)), some (x_i (i : Int)), none, none] [] (al, ro, fl (ml (x_ac M A) [1, 2, 3, 4, 5, 18, 19, 20, 21, 22, 23, 24, 25, 26, 27, 32] [X, T, N, Dr, Kp, Th, La, Lb, Lc, Fo, St, Ri, Br, Ro, Ot, S])) (2 + K) (12 + S0) (.inl (some (x_i 1))) h' := by
  have hn : ([1, 2, 3, 4, 5, 18, 19, 20, 21, 22, 23, 24, 25, 26, 27, 32] : List Nat).Nodup := by decide
  refine e_aloadn (pc := 1103) (i := 1) dL_law__1103 rfl rfl ?_
  refine e_aloadn (pc := 1104) (i := 0) dL_law__1104 rfl rfl ?_
  refine e_iload (pc := 1105) dL_law__1105 rfl ?_
  refine e_iconst (pc := 1107) dL_law__1107 (x_R rfl) ?_
  refine e_iadd (pc := 1108) dL_law__1108 ?_
  rw [show x_add (i : Int) 1 = ((i + 1 : Nat) : Int) from x_ni (k := 1) (by omega)]
  refine e_sld (pc := 1109) dL_law__1109 (by omega) (by omega) ?_
  show Ev g _ _ _ _ _ _ 1110 [some (x_r 1), some (x_r (16 * 1 + 0)), some (x_r (16 * 32 + 0)), some (x_r (16 * 27 + 0)), some (x_i (i : Int)), none, none] [x_i (x_sc g (i + 1)), x_r (16 * 1 + 0)] (al, ro, fl (ml (x_ac M A) [1, 2, 3, 4, 5, 18, 19, 20, 21, 22, 23, 24, 25, 26, 27, 32] [X, T, N, Dr, Kp, Th, La, Lb, Lc, Fo, St, Ri, Br, Ro, Ot, S])) _ _ _ _
  refine e_aloadn (pc := 1110) (i := 3) dL_law__1110 rfl rfl ?_
  refine e_invSH (pc := 1111) (K1 := 2) (S1 := 12) (K := K) (S := S0) (dd2 := 5) (av := [x_r (16 * 1 + 0), x_i (x_sc g (i + 1)), x_r (16 * 27 + 0)]) (st := []) dL_law__1111 (xmH_find 198 (x_inB (x_t5 (List.mem_of_getElem? (i := 168) rfl)) rfl)) rfl (f_calHA (us2 := [1, 3, 27]) [0, 2, 14] hn rfl (And.intro rfl (And.intro rfl (And.intro rfl trivial))) rfl rfl rfl rfl (c_L_find hst hs ho hX hE)) (by decide) (Nat.le_of_ble_eq_true rfl) (Or.inl rfl) ?_
  show Ev g _ _ _ _ _ _ 1114 [some (x_r 1), some (x_r (16 * 1 + 0)), some (x_r (16 * 32 + 0)), some (x_r (16 * 27 + 0)), some (x_i (i : Int)), none, none] [x_i (x_wc [1, 2] t0)] (al, ro, fl (ml (x_ac M Ax) [1, 2, 3, 4, 5, 18, 19, 20, 21, 22, 23, 24, 25, 26, 27, 32] [Xx, T, Nx, Dr, Kp, Th, La, Lb, Lc, Fo, St, Ri, Br, Ro, (x_out Ot t0), S])) _ _ _ _
  refine e_istore (pc := 1114) (i := 5) dL_law__1114 (by decide) rfl ?_
  show Ev g _ _ _ _ _ _ 1116 [some (x_r 1), some (x_r (16 * 1 + 0)), some (x_r (16 * 32 + 0)), some (x_r (16 * 27 + 0)), some (x_i (i : Int)), some (x_i (x_wc [1, 2] t0)), none] [] (al, ro, fl (ml (x_ac M Ax) [1, 2, 3, 4, 5, 18, 19, 20, 21, 22, 23, 24, 25, 26, 27, 32] [Xx, T, Nx, Dr, Kp, Th, La, Lb, Lc, Fo, St, Ri, Br, Ro, (x_out Ot t0), S])) _ _ _ _
  refine e_aloadn (pc := 1116) (i := 2) dL_law__1116 rfl rfl ?_
  refine e_aloadn (pc := 1117) (i := 0) dL_law__1117 rfl rfl ?_
  refine e_iload (pc := 1118) dL_law__1118 rfl ?_
  refine e_iconst (pc := 1120) dL_law__1120 (x_R rfl) ?_
  refine e_iadd (pc := 1121) dL_law__1121 ?_
  rw [show x_add (i : Int) 1 = ((i + 1 : Nat) : Int) from x_ni (k := 1) (by omega)]
  refine e_sld (pc := 1122) dL_law__1122 (by omega) (by omega) ?_
  show Ev g _ _ _ _ _ _ 1123 [some (x_r 1), some (x_r (16 * 1 + 0)), some (x_r (16 * 32 + 0)), some (x_r (16 * 27 + 0)), some (x_i (i : Int)), some (x_i (x_wc [1, 2] t0)), none] [x_i (x_sc g (i + 1)), x_r (16 * 32 + 0)] (al, ro, fl (ml (x_ac M Ax) [1, 2, 3, 4, 5, 18, 19, 20, 21, 22, 23, 24, 25, 26, 27, 32] [Xx, T, Nx, Dr, Kp, Th, La, Lb, Lc, Fo, St, Ri, Br, Ro, (x_out Ot t0), S])) _ _ _ _
  refine e_wide (K0 := 0 + K) (S0 := 0 + S0) (by omega) (by omega) ?_
  refine e_invV (pc := 1123) (K1 := 0) (S1 := 0) (K := K) (S := S0) (dd2 := 2) (av := [x_i (x_sc g (i + 1))]) (st := []) (id := 16 * 32 + 0) dL_law__1123 xmL_200 rfl (Or.inl ⟨10, 27, TX12, (sa_32_0 hs), rfl, by decide⟩) (f_cal (M := (x_ac M Ax)) (us2 := [32]) [15] hn rfl (And.intro rfl trivial) rfl rfl rfl (c_X12_find hst hs hS)) (by decide) (Nat.le_of_ble_eq_true rfl) (Or.inl rfl) ?_
  show Ev g _ _ _ _ _ _ 1126 [some (x_r 1), some (x_r (16 * 1 + 0)), some (x_r (16 * 32 + 0)), some (x_r (16 * 27 + 0)), some (x_i (i : Int)), some (x_i (x_wc [1, 2] t0)), none] [x_i b] (al, ro, fl (ml (x_ac M Ax) [1, 2, 3, 4, 5, 18, 19, 20, 21, 22, 23, 24, 25, 26, 27, 32] [Xx, T, Nx, Dr, Kp, Th, La, Lb, Lc, Fo, St, Ri, Br, Ro, (x_out Ot t0), Sy])) _ _ _ _
  refine e_istore (pc := 1126) (i := 6) dL_law__1126 (by decide) rfl ?_
  show Ev g _ _ _ _ _ _ 1128 [some (x_r 1), some (x_r (16 * 1 + 0)), some (x_r (16 * 32 + 0)), some (x_r (16 * 27 + 0)), some (x_i (i : Int)), some (x_i (x_wc [1, 2] t0)), some (x_i b)] [] (al, ro, fl (ml (x_ac M Ax) [1, 2, 3, 4, 5, 18, 19, 20, 21, 22, 23, 24, 25, 26, 27, 32] [Xx, T, Nx, Dr, Kp, Th, La, Lb, Lc, Fo, St, Ri, Br, Ro, (x_out Ot t0), Sy])) _ _ _ _
  refine e_aloadn (pc := 1128) (i := 2) dL_law__1128 rfl rfl ?_
  refine e_wide (K0 := 0 + K) (S0 := 0 + S0) (by omega) (by omega) ?_
  refine e_invV (pc := 1129) (K1 := 0) (S1 := 0) (K := K) (S := S0) (dd2 := 0) (av := []) (st := []) (id := 16 * 32 + 0) dL_law__1129 xmL_156 rfl (Or.inl ⟨10, 27, TX12, (sa_32_0 hs), rfl, by decide⟩) (f_cal (M := (x_ac M Ax)) (us2 := [32]) [15] hn rfl (And.intro rfl trivial) rfl rfl rfl (c_X12_thrown hst hs (show G12_thrown Sy = some (Sy 0 0) from rfl))) (by decide) (Nat.le_of_ble_eq_true rfl) (Or.inl rfl) ?_
  show Ev g _ _ _ _ _ _ 1132 [some (x_r 1), some (x_r (16 * 1 + 0)), some (x_r (16 * 32 + 0)), some (x_r (16 * 27 + 0)), some (x_i (i : Int)), some (x_i (x_wc [1, 2] t0)), some (x_i b)] [x_i (Sy 0 0)] (al, ro, fl (ml (x_ac M Ax) [1, 2, 3, 4, 5, 18, 19, 20, 21, 22, 23, 24, 25, 26, 27, 32] [Xx, T, Nx, Dr, Kp, Th, La, Lb, Lc, Fo, St, Ri, Br, Ro, (x_out Ot t0), Sy])) _ _ _ _
  have hk : Sy 0 0 = x_wc [1, 2] t0 := x_ag_k hA
  refine e_iload (pc := 1132) dL_law__1132 rfl ?_
  refine e_icmp_eq (pc := 1134) (tgt := 1139) dL_law__1134 (by decide) (fun _ => ?_) (fun q => absurd hk q)
  refine e_iload (pc := 1139) dL_law__1139 rfl ?_
  cases t0 with
  | inr E =>
    refine e_if_ne (pc := 1141) (tgt := 1156) dL_law__1141 (by decide) (fun _ => ?_) (fun q => absurd q (x_wc_r [1, 2] E))
    refine e_goto (pc := 1156) (tgt := 3041) dL_law__1156 (by decide) ?_
    refine e_drop (i := 5) ?_
    refine e_drop (i := 6) ?_
    exact kk
  | inl v =>
    refine e_if_ne (pc := 1141) (tgt := 1156) dL_law__1141 (by decide) (fun q => absurd rfl q) (fun _ => ?_)
    refine e_aloadn (pc := 1144) (i := 3) dL_law__1144 rfl rfl ?_
    refine e_iconst (pc := 1145) dL_law__1145 (x_R rfl) ?_
    refine f_lald (pc := 1146) (k := 14) (u := 27) (q := 0) (len := 1) dL_law__1146 ho (by decide) hn rfl rfl (by decide) ?_
    refine e_iload (pc := 1147) dL_law__1147 rfl ?_
    refine e_i2l (pc := 1149) dL_law__1149 ?_
    refine e_lcmp (pc := 1150) dL_law__1150 ?_
    refine e_if_eq (pc := 1151) (tgt := 1156) dL_law__1151 (by decide) (fun _ => ?_) (fun q => absurd (x_lc (show v = b from hA.2.symm)) q)
    refine e_goto (pc := 1156) (tgt := 3041) dL_law__1156 (by decide) ?_
    refine e_drop (i := 5) ?_
    refine e_drop (i := 6) ?_
    exact kk
set_option maxRecDepth 100000 in
set_option maxHeartbeats 4000000 in
theorem k16 {g : xG} {al : List (Nat × Nat × Nat)} {ro : Nat → Nat → Option Nat} (hst : g.1.stackTraces = false) (hs : SH al ro) (ho : (16 * 27 + 0, 21, 1) ∈ al) {M : Nat → xU} {h' : xH} {i K S0 : Nat} (hi : i + 6 ≤ x_L g) (hL : x_L g < 2147483648) {X T N Dr Kp Th La Lb Lc Fo St Ri Br Ro Ot S : xU} {A : xA} {a : Int} {b : Int} {Sy : xU} (hX : G11_choir N = some a) (hS : G12_choir S = some (b, Sy)) (hA : a = b)
    (kk : Ev g yL_law_ cL_law_ 7 (some .boolean) [] 60 3041 [some (x_r 1), some (x_r (16 * 1 + 0)), some (x_r (16 * 32 + 0)), some (x_r (16 * 27 + 0)), some (x_i (i : Int)), none, none] [] (al, ro, fl (ml (x_ac M A) [1, 2, 3, 4, 5, 18, 19, 20, 21, 22, 23, 24, 25, 26, 27, 32] [X, T, N, Dr, Kp, Th, La, Lb, Lc, Fo, St, Ri, Br, Ro, Ot, Sy])) K S0 (.inl (some (x_i 1))) h') : Ev g yL_law_ cL_law_ 7 (some .boolean) [] 60 1159 [some (x_r 1), some (x_r (16 * 1 + 0)), some (x_r (16 * 32 + 0)), some (x_r (16 * 27 + 0)), some (x_i (i : Int)), none, none] [] (al, ro, fl (ml (x_ac M A) [1, 2, 3, 4, 5, 18, 19, 20, 21, 22, 23, 24, 25, 26, 27, 32] [X, T, N, Dr, Kp, Th, La, Lb, Lc, Fo, St, Ri, Br, Ro, Ot, S])) K S0 (.inl (some (x_i 1))) h' := by
  have hn : ([1, 2, 3, 4, 5, 18, 19, 20, 21, 22, 23, 24, 25, 26, 27, 32] : List Nat).Nodup := by decide
  refine e_aloadn (pc := 1159) (i := 1) dL_law__1159 rfl rfl ?_
  refine e_wide (K0 := 0 + K) (S0 := 0 + S0) (by omega) (by omega) ?_
  refine e_invV (pc := 1160) (K1 := 0) (S1 := 0) (K := K) (S := S0) (dd2 := 2) (av := []) (st := []) (id := 16 * 1 + 0) dL_law__1160 xmL_201 rfl (Or.inl ⟨9, 17, TX11, (sa_1_0 hs), rfl, by decide⟩) (f_cal (M := (x_ac M A)) (us2 := [3]) [2] hn rfl (And.intro rfl trivial) rfl rfl rfl (c_X11_choir hst hs hX)) (by decide) (Nat.le_of_ble_eq_true rfl) (Or.inl rfl) ?_
  show Ev g _ _ _ _ _ _ 1163 [some (x_r 1), some (x_r (16 * 1 + 0)), some (x_r (16 * 32 + 0)), some (x_r (16 * 27 + 0)), some (x_i (i : Int)), none, none] [x_i a] (al, ro, fl (ml (x_ac M A) [1, 2, 3, 4, 5, 18, 19, 20, 21, 22, 23, 24, 25, 26, 27, 32] [X, T, N, Dr, Kp, Th, La, Lb, Lc, Fo, St, Ri, Br, Ro, Ot, S])) _ _ _ _
  refine e_aloadn (pc := 1163) (i := 2) dL_law__1163 rfl rfl ?_
  refine e_wide (K0 := 0 + K) (S0 := 0 + S0) (by omega) (by omega) ?_
  refine e_invV (pc := 1164) (K1 := 0) (S1 := 0) (K := K) (S := S0) (dd2 := 3) (av := []) (st := [x_i a]) (id := 16 * 32 + 0) dL_law__1164 xmL_204 rfl (Or.inl ⟨10, 27, TX12, (sa_32_0 hs), rfl, by decide⟩) (f_cal (M := (x_ac M A)) (us2 := [32]) [15] hn rfl (And.intro rfl trivial) rfl rfl rfl (c_X12_choir hst hs hS)) (by decide) (Nat.le_of_ble_eq_true rfl) (Or.inl rfl) ?_
  show Ev g _ _ _ _ _ _ 1167 [some (x_r 1), some (x_r (16 * 1 + 0)), some (x_r (16 * 32 + 0)), some (x_r (16 * 27 + 0)), some (x_i (i : Int)), none, none] [x_i b, x_i a] (al, ro, fl (ml (x_ac M A) [1, 2, 3, 4, 5, 18, 19, 20, 21, 22, 23, 24, 25, 26, 27, 32] [X, T, N, Dr, Kp, Th, La, Lb, Lc, Fo, St, Ri, Br, Ro, Ot, Sy])) _ _ _ _
  refine e_icmp_eq (pc := 1167) (tgt := 3041) dL_law__1167 (by decide) (fun _ => ?_) (fun q => absurd hA q)
  exact kk
set_option maxRecDepth 100000 in
set_option maxHeartbeats 4000000 in
theorem k17 {g : xG} {al : List (Nat × Nat × Nat)} {ro : Nat → Nat → Option Nat} (hst : g.1.stackTraces = false) (hs : SH al ro) (ho : (16 * 27 + 0, 21, 1) ∈ al) {M : Nat → xU} {h' : xH} {i K S0 : Nat} (hi : i + 6 ≤ x_L g) (hL : x_L g < 2147483648) {X T N Dr Kp Th La Lb Lc Fo St Ri Br Ro Ot S : xU} {A : xA} {t0 : (Int ⊕ Nat)} {Thx : xU} {Lax : xU} {b : Int} {Sy : xU} (hX : G11_when (x_sc g (i + 1)) (x_sc g (i + 2)) N Th La = some (t0, Thx, Lax)) (hE : ∀ E, t0 = .inr E → E ∈ ([1] : List Nat)) (hS : G12_when (x_sc g (i + 1)) (x_sc g (i + 2)) S = some (b, Sy)) (hA : Ag (x_cd [1]) t0 b Sy)
    (kk : Ev g yL_law_ cL_law_ 7 (some .boolean) [] 60 3041 [some (x_r 1), some (x_r (16 * 1 + 0)), some (x_r (16 * 32 + 0)), some (x_r (16 * 27 + 0)), some (x_i (i : Int)), none, none] [] (al, ro, fl (ml (x_ac M A) [1, 2, 3, 4, 5, 18, 19, 20, 21, 22, 23, 24, 25, 26, 27, 32] [X, T, N, Dr, Kp, Thx, Lax, Lb, Lc, Fo, St, Ri, Br, Ro, (x_out Ot t0), Sy])) K S0 (.inl (some (x_i 1))) h') : Ev g yL_law_ cL_law_ 7 (some .boolean) [] 60 1172 [some (x_r 1), some (x_r (16 * 1 + 0)), some (x_r (16 * 32 + 0)), some (x_r (16 * 27 + 0)), some (x_i (i : Int)), none, none] [] (al, ro, fl (ml (x_ac M A) [1, 2, 3, 4, 5, 18, 19, 20, 21, 22, 23, 24, 25, 26, 27, 32] [X, T, N, Dr, Kp, Th, La, Lb, Lc, Fo, St, Ri, Br, Ro, Ot, S])) (2 + K) (12 + S0) (.inl (some (x_i 1))) h' := by
  have hn : ([1, 2, 3, 4, 5, 18, 19, 20, 21, 22, 23, 24, 25, 26, 27, 32] : List Nat).Nodup := by decide
  refine e_aloadn (pc := 1172) (i := 1) dL_law__1172 rfl rfl ?_
  refine e_aloadn (pc := 1173) (i := 0) dL_law__1173 rfl rfl ?_
  refine e_iload (pc := 1174) dL_law__1174 rfl ?_
  refine e_iconst (pc := 1176) dL_law__1176 (x_R rfl) ?_
  refine e_iadd (pc := 1177) dL_law__1177 ?_
  rw [show x_add (i : Int) 1 = ((i + 1 : Nat) : Int) from x_ni (k := 1) (by omega)]
  refine e_sld (pc := 1178) dL_law__1178 (by omega) (by omega) ?_
  show Ev g _ _ _ _ _ _ 1179 [some (x_r 1), some (x_r (16 * 1 + 0)), some (x_r (16 * 32 + 0)), some (x_r (16 * 27 + 0)), some (x_i (i : Int)), none, none] [x_i (x_sc g (i + 1)), x_r (16 * 1 + 0)] (al, ro, fl (ml (x_ac M A) [1, 2, 3, 4, 5, 18, 19, 20, 21, 22, 23, 24, 25, 26, 27, 32] [X, T, N, Dr, Kp, Th, La, Lb, Lc, Fo, St, Ri, Br, Ro, Ot, S])) _ _ _ _
  refine e_aloadn (pc := 1179) (i := 0) dL_law__1179 rfl rfl ?_
  refine e_iload (pc := 1180) dL_law__1180 rfl ?_
  refine e_iconst (pc := 1182) dL_law__1182 (x_R rfl) ?_
  refine e_iadd (pc := 1183) dL_law__1183 ?_
  rw [show x_add (i : Int) 2 = ((i + 2 : Nat) : Int) from x_ni (k := 2) (by omega)]
  refine e_sld (pc := 1184) dL_law__1184 (by omega) (by omega) ?_
  show Ev g _ _ _ _ _ _ 1185 [some (x_r 1), some (x_r (16 * 1 + 0)), some (x_r (16 * 32 + 0)), some (x_r (16 * 27 + 0)), some (x_i (i : Int)), none, none] [x_i (x_sc g (i + 2)), x_i (x_sc g (i + 1)), x_r (16 * 1 + 0)] (al, ro, fl (ml (x_ac M A) [1, 2, 3, 4, 5, 18, 19, 20, 21, 22, 23, 24, 25, 26, 27, 32] [X, T, N, Dr, Kp, Th, La, Lb, Lc, Fo, St, Ri, Br, Ro, Ot, S])) _ _ _ _
  refine e_aloadn (pc := 1185) (i := 3) dL_law__1185 rfl rfl ?_
  refine e_invSH (pc := 1186) (K1 := 2) (S1 := 12) (K := K) (S := S0) (dd2 := 7) (av := [x_r (16 * 1 + 0), x_i (x_sc g (i + 1)), x_i (x_sc g (i + 2)), x_r (16 * 27 + 0)]) (st := []) dL_law__1186 (xmH_when 205 (x_inB (x_t5 (List.mem_of_getElem? (i := 175) rfl)) rfl)) rfl (f_calH (M := (x_ac M A)) (us2 := [3, 18, 19, 27]) [2, 5, 6, 14] hn rfl (And.intro rfl (And.intro rfl (And.intro rfl (And.intro rfl trivial)))) rfl rfl rfl (c_L_when hst hs ho hX hE)) (by decide) (Nat.le_of_ble_eq_true rfl) (Or.inl rfl) ?_
  show Ev g _ _ _ _ _ _ 1189 [some (x_r 1), some (x_r (16 * 1 + 0)), some (x_r (16 * 32 + 0)), some (x_r (16 * 27 + 0)), some (x_i (i : Int)), none, none] [x_i (x_wc [1] t0)] (al, ro, fl (ml (x_ac M A) [1, 2, 3, 4, 5, 18, 19, 20, 21, 22, 23, 24, 25, 26, 27, 32] [X, T, N, Dr, Kp, Thx, Lax, Lb, Lc, Fo, St, Ri, Br, Ro, (x_out Ot t0), S])) _ _ _ _
  refine e_istore (pc := 1189) (i := 5) dL_law__1189 (by decide) rfl ?_
  show Ev g _ _ _ _ _ _ 1191 [some (x_r 1), some (x_r (16 * 1 + 0)), some (x_r (16 * 32 + 0)), some (x_r (16 * 27 + 0)), some (x_i (i : Int)), some (x_i (x_wc [1] t0)), none] [] (al, ro, fl (ml (x_ac M A) [1, 2, 3, 4, 5, 18, 19, 20, 21, 22, 23, 24, 25, 26, 27, 32] [X, T, N, Dr, Kp, Thx, Lax, Lb, Lc, Fo, St, Ri, Br, Ro, (x_out Ot t0), S])) _ _ _ _
  refine e_aloadn (pc := 1191) (i := 2) dL_law__1191 rfl rfl ?_
  refine e_aloadn (pc := 1192) (i := 0) dL_law__1192 rfl rfl ?_
  refine e_iload (pc := 1193) dL_law__1193 rfl ?_
  refine e_iconst (pc := 1195) dL_law__1195 (x_R rfl) ?_
  refine e_iadd (pc := 1196) dL_law__1196 ?_
  rw [show x_add (i : Int) 1 = ((i + 1 : Nat) : Int) from x_ni (k := 1) (by omega)]
  refine e_sld (pc := 1197) dL_law__1197 (by omega) (by omega) ?_
  show Ev g _ _ _ _ _ _ 1198 [some (x_r 1), some (x_r (16 * 1 + 0)), some (x_r (16 * 32 + 0)), some (x_r (16 * 27 + 0)), some (x_i (i : Int)), some (x_i (x_wc [1] t0)), none] [x_i (x_sc g (i + 1)), x_r (16 * 32 + 0)] (al, ro, fl (ml (x_ac M A) [1, 2, 3, 4, 5, 18, 19, 20, 21, 22, 23, 24, 25, 26, 27, 32] [X, T, N, Dr, Kp, Thx, Lax, Lb, Lc, Fo, St, Ri, Br, Ro, (x_out Ot t0), S])) _ _ _ _
  refine e_aloadn (pc := 1198) (i := 0) dL_law__1198 rfl rfl ?_
  refine e_iload (pc := 1199) dL_law__1199 rfl ?_
  refine e_iconst (pc := 1201) dL_law__1201 (x_R rfl) ?_
  refine e_iadd (pc := 1202) dL_law__1202 ?_
  rw [show x_add (i : Int) 2 = ((i + 2 : Nat) : Int) from x_ni (k := 2) (by omega)]
  refine e_sld (pc := 1203) dL_law__1203 (by omega) (by omega) ?_
  show Ev g _ _ _ _ _ _ 1204 [some (x_r 1), some (x_r (16 * 1 + 0)), some (x_r (16 * 32 + 0)), some (x_r (16 * 27 + 0)), some (x_i (i : Int)), some (x_i (x_wc [1] t0)), none] [x_i (x_sc g (i + 2)), x_i (x_sc g (i + 1)), x_r (16 * 32 + 0)] (al, ro, fl (ml (x_ac M A) [1, 2, 3, 4, 5, 18, 19, 20, 21, 22, 23, 24, 25, 26, 27, 32] [X, T, N, Dr, Kp, Thx, Lax, Lb, Lc, Fo, St, Ri, Br, Ro, (x_out Ot t0), S])) _ _ _ _
  refine e_wide (K0 := 0 + K) (S0 := 0 + S0) (by omega) (by omega) ?_
  refine e_invV (pc := 1204) (K1 := 0) (S1 := 0) (K := K) (S := S0) (dd2 := 47) (av := [x_i (x_sc g (i + 1)), x_i (x_sc g (i + 2))]) (st := []) (id := 16 * 32 + 0) dL_law__1204 xmL_207 rfl (Or.inl ⟨10, 27, TX12, (sa_32_0 hs), rfl, by decide⟩) (f_cal (M := (x_ac M A)) (us2 := [32]) [15] hn rfl (And.intro rfl trivial) rfl rfl rfl (c_X12_when hst hs hS)) (by decide) (Nat.le_of_ble_eq_true rfl) (Or.inl rfl) ?_
  show Ev g _ _ _ _ _ _ 1207 [some (x_r 1), some (x_r (16 * 1 + 0)), some (x_r (16 * 32 + 0)), some (x_r (16 * 27 + 0)), some (x_i (i : Int)), some (x_i (x_wc [1] t0)), none] [x_i b] (al, ro, fl (ml (x_ac M A) [1, 2, 3, 4, 5, 18, 19, 20, 21, 22, 23, 24, 25, 26, 27, 32] [X, T, N, Dr, Kp, Thx, Lax, Lb, Lc, Fo, St, Ri, Br, Ro, (x_out Ot t0), Sy])) _ _ _ _
  refine e_istore (pc := 1207) (i := 6) dL_law__1207 (by decide) rfl ?_
  show Ev g _ _ _ _ _ _ 1209 [some (x_r 1), some (x_r (16 * 1 + 0)), some (x_r (16 * 32 + 0)), some (x_r (16 * 27 + 0)), some (x_i (i : Int)), some (x_i (x_wc [1] t0)), some (x_i b)] [] (al, ro, fl (ml (x_ac M A) [1, 2, 3, 4, 5, 18, 19, 20, 21, 22, 23, 24, 25, 26, 27, 32] [X, T, N, Dr, Kp, Thx, Lax, Lb, Lc, Fo, St, Ri, Br, Ro, (x_out Ot t0), Sy])) _ _ _ _
  refine e_aloadn (pc := 1209) (i := 2) dL_law__1209 rfl rfl ?_
  refine e_wide (K0 := 0 + K) (S0 := 0 + S0) (by omega) (by omega) ?_
  refine e_invV (pc := 1210) (K1 := 0) (S1 := 0) (K := K) (S := S0) (dd2 := 0) (av := []) (st := []) (id := 16 * 32 + 0) dL_law__1210 xmL_156 rfl (Or.inl ⟨10, 27, TX12, (sa_32_0 hs), rfl, by decide⟩) (f_cal (M := (x_ac M A)) (us2 := [32]) [15] hn rfl (And.intro rfl trivial) rfl rfl rfl (c_X12_thrown hst hs (show G12_thrown Sy = some (Sy 0 0) from rfl))) (by decide) (Nat.le_of_ble_eq_true rfl) (Or.inl rfl) ?_
  show Ev g _ _ _ _ _ _ 1213 [some (x_r 1), some (x_r (16 * 1 + 0)), some (x_r (16 * 32 + 0)), some (x_r (16 * 27 + 0)), some (x_i (i : Int)), some (x_i (x_wc [1] t0)), some (x_i b)] [x_i (Sy 0 0)] (al, ro, fl (ml (x_ac M A) [1, 2, 3, 4, 5, 18, 19, 20, 21, 22, 23, 24, 25, 26, 27, 32] [X, T, N, Dr, Kp, Thx, Lax, Lb, Lc, Fo, St, Ri, Br, Ro, (x_out Ot t0), Sy])) _ _ _ _
  have hk : Sy 0 0 = x_wc [1] t0 := x_ag_k hA
  refine e_iload (pc := 1213) dL_law__1213 rfl ?_
  refine e_icmp_eq (pc := 1215) (tgt := 1220) dL_law__1215 (by decide) (fun _ => ?_) (fun q => absurd hk q)
  refine e_iload (pc := 1220) dL_law__1220 rfl ?_
  cases t0 with
  | inr E =>
    refine e_if_ne (pc := 1222) (tgt := 1237) dL_law__1222 (by decide) (fun _ => ?_) (fun q => absurd q (x_wc_r [1] E))
    refine e_goto (pc := 1237) (tgt := 3041) dL_law__1237 (by decide) ?_
    refine e_drop (i := 5) ?_
    refine e_drop (i := 6) ?_
    exact kk
  | inl v =>
    refine e_if_ne (pc := 1222) (tgt := 1237) dL_law__1222 (by decide) (fun q => absurd rfl q) (fun _ => ?_)
    refine e_aloadn (pc := 1225) (i := 3) dL_law__1225 rfl rfl ?_
    refine e_iconst (pc := 1226) dL_law__1226 (x_R rfl) ?_
    refine f_lald (pc := 1227) (k := 14) (u := 27) (q := 0) (len := 1) dL_law__1227 ho (by decide) hn rfl rfl (by decide) ?_
    refine e_iload (pc := 1228) dL_law__1228 rfl ?_
    refine e_i2l (pc := 1230) dL_law__1230 ?_
    refine e_lcmp (pc := 1231) dL_law__1231 ?_
    refine e_if_eq (pc := 1232) (tgt := 1237) dL_law__1232 (by decide) (fun _ => ?_) (fun q => absurd (x_lc (show v = b from hA.2.symm)) q)
    refine e_goto (pc := 1237) (tgt := 3041) dL_law__1237 (by decide) ?_
    refine e_drop (i := 5) ?_
    refine e_drop (i := 6) ?_
    exact kk
set_option maxRecDepth 100000 in
set_option maxHeartbeats 4000000 in
theorem k18 {g : xG} {al : List (Nat × Nat × Nat)} {ro : Nat → Nat → Option Nat} (hst : g.1.stackTraces = false) (hs : SH al ro) (ho : (16 * 27 + 0, 21, 1) ∈ al) {M : Nat → xU} {h' : xH} {i K S0 : Nat} (hi : i + 6 ≤ x_L g) (hL : x_L g < 2147483648) {X T N Dr Kp Th La Lb Lc Fo St Ri Br Ro Ot S : xU} {A : xA} {t0 : (Int ⊕ Nat)} {Thx : xU} {Lax : xU} {b : Int} {Sy : xU} (hX : G11_meet (x_sc g (i + 1)) (x_sc g (i + 2)) N Th La = some (t0, Thx, Lax)) (hE : ∀ E, t0 = .inr E → E ∈ ([1, 0] : List Nat)) (hS : G12_meet (x_sc g (i + 1)) (x_sc g (i + 2)) S = some (b, Sy)) (hA : Ag (x_cd [1, 0]) t0 b Sy)
    (kk : Ev g yL_law_ cL_law_ 7 (some .boolean) [] 60 3041 [some (x_r 1), some (x_r (16 * 1 + 0)), some (x_r (16 * 32 + 0)), some (x_r (16 * 27 + 0)), some (x_i (i : Int)), none, none] [] (al, ro, fl (ml (x_ac M A) [1, 2, 3, 4, 5, 18, 19, 20, 21, 22, 23, 24, 25, 26, 27, 32] [X, T, N, Dr, Kp, Thx, Lax, Lb, Lc, Fo, St, Ri, Br, Ro, (x_out Ot t0), Sy])) K S0 (.inl (some (x_i 1))) h') : Ev g yL_law_ cL_law_ 7 (some .boolean) [] 60 1240 [some (x_r 1), some (x_r (16 * 1 + 0)), some (x_r (16 * 32 + 0)), some (x_r (16 * 27 + 0)), some (x_i (i : Int)), none, none] [] (al, ro, fl (ml (x_ac M A) [1, 2, 3, 4, 5, 18, 19, 20, 21, 22, 23, 24, 25, 26, 27, 32] [X, T, N, Dr, Kp, Th, La, Lb, Lc, Fo, St, Ri, Br, Ro, Ot, S])) (3 + K) (18 + S0) (.inl (some (x_i 1))) h' := by
  have hn : ([1, 2, 3, 4, 5, 18, 19, 20, 21, 22, 23, 24, 25, 26, 27, 32] : List Nat).Nodup := by decide
  refine e_aloadn (pc := 1240) (i := 1) dL_law__1240 rfl rfl ?_
  refine e_aloadn (pc := 1241) (i := 0) dL_law__1241 rfl rfl ?_
  refine e_iload (pc := 1242) dL_law__1242 rfl ?_
  refine e_iconst (pc := 1244) dL_law__1244 (x_R rfl) ?_
  refine e_iadd (pc := 1245) dL_law__1245 ?_
  rw [show x_add (i : Int) 1 = ((i + 1 : Nat) : Int) from x_ni (k := 1) (by omega)]
  refine e_sld (pc := 1246) dL_law__1246 (by omega) (by omega) ?_
  show Ev g _ _ _ _ _ _ 1247 [some (x_r 1), some (x_r (16 * 1 + 0)), some (x_r (16 * 32 + 0)), some (x_r (16 * 27 + 0)), some (x_i (i : Int)), none, none] [x_i (x_sc g (i + 1)), x_r (16 * 1 + 0)] (al, ro, fl (ml (x_ac M A) [1, 2, 3, 4, 5, 18, 19, 20, 21, 22, 23, 24, 25, 26, 27, 32] [X, T, N, Dr, Kp, Th, La, Lb, Lc, Fo, St, Ri, Br, Ro, Ot, S])) _ _ _ _
  refine e_aloadn (pc := 1247) (i := 0) dL_law__1247 rfl rfl ?_
  refine e_iload (pc := 1248) dL_law__1248 rfl ?_
  refine e_iconst (pc := 1250) dL_law__1250 (x_R rfl) ?_
  refine e_iadd (pc := 1251) dL_law__1251 ?_
  rw [show x_add (i : Int) 2 = ((i + 2 : Nat) : Int) from x_ni (k := 2) (by omega)]
  refine e_sld (pc := 1252) dL_law__1252 (by omega) (by omega) ?_
  show Ev g _ _ _ _ _ _ 1253 [some (x_r 1), some (x_r (16 * 1 + 0)), some (x_r (16 * 32 + 0)), some (x_r (16 * 27 + 0)), some (x_i (i : Int)), none, none] [x_i (x_sc g (i + 2)), x_i (x_sc g (i + 1)), x_r (16 * 1 + 0)] (al, ro, fl (ml (x_ac M A) [1, 2, 3, 4, 5, 18, 19, 20, 21, 22, 23, 24, 25, 26, 27, 32] [X, T, N, Dr, Kp, Th, La, Lb, Lc, Fo, St, Ri, Br, Ro, Ot, S])) _ _ _ _
  refine e_aloadn (pc := 1253) (i := 3) dL_law__1253 rfl rfl ?_
  refine e_invSH (pc := 1254) (K1 := 3) (S1 := 18) (K := K) (S := S0) (dd2 := 7) (av := [x_r (16 * 1 + 0), x_i (x_sc g (i + 1)), x_i (x_sc g (i + 2)), x_r (16 * 27 + 0)]) (st := []) dL_law__1254 (xmH_meet 208 (x_inB (x_t5 (List.mem_of_getElem? (i := 187) rfl)) rfl)) rfl (f_calH (M := (x_ac M A)) (us2 := [3, 18, 19, 27]) [2, 5, 6, 14] hn rfl (And.intro rfl (And.intro rfl (And.intro rfl (And.intro rfl trivial)))) rfl rfl rfl (c_L_meet hst hs ho hX hE)) (by decide) (Nat.le_of_ble_eq_true rfl) (Or.inl rfl) ?_
  show Ev g _ _ _ _ _ _ 1257 [some (x_r 1), some (x_r (16 * 1 + 0)), some (x_r (16 * 32 + 0)), some (x_r (16 * 27 + 0)), some (x_i (i : Int)), none, none] [x_i (x_wc [1, 0] t0)] (al, ro, fl (ml (x_ac M A) [1, 2, 3, 4, 5, 18, 19, 20, 21, 22, 23, 24, 25, 26, 27, 32] [X, T, N, Dr, Kp, Thx, Lax, Lb, Lc, Fo, St, Ri, Br, Ro, (x_out Ot t0), S])) _ _ _ _
  refine e_istore (pc := 1257) (i := 5) dL_law__1257 (by decide) rfl ?_
  show Ev g _ _ _ _ _ _ 1259 [some (x_r 1), some (x_r (16 * 1 + 0)), some (x_r (16 * 32 + 0)), some (x_r (16 * 27 + 0)), some (x_i (i : Int)), some (x_i (x_wc [1, 0] t0)), none] [] (al, ro, fl (ml (x_ac M A) [1, 2, 3, 4, 5, 18, 19, 20, 21, 22, 23, 24, 25, 26, 27, 32] [X, T, N, Dr, Kp, Thx, Lax, Lb, Lc, Fo, St, Ri, Br, Ro, (x_out Ot t0), S])) _ _ _ _
  refine e_aloadn (pc := 1259) (i := 2) dL_law__1259 rfl rfl ?_
  refine e_aloadn (pc := 1260) (i := 0) dL_law__1260 rfl rfl ?_
  refine e_iload (pc := 1261) dL_law__1261 rfl ?_
  refine e_iconst (pc := 1263) dL_law__1263 (x_R rfl) ?_
  refine e_iadd (pc := 1264) dL_law__1264 ?_
  rw [show x_add (i : Int) 1 = ((i + 1 : Nat) : Int) from x_ni (k := 1) (by omega)]
  refine e_sld (pc := 1265) dL_law__1265 (by omega) (by omega) ?_
  show Ev g _ _ _ _ _ _ 1266 [some (x_r 1), some (x_r (16 * 1 + 0)), some (x_r (16 * 32 + 0)), some (x_r (16 * 27 + 0)), some (x_i (i : Int)), some (x_i (x_wc [1, 0] t0)), none] [x_i (x_sc g (i + 1)), x_r (16 * 32 + 0)] (al, ro, fl (ml (x_ac M A) [1, 2, 3, 4, 5, 18, 19, 20, 21, 22, 23, 24, 25, 26, 27, 32] [X, T, N, Dr, Kp, Thx, Lax, Lb, Lc, Fo, St, Ri, Br, Ro, (x_out Ot t0), S])) _ _ _ _
  refine e_aloadn (pc := 1266) (i := 0) dL_law__1266 rfl rfl ?_
  refine e_iload (pc := 1267) dL_law__1267 rfl ?_
  refine e_iconst (pc := 1269) dL_law__1269 (x_R rfl) ?_
  refine e_iadd (pc := 1270) dL_law__1270 ?_
  rw [show x_add (i : Int) 2 = ((i + 2 : Nat) : Int) from x_ni (k := 2) (by omega)]
  refine e_sld (pc := 1271) dL_law__1271 (by omega) (by omega) ?_
  show Ev g _ _ _ _ _ _ 1272 [some (x_r 1), some (x_r (16 * 1 + 0)), some (x_r (16 * 32 + 0)), some (x_r (16 * 27 + 0)), some (x_i (i : Int)), some (x_i (x_wc [1, 0] t0)), none] [x_i (x_sc g (i + 2)), x_i (x_sc g (i + 1)), x_r (16 * 32 + 0)] (al, ro, fl (ml (x_ac M A) [1, 2, 3, 4, 5, 18, 19, 20, 21, 22, 23, 24, 25, 26, 27, 32] [X, T, N, Dr, Kp, Thx, Lax, Lb, Lc, Fo, St, Ri, Br, Ro, (x_out Ot t0), S])) _ _ _ _
  refine e_wide (K0 := 0 + K) (S0 := 0 + S0) (by omega) (by omega) ?_
  refine e_invV (pc := 1272) (K1 := 0) (S1 := 0) (K := K) (S := S0) (dd2 := 47) (av := [x_i (x_sc g (i + 1)), x_i (x_sc g (i + 2))]) (st := []) (id := 16 * 32 + 0) dL_law__1272 xmL_210 rfl (Or.inl ⟨10, 27, TX12, (sa_32_0 hs), rfl, by decide⟩) (f_cal (M := (x_ac M A)) (us2 := [32]) [15] hn rfl (And.intro rfl trivial) rfl rfl rfl (c_X12_meet hst hs hS)) (by decide) (Nat.le_of_ble_eq_true rfl) (Or.inl rfl) ?_
  show Ev g _ _ _ _ _ _ 1275 [some (x_r 1), some (x_r (16 * 1 + 0)), some (x_r (16 * 32 + 0)), some (x_r (16 * 27 + 0)), some (x_i (i : Int)), some (x_i (x_wc [1, 0] t0)), none] [x_i b] (al, ro, fl (ml (x_ac M A) [1, 2, 3, 4, 5, 18, 19, 20, 21, 22, 23, 24, 25, 26, 27, 32] [X, T, N, Dr, Kp, Thx, Lax, Lb, Lc, Fo, St, Ri, Br, Ro, (x_out Ot t0), Sy])) _ _ _ _
  refine e_istore (pc := 1275) (i := 6) dL_law__1275 (by decide) rfl ?_
  show Ev g _ _ _ _ _ _ 1277 [some (x_r 1), some (x_r (16 * 1 + 0)), some (x_r (16 * 32 + 0)), some (x_r (16 * 27 + 0)), some (x_i (i : Int)), some (x_i (x_wc [1, 0] t0)), some (x_i b)] [] (al, ro, fl (ml (x_ac M A) [1, 2, 3, 4, 5, 18, 19, 20, 21, 22, 23, 24, 25, 26, 27, 32] [X, T, N, Dr, Kp, Thx, Lax, Lb, Lc, Fo, St, Ri, Br, Ro, (x_out Ot t0), Sy])) _ _ _ _
  refine e_aloadn (pc := 1277) (i := 2) dL_law__1277 rfl rfl ?_
  refine e_wide (K0 := 0 + K) (S0 := 0 + S0) (by omega) (by omega) ?_
  refine e_invV (pc := 1278) (K1 := 0) (S1 := 0) (K := K) (S := S0) (dd2 := 0) (av := []) (st := []) (id := 16 * 32 + 0) dL_law__1278 xmL_156 rfl (Or.inl ⟨10, 27, TX12, (sa_32_0 hs), rfl, by decide⟩) (f_cal (M := (x_ac M A)) (us2 := [32]) [15] hn rfl (And.intro rfl trivial) rfl rfl rfl (c_X12_thrown hst hs (show G12_thrown Sy = some (Sy 0 0) from rfl))) (by decide) (Nat.le_of_ble_eq_true rfl) (Or.inl rfl) ?_
  show Ev g _ _ _ _ _ _ 1281 [some (x_r 1), some (x_r (16 * 1 + 0)), some (x_r (16 * 32 + 0)), some (x_r (16 * 27 + 0)), some (x_i (i : Int)), some (x_i (x_wc [1, 0] t0)), some (x_i b)] [x_i (Sy 0 0)] (al, ro, fl (ml (x_ac M A) [1, 2, 3, 4, 5, 18, 19, 20, 21, 22, 23, 24, 25, 26, 27, 32] [X, T, N, Dr, Kp, Thx, Lax, Lb, Lc, Fo, St, Ri, Br, Ro, (x_out Ot t0), Sy])) _ _ _ _
  have hk : Sy 0 0 = x_wc [1, 0] t0 := x_ag_k hA
  refine e_iload (pc := 1281) dL_law__1281 rfl ?_
  refine e_icmp_eq (pc := 1283) (tgt := 1288) dL_law__1283 (by decide) (fun _ => ?_) (fun q => absurd hk q)
  refine e_iload (pc := 1288) dL_law__1288 rfl ?_
  cases t0 with
  | inr E =>
    refine e_if_ne (pc := 1290) (tgt := 1305) dL_law__1290 (by decide) (fun _ => ?_) (fun q => absurd q (x_wc_r [1, 0] E))
    refine e_goto (pc := 1305) (tgt := 3041) dL_law__1305 (by decide) ?_
    refine e_drop (i := 5) ?_
    refine e_drop (i := 6) ?_
    exact kk
  | inl v =>
    refine e_if_ne (pc := 1290) (tgt := 1305) dL_law__1290 (by decide) (fun q => absurd rfl q) (fun _ => ?_)
    refine e_aloadn (pc := 1293) (i := 3) dL_law__1293 rfl rfl ?_
    refine e_iconst (pc := 1294) dL_law__1294 (x_R rfl) ?_
    refine f_lald (pc := 1295) (k := 14) (u := 27) (q := 0) (len := 1) dL_law__1295 ho (by decide) hn rfl rfl (by decide) ?_
    refine e_iload (pc := 1296) dL_law__1296 rfl ?_
    refine e_i2l (pc := 1298) dL_law__1298 ?_
    refine e_lcmp (pc := 1299) dL_law__1299 ?_
    refine e_if_eq (pc := 1300) (tgt := 1305) dL_law__1300 (by decide) (fun _ => ?_) (fun q => absurd (x_lc (show v = b from hA.2.symm)) q)
    refine e_goto (pc := 1305) (tgt := 3041) dL_law__1305 (by decide) ?_
    refine e_drop (i := 5) ?_
    refine e_drop (i := 6) ?_
    exact kk
set_option maxRecDepth 100000 in
set_option maxHeartbeats 4000000 in
theorem k19 {g : xG} {al : List (Nat × Nat × Nat)} {ro : Nat → Nat → Option Nat} (hst : g.1.stackTraces = false) (hs : SH al ro) (ho : (16 * 27 + 0, 21, 1) ∈ al) {M : Nat → xU} {h' : xH} {i K S0 : Nat} (hi : i + 6 ≤ x_L g) (hL : x_L g < 2147483648) {X T N Dr Kp Th La Lb Lc Fo St Ri Br Ro Ot S : xU} {A : xA} {t0 : (Int ⊕ Nat)} {Thx : xU} {Lax : xU} {Fox : xU} {b : Int} {Sy : xU} (hX : G11_lates (x_sc g (i + 1)) N Th La Fo = some (t0, Thx, Lax, Fox)) (hE : ∀ E, t0 = .inr E → E ∈ ([0] : List Nat)) (hS : G12_lates (x_sc g (i + 1)) S = some (b, Sy)) (hA : Ag (x_cd [0]) t0 b Sy)
    (kk : Ev g yL_law_ cL_law_ 7 (some .boolean) [] 60 3041 [some (x_r 1), some (x_r (16 * 1 + 0)), some (x_r (16 * 32 + 0)), some (x_r (16 * 27 + 0)), some (x_i (i : Int)), none, none] [] (al, ro, fl (ml (x_ac M A) [1, 2, 3, 4, 5, 18, 19, 20, 21, 22, 23, 24, 25, 26, 27, 32] [X, T, N, Dr, Kp, Thx, Lax, Lb, Lc, Fox, St, Ri, Br, Ro, (x_out Ot t0), Sy])) K S0 (.inl (some (x_i 1))) h') : Ev g yL_law_ cL_law_ 7 (some .boolean) [] 60 1308 [some (x_r 1), some (x_r (16 * 1 + 0)), some (x_r (16 * 32 + 0)), some (x_r (16 * 27 + 0)), some (x_i (i : Int)), none, none] [] (al, ro, fl (ml (x_ac M A) [1, 2, 3, 4, 5, 18, 19, 20, 21, 22, 23, 24, 25, 26, 27, 32] [X, T, N, Dr, Kp, Th, La, Lb, Lc, Fo, St, Ri, Br, Ro, Ot, S])) (1 + K) (6 + S0) (.inl (some (x_i 1))) h' := by
  have hn : ([1, 2, 3, 4, 5, 18, 19, 20, 21, 22, 23, 24, 25, 26, 27, 32] : List Nat).Nodup := by decide
  refine e_aloadn (pc := 1308) (i := 1) dL_law__1308 rfl rfl ?_
  refine e_aloadn (pc := 1309) (i := 0) dL_law__1309 rfl rfl ?_
  refine e_iload (pc := 1310) dL_law__1310 rfl ?_
  refine e_iconst (pc := 1312) dL_law__1312 (x_R rfl) ?_
  refine e_iadd (pc := 1313) dL_law__1313 ?_
  rw [show x_add (i : Int) 1 = ((i + 1 : Nat) : Int) from x_ni (k := 1) (by omega)]
  refine e_sld (pc := 1314) dL_law__1314 (by omega) (by omega) ?_
  show Ev g _ _ _ _ _ _ 1315 [some (x_r 1), some (x_r (16 * 1 + 0)), some (x_r (16 * 32 + 0)), some (x_r (16 * 27 + 0)), some (x_i (i : Int)), none, none] [x_i (x_sc g (i + 1)), x_r (16 * 1 + 0)] (al, ro, fl (ml (x_ac M A) [1, 2, 3, 4, 5, 18, 19, 20, 21, 22, 23, 24, 25, 26, 27, 32] [X, T, N, Dr, Kp, Th, La, Lb, Lc, Fo, St, Ri, Br, Ro, Ot, S])) _ _ _ _
  refine e_aloadn (pc := 1315) (i := 3) dL_law__1315 rfl rfl ?_
  refine e_invSH (pc := 1316) (K1 := 1) (S1 := 6) (K := K) (S := S0) (dd2 := 7) (av := [x_r (16 * 1 + 0), x_i (x_sc g (i + 1)), x_r (16 * 27 + 0)]) (st := []) dL_law__1316 (xmH_lates 211 (x_inB (x_t5 (List.mem_of_getElem? (i := 200) rfl)) rfl)) rfl (f_calH (M := (x_ac M A)) (us2 := [3, 18, 19, 22, 27]) [2, 5, 6, 9, 14] hn rfl (And.intro rfl (And.intro rfl (And.intro rfl (And.intro rfl (And.intro rfl trivial))))) rfl rfl rfl (c_L_lates hst hs ho hX hE)) (by decide) (Nat.le_of_ble_eq_true rfl) (Or.inl rfl) ?_
  show Ev g _ _ _ _ _ _ 1319 [some (x_r 1), some (x_r (16 * 1 + 0)), some (x_r (16 * 32 + 0)), some (x_r (16 * 27 + 0)), some (x_i (i : Int)), none, none] [x_i (x_wc [0] t0)] (al, ro, fl (ml (x_ac M A) [1, 2, 3, 4, 5, 18, 19, 20, 21, 22, 23, 24, 25, 26, 27, 32] [X, T, N, Dr, Kp, Thx, Lax, Lb, Lc, Fox, St, Ri, Br, Ro, (x_out Ot t0), S])) _ _ _ _
  refine e_istore (pc := 1319) (i := 5) dL_law__1319 (by decide) rfl ?_
  show Ev g _ _ _ _ _ _ 1321 [some (x_r 1), some (x_r (16 * 1 + 0)), some (x_r (16 * 32 + 0)), some (x_r (16 * 27 + 0)), some (x_i (i : Int)), some (x_i (x_wc [0] t0)), none] [] (al, ro, fl (ml (x_ac M A) [1, 2, 3, 4, 5, 18, 19, 20, 21, 22, 23, 24, 25, 26, 27, 32] [X, T, N, Dr, Kp, Thx, Lax, Lb, Lc, Fox, St, Ri, Br, Ro, (x_out Ot t0), S])) _ _ _ _
  refine e_aloadn (pc := 1321) (i := 2) dL_law__1321 rfl rfl ?_
  refine e_aloadn (pc := 1322) (i := 0) dL_law__1322 rfl rfl ?_
  refine e_iload (pc := 1323) dL_law__1323 rfl ?_
  refine e_iconst (pc := 1325) dL_law__1325 (x_R rfl) ?_
  refine e_iadd (pc := 1326) dL_law__1326 ?_
  rw [show x_add (i : Int) 1 = ((i + 1 : Nat) : Int) from x_ni (k := 1) (by omega)]
  refine e_sld (pc := 1327) dL_law__1327 (by omega) (by omega) ?_
  show Ev g _ _ _ _ _ _ 1328 [some (x_r 1), some (x_r (16 * 1 + 0)), some (x_r (16 * 32 + 0)), some (x_r (16 * 27 + 0)), some (x_i (i : Int)), some (x_i (x_wc [0] t0)), none] [x_i (x_sc g (i + 1)), x_r (16 * 32 + 0)] (al, ro, fl (ml (x_ac M A) [1, 2, 3, 4, 5, 18, 19, 20, 21, 22, 23, 24, 25, 26, 27, 32] [X, T, N, Dr, Kp, Thx, Lax, Lb, Lc, Fox, St, Ri, Br, Ro, (x_out Ot t0), S])) _ _ _ _
  refine e_wide (K0 := 0 + K) (S0 := 0 + S0) (by omega) (by omega) ?_
  refine e_invV (pc := 1328) (K1 := 0) (S1 := 0) (K := K) (S := S0) (dd2 := 47) (av := [x_i (x_sc g (i + 1))]) (st := []) (id := 16 * 32 + 0) dL_law__1328 xmL_213 rfl (Or.inl ⟨10, 27, TX12, (sa_32_0 hs), rfl, by decide⟩) (f_cal (M := (x_ac M A)) (us2 := [32]) [15] hn rfl (And.intro rfl trivial) rfl rfl rfl (c_X12_lates hst hs hS)) (by decide) (Nat.le_of_ble_eq_true rfl) (Or.inl rfl) ?_
  show Ev g _ _ _ _ _ _ 1331 [some (x_r 1), some (x_r (16 * 1 + 0)), some (x_r (16 * 32 + 0)), some (x_r (16 * 27 + 0)), some (x_i (i : Int)), some (x_i (x_wc [0] t0)), none] [x_i b] (al, ro, fl (ml (x_ac M A) [1, 2, 3, 4, 5, 18, 19, 20, 21, 22, 23, 24, 25, 26, 27, 32] [X, T, N, Dr, Kp, Thx, Lax, Lb, Lc, Fox, St, Ri, Br, Ro, (x_out Ot t0), Sy])) _ _ _ _
  refine e_istore (pc := 1331) (i := 6) dL_law__1331 (by decide) rfl ?_
  show Ev g _ _ _ _ _ _ 1333 [some (x_r 1), some (x_r (16 * 1 + 0)), some (x_r (16 * 32 + 0)), some (x_r (16 * 27 + 0)), some (x_i (i : Int)), some (x_i (x_wc [0] t0)), some (x_i b)] [] (al, ro, fl (ml (x_ac M A) [1, 2, 3, 4, 5, 18, 19, 20, 21, 22, 23, 24, 25, 26, 27, 32] [X, T, N, Dr, Kp, Thx, Lax, Lb, Lc, Fox, St, Ri, Br, Ro, (x_out Ot t0), Sy])) _ _ _ _
  refine e_aloadn (pc := 1333) (i := 2) dL_law__1333 rfl rfl ?_
  refine e_wide (K0 := 0 + K) (S0 := 0 + S0) (by omega) (by omega) ?_
  refine e_invV (pc := 1334) (K1 := 0) (S1 := 0) (K := K) (S := S0) (dd2 := 0) (av := []) (st := []) (id := 16 * 32 + 0) dL_law__1334 xmL_156 rfl (Or.inl ⟨10, 27, TX12, (sa_32_0 hs), rfl, by decide⟩) (f_cal (M := (x_ac M A)) (us2 := [32]) [15] hn rfl (And.intro rfl trivial) rfl rfl rfl (c_X12_thrown hst hs (show G12_thrown Sy = some (Sy 0 0) from rfl))) (by decide) (Nat.le_of_ble_eq_true rfl) (Or.inl rfl) ?_
  show Ev g _ _ _ _ _ _ 1337 [some (x_r 1), some (x_r (16 * 1 + 0)), some (x_r (16 * 32 + 0)), some (x_r (16 * 27 + 0)), some (x_i (i : Int)), some (x_i (x_wc [0] t0)), some (x_i b)] [x_i (Sy 0 0)] (al, ro, fl (ml (x_ac M A) [1, 2, 3, 4, 5, 18, 19, 20, 21, 22, 23, 24, 25, 26, 27, 32] [X, T, N, Dr, Kp, Thx, Lax, Lb, Lc, Fox, St, Ri, Br, Ro, (x_out Ot t0), Sy])) _ _ _ _
  have hk : Sy 0 0 = x_wc [0] t0 := x_ag_k hA
  refine e_iload (pc := 1337) dL_law__1337 rfl ?_
  refine e_icmp_eq (pc := 1339) (tgt := 1344) dL_law__1339 (by decide) (fun _ => ?_) (fun q => absurd hk q)
  refine e_iload (pc := 1344) dL_law__1344 rfl ?_
  cases t0 with
  | inr E =>
    refine e_if_ne (pc := 1346) (tgt := 1361) dL_law__1346 (by decide) (fun _ => ?_) (fun q => absurd q (x_wc_r [0] E))
    refine e_goto (pc := 1361) (tgt := 3041) dL_law__1361 (by decide) ?_
    refine e_drop (i := 5) ?_
    refine e_drop (i := 6) ?_
    exact kk
  | inl v =>
    refine e_if_ne (pc := 1346) (tgt := 1361) dL_law__1346 (by decide) (fun q => absurd rfl q) (fun _ => ?_)
    refine e_aloadn (pc := 1349) (i := 3) dL_law__1349 rfl rfl ?_
    refine e_iconst (pc := 1350) dL_law__1350 (x_R rfl) ?_
    refine f_lald (pc := 1351) (k := 14) (u := 27) (q := 0) (len := 1) dL_law__1351 ho (by decide) hn rfl rfl (by decide) ?_
    refine e_iload (pc := 1352) dL_law__1352 rfl ?_
    refine e_i2l (pc := 1354) dL_law__1354 ?_
    refine e_lcmp (pc := 1355) dL_law__1355 ?_
    refine e_if_eq (pc := 1356) (tgt := 1361) dL_law__1356 (by decide) (fun _ => ?_) (fun q => absurd (x_lc (show v = b from hA.2.symm)) q)
    refine e_goto (pc := 1361) (tgt := 3041) dL_law__1361 (by decide) ?_
    refine e_drop (i := 5) ?_
    refine e_drop (i := 6) ?_
    exact kk
set_option maxRecDepth 100000 in
set_option maxHeartbeats 4000000 in
theorem k20 {g : xG} {al : List (Nat × Nat × Nat)} {ro : Nat → Nat → Option Nat} (hst : g.1.stackTraces = false) (hs : SH al ro) (ho : (16 * 27 + 0, 21, 1) ∈ al) {M : Nat → xU} {h' : xH} {i K S0 : Nat} (hi : i + 6 ≤ x_L g) (hL : x_L g < 2147483648) {X T N Dr Kp Th La Lb Lc Fo St Ri Br Ro Ot S : xU} {A : xA} {a : Int} {Thx : xU} {Lax : xU} {Fox : xU} {b : Int} {Sy : xU} (hX : G11_tardy N Th La Fo = some (a, Thx, Lax, Fox)) (hS : G12_tardy S = some (b, Sy)) (hA : a = b)
    (kk : Ev g yL_law_ cL_law_ 7 (some .boolean) [] 60 3041 [some (x_r 1), some (x_r (16 * 1 + 0)), some (x_r (16 * 32 + 0)), some (x_r (16 * 27 + 0)), some (x_i (i : Int)), none, none] [] (al, ro, fl (ml (x_ac M A) [1, 2, 3, 4, 5, 18, 19, 20, 21, 22, 23, 24, 25, 26, 27, 32] [X, T, N, Dr, Kp, Thx, Lax, Lb, Lc, Fox, St, Ri, Br, Ro, Ot, Sy])) K S0 (.inl (some (x_i 1))) h') : Ev g yL_law_ cL_law_ 7 (some .boolean) [] 60 1364 [some (x_r 1), some (x_r (16 * 1 + 0)), some (x_r (16 * 32 + 0)), some (x_r (16 * 27 + 0)), some (x_i (i : Int)), none, none] [] (al, ro, fl (ml (x_ac M A) [1, 2, 3, 4, 5, 18, 19, 20, 21, 22, 23, 24, 25, 26, 27, 32] [X, T, N, Dr, Kp, Th, La, Lb, Lc, Fo, St, Ri, Br, Ro, Ot, S])) K S0 (.inl (some (x_i 1))) h' := by
  have hn : ([1, 2, 3, 4, 5, 18, 19, 20, 21, 22, 23, 24, 25, 26, 27, 32] : List Nat).Nodup := by decide
  refine e_aloadn (pc := 1364) (i := 1) dL_law__1364 rfl rfl ?_
  refine e_wide (K0 := 0 + K) (S0 := 0 + S0) (by omega) (by omega) ?_
  refine e_invV (pc := 1365) (K1 := 0) (S1 := 0) (K := K) (S := S0) (dd2 := 6) (av := []) (st := []) (id := 16 * 1 + 0) dL_law__1365 xmL_214 rfl (Or.inl ⟨9, 17, TX11, (sa_1_0 hs), rfl, by decide⟩) (f_cal (M := (x_ac M A)) (us2 := [3, 18, 19, 22]) [2, 5, 6, 9] hn rfl (And.intro rfl (And.intro rfl (And.intro rfl (And.intro rfl trivial)))) rfl rfl rfl (c_X11_tardy hst hs hX)) (by decide) (Nat.le_of_ble_eq_true rfl) (Or.inl rfl) ?_
  show Ev g _ _ _ _ _ _ 1368 [some (x_r 1), some (x_r (16 * 1 + 0)), some (x_r (16 * 32 + 0)), some (x_r (16 * 27 + 0)), some (x_i (i : Int)), none, none] [x_i a] (al, ro, fl (ml (x_ac M A) [1, 2, 3, 4, 5, 18, 19, 20, 21, 22, 23, 24, 25, 26, 27, 32] [X, T, N, Dr, Kp, Thx, Lax, Lb, Lc, Fox, St, Ri, Br, Ro, Ot, S])) _ _ _ _
  refine e_aloadn (pc := 1368) (i := 2) dL_law__1368 rfl rfl ?_
  refine e_wide (K0 := 0 + K) (S0 := 0 + S0) (by omega) (by omega) ?_
  refine e_invV (pc := 1369) (K1 := 0) (S1 := 0) (K := K) (S := S0) (dd2 := 47) (av := []) (st := [x_i a]) (id := 16 * 32 + 0) dL_law__1369 xmL_217 rfl (Or.inl ⟨10, 27, TX12, (sa_32_0 hs), rfl, by decide⟩) (f_cal (M := (x_ac M A)) (us2 := [32]) [15] hn rfl (And.intro rfl trivial) rfl rfl rfl (c_X12_tardy hst hs hS)) (by decide) (Nat.le_of_ble_eq_true rfl) (Or.inl rfl) ?_
  show Ev g _ _ _ _ _ _ 1372 [some (x_r 1), some (x_r (16 * 1 + 0)), some (x_r (16 * 32 + 0)), some (x_r (16 * 27 + 0)), some (x_i (i : Int)), none, none] [x_i b, x_i a] (al, ro, fl (ml (x_ac M A) [1, 2, 3, 4, 5, 18, 19, 20, 21, 22, 23, 24, 25, 26, 27, 32] [X, T, N, Dr, Kp, Thx, Lax, Lb, Lc, Fox, St, Ri, Br, Ro, Ot, Sy])) _ _ _ _
  refine e_icmp_eq (pc := 1372) (tgt := 3041) dL_law__1372 (by decide) (fun _ => ?_) (fun q => absurd hA q)
  exact kk
set_option maxRecDepth 100000 in
set_option maxHeartbeats 4000000 in
theorem k21 {g : xG} {al : List (Nat × Nat × Nat)} {ro : Nat → Nat → Option Nat} (hst : g.1.stackTraces = false) (hs : SH al ro) (ho : (16 * 27 + 0, 21, 1) ∈ al) {M : Nat → xU} {h' : xH} {i K S0 : Nat} (hi : i + 6 ≤ x_L g) (hL : x_L g < 2147483648) {X T N Dr Kp Th La Lb Lc Fo St Ri Br Ro Ot S : xU} {A : xA} {a : Int} {Thx : xU} {Lax : xU} {Fox : xU} {b : Int} {Sy : xU} (hX : G11_ring N Th La Fo = some (a, Thx, Lax, Fox)) (hS : G12_ring S = some (b, Sy)) (hA : a = b)
    (kk : Ev g yL_law_ cL_law_ 7 (some .boolean) [] 60 3041 [some (x_r 1), some (x_r (16 * 1 + 0)), some (x_r (16 * 32 + 0)), some (x_r (16 * 27 + 0)), some (x_i (i : Int)), none, none] [] (al, ro, fl (ml (x_ac M A) [1, 2, 3, 4, 5, 18, 19, 20, 21, 22, 23, 24, 25, 26, 27, 32] [X, T, N, Dr, Kp, Thx, Lax, Lb, Lc, Fox, St, Ri, Br, Ro, Ot, Sy])) K S0 (.inl (some (x_i 1))) h') : Ev g yL_law_ cL_law_ 7 (some .boolean) [] 60 1377 [some (x_r 1), some (x_r (16 * 1 + 0)), some (x_r (16 * 32 + 0)), some (x_r (16 * 27 + 0)), some (x_i (i : Int)), none, none] [] (al, ro, fl (ml (x_ac M A) [1, 2, 3, 4, 5, 18, 19, 20, 21, 22, 23, 24, 25, 26, 27, 32] [X, T, N, Dr, Kp, Th, La, Lb, Lc, Fo, St, Ri, Br, Ro, Ot, S])) K S0 (.inl (some (x_i 1))) h' := by
  have hn : ([1, 2, 3, 4, 5, 18, 19, 20, 21, 22, 23, 24, 25, 26, 27, 32] : List Nat).Nodup := by decide
  refine e_aloadn (pc := 1377) (i := 1) dL_law__1377 rfl rfl ?_
  refine e_wide (K0 := 0 + K) (S0 := 0 + S0) (by omega) (by omega) ?_
  refine e_invV (pc := 1378) (K1 := 0) (S1 := 0) (K := K) (S := S0) (dd2 := 7) (av := []) (st := []) (id := 16 * 1 + 0) dL_law__1378 xmL_218 rfl (Or.inl ⟨9, 17, TX11, (sa_1_0 hs), rfl, by decide⟩) (f_cal (M := (x_ac M A)) (us2 := [3, 18, 19, 22]) [2, 5, 6, 9] hn rfl (And.intro rfl (And.intro rfl (And.intro rfl (And.intro rfl trivial)))) rfl rfl rfl (c_X11_ring hst hs hX)) (by decide) (Nat.le_of_ble_eq_true rfl) (Or.inl rfl) ?_
  show Ev g _ _ _ _ _ _ 1381 [some (x_r 1), some (x_r (16 * 1 + 0)), some (x_r (16 * 32 + 0)), some (x_r (16 * 27 + 0)), some (x_i (i : Int)), none, none] [x_i a] (al, ro, fl (ml (x_ac M A) [1, 2, 3, 4, 5, 18, 19, 20, 21, 22, 23, 24, 25, 26, 27, 32] [X, T, N, Dr, Kp, Thx, Lax, Lb, Lc, Fox, St, Ri, Br, Ro, Ot, S])) _ _ _ _
  refine e_aloadn (pc := 1381) (i := 2) dL_law__1381 rfl rfl ?_
  refine e_wide (K0 := 0 + K) (S0 := 0 + S0) (by omega) (by omega) ?_
  refine e_invV (pc := 1382) (K1 := 0) (S1 := 0) (K := K) (S := S0) (dd2 := 48) (av := []) (st := [x_i a]) (id := 16 * 32 + 0) dL_law__1382 xmL_221 rfl (Or.inl ⟨10, 27, TX12, (sa_32_0 hs), rfl, by decide⟩) (f_cal (M := (x_ac M A)) (us2 := [32]) [15] hn rfl (And.intro rfl trivial) rfl rfl rfl (c_X12_ring hst hs hS)) (by decide) (Nat.le_of_ble_eq_true rfl) (Or.inl rfl) ?_
  show Ev g _ _ _ _ _ _ 1385 [some (x_r 1), some (x_r (16 * 1 + 0)), some (x_r (16 * 32 + 0)), some (x_r (16 * 27 + 0)), some (x_i (i : Int)), none, none] [x_i b, x_i a] (al, ro, fl (ml (x_ac M A) [1, 2, 3, 4, 5, 18, 19, 20, 21, 22, 23, 24, 25, 26, 27, 32] [X, T, N, Dr, Kp, Thx, Lax, Lb, Lc, Fox, St, Ri, Br, Ro, Ot, Sy])) _ _ _ _
  refine e_icmp_eq (pc := 1385) (tgt := 3041) dL_law__1385 (by decide) (fun _ => ?_) (fun q => absurd hA q)
  exact kk
set_option maxRecDepth 100000 in
set_option maxHeartbeats 4000000 in
theorem k22 {g : xG} {al : List (Nat × Nat × Nat)} {ro : Nat → Nat → Option Nat} (hst : g.1.stackTraces = false) (hs : SH al ro) (ho : (16 * 27 + 0, 21, 1) ∈ al) {M : Nat → xU} {h' : xH} {i K S0 : Nat} (hi : i + 6 ≤ x_L g) (hL : x_L g < 2147483648) {X T N Dr Kp Th La Lb Lc Fo St Ri Br Ro Ot S : xU} {A : xA} {a : Int} {Thx : xU} {Lax : xU} {Fox : xU} {b : Int} {Sy : xU} (hX : G11_humour N Th La Fo = some (a, Thx, Lax, Fox)) (hS : G12_humour S = some (b, Sy)) (hA : a = b)
    (kk : Ev g yL_law_ cL_law_ 7 (some .boolean) [] 60 3041 [some (x_r 1), some (x_r (16 * 1 + 0)), some (x_r (16 * 32 + 0)), some (x_r (16 * 27 + 0)), some (x_i (i : Int)), none, none] [] (al, ro, fl (ml (x_ac M A) [1, 2, 3, 4, 5, 18, 19, 20, 21, 22, 23, 24, 25, 26, 27, 32] [X, T, N, Dr, Kp, Thx, Lax, Lb, Lc, Fox, St, Ri, Br, Ro, Ot, Sy])) K S0 (.inl (some (x_i 1))) h') : Ev g yL_law_ cL_law_ 7 (some .boolean) [] 60 1390 [some (x_r 1), some (x_r (16 * 1 + 0)), some (x_r (16 * 32 + 0)), some (x_r (16 * 27 + 0)), some (x_i (i : Int)), none, none] [] (al, ro, fl (ml (x_ac M A) [1, 2, 3, 4, 5, 18, 19, 20, 21, 22, 23, 24, 25, 26, 27, 32] [X, T, N, Dr, Kp, Th, La, Lb, Lc, Fo, St, Ri, Br, Ro, Ot, S])) K S0 (.inl (some (x_i 1))) h' := by
  have hn : ([1, 2, 3, 4, 5, 18, 19, 20, 21, 22, 23, 24, 25, 26, 27, 32] : List Nat).Nodup := by decide
  refine e_aloadn (pc := 1390) (i := 1) dL_law__1390 rfl rfl ?_
  refine e_wide (K0 := 0 + K) (S0 := 0 + S0) (by omega) (by omega) ?_
  refine e_invV (pc := 1391) (K1 := 0) (S1 := 0) (K := K) (S := S0) (dd2 := 7) (av := []) (st := []) (id := 16 * 1 + 0) dL_law__1391 xmL_222 rfl (Or.inl ⟨9, 17, TX11, (sa_1_0 hs), rfl, by decide⟩) (f_cal (M := (x_ac M A)) (us2 := [3, 18, 19, 22]) [2, 5, 6, 9] hn rfl (And.intro rfl (And.intro rfl (And.intro rfl (And.intro rfl trivial)))) rfl rfl rfl (c_X11_humour hst hs hX)) (by decide) (Nat.le_of_ble_eq_true rfl) (Or.inl rfl) ?_
  show Ev g _ _ _ _ _ _ 1394 [some (x_r 1), some (x_r (16 * 1 + 0)), some (x_r (16 * 32 + 0)), some (x_r (16 * 27 + 0)), some (x_i (i : Int)), none, none] [x_i a] (al, ro, fl (ml (x_ac M A) [1, 2, 3, 4, 5, 18, 19, 20, 21, 22, 23, 24, 25, 26, 27, 32] [X, T, N, Dr, Kp, Thx, Lax, Lb, Lc, Fox, St, Ri, Br, Ro, Ot, S])) _ _ _ _
  refine e_aloadn (pc := 1394) (i := 2) dL_law__1394 rfl rfl ?_
  refine e_wide (K0 := 0 + K) (S0 := 0 + S0) (by omega) (by omega) ?_
  refine e_invV (pc := 1395) (K1 := 0) (S1 := 0) (K := K) (S := S0) (dd2 := 48) (av := []) (st := [x_i a]) (id := 16 * 32 + 0) dL_law__1395 xmL_225 rfl (Or.inl ⟨10, 27, TX12, (sa_32_0 hs), rfl, by decide⟩) (f_cal (M := (x_ac M A)) (us2 := [32]) [15] hn rfl (And.intro rfl trivial) rfl rfl rfl (c_X12_humour hst hs hS)) (by decide) (Nat.le_of_ble_eq_true rfl) (Or.inl rfl) ?_
  show Ev g _ _ _ _ _ _ 1398 [some (x_r 1), some (x_r (16 * 1 + 0)), some (x_r (16 * 32 + 0)), some (x_r (16 * 27 + 0)), some (x_i (i : Int)), none, none] [x_i b, x_i a] (al, ro, fl (ml (x_ac M A) [1, 2, 3, 4, 5, 18, 19, 20, 21, 22, 23, 24, 25, 26, 27, 32] [X, T, N, Dr, Kp, Thx, Lax, Lb, Lc, Fox, St, Ri, Br, Ro, Ot, Sy])) _ _ _ _
  refine e_icmp_eq (pc := 1398) (tgt := 3041) dL_law__1398 (by decide) (fun _ => ?_) (fun q => absurd hA q)
  exact kk
set_option maxRecDepth 100000 in
set_option maxHeartbeats 4000000 in
theorem k23 {g : xG} {al : List (Nat × Nat × Nat)} {ro : Nat → Nat → Option Nat} (hst : g.1.stackTraces = false) (hs : SH al ro) (ho : (16 * 27 + 0, 21, 1) ∈ al) {M : Nat → xU} {h' : xH} {i K S0 : Nat} (hi : i + 6 ≤ x_L g) (hL : x_L g < 2147483648) {X T N Dr Kp Th La Lb Lc Fo St Ri Br Ro Ot S : xU} {A : xA} {a : Int} {Thx : xU} {Lax : xU} {b : Int} {Sy : xU} (hX : G11_starves N Th La = some (a, Thx, Lax)) (hS : G12_starves S = some (b, Sy)) (hA : a = b)
    (kk : Ev g yL_law_ cL_law_ 7 (some .boolean) [] 60 3041 [some (x_r 1), some (x_r (16 * 1 + 0)), some (x_r (16 * 32 + 0)), some (x_r (16 * 27 + 0)), some (x_i (i : Int)), none, none] [] (al, ro, fl (ml (x_ac M A) [1, 2, 3, 4, 5, 18, 19, 20, 21, 22, 23, 24, 25, 26, 27, 32] [X, T, N, Dr, Kp, Thx, Lax, Lb, Lc, Fo, St, Ri, Br, Ro, Ot, Sy])) K S0 (.inl (some (x_i 1))) h') : Ev g yL_law_ cL_law_ 7 (some .boolean) [] 60 1403 [some (x_r 1), some (x_r (16 * 1 + 0)), some (x_r (16 * 32 + 0)), some (x_r (16 * 27 + 0)), some (x_i (i : Int)), none, none] [] (al, ro, fl (ml (x_ac M A) [1, 2, 3, 4, 5, 18, 19, 20, 21, 22, 23, 24, 25, 26, 27, 32] [X, T, N, Dr, Kp, Th, La, Lb, Lc, Fo, St, Ri, Br, Ro, Ot, S])) K S0 (.inl (some (x_i 1))) h' := by
  have hn : ([1, 2, 3, 4, 5, 18, 19, 20, 21, 22, 23, 24, 25, 26, 27, 32] : List Nat).Nodup := by decide
  refine e_aloadn (pc := 1403) (i := 1) dL_law__1403 rfl rfl ?_
  refine e_wide (K0 := 0 + K) (S0 := 0 + S0) (by omega) (by omega) ?_
  refine e_invV (pc := 1404) (K1 := 0) (S1 := 0) (K := K) (S := S0) (dd2 := 6) (av := []) (st := []) (id := 16 * 1 + 0) dL_law__1404 xmL_226 rfl (Or.inl ⟨9, 17, TX11, (sa_1_0 hs), rfl, by decide⟩) (f_cal (M := (x_ac M A)) (us2 := [3, 18, 19]) [2, 5, 6] hn rfl (And.intro rfl (And.intro rfl (And.intro rfl trivial))) rfl rfl rfl (c_X11_starves hst hs hX)) (by decide) (Nat.le_of_ble_eq_true rfl) (Or.inl rfl) ?_
  show Ev g _ _ _ _ _ _ 1407 [some (x_r 1), some (x_r (16 * 1 + 0)), some (x_r (16 * 32 + 0)), some (x_r (16 * 27 + 0)), some (x_i (i : Int)), none, none] [x_i a] (al, ro, fl (ml (x_ac M A) [1, 2, 3, 4, 5, 18, 19, 20, 21, 22, 23, 24, 25, 26, 27, 32] [X, T, N, Dr, Kp, Thx, Lax, Lb, Lc, Fo, St, Ri, Br, Ro, Ot, S])) _ _ _ _
  refine e_aloadn (pc := 1407) (i := 2) dL_law__1407 rfl rfl ?_
  refine e_wide (K0 := 0 + K) (S0 := 0 + S0) (by omega) (by omega) ?_
  refine e_invV (pc := 1408) (K1 := 0) (S1 := 0) (K := K) (S := S0) (dd2 := 46) (av := []) (st := [x_i a]) (id := 16 * 32 + 0) dL_law__1408 xmL_229 rfl (Or.inl ⟨10, 27, TX12, (sa_32_0 hs), rfl, by decide⟩) (f_cal (M := (x_ac M A)) (us2 := [32]) [15] hn rfl (And.intro rfl trivial) rfl rfl rfl (c_X12_starves hst hs hS)) (by decide) (Nat.le_of_ble_eq_true rfl) (Or.inl rfl) ?_
  show Ev g _ _ _ _ _ _ 1411 [some (x_r 1), some (x_r (16 * 1 + 0)), some (x_r (16 * 32 + 0)), some (x_r (16 * 27 + 0)), some (x_i (i : Int)), none, none] [x_i b, x_i a] (al, ro, fl (ml (x_ac M A) [1, 2, 3, 4, 5, 18, 19, 20, 21, 22, 23, 24, 25, 26, 27, 32] [X, T, N, Dr, Kp, Thx, Lax, Lb, Lc, Fo, St, Ri, Br, Ro, Ot, Sy])) _ _ _ _
  refine e_icmp_eq (pc := 1411) (tgt := 3041) dL_law__1411 (by decide) (fun _ => ?_) (fun q => absurd hA q)
  exact kk
set_option maxRecDepth 100000 in
set_option maxHeartbeats 4000000 in
theorem k24 {g : xG} {al : List (Nat × Nat × Nat)} {ro : Nat → Nat → Option Nat} (hst : g.1.stackTraces = false) (hs : SH al ro) (ho : (16 * 27 + 0, 21, 1) ∈ al) {M : Nat → xU} {h' : xH} {i K S0 : Nat} (hi : i + 6 ≤ x_L g) (hL : x_L g < 2147483648) {X T N Dr Kp Th La Lb Lc Fo St Ri Br Ro Ot S : xU} {A : xA} {t0 : (Int ⊕ Nat)} {b : Int} {Sy : xU} (hX : G11_far (x_sc g (i + 1)) (x_sc g (i + 2)) N = some t0) (hE : ∀ E, t0 = .inr E → E ∈ ([1] : List Nat)) (hS : G12_far (x_sc g (i + 1)) (x_sc g (i + 2)) S = some (b, Sy)) (hA : Ag (x_cd [1]) t0 b Sy)
    (kk : Ev g yL_law_ cL_law_ 7 (some .boolean) [] 60 3041 [some (x_r 1), some (x_r (16 * 1 + 0)), some (x_r (16 * 32 + 0)), some (x_r (16 * 27 + 0)), some (x_i (i : Int)), none, none] [] (al, ro, fl (ml (x_ac M A) [1, 2, 3, 4, 5, 18, 19, 20, 21, 22, 23, 24, 25, 26, 27, 32] [X, T, N, Dr, Kp, Th, La, Lb, Lc, Fo, St, Ri, Br, Ro, (x_out Ot t0), Sy])) K S0 (.inl (some (x_i 1))) h') : Ev g yL_law_ cL_law_ 7 (some .boolean) [] 60 1416 [some (x_r 1), some (x_r (16 * 1 + 0)), some (x_r (16 * 32 + 0)), some (x_r (16 * 27 + 0)), some (x_i (i : Int)), none, none] [] (al, ro, fl (ml (x_ac M A) [1, 2, 3, 4, 5, 18, 19, 20, 21, 22, 23, 24, 25, 26, 27, 32] [X, T, N, Dr, Kp, Th, La, Lb, Lc, Fo, St, Ri, Br, Ro, Ot, S])) (2 + K) (12 + S0) (.inl (some (x_i 1))) h' := by
  have hn : ([1, 2, 3, 4, 5, 18, 19, 20, 21, 22, 23, 24, 25, 26, 27, 32] : List Nat).Nodup := by decide
  refine e_aloadn (pc := 1416) (i := 1) dL_law__1416 rfl rfl ?_
  refine e_aloadn (pc := 1417) (i := 0) dL_law__1417 rfl rfl ?_
  refine e_iload (pc := 1418) dL_law__1418 rfl ?_
  refine e_iconst (pc := 1420) dL_law__1420 (x_R rfl) ?_
  refine e_iadd (pc := 1421) dL_law__1421 ?_
  rw [show x_add (i : Int) 1 = ((i + 1 : Nat) : Int) from x_ni (k := 1) (by omega)]
  refine e_sld (pc := 1422) dL_law__1422 (by omega) (by omega) ?_
  show Ev g _ _ _ _ _ _ 1423 [some (x_r 1), some (x_r (16 * 1 + 0)), some (x_r (16 * 32 + 0)), some (x_r (16 * 27 + 0)), some (x_i (i : Int)), none, none] [x_i (x_sc g (i + 1)), x_r (16 * 1 + 0)] (al, ro, fl (ml (x_ac M A) [1, 2, 3, 4, 5, 18, 19, 20, 21, 22, 23, 24, 25, 26, 27, 32] [X, T, N, Dr, Kp, Th, La, Lb, Lc, Fo, St, Ri, Br, Ro, Ot, S])) _ _ _ _
  refine e_aloadn (pc := 1423) (i := 0) dL_law__1423 rfl rfl ?_
  refine e_iload (pc := 1424) dL_law__1424 rfl ?_
  refine e_iconst (pc := 1426) dL_law__1426 (x_R rfl) ?_
  refine e_iadd (pc := 1427) dL_law__1427 ?_
  rw [show x_add (i : Int) 2 = ((i + 2 : Nat) : Int) from x_ni (k := 2) (by omega)]
  refine e_sld (pc := 1428) dL_law__1428 (by omega) (by omega) ?_
  show Ev g _ _ _ _ _ _ 1429 [some (x_r 1), some (x_r (16 * 1 + 0)), some (x_r (16 * 32 + 0)), some (x_r (16 * 27 + 0)), some (x_i (i : Int)), none, none] [x_i (x_sc g (i + 2)), x_i (x_sc g (i + 1)), x_r (16 * 1 + 0)] (al, ro, fl (ml (x_ac M A) [1, 2, 3, 4, 5, 18, 19, 20, 21, 22, 23, 24, 25, 26, 27, 32] [X, T, N, Dr, Kp, Th, La, Lb, Lc, Fo, St, Ri, Br, Ro, Ot, S])) _ _ _ _
  refine e_aloadn (pc := 1429) (i := 3) dL_law__1429 rfl rfl ?_
  refine e_invSH (pc := 1430) (K1 := 2) (S1 := 12) (K := K) (S := S0) (dd2 := 4) (av := [x_r (16 * 1 + 0), x_i (x_sc g (i + 1)), x_i (x_sc g (i + 2)), x_r (16 * 27 + 0)]) (st := []) dL_law__1430 (xmH_far 230 (x_inB (x_t5 (List.mem_of_getElem? (i := 207) rfl)) rfl)) rfl (f_calH (M := (x_ac M A)) (us2 := [3, 27]) [2, 14] hn rfl (And.intro rfl (And.intro rfl trivial)) rfl rfl rfl (c_L_far hst hs ho hX hE)) (by decide) (Nat.le_of_ble_eq_true rfl) (Or.inl rfl) ?_
  show Ev g _ _ _ _ _ _ 1433 [some (x_r 1), some (x_r (16 * 1 + 0)), some (x_r (16 * 32 + 0)), some (x_r (16 * 27 + 0)), some (x_i (i : Int)), none, none] [x_i (x_wc [1] t0)] (al, ro, fl (ml (x_ac M A) [1, 2, 3, 4, 5, 18, 19, 20, 21, 22, 23, 24, 25, 26, 27, 32] [X, T, N, Dr, Kp, Th, La, Lb, Lc, Fo, St, Ri, Br, Ro, (x_out Ot t0), S])) _ _ _ _
  refine e_istore (pc := 1433) (i := 5) dL_law__1433 (by decide) rfl ?_
  show Ev g _ _ _ _ _ _ 1435 [some (x_r 1), some (x_r (16 * 1 + 0)), some (x_r (16 * 32 + 0)), some (x_r (16 * 27 + 0)), some (x_i (i : Int)), some (x_i (x_wc [1] t0)), none] [] (al, ro, fl (ml (x_ac M A) [1, 2, 3, 4, 5, 18, 19, 20, 21, 22, 23, 24, 25, 26, 27, 32] [X, T, N, Dr, Kp, Th, La, Lb, Lc, Fo, St, Ri, Br, Ro, (x_out Ot t0), S])) _ _ _ _
  refine e_aloadn (pc := 1435) (i := 2) dL_law__1435 rfl rfl ?_
  refine e_aloadn (pc := 1436) (i := 0) dL_law__1436 rfl rfl ?_
  refine e_iload (pc := 1437) dL_law__1437 rfl ?_
  refine e_iconst (pc := 1439) dL_law__1439 (x_R rfl) ?_
  refine e_iadd (pc := 1440) dL_law__1440 ?_
  rw [show x_add (i : Int) 1 = ((i + 1 : Nat) : Int) from x_ni (k := 1) (by omega)]
  refine e_sld (pc := 1441) dL_law__1441 (by omega) (by omega) ?_
  show Ev g _ _ _ _ _ _ 1442 [some (x_r 1), some (x_r (16 * 1 + 0)), some (x_r (16 * 32 + 0)), some (x_r (16 * 27 + 0)), some (x_i (i : Int)), some (x_i (x_wc [1] t0)), none] [x_i (x_sc g (i + 1)), x_r (16 * 32 + 0)] (al, ro, fl (ml (x_ac M A) [1, 2, 3, 4, 5, 18, 19, 20, 21, 22, 23, 24, 25, 26, 27, 32] [X, T, N, Dr, Kp, Th, La, Lb, Lc, Fo, St, Ri, Br, Ro, (x_out Ot t0), S])) _ _ _ _
  refine e_aloadn (pc := 1442) (i := 0) dL_law__1442 rfl rfl ?_
  refine e_iload (pc := 1443) dL_law__1443 rfl ?_
  refine e_iconst (pc := 1445) dL_law__1445 (x_R rfl) ?_
  refine e_iadd (pc := 1446) dL_law__1446 ?_
  rw [show x_add (i : Int) 2 = ((i + 2 : Nat) : Int) from x_ni (k := 2) (by omega)]
  refine e_sld (pc := 1447) dL_law__1447 (by omega) (by omega) ?_
  show Ev g _ _ _ _ _ _ 1448 [some (x_r 1), some (x_r (16 * 1 + 0)), some (x_r (16 * 32 + 0)), some (x_r (16 * 27 + 0)), some (x_i (i : Int)), some (x_i (x_wc [1] t0)), none] [x_i (x_sc g (i + 2)), x_i (x_sc g (i + 1)), x_r (16 * 32 + 0)] (al, ro, fl (ml (x_ac M A) [1, 2, 3, 4, 5, 18, 19, 20, 21, 22, 23, 24, 25, 26, 27, 32] [X, T, N, Dr, Kp, Th, La, Lb, Lc, Fo, St, Ri, Br, Ro, (x_out Ot t0), S])) _ _ _ _
  refine e_wide (K0 := 0 + K) (S0 := 0 + S0) (by omega) (by omega) ?_
  refine e_invV (pc := 1448) (K1 := 0) (S1 := 0) (K := K) (S := S0) (dd2 := 3) (av := [x_i (x_sc g (i + 1)), x_i (x_sc g (i + 2))]) (st := []) (id := 16 * 32 + 0) dL_law__1448 xmL_232 rfl (Or.inl ⟨10, 27, TX12, (sa_32_0 hs), rfl, by decide⟩) (f_cal (M := (x_ac M A)) (us2 := [32]) [15] hn rfl (And.intro rfl trivial) rfl rfl rfl (c_X12_far hst hs hS)) (by decide) (Nat.le_of_ble_eq_true rfl) (Or.inl rfl) ?_
  show Ev g _ _ _ _ _ _ 1451 [some (x_r 1), some (x_r (16 * 1 + 0)), some (x_r (16 * 32 + 0)), some (x_r (16 * 27 + 0)), some (x_i (i : Int)), some (x_i (x_wc [1] t0)), none] [x_i b] (al, ro, fl (ml (x_ac M A) [1, 2, 3, 4, 5, 18, 19, 20, 21, 22, 23, 24, 25, 26, 27, 32] [X, T, N, Dr, Kp, Th, La, Lb, Lc, Fo, St, Ri, Br, Ro, (x_out Ot t0), Sy])) _ _ _ _
  refine e_istore (pc := 1451) (i := 6) dL_law__1451 (by decide) rfl ?_
  show Ev g _ _ _ _ _ _ 1453 [some (x_r 1), some (x_r (16 * 1 + 0)), some (x_r (16 * 32 + 0)), some (x_r (16 * 27 + 0)), some (x_i (i : Int)), some (x_i (x_wc [1] t0)), some (x_i b)] [] (al, ro, fl (ml (x_ac M A) [1, 2, 3, 4, 5, 18, 19, 20, 21, 22, 23, 24, 25, 26, 27, 32] [X, T, N, Dr, Kp, Th, La, Lb, Lc, Fo, St, Ri, Br, Ro, (x_out Ot t0), Sy])) _ _ _ _
  refine e_aloadn (pc := 1453) (i := 2) dL_law__1453 rfl rfl ?_
  refine e_wide (K0 := 0 + K) (S0 := 0 + S0) (by omega) (by omega) ?_
  refine e_invV (pc := 1454) (K1 := 0) (S1 := 0) (K := K) (S := S0) (dd2 := 0) (av := []) (st := []) (id := 16 * 32 + 0) dL_law__1454 xmL_156 rfl (Or.inl ⟨10, 27, TX12, (sa_32_0 hs), rfl, by decide⟩) (f_cal (M := (x_ac M A)) (us2 := [32]) [15] hn rfl (And.intro rfl trivial) rfl rfl rfl (c_X12_thrown hst hs (show G12_thrown Sy = some (Sy 0 0) from rfl))) (by decide) (Nat.le_of_ble_eq_true rfl) (Or.inl rfl) ?_
  show Ev g _ _ _ _ _ _ 1457 [some (x_r 1), some (x_r (16 * 1 + 0)), some (x_r (16 * 32 + 0)), some (x_r (16 * 27 + 0)), some (x_i (i : Int)), some (x_i (x_wc [1] t0)), some (x_i b)] [x_i (Sy 0 0)] (al, ro, fl (ml (x_ac M A) [1, 2, 3, 4, 5, 18, 19, 20, 21, 22, 23, 24, 25, 26, 27, 32] [X, T, N, Dr, Kp, Th, La, Lb, Lc, Fo, St, Ri, Br, Ro, (x_out Ot t0), Sy])) _ _ _ _
  have hk : Sy 0 0 = x_wc [1] t0 := x_ag_k hA
  refine e_iload (pc := 1457) dL_law__1457 rfl ?_
  refine e_icmp_eq (pc := 1459) (tgt := 1464) dL_law__1459 (by decide) (fun _ => ?_) (fun q => absurd hk q)
  refine e_iload (pc := 1464) dL_law__1464 rfl ?_
  cases t0 with
  | inr E =>
    refine e_if_ne (pc := 1466) (tgt := 1481) dL_law__1466 (by decide) (fun _ => ?_) (fun q => absurd q (x_wc_r [1] E))
    refine e_goto (pc := 1481) (tgt := 3041) dL_law__1481 (by decide) ?_
    refine e_drop (i := 5) ?_
    refine e_drop (i := 6) ?_
    exact kk
  | inl v =>
    refine e_if_ne (pc := 1466) (tgt := 1481) dL_law__1466 (by decide) (fun q => absurd rfl q) (fun _ => ?_)
    refine e_aloadn (pc := 1469) (i := 3) dL_law__1469 rfl rfl ?_
    refine e_iconst (pc := 1470) dL_law__1470 (x_R rfl) ?_
    refine f_lald (pc := 1471) (k := 14) (u := 27) (q := 0) (len := 1) dL_law__1471 ho (by decide) hn rfl rfl (by decide) ?_
    refine e_iload (pc := 1472) dL_law__1472 rfl ?_
    refine e_i2l (pc := 1474) dL_law__1474 ?_
    refine e_lcmp (pc := 1475) dL_law__1475 ?_
    refine e_if_eq (pc := 1476) (tgt := 1481) dL_law__1476 (by decide) (fun _ => ?_) (fun q => absurd (x_lc (show v = b from hA.2.symm)) q)
    refine e_goto (pc := 1481) (tgt := 3041) dL_law__1481 (by decide) ?_
    refine e_drop (i := 5) ?_
    refine e_drop (i := 6) ?_
    exact kk
set_option maxRecDepth 100000 in
set_option maxHeartbeats 4000000 in
theorem k25 {g : xG} {al : List (Nat × Nat × Nat)} {ro : Nat → Nat → Option Nat} (hst : g.1.stackTraces = false) (hs : SH al ro) (ho : (16 * 27 + 0, 21, 1) ∈ al) {M : Nat → xU} {h' : xH} {i K S0 : Nat} (hi : i + 6 ≤ x_L g) (hL : x_L g < 2147483648) {X T N Dr Kp Th La Lb Lc Fo St Ri Br Ro Ot S : xU} {A : xA} {t0 : (Int ⊕ Nat)} {Tx : xU} {Rox : xU} {b : Int} {Sy : xU} (hX : G11_road (x_sc g (i + 1)) (x_zb (x_sc g (i + 2))) T N Ro = some (t0, Tx, Rox)) (hE : ∀ E, t0 = .inr E → E ∈ ([1, 0] : List Nat)) (hS : G12_road (x_sc g (i + 1)) (x_zb (x_sc g (i + 2))) S = some (b, Sy)) (hA : Ag (x_cd [1, 0]) t0 b Sy)
    (kk : Ev g yL_law_ cL_law_ 7 (some .boolean) [] 60 3041 [some (x_r 1), some (x_r (16 * 1 + 0)), some (x_r (16 * 32 + 0)), some (x_r (16 * 27 + 0)), some (x_i (i : Int)), none, none] [] (al, ro, fl (ml (x_ac M A) [1, 2, 3, 4, 5, 18, 19, 20, 21, 22, 23, 24, 25, 26, 27, 32] [X, Tx, N, Dr, Kp, Th, La, Lb, Lc, Fo, St, Ri, Br, Rox, (x_out Ot t0), Sy])) K S0 (.inl (some (x_i 1))) h') : Ev g yL_law_ cL_law_ 7 (some .boolean) [] 60 1484 [some (x_r 1), some (x_r (16 * 1 + 0)), some (x_r (16 * 32 + 0)), some (x_r (16 * 27 + 0)), some (x_i (i : Int)), none, none] [] (al, ro, fl (ml (x_ac M A) [1, 2, 3, 4, 5, 18, 19, 20, 21, 22, 23, 24, 25, 26, 27, 32] [X, T, N, Dr, Kp, Th, La, Lb, Lc, Fo, St, Ri, Br, Ro, Ot, S])) (2 + K) (12 + S0) (.inl (some (x_i 1))) h' := by
  have hn : ([1, 2, 3, 4, 5, 18, 19, 20, 21, 22, 23, 24, 25, 26, 27, 32] : List Nat).Nodup := by decide
  refine e_aloadn (pc := 1484) (i := 1) dL_law__1484 rfl rfl ?_
  refine e_aloadn (pc := 1485) (i := 0) dL_law__1485 rfl rfl ?_
  refine e_iload (pc := 1486) dL_law__1486 rfl ?_
  refine e_iconst (pc := 1488) dL_law__1488 (x_R rfl) ?_
  refine e_iadd (pc := 1489) dL_law__1489 ?_
  rw [show x_add (i : Int) 1 = ((i + 1 : Nat) : Int) from x_ni (k := 1) (by omega)]
  refine e_sld (pc := 1490) dL_law__1490 (by omega) (by omega) ?_
  show Ev g _ _ _ _ _ _ 1491 [some (x_r 1), some (x_r (16 * 1 + 0)), some (x_r (16 * 32 + 0)), some (x_r (16 * 27 + 0)), some (x_i (i : Int)), none, none] [x_i (x_sc g (i + 1)), x_r (16 * 1 + 0)] (al, ro, fl (ml (x_ac M A) [1, 2, 3, 4, 5, 18, 19, 20, 21, 22, 23, 24, 25, 26, 27, 32] [X, T, N, Dr, Kp, Th, La, Lb, Lc, Fo, St, Ri, Br, Ro, Ot, S])) _ _ _ _
  refine e_aloadn (pc := 1491) (i := 0) dL_law__1491 rfl rfl ?_
  refine e_iload (pc := 1492) dL_law__1492 rfl ?_
  refine e_iconst (pc := 1494) dL_law__1494 (x_R rfl) ?_
  refine e_iadd (pc := 1495) dL_law__1495 ?_
  rw [show x_add (i : Int) 2 = ((i + 2 : Nat) : Int) from x_ni (k := 2) (by omega)]
  refine e_sld (pc := 1496) dL_law__1496 (by omega) (by omega) ?_
  show Ev g _ _ _ _ _ _ 1497 [some (x_r 1), some (x_r (16 * 1 + 0)), some (x_r (16 * 32 + 0)), some (x_r (16 * 27 + 0)), some (x_i (i : Int)), none, none] [x_i (x_sc g (i + 2)), x_i (x_sc g (i + 1)), x_r (16 * 1 + 0)] (al, ro, fl (ml (x_ac M A) [1, 2, 3, 4, 5, 18, 19, 20, 21, 22, 23, 24, 25, 26, 27, 32] [X, T, N, Dr, Kp, Th, La, Lb, Lc, Fo, St, Ri, Br, Ro, Ot, S])) _ _ _ _
  have key1 : ∀ z1 : Int, z1 = x_zb (x_sc g (i + 2)) → Ev g yL_law_ cL_law_ 7 (some .boolean) [] 60 1505 [some (x_r 1), some (x_r (16 * 1 + 0)), some (x_r (16 * 32 + 0)), some (x_r (16 * 27 + 0)), some (x_i (i : Int)), none, none] [x_i z1, x_i (x_sc g (i + 1)), x_r (16 * 1 + 0)] (al, ro, fl (ml (x_ac M A) [1, 2, 3, 4, 5, 18, 19, 20, 21, 22, 23, 24, 25, 26, 27, 32] [X, T, N, Dr, Kp, Th, La, Lb, Lc, Fo, St, Ri, Br, Ro, Ot, S])) (2 + K) (12 + S0) (.inl (some (x_i 1))) h' := by
    intro z1 hz
    subst hz
    refine e_aloadn (pc := 1505) (i := 3) dL_law__1505 rfl rfl ?_
    refine e_invSH (pc := 1506) (K1 := 2) (S1 := 12) (K := K) (S := S0) (dd2 := 8) (av := [x_r (16 * 1 + 0), x_i (x_sc g (i + 1)), x_i (x_zb (x_sc g (i + 2))), x_r (16 * 27 + 0)]) (st := []) dL_law__1506 (xmH_road 233 (x_inB (x_t5 (List.mem_of_getElem? (i := 220) rfl)) rfl)) rfl (f_calH (M := (x_ac M A)) (us2 := [2, 3, 26, 27]) [1, 2, 13, 14] hn rfl (And.intro rfl (And.intro rfl (And.intro rfl (And.intro rfl trivial)))) rfl rfl rfl (c_L_road hst hs ho hX hE)) (by decide) (Nat.le_of_ble_eq_true rfl) (Or.inl rfl) ?_
    show Ev g _ _ _ _ _ _ 1509 [some (x_r 1), some (x_r (16 * 1 + 0)), some (x_r (16 * 32 + 0)), some (x_r (16 * 27 + 0)), some (x_i (i : Int)), none, none] [x_i (x_wc [1, 0] t0)] (al, ro, fl (ml (x_ac M A) [1, 2, 3, 4, 5, 18, 19, 20, 21, 22, 23, 24, 25, 26, 27, 32] [X, Tx, N, Dr, Kp, Th, La, Lb, Lc, Fo, St, Ri, Br, Rox, (x_out Ot t0), S])) _ _ _ _
    refine e_istore (pc := 1509) (i := 5) dL_law__1509 (by decide) rfl ?_
    show Ev g _ _ _ _ _ _ 1511 [some (x_r 1), some (x_r (16 * 1 + 0)), some (x_r (16 * 32 + 0)), some (x_r (16 * 27 + 0)), some (x_i (i : Int)), some (x_i (x_wc [1, 0] t0)), none] [] (al, ro, fl (ml (x_ac M A) [1, 2, 3, 4, 5, 18, 19, 20, 21, 22, 23, 24, 25, 26, 27, 32] [X, Tx, N, Dr, Kp, Th, La, Lb, Lc, Fo, St, Ri, Br, Rox, (x_out Ot t0), S])) _ _ _ _
    refine e_aloadn (pc := 1511) (i := 2) dL_law__1511 rfl rfl ?_
    refine e_aloadn (pc := 1512) (i := 0) dL_law__1512 rfl rfl ?_
    refine e_iload (pc := 1513) dL_law__1513 rfl ?_
    refine e_iconst (pc := 1515) dL_law__1515 (x_R rfl) ?_
    refine e_iadd (pc := 1516) dL_law__1516 ?_
    rw [show x_add (i : Int) 1 = ((i + 1 : Nat) : Int) from x_ni (k := 1) (by omega)]
    refine e_sld (pc := 1517) dL_law__1517 (by omega) (by omega) ?_
    show Ev g _ _ _ _ _ _ 1518 [some (x_r 1), some (x_r (16 * 1 + 0)), some (x_r (16 * 32 + 0)), some (x_r (16 * 27 + 0)), some (x_i (i : Int)), some (x_i (x_wc [1, 0] t0)), none] [x_i (x_sc g (i + 1)), x_r (16 * 32 + 0)] (al, ro, fl (ml (x_ac M A) [1, 2, 3, 4, 5, 18, 19, 20, 21, 22, 23, 24, 25, 26, 27, 32] [X, Tx, N, Dr, Kp, Th, La, Lb, Lc, Fo, St, Ri, Br, Rox, (x_out Ot t0), S])) _ _ _ _
    refine e_aloadn (pc := 1518) (i := 0) dL_law__1518 rfl rfl ?_
    refine e_iload (pc := 1519) dL_law__1519 rfl ?_
    refine e_iconst (pc := 1521) dL_law__1521 (x_R rfl) ?_
    refine e_iadd (pc := 1522) dL_law__1522 ?_
    rw [show x_add (i : Int) 2 = ((i + 2 : Nat) : Int) from x_ni (k := 2) (by omega)]
    refine e_sld (pc := 1523) dL_law__1523 (by omega) (by omega) ?_
    show Ev g _ _ _ _ _ _ 1524 [some (x_r 1), some (x_r (16 * 1 + 0)), some (x_r (16 * 32 + 0)), some (x_r (16 * 27 + 0)), some (x_i (i : Int)), some (x_i (x_wc [1, 0] t0)), none] [x_i (x_sc g (i + 2)), x_i (x_sc g (i + 1)), x_r (16 * 32 + 0)] (al, ro, fl (ml (x_ac M A) [1, 2, 3, 4, 5, 18, 19, 20, 21, 22, 23, 24, 25, 26, 27, 32] [X, Tx, N, Dr, Kp, Th, La, Lb, Lc, Fo, St, Ri, Br, Rox, (x_out Ot t0), S])) _ _ _ _
    have key2 : ∀ z2 : Int, z2 = x_zb (x_sc g (i + 2)) → Ev g yL_law_ cL_law_ 7 (some .boolean) [] 60 1532 [some (x_r 1), some (x_r (16 * 1 + 0)), some (x_r (16 * 32 + 0)), some (x_r (16 * 27 + 0)), some (x_i (i : Int)), some (x_i (x_wc [1, 0] t0)), none] [x_i z2, x_i (x_sc g (i + 1)), x_r (16 * 32 + 0)] (al, ro, fl (ml (x_ac M A) [1, 2, 3, 4, 5, 18, 19, 20, 21, 22, 23, 24, 25, 26, 27, 32] [X, Tx, N, Dr, Kp, Th, La, Lb, Lc, Fo, St, Ri, Br, Rox, (x_out Ot t0), S])) K S0 (.inl (some (x_i 1))) h' := by
      intro z2 hz
      subst hz
      refine e_wide (K0 := 0 + K) (S0 := 0 + S0) (by omega) (by omega) ?_
      refine e_invV (pc := 1532) (K1 := 0) (S1 := 0) (K := K) (S := S0) (dd2 := 4) (av := [x_i (x_sc g (i + 1)), x_i (x_zb (x_sc g (i + 2)))]) (st := []) (id := 16 * 32 + 0) dL_law__1532 xmL_236 rfl (Or.inl ⟨10, 27, TX12, (sa_32_0 hs), rfl, by decide⟩) (f_cal (M := (x_ac M A)) (us2 := [32]) [15] hn rfl (And.intro rfl trivial) rfl rfl rfl (c_X12_road hst hs hS)) (by decide) (Nat.le_of_ble_eq_true rfl) (Or.inl rfl) ?_
      show Ev g _ _ _ _ _ _ 1535 [some (x_r 1), some (x_r (16 * 1 + 0)), some (x_r (16 * 32 + 0)), some (x_r (16 * 27 + 0)), some (x_i (i : Int)), some (x_i (x_wc [1, 0] t0)), none] [x_i b] (al, ro, fl (ml (x_ac M A) [1, 2, 3, 4, 5, 18, 19, 20, 21, 22, 23, 24, 25, 26, 27, 32] [X, Tx, N, Dr, Kp, Th, La, Lb, Lc, Fo, St, Ri, Br, Rox, (x_out Ot t0), Sy])) _ _ _ _
      refine e_istore (pc := 1535) (i := 6) dL_law__1535 (by decide) rfl ?_
      show Ev g _ _ _ _ _ _ 1537 [some (x_r 1), some (x_r (16 * 1 + 0)), some (x_r (16 * 32 + 0)), some (x_r (16 * 27 + 0)), some (x_i (i : Int)), some (x_i (x_wc [1, 0] t0)), some (x_i b)] [] (al, ro, fl (ml (x_ac M A) [1, 2, 3, 4, 5, 18, 19, 20, 21, 22, 23, 24, 25, 26, 27, 32] [X, Tx, N, Dr, Kp, Th, La, Lb, Lc, Fo, St, Ri, Br, Rox, (x_out Ot t0), Sy])) _ _ _ _
      refine e_aloadn (pc := 1537) (i := 2) dL_law__1537 rfl rfl ?_
      refine e_wide (K0 := 0 + K) (S0 := 0 + S0) (by omega) (by omega) ?_
      refine e_invV (pc := 1538) (K1 := 0) (S1 := 0) (K := K) (S := S0) (dd2 := 0) (av := []) (st := []) (id := 16 * 32 + 0) dL_law__1538 xmL_156 rfl (Or.inl ⟨10, 27, TX12, (sa_32_0 hs), rfl, by decide⟩) (f_cal (M := (x_ac M A)) (us2 := [32]) [15] hn rfl (And.intro rfl trivial) rfl rfl rfl (c_X12_thrown hst hs (show G12_thrown Sy = some (Sy 0 0) from rfl))) (by decide) (Nat.le_of_ble_eq_true rfl) (Or.inl rfl) ?_
      show Ev g _ _ _ _ _ _ 1541 [some (x_r 1), some (x_r (16 * 1 + 0)), some (x_r (16 * 32 + 0)), some (x_r (16 * 27 + 0)), some (x_i (i : Int)), some (x_i (x_wc [1, 0] t0)), some (x_i b)] [x_i (Sy 0 0)] (al, ro, fl (ml (x_ac M A) [1, 2, 3, 4, 5, 18, 19, 20, 21, 22, 23, 24, 25, 26, 27, 32] [X, Tx, N, Dr, Kp, Th, La, Lb, Lc, Fo, St, Ri, Br, Rox, (x_out Ot t0), Sy])) _ _ _ _
      have hk : Sy 0 0 = x_wc [1, 0] t0 := x_ag_k hA
      refine e_iload (pc := 1541) dL_law__1541 rfl ?_
      refine e_icmp_eq (pc := 1543) (tgt := 1548) dL_law__1543 (by decide) (fun _ => ?_) (fun q => absurd hk q)
      refine e_iload (pc := 1548) dL_law__1548 rfl ?_
      cases t0 with
      | inr E =>
        refine e_if_ne (pc := 1550) (tgt := 1565) dL_law__1550 (by decide) (fun _ => ?_) (fun q => absurd q (x_wc_r [1, 0] E))
        refine e_goto (pc := 1565) (tgt := 3041) dL_law__1565 (by decide) ?_
        refine e_drop (i := 5) ?_
        refine e_drop (i := 6) ?_
        exact kk
      | inl v =>
        refine e_if_ne (pc := 1550) (tgt := 1565) dL_law__1550 (by decide) (fun q => absurd rfl q) (fun _ => ?_)
        refine e_aloadn (pc := 1553) (i := 3) dL_law__1553 rfl rfl ?_
        refine e_iconst (pc := 1554) dL_law__1554 (x_R rfl) ?_
        refine f_lald (pc := 1555) (k := 14) (u := 27) (q := 0) (len := 1) dL_law__1555 ho (by decide) hn rfl rfl (by decide) ?_
        refine e_iload (pc := 1556) dL_law__1556 rfl ?_
        refine e_i2l (pc := 1558) dL_law__1558 ?_
        refine e_lcmp (pc := 1559) dL_law__1559 ?_
        refine e_if_eq (pc := 1560) (tgt := 1565) dL_law__1560 (by decide) (fun _ => ?_) (fun q => absurd (x_lc (show v = b from hA.2.symm)) q)
        refine e_goto (pc := 1565) (tgt := 3041) dL_law__1565 (by decide) ?_
        refine e_drop (i := 5) ?_
        refine e_drop (i := 6) ?_
        exact kk
    refine e_if_eq (pc := 1524) (tgt := 1531) dL_law__1524 (by decide) (fun q => ?_) (fun q => ?_)
    · refine e_iconst (pc := 1531) dL_law__1531 (x_R rfl) ?_
      exact key2 0 (by rw [x_zb, if_pos q])
    · refine e_iconst (pc := 1527) dL_law__1527 (x_R rfl) ?_
      refine e_goto (pc := 1528) (tgt := 1532) dL_law__1528 (by decide) ?_
      exact key2 1 (by rw [x_zb, if_neg q])
  refine e_if_eq (pc := 1497) (tgt := 1504) dL_law__1497 (by decide) (fun q => ?_) (fun q => ?_)
  · refine e_iconst (pc := 1504) dL_law__1504 (x_R rfl) ?_
    exact key1 0 (by rw [x_zb, if_pos q])
  · refine e_iconst (pc := 1500) dL_law__1500 (x_R rfl) ?_
    refine e_goto (pc := 1501) (tgt := 1505) dL_law__1501 (by decide) ?_
    exact key1 1 (by rw [x_zb, if_neg q])
set_option maxRecDepth 100000 in
set_option maxHeartbeats 4000000 in
theorem k26 {g : xG} {al : List (Nat × Nat × Nat)} {ro : Nat → Nat → Option Nat} (hst : g.1.stackTraces = false) (hs : SH al ro) (ho : (16 * 27 + 0, 21, 1) ∈ al) {M : Nat → xU} {h' : xH} {i K S0 : Nat} (hi : i + 6 ≤ x_L g) (hL : x_L g < 2147483648) {X T N Dr Kp Th La Lb Lc Fo St Ri Br Ro Ot S : xU} {A : xA} {t0 : (Int ⊕ Nat)} {Stx : xU} {b : Int} {Sy : xU} (hX : G11_seats (x_sc g (i + 1)) N St = some (t0, Stx)) (hE : ∀ E, t0 = .inr E → E ∈ ([1] : List Nat)) (hS : G12_seats (x_sc g (i + 1)) S = some (b, Sy)) (hA : Ag (x_cd [1]) t0 b Sy)
    (kk : Ev g yL_law_ cL_law_ 7 (some .boolean) [] 60 3041 [some (x_r 1), some (x_r (16 * 1 + 0)), some (x_r (16 * 32 + 0)), some (x_r (16 * 27 + 0)), some (x_i (i : Int)), none, none] [] (al, ro, fl (ml (x_ac M A) [1, 2, 3, 4, 5, 18, 19, 20, 21, 22, 23, 24, 25, 26, 27, 32] [X, T, N, Dr, Kp, Th, La, Lb, Lc, Fo, Stx, Ri, Br, Ro, (x_out Ot t0), Sy])) K S0 (.inl (some (x_i 1))) h') : Ev g yL_law_ cL_law_ 7 (some .boolean) [] 60 1568 [some (x_r 1), some (x_r (16 * 1 + 0)), some (x_r (16 * 32 + 0)), some (x_r (16 * 27 + 0)), some (x_i (i : Int)), none, none] [] (al, ro, fl (ml (x_ac M A) [1, 2, 3, 4, 5, 18, 19, 20, 21, 22, 23, 24, 25, 26, 27, 32] [X, T, N, Dr, Kp, Th, La, Lb, Lc, Fo, St, Ri, Br, Ro, Ot, S])) (1 + K) (6 + S0) (.inl (some (x_i 1))) h' := by
  have hn : ([1, 2, 3, 4, 5, 18, 19, 20, 21, 22, 23, 24, 25, 26, 27, 32] : List Nat).Nodup := by decide
  refine e_aloadn (pc := 1568) (i := 1) dL_law__1568 rfl rfl ?_
  refine e_aloadn (pc := 1569) (i := 0) dL_law__1569 rfl rfl ?_
  refine e_iload (pc := 1570) dL_law__1570 rfl ?_
  refine e_iconst (pc := 1572) dL_law__1572 (x_R rfl) ?_
  refine e_iadd (pc := 1573) dL_law__1573 ?_
  rw [show x_add (i : Int) 1 = ((i + 1 : Nat) : Int) from x_ni (k := 1) (by omega)]
  refine e_sld (pc := 1574) dL_law__1574 (by omega) (by omega) ?_
  show Ev g _ _ _ _ _ _ 1575 [some (x_r 1), some (x_r (16 * 1 + 0)), some (x_r (16 * 32 + 0)), some (x_r (16 * 27 + 0)), some (x_i (i : Int)), none, none] [x_i (x_sc g (i + 1)), x_r (16 * 1 + 0)] (al, ro, fl (ml (x_ac M A) [1, 2, 3, 4, 5, 18, 19, 20, 21, 22, 23, 24, 25, 26, 27, 32] [X, T, N, Dr, Kp, Th, La, Lb, Lc, Fo, St, Ri, Br, Ro, Ot, S])) _ _ _ _
  refine e_aloadn (pc := 1575) (i := 3) dL_law__1575 rfl rfl ?_
  refine e_invSH (pc := 1576) (K1 := 1) (S1 := 6) (K := K) (S := S0) (dd2 := 5) (av := [x_r (16 * 1 + 0), x_i (x_sc g (i + 1)), x_r (16 * 27 + 0)]) (st := []) dL_law__1576 (xmH_seats 237 (x_inB (x_t6 (List.mem_of_getElem? (i := 13) rfl)) rfl)) rfl (f_calH (M := (x_ac M A)) (us2 := [3, 23, 27]) [2, 10, 14] hn rfl (And.intro rfl (And.intro rfl (And.intro rfl trivial))) rfl rfl rfl (c_L_seats hst hs ho hX hE)) (by decide) (Nat.le_of_ble_eq_true rfl) (Or.inl rfl) ?_
  show Ev g _ _ _ _ _ _ 1579 [some (x_r 1), some (x_r (16 * 1 + 0)), some (x_r (16 * 32 + 0)), some (x_r (16 * 27 + 0)), some (x_i (i : Int)), none, none] [x_i (x_wc [1] t0)] (al, ro, fl (ml (x_ac M A) [1, 2, 3, 4, 5, 18, 19, 20, 21, 22, 23, 24, 25, 26, 27, 32] [X, T, N, Dr, Kp, Th, La, Lb, Lc, Fo, Stx, Ri, Br, Ro, (x_out Ot t0), S])) _ _ _ _
  refine e_istore (pc := 1579) (i := 5) dL_law__1579 (by decide) rfl ?_
  show Ev g _ _ _ _ _ _ 1581 [some (x_r 1), some (x_r (16 * 1 + 0)), some (x_r (16 * 32 + 0)), some (x_r (16 * 27 + 0)), some (x_i (i : Int)), some (x_i (x_wc [1] t0)), none] [] (al, ro, fl (ml (x_ac M A) [1, 2, 3, 4, 5, 18, 19, 20, 21, 22, 23, 24, 25, 26, 27, 32] [X, T, N, Dr, Kp, Th, La, Lb, Lc, Fo, Stx, Ri, Br, Ro, (x_out Ot t0), S])) _ _ _ _
  refine e_aloadn (pc := 1581) (i := 2) dL_law__1581 rfl rfl ?_
  refine e_aloadn (pc := 1582) (i := 0) dL_law__1582 rfl rfl ?_
  refine e_iload (pc := 1583) dL_law__1583 rfl ?_
  refine e_iconst (pc := 1585) dL_law__1585 (x_R rfl) ?_
  refine e_iadd (pc := 1586) dL_law__1586 ?_
  rw [show x_add (i : Int) 1 = ((i + 1 : Nat) : Int) from x_ni (k := 1) (by omega)]
  refine e_sld (pc := 1587) dL_law__1587 (by omega) (by omega) ?_
  show Ev g _ _ _ _ _ _ 1588 [some (x_r 1), some (x_r (16 * 1 + 0)), some (x_r (16 * 32 + 0)), some (x_r (16 * 27 + 0)), some (x_i (i : Int)), some (x_i (x_wc [1] t0)), none] [x_i (x_sc g (i + 1)), x_r (16 * 32 + 0)] (al, ro, fl (ml (x_ac M A) [1, 2, 3, 4, 5, 18, 19, 20, 21, 22, 23, 24, 25, 26, 27, 32] [X, T, N, Dr, Kp, Th, La, Lb, Lc, Fo, Stx, Ri, Br, Ro, (x_out Ot t0), S])) _ _ _ _
  refine e_wide (K0 := 0 + K) (S0 := 0 + S0) (by omega) (by omega) ?_
  refine e_invV (pc := 1588) (K1 := 0) (S1 := 0) (K := K) (S := S0) (dd2 := 2) (av := [x_i (x_sc g (i + 1))]) (st := []) (id := 16 * 32 + 0) dL_law__1588 xmL_239 rfl (Or.inl ⟨10, 27, TX12, (sa_32_0 hs), rfl, by decide⟩) (f_cal (M := (x_ac M A)) (us2 := [32]) [15] hn rfl (And.intro rfl trivial) rfl rfl rfl (c_X12_seats hst hs hS)) (by decide) (Nat.le_of_ble_eq_true rfl) (Or.inl rfl) ?_
  show Ev g _ _ _ _ _ _ 1591 [some (x_r 1), some (x_r (16 * 1 + 0)), some (x_r (16 * 32 + 0)), some (x_r (16 * 27 + 0)), some (x_i (i : Int)), some (x_i (x_wc [1] t0)), none] [x_i b] (al, ro, fl (ml (x_ac M A) [1, 2, 3, 4, 5, 18, 19, 20, 21, 22, 23, 24, 25, 26, 27, 32] [X, T, N, Dr, Kp, Th, La, Lb, Lc, Fo, Stx, Ri, Br, Ro, (x_out Ot t0), Sy])) _ _ _ _
  refine e_istore (pc := 1591) (i := 6) dL_law__1591 (by decide) rfl ?_
  show Ev g _ _ _ _ _ _ 1593 [some (x_r 1), some (x_r (16 * 1 + 0)), some (x_r (16 * 32 + 0)), some (x_r (16 * 27 + 0)), some (x_i (i : Int)), some (x_i (x_wc [1] t0)), some (x_i b)] [] (al, ro, fl (ml (x_ac M A) [1, 2, 3, 4, 5, 18, 19, 20, 21, 22, 23, 24, 25, 26, 27, 32] [X, T, N, Dr, Kp, Th, La, Lb, Lc, Fo, Stx, Ri, Br, Ro, (x_out Ot t0), Sy])) _ _ _ _
  refine e_aloadn (pc := 1593) (i := 2) dL_law__1593 rfl rfl ?_
  refine e_wide (K0 := 0 + K) (S0 := 0 + S0) (by omega) (by omega) ?_
  refine e_invV (pc := 1594) (K1 := 0) (S1 := 0) (K := K) (S := S0) (dd2 := 0) (av := []) (st := []) (id := 16 * 32 + 0) dL_law__1594 xmL_156 rfl (Or.inl ⟨10, 27, TX12, (sa_32_0 hs), rfl, by decide⟩) (f_cal (M := (x_ac M A)) (us2 := [32]) [15] hn rfl (And.intro rfl trivial) rfl rfl rfl (c_X12_thrown hst hs (show G12_thrown Sy = some (Sy 0 0) from rfl))) (by decide) (Nat.le_of_ble_eq_true rfl) (Or.inl rfl) ?_
  show Ev g _ _ _ _ _ _ 1597 [some (x_r 1), some (x_r (16 * 1 + 0)), some (x_r (16 * 32 + 0)), some (x_r (16 * 27 + 0)), some (x_i (i : Int)), some (x_i (x_wc [1] t0)), some (x_i b)] [x_i (Sy 0 0)] (al, ro, fl (ml (x_ac M A) [1, 2, 3, 4, 5, 18, 19, 20, 21, 22, 23, 24, 25, 26, 27, 32] [X, T, N, Dr, Kp, Th, La, Lb, Lc, Fo, Stx, Ri, Br, Ro, (x_out Ot t0), Sy])) _ _ _ _
  have hk : Sy 0 0 = x_wc [1] t0 := x_ag_k hA
  refine e_iload (pc := 1597) dL_law__1597 rfl ?_
  refine e_icmp_eq (pc := 1599) (tgt := 1604) dL_law__1599 (by decide) (fun _ => ?_) (fun q => absurd hk q)
  refine e_iload (pc := 1604) dL_law__1604 rfl ?_
  cases t0 with
  | inr E =>
    refine e_if_ne (pc := 1606) (tgt := 1621) dL_law__1606 (by decide) (fun _ => ?_) (fun q => absurd q (x_wc_r [1] E))
    refine e_goto (pc := 1621) (tgt := 3041) dL_law__1621 (by decide) ?_
    refine e_drop (i := 5) ?_
    refine e_drop (i := 6) ?_
    exact kk
  | inl v =>
    refine e_if_ne (pc := 1606) (tgt := 1621) dL_law__1606 (by decide) (fun q => absurd rfl q) (fun _ => ?_)
    refine e_aloadn (pc := 1609) (i := 3) dL_law__1609 rfl rfl ?_
    refine e_iconst (pc := 1610) dL_law__1610 (x_R rfl) ?_
    refine f_lald (pc := 1611) (k := 14) (u := 27) (q := 0) (len := 1) dL_law__1611 ho (by decide) hn rfl rfl (by decide) ?_
    refine e_iload (pc := 1612) dL_law__1612 rfl ?_
    refine e_i2l (pc := 1614) dL_law__1614 ?_
    refine e_lcmp (pc := 1615) dL_law__1615 ?_
    refine e_if_eq (pc := 1616) (tgt := 1621) dL_law__1616 (by decide) (fun _ => ?_) (fun q => absurd (x_lc (show v = b from hA.2.symm)) q)
    refine e_goto (pc := 1621) (tgt := 3041) dL_law__1621 (by decide) ?_
    refine e_drop (i := 5) ?_
    refine e_drop (i := 6) ?_
    exact kk
set_option maxRecDepth 100000 in
set_option maxHeartbeats 4000000 in
theorem k27 {g : xG} {al : List (Nat × Nat × Nat)} {ro : Nat → Nat → Option Nat} (hst : g.1.stackTraces = false) (hs : SH al ro) (ho : (16 * 27 + 0, 21, 1) ∈ al) {M : Nat → xU} {h' : xH} {i K S0 : Nat} (hi : i + 6 ≤ x_L g) (hL : x_L g < 2147483648) {X T N Dr Kp Th La Lb Lc Fo St Ri Br Ro Ot S : xU} {A : xA} {a : Int} {Stx : xU} {b : Int} {Sy : xU} (hX : G11_shown N St = some (a, Stx)) (hS : G12_shown S = some (b, Sy)) (hA : a = b)
    (kk : Ev g yL_law_ cL_law_ 7 (some .boolean) [] 60 3041 [some (x_r 1), some (x_r (16 * 1 + 0)), some (x_r (16 * 32 + 0)), some (x_r (16 * 27 + 0)), some (x_i (i : Int)), none, none] [] (al, ro, fl (ml (x_ac M A) [1, 2, 3, 4, 5, 18, 19, 20, 21, 22, 23, 24, 25, 26, 27, 32] [X, T, N, Dr, Kp, Th, La, Lb, Lc, Fo, Stx, Ri, Br, Ro, Ot, Sy])) K S0 (.inl (some (x_i 1))) h') : Ev g yL_law_ cL_law_ 7 (some .boolean) [] 60 1624 [some (x_r 1), some (x_r (16 * 1 + 0)), some (x_r (16 * 32 + 0)), some (x_r (16 * 27 + 0)), some (x_i (i : Int)), none, none] [] (al, ro, fl (ml (x_ac M A) [1, 2, 3, 4, 5, 18, 19, 20, 21, 22, 23, 24, 25, 26, 27, 32] [X, T, N, Dr, Kp, Th, La, Lb, Lc, Fo, St, Ri, Br, Ro, Ot, S])) K S0 (.inl (some (x_i 1))) h' := by
  have hn : ([1, 2, 3, 4, 5, 18, 19, 20, 21, 22, 23, 24, 25, 26, 27, 32] : List Nat).Nodup := by decide
  refine e_aloadn (pc := 1624) (i := 1) dL_law__1624 rfl rfl ?_
  refine e_wide (K0 := 0 + K) (S0 := 0 + S0) (by omega) (by omega) ?_
  refine e_invV (pc := 1625) (K1 := 0) (S1 := 0) (K := K) (S := S0) (dd2 := 3) (av := []) (st := []) (id := 16 * 1 + 0) dL_law__1625 xmL_240 rfl (Or.inl ⟨9, 17, TX11, (sa_1_0 hs), rfl, by decide⟩) (f_cal (M := (x_ac M A)) (us2 := [3, 23]) [2, 10] hn rfl (And.intro rfl (And.intro rfl trivial)) rfl rfl rfl (c_X11_shown hst hs hX)) (by decide) (Nat.le_of_ble_eq_true rfl) (Or.inl rfl) ?_
  show Ev g _ _ _ _ _ _ 1628 [some (x_r 1), some (x_r (16 * 1 + 0)), some (x_r (16 * 32 + 0)), some (x_r (16 * 27 + 0)), some (x_i (i : Int)), none, none] [x_i a] (al, ro, fl (ml (x_ac M A) [1, 2, 3, 4, 5, 18, 19, 20, 21, 22, 23, 24, 25, 26, 27, 32] [X, T, N, Dr, Kp, Th, La, Lb, Lc, Fo, Stx, Ri, Br, Ro, Ot, S])) _ _ _ _
  refine e_aloadn (pc := 1628) (i := 2) dL_law__1628 rfl rfl ?_
  refine e_wide (K0 := 0 + K) (S0 := 0 + S0) (by omega) (by omega) ?_
  refine e_invV (pc := 1629) (K1 := 0) (S1 := 0) (K := K) (S := S0) (dd2 := 2) (av := []) (st := [x_i a]) (id := 16 * 32 + 0) dL_law__1629 xmL_243 rfl (Or.inl ⟨10, 27, TX12, (sa_32_0 hs), rfl, by decide⟩) (f_cal (M := (x_ac M A)) (us2 := [32]) [15] hn rfl (And.intro rfl trivial) rfl rfl rfl (c_X12_shown hst hs hS)) (by decide) (Nat.le_of_ble_eq_true rfl) (Or.inl rfl) ?_
  show Ev g _ _ _ _ _ _ 1632 [some (x_r 1), some (x_r (16 * 1 + 0)), some (x_r (16 * 32 + 0)), some (x_r (16 * 27 + 0)), some (x_i (i : Int)), none, none] [x_i b, x_i a] (al, ro, fl (ml (x_ac M A) [1, 2, 3, 4, 5, 18, 19, 20, 21, 22, 23, 24, 25, 26, 27, 32] [X, T, N, Dr, Kp, Th, La, Lb, Lc, Fo, Stx, Ri, Br, Ro, Ot, Sy])) _ _ _ _
  refine e_icmp_eq (pc := 1632) (tgt := 3041) dL_law__1632 (by decide) (fun _ => ?_) (fun q => absurd hA q)
  exact kk
set_option maxRecDepth 100000 in
set_option maxHeartbeats 4000000 in
theorem k28 {g : xG} {al : List (Nat × Nat × Nat)} {ro : Nat → Nat → Option Nat} (hst : g.1.stackTraces = false) (hs : SH al ro) (ho : (16 * 27 + 0, 21, 1) ∈ al) {M : Nat → xU} {h' : xH} {i K S0 : Nat} (hi : i + 6 ≤ x_L g) (hL : x_L g < 2147483648) {X T N Dr Kp Th La Lb Lc Fo St Ri Br Ro Ot S : xU} {A : xA} {t0 : (Int ⊕ Nat)} {b : Int} {Sy : xU} (hX : G11_serves (x_sc g (i + 1)) N = some t0) (hE : ∀ E, t0 = .inr E → E ∈ ([1] : List Nat)) (hS : G12_serves (x_sc g (i + 1)) S = some (b, Sy)) (hA : Ag (x_cd [1]) t0 b Sy)
    (kk : Ev g yL_law_ cL_law_ 7 (some .boolean) [] 60 3041 [some (x_r 1), some (x_r (16 * 1 + 0)), some (x_r (16 * 32 + 0)), some (x_r (16 * 27 + 0)), some (x_i (i : Int)), none, none] [] (al, ro, fl (ml (x_ac M A) [1, 2, 3, 4, 5, 18, 19, 20, 21, 22, 23, 24, 25, 26, 27, 32] [X, T, N, Dr, Kp, Th, La, Lb, Lc, Fo, St, Ri, Br, Ro, (x_out Ot t0), Sy])) K S0 (.inl (some (x_i 1))) h') : Ev g yL_law_ cL_law_ 7 (some .boolean) [] 60 1637 [some (x_r 1), some (x_r (16 * 1 + 0)), some (x_r (16 * 32 + 0)), some (x_r (16 * 27 + 0)), some (x_i (i : Int)), none, none] [] (al, ro, fl (ml (x_ac M A) [1, 2, 3, 4, 5, 18, 19, 20, 21, 22, 23, 24, 25, 26, 27, 32] [X, T, N, Dr, Kp, Th, La, Lb, Lc, Fo, St, Ri, Br, Ro, Ot, S])) (1 + K) (6 + S0) (.inl (some (x_i 1))) h' := by
  have hn : ([1, 2, 3, 4, 5, 18, 19, 20, 21, 22, 23, 24, 25, 26, 27, 32] : List Nat).Nodup := by decide
  refine e_aloadn (pc := 1637) (i := 1) dL_law__1637 rfl rfl ?_
  refine e_aloadn (pc := 1638) (i := 0) dL_law__1638 rfl rfl ?_
  refine e_iload (pc := 1639) dL_law__1639 rfl ?_
  refine e_iconst (pc := 1641) dL_law__1641 (x_R rfl) ?_
  refine e_iadd (pc := 1642) dL_law__1642 ?_
  rw [show x_add (i : Int) 1 = ((i + 1 : Nat) : Int) from x_ni (k := 1) (by omega)]
  refine e_sld (pc := 1643) dL_law__1643 (by omega) (by omega) ?_
  show Ev g _ _ _ _ _ _ 1644 [some (x_r 1), some (x_r (16 * 1 + 0)), some (x_r (16 * 32 + 0)), some (x_r (16 * 27 + 0)), some (x_i (i : Int)), none, none] [x_i (x_sc g (i + 1)), x_r (16 * 1 + 0)] (al, ro, fl (ml (x_ac M A) [1, 2, 3, 4, 5, 18, 19, 20, 21, 22, 23, 24, 25, 26, 27, 32] [X, T, N, Dr, Kp, Th, La, Lb, Lc, Fo, St, Ri, Br, Ro, Ot, S])) _ _ _ _
  refine e_aloadn (pc := 1644) (i := 3) dL_law__1644 rfl rfl ?_
  refine e_invSH (pc := 1645) (K1 := 1) (S1 := 6) (K := K) (S := S0) (dd2 := 3) (av := [x_r (16 * 1 + 0), x_i (x_sc g (i + 1)), x_r (16 * 27 + 0)]) (st := []) dL_law__1645 (xmH_serves 244 (x_inB (x_t6 (List.mem_of_getElem? (i := 38) rfl)) rfl)) rfl (f_calH (M := (x_ac M A)) (us2 := [3, 27]) [2, 14] hn rfl (And.intro rfl (And.intro rfl trivial)) rfl rfl rfl (c_L_serves hst hs ho hX hE)) (by decide) (Nat.le_of_ble_eq_true rfl) (Or.inl rfl) ?_
  show Ev g _ _ _ _ _ _ 1648 [some (x_r 1), some (x_r (16 * 1 + 0)), some (x_r (16 * 32 + 0)), some (x_r (16 * 27 + 0)), some (x_i (i : Int)), none, none] [x_i (x_wc [1] t0)] (al, ro, fl (ml (x_ac M A) [1, 2, 3, 4, 5, 18, 19, 20, 21, 22, 23, 24, 25, 26, 27, 32] [X, T, N, Dr, Kp, Th, La, Lb, Lc, Fo, St, Ri, Br, Ro, (x_out Ot t0), S])) _ _ _ _
  refine e_istore (pc := 1648) (i := 5) dL_law__1648 (by decide) rfl ?_
  show Ev g _ _ _ _ _ _ 1650 [some (x_r 1), some (x_r (16 * 1 + 0)), some (x_r (16 * 32 + 0)), some (x_r (16 * 27 + 0)), some (x_i (i : Int)), some (x_i (x_wc [1] t0)), none] [] (al, ro, fl (ml (x_ac M A) [1, 2, 3, 4, 5, 18, 19, 20, 21, 22, 23, 24, 25, 26, 27, 32] [X, T, N, Dr, Kp, Th, La, Lb, Lc, Fo, St, Ri, Br, Ro, (x_out Ot t0), S])) _ _ _ _
  refine e_aloadn (pc := 1650) (i := 2) dL_law__1650 rfl rfl ?_
  refine e_aloadn (pc := 1651) (i := 0) dL_law__1651 rfl rfl ?_
  refine e_iload (pc := 1652) dL_law__1652 rfl ?_
  refine e_iconst (pc := 1654) dL_law__1654 (x_R rfl) ?_
  refine e_iadd (pc := 1655) dL_law__1655 ?_
  rw [show x_add (i : Int) 1 = ((i + 1 : Nat) : Int) from x_ni (k := 1) (by omega)]
  refine e_sld (pc := 1656) dL_law__1656 (by omega) (by omega) ?_
  show Ev g _ _ _ _ _ _ 1657 [some (x_r 1), some (x_r (16 * 1 + 0)), some (x_r (16 * 32 + 0)), some (x_r (16 * 27 + 0)), some (x_i (i : Int)), some (x_i (x_wc [1] t0)), none] [x_i (x_sc g (i + 1)), x_r (16 * 32 + 0)] (al, ro, fl (ml (x_ac M A) [1, 2, 3, 4, 5, 18, 19, 20, 21, 22, 23, 24, 25, 26, 27, 32] [X, T, N, Dr, Kp, Th, La, Lb, Lc, Fo, St, Ri, Br, Ro, (x_out Ot t0), S])) _ _ _ _
  refine e_wide (K0 := 0 + K) (S0 := 0 + S0) (by omega) (by omega) ?_
  refine e_invV (pc := 1657) (K1 := 0) (S1 := 0) (K := K) (S := S0) (dd2 := 1) (av := [x_i (x_sc g (i + 1))]) (st := []) (id := 16 * 32 + 0) dL_law__1657 xmL_246 rfl (Or.inl ⟨10, 27, TX12, (sa_32_0 hs), rfl, by decide⟩) (f_cal (M := (x_ac M A)) (us2 := [32]) [15] hn rfl (And.intro rfl trivial) rfl rfl rfl (c_X12_serves hst hs hS)) (by decide) (Nat.le_of_ble_eq_true rfl) (Or.inl rfl) ?_
  show Ev g _ _ _ _ _ _ 1660 [some (x_r 1), some (x_r (16 * 1 + 0)), some (x_r (16 * 32 + 0)), some (x_r (16 * 27 + 0)), some (x_i (i : Int)), some (x_i (x_wc [1] t0)), none] [x_i b] (al, ro, fl (ml (x_ac M A) [1, 2, 3, 4, 5, 18, 19, 20, 21, 22, 23, 24, 25, 26, 27, 32] [X, T, N, Dr, Kp, Th, La, Lb, Lc, Fo, St, Ri, Br, Ro, (x_out Ot t0), Sy])) _ _ _ _
  refine e_istore (pc := 1660) (i := 6) dL_law__1660 (by decide) rfl ?_
  show Ev g _ _ _ _ _ _ 1662 [some (x_r 1), some (x_r (16 * 1 + 0)), some (x_r (16 * 32 + 0)), some (x_r (16 * 27 + 0)), some (x_i (i : Int)), some (x_i (x_wc [1] t0)), some (x_i b)] [] (al, ro, fl (ml (x_ac M A) [1, 2, 3, 4, 5, 18, 19, 20, 21, 22, 23, 24, 25, 26, 27, 32] [X, T, N, Dr, Kp, Th, La, Lb, Lc, Fo, St, Ri, Br, Ro, (x_out Ot t0), Sy])) _ _ _ _
  refine e_aloadn (pc := 1662) (i := 2) dL_law__1662 rfl rfl ?_
  refine e_wide (K0 := 0 + K) (S0 := 0 + S0) (by omega) (by omega) ?_
  refine e_invV (pc := 1663) (K1 := 0) (S1 := 0) (K := K) (S := S0) (dd2 := 0) (av := []) (st := []) (id := 16 * 32 + 0) dL_law__1663 xmL_156 rfl (Or.inl ⟨10, 27, TX12, (sa_32_0 hs), rfl, by decide⟩) (f_cal (M := (x_ac M A)) (us2 := [32]) [15] hn rfl (And.intro rfl trivial) rfl rfl rfl (c_X12_thrown hst hs (show G12_thrown Sy = some (Sy 0 0) from rfl))) (by decide) (Nat.le_of_ble_eq_true rfl) (Or.inl rfl) ?_
  show Ev g _ _ _ _ _ _ 1666 [some (x_r 1), some (x_r (16 * 1 + 0)), some (x_r (16 * 32 + 0)), some (x_r (16 * 27 + 0)), some (x_i (i : Int)), some (x_i (x_wc [1] t0)), some (x_i b)] [x_i (Sy 0 0)] (al, ro, fl (ml (x_ac M A) [1, 2, 3, 4, 5, 18, 19, 20, 21, 22, 23, 24, 25, 26, 27, 32] [X, T, N, Dr, Kp, Th, La, Lb, Lc, Fo, St, Ri, Br, Ro, (x_out Ot t0), Sy])) _ _ _ _
  have hk : Sy 0 0 = x_wc [1] t0 := x_ag_k hA
  refine e_iload (pc := 1666) dL_law__1666 rfl ?_
  refine e_icmp_eq (pc := 1668) (tgt := 1673) dL_law__1668 (by decide) (fun _ => ?_) (fun q => absurd hk q)
  refine e_iload (pc := 1673) dL_law__1673 rfl ?_
  cases t0 with
  | inr E =>
    refine e_if_ne (pc := 1675) (tgt := 1690) dL_law__1675 (by decide) (fun _ => ?_) (fun q => absurd q (x_wc_r [1] E))
    refine e_goto (pc := 1690) (tgt := 3041) dL_law__1690 (by decide) ?_
    refine e_drop (i := 5) ?_
    refine e_drop (i := 6) ?_
    exact kk
  | inl v =>
    refine e_if_ne (pc := 1675) (tgt := 1690) dL_law__1675 (by decide) (fun q => absurd rfl q) (fun _ => ?_)
    refine e_aloadn (pc := 1678) (i := 3) dL_law__1678 rfl rfl ?_
    refine e_iconst (pc := 1679) dL_law__1679 (x_R rfl) ?_
    refine f_lald (pc := 1680) (k := 14) (u := 27) (q := 0) (len := 1) dL_law__1680 ho (by decide) hn rfl rfl (by decide) ?_
    refine e_iload (pc := 1681) dL_law__1681 rfl ?_
    refine e_i2l (pc := 1683) dL_law__1683 ?_
    refine e_lcmp (pc := 1684) dL_law__1684 ?_
    refine e_if_eq (pc := 1685) (tgt := 1690) dL_law__1685 (by decide) (fun _ => ?_) (fun q => absurd (x_lc (show v = b from hA.2.symm)) q)
    refine e_goto (pc := 1690) (tgt := 3041) dL_law__1690 (by decide) ?_
    refine e_drop (i := 5) ?_
    refine e_drop (i := 6) ?_
    exact kk
set_option maxRecDepth 100000 in
set_option maxHeartbeats 4000000 in
theorem k29 {g : xG} {al : List (Nat × Nat × Nat)} {ro : Nat → Nat → Option Nat} (hst : g.1.stackTraces = false) (hs : SH al ro) (ho : (16 * 27 + 0, 21, 1) ∈ al) {M : Nat → xU} {h' : xH} {i K S0 : Nat} (hi : i + 6 ≤ x_L g) (hL : x_L g < 2147483648) {X T N Dr Kp Th La Lb Lc Fo St Ri Br Ro Ot S : xU} {A : xA} {t0 : (Int ⊕ Nat)} {Stx : xU} {b : Int} {Sy : xU} (hX : G11_trade (x_sc g (i + 1)) (x_zb (x_sc g (i + 2))) N St = some (t0, Stx)) (hE : ∀ E, t0 = .inr E → E ∈ ([1] : List Nat)) (hS : G12_trade (x_sc g (i + 1)) (x_zb (x_sc g (i + 2))) S = some (b, Sy)) (hA : Ag (x_cd [1]) t0 b Sy)
    (kk : Ev g yL_law_ cL_law_ 7 (some .boolean) [] 60 3041 [some (x_r 1), some (x_r (16 * 1 + 0)), some (x_r (16 * 32 + 0)), some (x_r (16 * 27 + 0)), some (x_i (i : Int)), none, none] [] (al, ro, fl (ml (x_ac M A) [1, 2, 3, 4, 5, 18, 19, 20, 21, 22, 23, 24, 25, 26, 27, 32] [X, T, N, Dr, Kp, Th, La, Lb, Lc, Fo, Stx, Ri, Br, Ro, (x_out Ot t0), Sy])) K S0 (.inl (some (x_i 1))) h') : Ev g yL_law_ cL_law_ 7 (some .boolean) [] 60 1693 [some (x_r 1), some (x_r (16 * 1 + 0)), some (x_r (16 * 32 + 0)), some (x_r (16 * 27 + 0)), some (x_i (i : Int)), none, none] [] (al, ro, fl (ml (x_ac M A) [1, 2, 3, 4, 5, 18, 19, 20, 21, 22, 23, 24, 25, 26, 27, 32] [X, T, N, Dr, Kp, Th, La, Lb, Lc, Fo, St, Ri, Br, Ro, Ot, S])) (1 + K) (6 + S0) (.inl (some (x_i 1))) h' := by
  have hn : ([1, 2, 3, 4, 5, 18, 19, 20, 21, 22, 23, 24, 25, 26, 27, 32] : List Nat).Nodup := by decide
  refine e_aloadn (pc := 1693) (i := 1) dL_law__1693 rfl rfl ?_
  refine e_aloadn (pc := 1694) (i := 0) dL_law__1694 rfl rfl ?_
  refine e_iload (pc := 1695) dL_law__1695 rfl ?_
  refine e_iconst (pc := 1697) dL_law__1697 (x_R rfl) ?_
  refine e_iadd (pc := 1698) dL_law__1698 ?_
  rw [show x_add (i : Int) 1 = ((i + 1 : Nat) : Int) from x_ni (k := 1) (by omega)]
  refine e_sld (pc := 1699) dL_law__1699 (by omega) (by omega) ?_
  show Ev g _ _ _ _ _ _ 1700 [some (x_r 1), some (x_r (16 * 1 + 0)), some (x_r (16 * 32 + 0)), some (x_r (16 * 27 + 0)), some (x_i (i : Int)), none, none] [x_i (x_sc g (i + 1)), x_r (16 * 1 + 0)] (al, ro, fl (ml (x_ac M A) [1, 2, 3, 4, 5, 18, 19, 20, 21, 22, 23, 24, 25, 26, 27, 32] [X, T, N, Dr, Kp, Th, La, Lb, Lc, Fo, St, Ri, Br, Ro, Ot, S])) _ _ _ _
  refine e_aloadn (pc := 1700) (i := 0) dL_law__1700 rfl rfl ?_
  refine e_iload (pc := 1701) dL_law__1701 rfl ?_
  refine e_iconst (pc := 1703) dL_law__1703 (x_R rfl) ?_
  refine e_iadd (pc := 1704) dL_law__1704 ?_
  rw [show x_add (i : Int) 2 = ((i + 2 : Nat) : Int) from x_ni (k := 2) (by omega)]
  refine e_sld (pc := 1705) dL_law__1705 (by omega) (by omega) ?_
  show Ev g _ _ _ _ _ _ 1706 [some (x_r 1), some (x_r (16 * 1 + 0)), some (x_r (16 * 32 + 0)), some (x_r (16 * 27 + 0)), some (x_i (i : Int)), none, none] [x_i (x_sc g (i + 2)), x_i (x_sc g (i + 1)), x_r (16 * 1 + 0)] (al, ro, fl (ml (x_ac M A) [1, 2, 3, 4, 5, 18, 19, 20, 21, 22, 23, 24, 25, 26, 27, 32] [X, T, N, Dr, Kp, Th, La, Lb, Lc, Fo, St, Ri, Br, Ro, Ot, S])) _ _ _ _
  have key1 : ∀ z1 : Int, z1 = x_zb (x_sc g (i + 2)) → Ev g yL_law_ cL_law_ 7 (some .boolean) [] 60 1714 [some (x_r 1), some (x_r (16 * 1 + 0)), some (x_r (16 * 32 + 0)), some (x_r (16 * 27 + 0)), some (x_i (i : Int)), none, none] [x_i z1, x_i (x_sc g (i + 1)), x_r (16 * 1 + 0)] (al, ro, fl (ml (x_ac M A) [1, 2, 3, 4, 5, 18, 19, 20, 21, 22, 23, 24, 25, 26, 27, 32] [X, T, N, Dr, Kp, Th, La, Lb, Lc, Fo, St, Ri, Br, Ro, Ot, S])) (1 + K) (6 + S0) (.inl (some (x_i 1))) h' := by
    intro z1 hz
    subst hz
    refine e_aloadn (pc := 1714) (i := 3) dL_law__1714 rfl rfl ?_
    refine e_invSH (pc := 1715) (K1 := 1) (S1 := 6) (K := K) (S := S0) (dd2 := 6) (av := [x_r (16 * 1 + 0), x_i (x_sc g (i + 1)), x_i (x_zb (x_sc g (i + 2))), x_r (16 * 27 + 0)]) (st := []) dL_law__1715 (xmH_trade 247 (x_inB (x_t6 (List.mem_of_getElem? (i := 45) rfl)) rfl)) rfl (f_calH (M := (x_ac M A)) (us2 := [3, 23, 27]) [2, 10, 14] hn rfl (And.intro rfl (And.intro rfl (And.intro rfl trivial))) rfl rfl rfl (c_L_trade hst hs ho hX hE)) (by decide) (Nat.le_of_ble_eq_true rfl) (Or.inl rfl) ?_
    show Ev g _ _ _ _ _ _ 1718 [some (x_r 1), some (x_r (16 * 1 + 0)), some (x_r (16 * 32 + 0)), some (x_r (16 * 27 + 0)), some (x_i (i : Int)), none, none] [x_i (x_wc [1] t0)] (al, ro, fl (ml (x_ac M A) [1, 2, 3, 4, 5, 18, 19, 20, 21, 22, 23, 24, 25, 26, 27, 32] [X, T, N, Dr, Kp, Th, La, Lb, Lc, Fo, Stx, Ri, Br, Ro, (x_out Ot t0), S])) _ _ _ _
    refine e_istore (pc := 1718) (i := 5) dL_law__1718 (by decide) rfl ?_
    show Ev g _ _ _ _ _ _ 1720 [some (x_r 1), some (x_r (16 * 1 + 0)), some (x_r (16 * 32 + 0)), some (x_r (16 * 27 + 0)), some (x_i (i : Int)), some (x_i (x_wc [1] t0)), none] [] (al, ro, fl (ml (x_ac M A) [1, 2, 3, 4, 5, 18, 19, 20, 21, 22, 23, 24, 25, 26, 27, 32] [X, T, N, Dr, Kp, Th, La, Lb, Lc, Fo, Stx, Ri, Br, Ro, (x_out Ot t0), S])) _ _ _ _
    refine e_aloadn (pc := 1720) (i := 2) dL_law__1720 rfl rfl ?_
    refine e_aloadn (pc := 1721) (i := 0) dL_law__1721 rfl rfl ?_
    refine e_iload (pc := 1722) dL_law__1722 rfl ?_
    refine e_iconst (pc := 1724) dL_law__1724 (x_R rfl) ?_
    refine e_iadd (pc := 1725) dL_law__1725 ?_
    rw [show x_add (i : Int) 1 = ((i + 1 : Nat) : Int) from x_ni (k := 1) (by omega)]
    refine e_sld (pc := 1726) dL_law__1726 (by omega) (by omega) ?_
    show Ev g _ _ _ _ _ _ 1727 [some (x_r 1), some (x_r (16 * 1 + 0)), some (x_r (16 * 32 + 0)), some (x_r (16 * 27 + 0)), some (x_i (i : Int)), some (x_i (x_wc [1] t0)), none] [x_i (x_sc g (i + 1)), x_r (16 * 32 + 0)] (al, ro, fl (ml (x_ac M A) [1, 2, 3, 4, 5, 18, 19, 20, 21, 22, 23, 24, 25, 26, 27, 32] [X, T, N, Dr, Kp, Th, La, Lb, Lc, Fo, Stx, Ri, Br, Ro, (x_out Ot t0), S])) _ _ _ _
    refine e_aloadn (pc := 1727) (i := 0) dL_law__1727 rfl rfl ?_
    refine e_iload (pc := 1728) dL_law__1728 rfl ?_
    refine e_iconst (pc := 1730) dL_law__1730 (x_R rfl) ?_
    refine e_iadd (pc := 1731) dL_law__1731 ?_
    rw [show x_add (i : Int) 2 = ((i + 2 : Nat) : Int) from x_ni (k := 2) (by omega)]
    refine e_sld (pc := 1732) dL_law__1732 (by omega) (by omega) ?_
    show Ev g _ _ _ _ _ _ 1733 [some (x_r 1), some (x_r (16 * 1 + 0)), some (x_r (16 * 32 + 0)), some (x_r (16 * 27 + 0)), some (x_i (i : Int)), some (x_i (x_wc [1] t0)), none] [x_i (x_sc g (i + 2)), x_i (x_sc g (i + 1)), x_r (16 * 32 + 0)] (al, ro, fl (ml (x_ac M A) [1, 2, 3, 4, 5, 18, 19, 20, 21, 22, 23, 24, 25, 26, 27, 32] [X, T, N, Dr, Kp, Th, La, Lb, Lc, Fo, Stx, Ri, Br, Ro, (x_out Ot t0), S])) _ _ _ _
    have key2 : ∀ z2 : Int, z2 = x_zb (x_sc g (i + 2)) → Ev g yL_law_ cL_law_ 7 (some .boolean) [] 60 1741 [some (x_r 1), some (x_r (16 * 1 + 0)), some (x_r (16 * 32 + 0)), some (x_r (16 * 27 + 0)), some (x_i (i : Int)), some (x_i (x_wc [1] t0)), none] [x_i z2, x_i (x_sc g (i + 1)), x_r (16 * 32 + 0)] (al, ro, fl (ml (x_ac M A) [1, 2, 3, 4, 5, 18, 19, 20, 21, 22, 23, 24, 25, 26, 27, 32] [X, T, N, Dr, Kp, Th, La, Lb, Lc, Fo, Stx, Ri, Br, Ro, (x_out Ot t0), S])) K S0 (.inl (some (x_i 1))) h' := by
      intro z2 hz
      subst hz
      refine e_wide (K0 := 0 + K) (S0 := 0 + S0) (by omega) (by omega) ?_
      refine e_invV (pc := 1741) (K1 := 0) (S1 := 0) (K := K) (S := S0) (dd2 := 5) (av := [x_i (x_sc g (i + 1)), x_i (x_zb (x_sc g (i + 2)))]) (st := []) (id := 16 * 32 + 0) dL_law__1741 xmL_249 rfl (Or.inl ⟨10, 27, TX12, (sa_32_0 hs), rfl, by decide⟩) (f_cal (M := (x_ac M A)) (us2 := [32]) [15] hn rfl (And.intro rfl trivial) rfl rfl rfl (c_X12_trade hst hs hS)) (by decide) (Nat.le_of_ble_eq_true rfl) (Or.inl rfl) ?_
      show Ev g _ _ _ _ _ _ 1744 [some (x_r 1), some (x_r (16 * 1 + 0)), some (x_r (16 * 32 + 0)), some (x_r (16 * 27 + 0)), some (x_i (i : Int)), some (x_i (x_wc [1] t0)), none] [x_i b] (al, ro, fl (ml (x_ac M A) [1, 2, 3, 4, 5, 18, 19, 20, 21, 22, 23, 24, 25, 26, 27, 32] [X, T, N, Dr, Kp, Th, La, Lb, Lc, Fo, Stx, Ri, Br, Ro, (x_out Ot t0), Sy])) _ _ _ _
      refine e_istore (pc := 1744) (i := 6) dL_law__1744 (by decide) rfl ?_
      show Ev g _ _ _ _ _ _ 1746 [some (x_r 1), some (x_r (16 * 1 + 0)), some (x_r (16 * 32 + 0)), some (x_r (16 * 27 + 0)), some (x_i (i : Int)), some (x_i (x_wc [1] t0)), some (x_i b)] [] (al, ro, fl (ml (x_ac M A) [1, 2, 3, 4, 5, 18, 19, 20, 21, 22, 23, 24, 25, 26, 27, 32] [X, T, N, Dr, Kp, Th, La, Lb, Lc, Fo, Stx, Ri, Br, Ro, (x_out Ot t0), Sy])) _ _ _ _
      refine e_aloadn (pc := 1746) (i := 2) dL_law__1746 rfl rfl ?_
      refine e_wide (K0 := 0 + K) (S0 := 0 + S0) (by omega) (by omega) ?_
      refine e_invV (pc := 1747) (K1 := 0) (S1 := 0) (K := K) (S := S0) (dd2 := 0) (av := []) (st := []) (id := 16 * 32 + 0) dL_law__1747 xmL_156 rfl (Or.inl ⟨10, 27, TX12, (sa_32_0 hs), rfl, by decide⟩) (f_cal (M := (x_ac M A)) (us2 := [32]) [15] hn rfl (And.intro rfl trivial) rfl rfl rfl (c_X12_thrown hst hs (show G12_thrown Sy = some (Sy 0 0) from rfl))) (by decide) (Nat.le_of_ble_eq_true rfl) (Or.inl rfl) ?_
      show Ev g _ _ _ _ _ _ 1750 [some (x_r 1), some (x_r (16 * 1 + 0)), some (x_r (16 * 32 + 0)), some (x_r (16 * 27 + 0)), some (x_i (i : Int)), some (x_i (x_wc [1] t0)), some (x_i b)] [x_i (Sy 0 0)] (al, ro, fl (ml (x_ac M A) [1, 2, 3, 4, 5, 18, 19, 20, 21, 22, 23, 24, 25, 26, 27, 32] [X, T, N, Dr, Kp, Th, La, Lb, Lc, Fo, Stx, Ri, Br, Ro, (x_out Ot t0), Sy])) _ _ _ _
      have hk : Sy 0 0 = x_wc [1] t0 := x_ag_k hA
      refine e_iload (pc := 1750) dL_law__1750 rfl ?_
      refine e_icmp_eq (pc := 1752) (tgt := 1757) dL_law__1752 (by decide) (fun _ => ?_) (fun q => absurd hk q)
      refine e_iload (pc := 1757) dL_law__1757 rfl ?_
      cases t0 with
      | inr E =>
        refine e_if_ne (pc := 1759) (tgt := 1774) dL_law__1759 (by decide) (fun _ => ?_) (fun q => absurd q (x_wc_r [1] E))
        refine e_goto (pc := 1774) (tgt := 3041) dL_law__1774 (by decide) ?_
        refine e_drop (i := 5) ?_
        refine e_drop (i := 6) ?_
        exact kk
      | inl v =>
        refine e_if_ne (pc := 1759) (tgt := 1774) dL_law__1759 (by decide) (fun q => absurd rfl q) (fun _ => ?_)
        refine e_aloadn (pc := 1762) (i := 3) dL_law__1762 rfl rfl ?_
        refine e_iconst (pc := 1763) dL_law__1763 (x_R rfl) ?_
        refine f_lald (pc := 1764) (k := 14) (u := 27) (q := 0) (len := 1) dL_law__1764 ho (by decide) hn rfl rfl (by decide) ?_
        refine e_iload (pc := 1765) dL_law__1765 rfl ?_
        refine e_i2l (pc := 1767) dL_law__1767 ?_
        refine e_lcmp (pc := 1768) dL_law__1768 ?_
        refine e_if_eq (pc := 1769) (tgt := 1774) dL_law__1769 (by decide) (fun _ => ?_) (fun q => absurd (x_lc (show v = b from hA.2.symm)) q)
        refine e_goto (pc := 1774) (tgt := 3041) dL_law__1774 (by decide) ?_
        refine e_drop (i := 5) ?_
        refine e_drop (i := 6) ?_
        exact kk
    refine e_if_eq (pc := 1733) (tgt := 1740) dL_law__1733 (by decide) (fun q => ?_) (fun q => ?_)
    · refine e_iconst (pc := 1740) dL_law__1740 (x_R rfl) ?_
      exact key2 0 (by rw [x_zb, if_pos q])
    · refine e_iconst (pc := 1736) dL_law__1736 (x_R rfl) ?_
      refine e_goto (pc := 1737) (tgt := 1741) dL_law__1737 (by decide) ?_
      exact key2 1 (by rw [x_zb, if_neg q])
  refine e_if_eq (pc := 1706) (tgt := 1713) dL_law__1706 (by decide) (fun q => ?_) (fun q => ?_)
  · refine e_iconst (pc := 1713) dL_law__1713 (x_R rfl) ?_
    exact key1 0 (by rw [x_zb, if_pos q])
  · refine e_iconst (pc := 1709) dL_law__1709 (x_R rfl) ?_
    refine e_goto (pc := 1710) (tgt := 1714) dL_law__1710 (by decide) ?_
    exact key1 1 (by rw [x_zb, if_neg q])
set_option maxRecDepth 100000 in
set_option maxHeartbeats 4000000 in
theorem k30 {g : xG} {al : List (Nat × Nat × Nat)} {ro : Nat → Nat → Option Nat} (hst : g.1.stackTraces = false) (hs : SH al ro) (ho : (16 * 27 + 0, 21, 1) ∈ al) {M : Nat → xU} {h' : xH} {i K S0 : Nat} (hi : i + 6 ≤ x_L g) (hL : x_L g < 2147483648) {X T N Dr Kp Th La Lb Lc Fo St Ri Br Ro Ot S : xU} {A : xA} {a : Int} {b : Int} {Sy : xU} (hX : G11_content N = some a) (hS : G12_content S = some (b, Sy)) (hA : a = b)
    (kk : Ev g yL_law_ cL_law_ 7 (some .boolean) [] 60 3041 [some (x_r 1), some (x_r (16 * 1 + 0)), some (x_r (16 * 32 + 0)), some (x_r (16 * 27 + 0)), some (x_i (i : Int)), none, none] [] (al, ro, fl (ml (x_ac M A) [1, 2, 3, 4, 5, 18, 19, 20, 21, 22, 23, 24, 25, 26, 27, 32] [X, T, N, Dr, Kp, Th, La, Lb, Lc, Fo, St, Ri, Br, Ro, Ot, Sy])) K S0 (.inl (some (x_i 1))) h') : Ev g yL_law_ cL_law_ 7 (some .boolean) [] 60 1777 [some (x_r 1), some (x_r (16 * 1 + 0)), some (x_r (16 * 32 + 0)), some (x_r (16 * 27 + 0)), some (x_i (i : Int)), none, none] [] (al, ro, fl (ml (x_ac M A) [1, 2, 3, 4, 5, 18, 19, 20, 21, 22, 23, 24, 25, 26, 27, 32] [X, T, N, Dr, Kp, Th, La, Lb, Lc, Fo, St, Ri, Br, Ro, Ot, S])) K S0 (.inl (some (x_i 1))) h' := by
  have hn : ([1, 2, 3, 4, 5, 18, 19, 20, 21, 22, 23, 24, 25, 26, 27, 32] : List Nat).Nodup := by decide
  refine e_aloadn (pc := 1777) (i := 1) dL_law__1777 rfl rfl ?_
  refine e_wide (K0 := 0 + K) (S0 := 0 + S0) (by omega) (by omega) ?_
  refine e_invV (pc := 1778) (K1 := 0) (S1 := 0) (K := K) (S := S0) (dd2 := 2) (av := []) (st := []) (id := 16 * 1 + 0) dL_law__1778 xmL_250 rfl (Or.inl ⟨9, 17, TX11, (sa_1_0 hs), rfl, by decide⟩) (f_cal (M := (x_ac M A)) (us2 := [3]) [2] hn rfl (And.intro rfl trivial) rfl rfl rfl (c_X11_content hst hs hX)) (by decide) (Nat.le_of_ble_eq_true rfl) (Or.inl rfl) ?_
  show Ev g _ _ _ _ _ _ 1781 [some (x_r 1), some (x_r (16 * 1 + 0)), some (x_r (16 * 32 + 0)), some (x_r (16 * 27 + 0)), some (x_i (i : Int)), none, none] [x_i a] (al, ro, fl (ml (x_ac M A) [1, 2, 3, 4, 5, 18, 19, 20, 21, 22, 23, 24, 25, 26, 27, 32] [X, T, N, Dr, Kp, Th, La, Lb, Lc, Fo, St, Ri, Br, Ro, Ot, S])) _ _ _ _
  refine e_aloadn (pc := 1781) (i := 2) dL_law__1781 rfl rfl ?_
  refine e_wide (K0 := 0 + K) (S0 := 0 + S0) (by omega) (by omega) ?_
  refine e_invV (pc := 1782) (K1 := 0) (S1 := 0) (K := K) (S := S0) (dd2 := 1) (av := []) (st := [x_i a]) (id := 16 * 32 + 0) dL_law__1782 xmL_253 rfl (Or.inl ⟨10, 27, TX12, (sa_32_0 hs), rfl, by decide⟩) (f_cal (M := (x_ac M A)) (us2 := [32]) [15] hn rfl (And.intro rfl trivial) rfl rfl rfl (c_X12_content hst hs hS)) (by decide) (Nat.le_of_ble_eq_true rfl) (Or.inl rfl) ?_
  show Ev g _ _ _ _ _ _ 1785 [some (x_r 1), some (x_r (16 * 1 + 0)), some (x_r (16 * 32 + 0)), some (x_r (16 * 27 + 0)), some (x_i (i : Int)), none, none] [x_i b, x_i a] (al, ro, fl (ml (x_ac M A) [1, 2, 3, 4, 5, 18, 19, 20, 21, 22, 23, 24, 25, 26, 27, 32] [X, T, N, Dr, Kp, Th, La, Lb, Lc, Fo, St, Ri, Br, Ro, Ot, Sy])) _ _ _ _
  refine e_icmp_eq (pc := 1785) (tgt := 3041) dL_law__1785 (by decide) (fun _ => ?_) (fun q => absurd hA q)
  exact kk
set_option maxRecDepth 100000 in
set_option maxHeartbeats 4000000 in
theorem k31 {g : xG} {al : List (Nat × Nat × Nat)} {ro : Nat → Nat → Option Nat} (hst : g.1.stackTraces = false) (hs : SH al ro) (ho : (16 * 27 + 0, 21, 1) ∈ al) {M : Nat → xU} {h' : xH} {i K S0 : Nat} (hi : i + 6 ≤ x_L g) (hL : x_L g < 2147483648) {X T N Dr Kp Th La Lb Lc Fo St Ri Br Ro Ot S : xU} {A : xA} {t0 : (Int ⊕ Nat)} {Tx : xU} {Rix : xU} {b : Int} {Sy : xU} (hX : G11_seen (x_zb (x_sc g (i + 1))) T N Ri = some (t0, Tx, Rix)) (hE : ∀ E, t0 = .inr E → E ∈ ([0] : List Nat)) (hS : G12_seen (x_zb (x_sc g (i + 1))) S = some (b, Sy)) (hA : Ag (x_cd [0]) t0 b Sy)
    (kk : Ev g yL_law_ cL_law_ 7 (some .boolean) [] 60 3041 [some (x_r 1), some (x_r (16 * 1 + 0)), some (x_r (16 * 32 + 0)), some (x_r (16 * 27 + 0)), some (x_i (i : Int)), none, none] [] (al, ro, fl (ml (x_ac M A) [1, 2, 3, 4, 5, 18, 19, 20, 21, 22, 23, 24, 25, 26, 27, 32] [X, Tx, N, Dr, Kp, Th, La, Lb, Lc, Fo, St, Rix, Br, Ro, (x_out Ot t0), Sy])) K S0 (.inl (some (x_i 1))) h') : Ev g yL_law_ cL_law_ 7 (some .boolean) [] 60 1790 [some (x_r 1), some (x_r (16 * 1 + 0)), some (x_r (16 * 32 + 0)), some (x_r (16 * 27 + 0)), some (x_i (i : Int)), none, none] [] (al, ro, fl (ml (x_ac M A) [1, 2, 3, 4, 5, 18, 19, 20, 21, 22, 23, 24, 25, 26, 27, 32] [X, T, N, Dr, Kp, Th, La, Lb, Lc, Fo, St, Ri, Br, Ro, Ot, S])) (1 + K) (6 + S0) (.inl (some (x_i 1))) h' := by
  have hn : ([1, 2, 3, 4, 5, 18, 19, 20, 21, 22, 23, 24, 25, 26, 27, 32] : List Nat).Nodup := by decide
  refine e_aloadn (pc := 1790) (i := 1) dL_law__1790 rfl rfl ?_
  refine e_aloadn (pc := 1791) (i := 0) dL_law__1791 rfl rfl ?_
  refine e_iload (pc := 1792) dL_law__1792 rfl ?_
  refine e_iconst (pc := 1794) dL_law__1794 (x_R rfl) ?_
  refine e_iadd (pc := 1795) dL_law__1795 ?_
  rw [show x_add (i : Int) 1 = ((i + 1 : Nat) : Int) from x_ni (k := 1) (by omega)]
  refine e_sld (pc := 1796) dL_law__1796 (by omega) (by omega) ?_
  show Ev g _ _ _ _ _ _ 1797 [some (x_r 1), some (x_r (16 * 1 + 0)), some (x_r (16 * 32 + 0)), some (x_r (16 * 27 + 0)), some (x_i (i : Int)), none, none] [x_i (x_sc g (i + 1)), x_r (16 * 1 + 0)] (al, ro, fl (ml (x_ac M A) [1, 2, 3, 4, 5, 18, 19, 20, 21, 22, 23, 24, 25, 26, 27, 32] [X, T, N, Dr, Kp, Th, La, Lb, Lc, Fo, St, Ri, Br, Ro, Ot, S])) _ _ _ _
  have key1 : ∀ z1 : Int, z1 = x_zb (x_sc g (i + 1)) → Ev g yL_law_ cL_law_ 7 (some .boolean) [] 60 1805 [some (x_r 1), some (x_r (16 * 1 + 0)), some (x_r (16 * 32 + 0)), some (x_r (16 * 27 + 0)), some (x_i (i : Int)), none, none] [x_i z1, x_r (16 * 1 + 0)] (al, ro, fl (ml (x_ac M A) [1, 2, 3, 4, 5, 18, 19, 20, 21, 22, 23, 24, 25, 26, 27, 32] [X, T, N, Dr, Kp, Th, La, Lb, Lc, Fo, St, Ri, Br, Ro, Ot, S])) (1 + K) (6 + S0) (.inl (some (x_i 1))) h' := by
    intro z1 hz
    subst hz
    refine e_aloadn (pc := 1805) (i := 3) dL_law__1805 rfl rfl ?_
    refine e_invSH (pc := 1806) (K1 := 1) (S1 := 6) (K := K) (S := S0) (dd2 := 6) (av := [x_r (16 * 1 + 0), x_i (x_zb (x_sc g (i + 1))), x_r (16 * 27 + 0)]) (st := []) dL_law__1806 (xmH_seen 254 (x_inB (x_t6 (List.mem_of_getElem? (i := 78) rfl)) rfl)) rfl (f_calH (M := (x_ac M A)) (us2 := [2, 3, 24, 27]) [1, 2, 11, 14] hn rfl (And.intro rfl (And.intro rfl (And.intro rfl (And.intro rfl trivial)))) rfl rfl rfl (c_L_seen hst hs ho hX hE)) (by decide) (Nat.le_of_ble_eq_true rfl) (Or.inl rfl) ?_
    show Ev g _ _ _ _ _ _ 1809 [some (x_r 1), some (x_r (16 * 1 + 0)), some (x_r (16 * 32 + 0)), some (x_r (16 * 27 + 0)), some (x_i (i : Int)), none, none] [x_i (x_wc [0] t0)] (al, ro, fl (ml (x_ac M A) [1, 2, 3, 4, 5, 18, 19, 20, 21, 22, 23, 24, 25, 26, 27, 32] [X, Tx, N, Dr, Kp, Th, La, Lb, Lc, Fo, St, Rix, Br, Ro, (x_out Ot t0), S])) _ _ _ _
    refine e_istore (pc := 1809) (i := 5) dL_law__1809 (by decide) rfl ?_
    show Ev g _ _ _ _ _ _ 1811 [some (x_r 1), some (x_r (16 * 1 + 0)), some (x_r (16 * 32 + 0)), some (x_r (16 * 27 + 0)), some (x_i (i : Int)), some (x_i (x_wc [0] t0)), none] [] (al, ro, fl (ml (x_ac M A) [1, 2, 3, 4, 5, 18, 19, 20, 21, 22, 23, 24, 25, 26, 27, 32] [X, Tx, N, Dr, Kp, Th, La, Lb, Lc, Fo, St, Rix, Br, Ro, (x_out Ot t0), S])) _ _ _ _
    refine e_aloadn (pc := 1811) (i := 2) dL_law__1811 rfl rfl ?_
    refine e_aloadn (pc := 1812) (i := 0) dL_law__1812 rfl rfl ?_
    refine e_iload (pc := 1813) dL_law__1813 rfl ?_
    refine e_iconst (pc := 1815) dL_law__1815 (x_R rfl) ?_
    refine e_iadd (pc := 1816) dL_law__1816 ?_
    rw [show x_add (i : Int) 1 = ((i + 1 : Nat) : Int) from x_ni (k := 1) (by omega)]
    refine e_sld (pc := 1817) dL_law__1817 (by omega) (by omega) ?_
    show Ev g _ _ _ _ _ _ 1818 [some (x_r 1), some (x_r (16 * 1 + 0)), some (x_r (16 * 32 + 0)), some (x_r (16 * 27 + 0)), some (x_i (i : Int)), some (x_i (x_wc [0] t0)), none] [x_i (x_sc g (i + 1)), x_r (16 * 32 + 0)] (al, ro, fl (ml (x_ac M A) [1, 2, 3, 4, 5, 18, 19, 20, 21, 22, 23, 24, 25, 26, 27, 32] [X, Tx, N, Dr, Kp, Th, La, Lb, Lc, Fo, St, Rix, Br, Ro, (x_out Ot t0), S])) _ _ _ _
    have key2 : ∀ z2 : Int, z2 = x_zb (x_sc g (i + 1)) → Ev g yL_law_ cL_law_ 7 (some .boolean) [] 60 1826 [some (x_r 1), some (x_r (16 * 1 + 0)), some (x_r (16 * 32 + 0)), some (x_r (16 * 27 + 0)), some (x_i (i : Int)), some (x_i (x_wc [0] t0)), none] [x_i z2, x_r (16 * 32 + 0)] (al, ro, fl (ml (x_ac M A) [1, 2, 3, 4, 5, 18, 19, 20, 21, 22, 23, 24, 25, 26, 27, 32] [X, Tx, N, Dr, Kp, Th, La, Lb, Lc, Fo, St, Rix, Br, Ro, (x_out Ot t0), S])) K S0 (.inl (some (x_i 1))) h' := by
      intro z2 hz
      subst hz
      refine e_wide (K0 := 0 + K) (S0 := 0 + S0) (by omega) (by omega) ?_
      refine e_invV (pc := 1826) (K1 := 0) (S1 := 0) (K := K) (S := S0) (dd2 := 2) (av := [x_i (x_zb (x_sc g (i + 1)))]) (st := []) (id := 16 * 32 + 0) dL_law__1826 xmL_257 rfl (Or.inl ⟨10, 27, TX12, (sa_32_0 hs), rfl, by decide⟩) (f_cal (M := (x_ac M A)) (us2 := [32]) [15] hn rfl (And.intro rfl trivial) rfl rfl rfl (c_X12_seen hst hs hS)) (by decide) (Nat.le_of_ble_eq_true rfl) (Or.inl rfl) ?_
      show Ev g _ _ _ _ _ _ 1829 [some (x_r 1), some (x_r (16 * 1 + 0)), some (x_r (16 * 32 + 0)), some (x_r (16 * 27 + 0)), some (x_i (i : Int)), some (x_i (x_wc [0] t0)), none] [x_i b] (al, ro, fl (ml (x_ac M A) [1, 2, 3, 4, 5, 18, 19, 20, 21, 22, 23, 24, 25, 26, 27, 32] [X, Tx, N, Dr, Kp, Th, La, Lb, Lc, Fo, St, Rix, Br, Ro, (x_out Ot t0), Sy])) _ _ _ _
      refine e_istore (pc := 1829) (i := 6) dL_law__1829 (by decide) rfl ?_
      show Ev g _ _ _ _ _ _ 1831 [some (x_r 1), some (x_r (16 * 1 + 0)), some (x_r (16 * 32 + 0)), some (x_r (16 * 27 + 0)), some (x_i (i : Int)), some (x_i (x_wc [0] t0)), some (x_i b)] [] (al, ro, fl (ml (x_ac M A) [1, 2, 3, 4, 5, 18, 19, 20, 21, 22, 23, 24, 25, 26, 27, 32] [X, Tx, N, Dr, Kp, Th, La, Lb, Lc, Fo, St, Rix, Br, Ro, (x_out Ot t0), Sy])) _ _ _ _
      refine e_aloadn (pc := 1831) (i := 2) dL_law__1831 rfl rfl ?_
      refine e_wide (K0 := 0 + K) (S0 := 0 + S0) (by omega) (by omega) ?_
      refine e_invV (pc := 1832) (K1 := 0) (S1 := 0) (K := K) (S := S0) (dd2 := 0) (av := []) (st := []) (id := 16 * 32 + 0) dL_law__1832 xmL_156 rfl (Or.inl ⟨10, 27, TX12, (sa_32_0 hs), rfl, by decide⟩) (f_cal (M := (x_ac M A)) (us2 := [32]) [15] hn rfl (And.intro rfl trivial) rfl rfl rfl (c_X12_thrown hst hs (show G12_thrown Sy = some (Sy 0 0) from rfl))) (by decide) (Nat.le_of_ble_eq_true rfl) (Or.inl rfl) ?_
      show Ev g _ _ _ _ _ _ 1835 [some (x_r 1), some (x_r (16 * 1 + 0)), some (x_r (16 * 32 + 0)), some (x_r (16 * 27 + 0)), some (x_i (i : Int)), some (x_i (x_wc [0] t0)), some (x_i b)] [x_i (Sy 0 0)] (al, ro, fl (ml (x_ac M A) [1, 2, 3, 4, 5, 18, 19, 20, 21, 22, 23, 24, 25, 26, 27, 32] [X, Tx, N, Dr, Kp, Th, La, Lb, Lc, Fo, St, Rix, Br, Ro, (x_out Ot t0), Sy])) _ _ _ _
      have hk : Sy 0 0 = x_wc [0] t0 := x_ag_k hA
      refine e_iload (pc := 1835) dL_law__1835 rfl ?_
      refine e_icmp_eq (pc := 1837) (tgt := 1842) dL_law__1837 (by decide) (fun _ => ?_) (fun q => absurd hk q)
      refine e_iload (pc := 1842) dL_law__1842 rfl ?_
      cases t0 with
      | inr E =>
        refine e_if_ne (pc := 1844) (tgt := 1859) dL_law__1844 (by decide) (fun _ => ?_) (fun q => absurd q (x_wc_r [0] E))
        refine e_goto (pc := 1859) (tgt := 3041) dL_law__1859 (by decide) ?_
        refine e_drop (i := 5) ?_
        refine e_drop (i := 6) ?_
        exact kk
      | inl v =>
        refine e_if_ne (pc := 1844) (tgt := 1859) dL_law__1844 (by decide) (fun q => absurd rfl q) (fun _ => ?_)
        refine e_aloadn (pc := 1847) (i := 3) dL_law__1847 rfl rfl ?_
        refine e_iconst (pc := 1848) dL_law__1848 (x_R rfl) ?_
        refine f_lald (pc := 1849) (k := 14) (u := 27) (q := 0) (len := 1) dL_law__1849 ho (by decide) hn rfl rfl (by decide) ?_
        refine e_iload (pc := 1850) dL_law__1850 rfl ?_
        refine e_i2l (pc := 1852) dL_law__1852 ?_
        refine e_lcmp (pc := 1853) dL_law__1853 ?_
        refine e_if_eq (pc := 1854) (tgt := 1859) dL_law__1854 (by decide) (fun _ => ?_) (fun q => absurd (x_lc (show v = b from hA.2.symm)) q)
        refine e_goto (pc := 1859) (tgt := 3041) dL_law__1859 (by decide) ?_
        refine e_drop (i := 5) ?_
        refine e_drop (i := 6) ?_
        exact kk
    refine e_if_eq (pc := 1818) (tgt := 1825) dL_law__1818 (by decide) (fun q => ?_) (fun q => ?_)
    · refine e_iconst (pc := 1825) dL_law__1825 (x_R rfl) ?_
      exact key2 0 (by rw [x_zb, if_pos q])
    · refine e_iconst (pc := 1821) dL_law__1821 (x_R rfl) ?_
      refine e_goto (pc := 1822) (tgt := 1826) dL_law__1822 (by decide) ?_
      exact key2 1 (by rw [x_zb, if_neg q])
  refine e_if_eq (pc := 1797) (tgt := 1804) dL_law__1797 (by decide) (fun q => ?_) (fun q => ?_)
  · refine e_iconst (pc := 1804) dL_law__1804 (x_R rfl) ?_
    exact key1 0 (by rw [x_zb, if_pos q])
  · refine e_iconst (pc := 1800) dL_law__1800 (x_R rfl) ?_
    refine e_goto (pc := 1801) (tgt := 1805) dL_law__1801 (by decide) ?_
    exact key1 1 (by rw [x_zb, if_neg q])
set_option maxRecDepth 100000 in
set_option maxHeartbeats 4000000 in
theorem k32 {g : xG} {al : List (Nat × Nat × Nat)} {ro : Nat → Nat → Option Nat} (hst : g.1.stackTraces = false) (hs : SH al ro) (ho : (16 * 27 + 0, 21, 1) ∈ al) {M : Nat → xU} {h' : xH} {i K S0 : Nat} (hi : i + 6 ≤ x_L g) (hL : x_L g < 2147483648) {X T N Dr Kp Th La Lb Lc Fo St Ri Br Ro Ot S : xU} {A : xA} {t0 : (Int ⊕ Nat)} {Tx : xU} {Rix : xU} {b : Int} {Sy : xU} (hX : G11_ask T N Ri = some (t0, Tx, Rix)) (hE : ∀ E, t0 = .inr E → E ∈ ([0] : List Nat)) (hS : G12_ask S = some (b, Sy)) (hA : Ag (x_cd [0]) t0 b Sy)
    (kk : Ev g yL_law_ cL_law_ 7 (some .boolean) [] 60 3041 [some (x_r 1), some (x_r (16 * 1 + 0)), some (x_r (16 * 32 + 0)), some (x_r (16 * 27 + 0)), some (x_i (i : Int)), none, none] [] (al, ro, fl (ml (x_ac M A) [1, 2, 3, 4, 5, 18, 19, 20, 21, 22, 23, 24, 25, 26, 27, 32] [X, Tx, N, Dr, Kp, Th, La, Lb, Lc, Fo, St, Rix, Br, Ro, (x_out Ot t0), Sy])) K S0 (.inl (some (x_i 1))) h') : Ev g yL_law_ cL_law_ 7 (some .boolean) [] 60 1862 [some (x_r 1), some (x_r (16 * 1 + 0)), some (x_r (16 * 32 + 0)), some (x_r (16 * 27 + 0)), some (x_i (i : Int)), none, none] [] (al, ro, fl (ml (x_ac M A) [1, 2, 3, 4, 5, 18, 19, 20, 21, 22, 23, 24, 25, 26, 27, 32] [X, T, N, Dr, Kp, Th, La, Lb, Lc, Fo, St, Ri, Br, Ro, Ot, S])) (1 + K) (6 + S0) (.inl (some (x_i 1))) h' := by
  have hn : ([1, 2, 3, 4, 5, 18, 19, 20, 21, 22, 23, 24, 25, 26, 27, 32] : List Nat).Nodup := by decide
  refine e_aloadn (pc := 1862) (i := 1) dL_law__1862 rfl rfl ?_
  refine e_aloadn (pc := 1863) (i := 3) dL_law__1863 rfl rfl ?_
  refine e_invSH (pc := 1864) (K1 := 1) (S1 := 6) (K := K) (S := S0) (dd2 := 6) (av := [x_r (16 * 1 + 0), x_r (16 * 27 + 0)]) (st := []) dL_law__1864 (xmH_ask 258 (x_inB (x_t6 (List.mem_of_getElem? (i := 114) rfl)) rfl)) rfl (f_calH (M := (x_ac M A)) (us2 := [2, 3, 24, 27]) [1, 2, 11, 14] hn rfl (And.intro rfl (And.intro rfl (And.intro rfl (And.intro rfl trivial)))) rfl rfl rfl (c_L_ask hst hs ho hX hE)) (by decide) (Nat.le_of_ble_eq_true rfl) (Or.inl rfl) ?_
  show Ev g _ _ _ _ _ _ 1867 [some (x_r 1), some (x_r (16 * 1 + 0)), some (x_r (16 * 32 + 0)), some (x_r (16 * 27 + 0)), some (x_i (i : Int)), none, none] [x_i (x_wc [0] t0)] (al, ro, fl (ml (x_ac M A) [1, 2, 3, 4, 5, 18, 19, 20, 21, 22, 23, 24, 25, 26, 27, 32] [X, Tx, N, Dr, Kp, Th, La, Lb, Lc, Fo, St, Rix, Br, Ro, (x_out Ot t0), S])) _ _ _ _
  refine e_istore (pc := 1867) (i := 5) dL_law__1867 (by decide) rfl ?_
  show Ev g _ _ _ _ _ _ 1869 [some (x_r 1), some (x_r (16 * 1 + 0)), some (x_r (16 * 32 + 0)), some (x_r (16 * 27 + 0)), some (x_i (i : Int)), some (x_i (x_wc [0] t0)), none] [] (al, ro, fl (ml (x_ac M A) [1, 2, 3, 4, 5, 18, 19, 20, 21, 22, 23, 24, 25, 26, 27, 32] [X, Tx, N, Dr, Kp, Th, La, Lb, Lc, Fo, St, Rix, Br, Ro, (x_out Ot t0), S])) _ _ _ _
  refine e_aloadn (pc := 1869) (i := 2) dL_law__1869 rfl rfl ?_
  refine e_wide (K0 := 0 + K) (S0 := 0 + S0) (by omega) (by omega) ?_
  refine e_invV (pc := 1870) (K1 := 0) (S1 := 0) (K := K) (S := S0) (dd2 := 2) (av := []) (st := []) (id := 16 * 32 + 0) dL_law__1870 xmL_260 rfl (Or.inl ⟨10, 27, TX12, (sa_32_0 hs), rfl, by decide⟩) (f_cal (M := (x_ac M A)) (us2 := [32]) [15] hn rfl (And.intro rfl trivial) rfl rfl rfl (c_X12_ask hst hs hS)) (by decide) (Nat.le_of_ble_eq_true rfl) (Or.inl rfl) ?_
  show Ev g _ _ _ _ _ _ 1873 [some (x_r 1), some (x_r (16 * 1 + 0)), some (x_r (16 * 32 + 0)), some (x_r (16 * 27 + 0)), some (x_i (i : Int)), some (x_i (x_wc [0] t0)), none] [x_i b] (al, ro, fl (ml (x_ac M A) [1, 2, 3, 4, 5, 18, 19, 20, 21, 22, 23, 24, 25, 26, 27, 32] [X, Tx, N, Dr, Kp, Th, La, Lb, Lc, Fo, St, Rix, Br, Ro, (x_out Ot t0), Sy])) _ _ _ _
  refine e_istore (pc := 1873) (i := 6) dL_law__1873 (by decide) rfl ?_
  show Ev g _ _ _ _ _ _ 1875 [some (x_r 1), some (x_r (16 * 1 + 0)), some (x_r (16 * 32 + 0)), some (x_r (16 * 27 + 0)), some (x_i (i : Int)), some (x_i (x_wc [0] t0)), some (x_i b)] [] (al, ro, fl (ml (x_ac M A) [1, 2, 3, 4, 5, 18, 19, 20, 21, 22, 23, 24, 25, 26, 27, 32] [X, Tx, N, Dr, Kp, Th, La, Lb, Lc, Fo, St, Rix, Br, Ro, (x_out Ot t0), Sy])) _ _ _ _
  refine e_aloadn (pc := 1875) (i := 2) dL_law__1875 rfl rfl ?_
  refine e_wide (K0 := 0 + K) (S0 := 0 + S0) (by omega) (by omega) ?_
  refine e_invV (pc := 1876) (K1 := 0) (S1 := 0) (K := K) (S := S0) (dd2 := 0) (av := []) (st := []) (id := 16 * 32 + 0) dL_law__1876 xmL_156 rfl (Or.inl ⟨10, 27, TX12, (sa_32_0 hs), rfl, by decide⟩) (f_cal (M := (x_ac M A)) (us2 := [32]) [15] hn rfl (And.intro rfl trivial) rfl rfl rfl (c_X12_thrown hst hs (show G12_thrown Sy = some (Sy 0 0) from rfl))) (by decide) (Nat.le_of_ble_eq_true rfl) (Or.inl rfl) ?_
  show Ev g _ _ _ _ _ _ 1879 [some (x_r 1), some (x_r (16 * 1 + 0)), some (x_r (16 * 32 + 0)), some (x_r (16 * 27 + 0)), some (x_i (i : Int)), some (x_i (x_wc [0] t0)), some (x_i b)] [x_i (Sy 0 0)] (al, ro, fl (ml (x_ac M A) [1, 2, 3, 4, 5, 18, 19, 20, 21, 22, 23, 24, 25, 26, 27, 32] [X, Tx, N, Dr, Kp, Th, La, Lb, Lc, Fo, St, Rix, Br, Ro, (x_out Ot t0), Sy])) _ _ _ _
  have hk : Sy 0 0 = x_wc [0] t0 := x_ag_k hA
  refine e_iload (pc := 1879) dL_law__1879 rfl ?_
  refine e_icmp_eq (pc := 1881) (tgt := 1886) dL_law__1881 (by decide) (fun _ => ?_) (fun q => absurd hk q)
  refine e_iload (pc := 1886) dL_law__1886 rfl ?_
  cases t0 with
  | inr E =>
    refine e_if_ne (pc := 1888) (tgt := 1903) dL_law__1888 (by decide) (fun _ => ?_) (fun q => absurd q (x_wc_r [0] E))
    refine e_goto (pc := 1903) (tgt := 3041) dL_law__1903 (by decide) ?_
    refine e_drop (i := 5) ?_
    refine e_drop (i := 6) ?_
    exact kk
  | inl v =>
    refine e_if_ne (pc := 1888) (tgt := 1903) dL_law__1888 (by decide) (fun q => absurd rfl q) (fun _ => ?_)
    refine e_aloadn (pc := 1891) (i := 3) dL_law__1891 rfl rfl ?_
    refine e_iconst (pc := 1892) dL_law__1892 (x_R rfl) ?_
    refine f_lald (pc := 1893) (k := 14) (u := 27) (q := 0) (len := 1) dL_law__1893 ho (by decide) hn rfl rfl (by decide) ?_
    refine e_iload (pc := 1894) dL_law__1894 rfl ?_
    refine e_i2l (pc := 1896) dL_law__1896 ?_
    refine e_lcmp (pc := 1897) dL_law__1897 ?_
    refine e_if_eq (pc := 1898) (tgt := 1903) dL_law__1898 (by decide) (fun _ => ?_) (fun q => absurd (x_lc (show v = b from hA.2.symm)) q)
    refine e_goto (pc := 1903) (tgt := 3041) dL_law__1903 (by decide) ?_
    refine e_drop (i := 5) ?_
    refine e_drop (i := 6) ?_
    exact kk
set_option maxRecDepth 100000 in
set_option maxHeartbeats 4000000 in
theorem k33 {g : xG} {al : List (Nat × Nat × Nat)} {ro : Nat → Nat → Option Nat} (hst : g.1.stackTraces = false) (hs : SH al ro) (ho : (16 * 27 + 0, 21, 1) ∈ al) {M : Nat → xU} {h' : xH} {i K S0 : Nat} (hi : i + 6 ≤ x_L g) (hL : x_L g < 2147483648) {X T N Dr Kp Th La Lb Lc Fo St Ri Br Ro Ot S : xU} {A : xA} {t0 : (Int ⊕ Nat)} {Tx : xU} {Rix : xU} {b : Int} {Sy : xU} (hX : G11_rule (x_zb (x_sc g (i + 1))) T Ri = some (t0, Tx, Rix)) (hE : ∀ E, t0 = .inr E → E ∈ ([0] : List Nat)) (hS : G12_rule (x_zb (x_sc g (i + 1))) S = some (b, Sy)) (hA : Ag (x_cd [0]) t0 b Sy)
    (kk : Ev g yL_law_ cL_law_ 7 (some .boolean) [] 60 3041 [some (x_r 1), some (x_r (16 * 1 + 0)), some (x_r (16 * 32 + 0)), some (x_r (16 * 27 + 0)), some (x_i (i : Int)), none, none] [] (al, ro, fl (ml (x_ac M A) [1, 2, 3, 4, 5, 18, 19, 20, 21, 22, 23, 24, 25, 26, 27, 32] [X, Tx, N, Dr, Kp, Th, La, Lb, Lc, Fo, St, Rix, Br, Ro, (x_out Ot t0), Sy])) K S0 (.inl (some (x_i 1))) h') : Ev g yL_law_ cL_law_ 7 (some .boolean) [] 60 1906 [some (x_r 1), some (x_r (16 * 1 + 0)), some (x_r (16 * 32 + 0)), some (x_r (16 * 27 + 0)), some (x_i (i : Int)), none, none] [] (al, ro, fl (ml (x_ac M A) [1, 2, 3, 4, 5, 18, 19, 20, 21, 22, 23, 24, 25, 26, 27, 32] [X, T, N, Dr, Kp, Th, La, Lb, Lc, Fo, St, Ri, Br, Ro, Ot, S])) (1 + K) (6 + S0) (.inl (some (x_i 1))) h' := by
  have hn : ([1, 2, 3, 4, 5, 18, 19, 20, 21, 22, 23, 24, 25, 26, 27, 32] : List Nat).Nodup := by decide
  refine e_aloadn (pc := 1906) (i := 1) dL_law__1906 rfl rfl ?_
  refine e_aloadn (pc := 1907) (i := 0) dL_law__1907 rfl rfl ?_
  refine e_iload (pc := 1908) dL_law__1908 rfl ?_
  refine e_iconst (pc := 1910) dL_law__1910 (x_R rfl) ?_
  refine e_iadd (pc := 1911) dL_law__1911 ?_
  rw [show x_add (i : Int) 1 = ((i + 1 : Nat) : Int) from x_ni (k := 1) (by omega)]
  refine e_sld (pc := 1912) dL_law__1912 (by omega) (by omega) ?_
  show Ev g _ _ _ _ _ _ 1913 [some (x_r 1), some (x_r (16 * 1 + 0)), some (x_r (16 * 32 + 0)), some (x_r (16 * 27 + 0)), some (x_i (i : Int)), none, none] [x_i (x_sc g (i + 1)), x_r (16 * 1 + 0)] (al, ro, fl (ml (x_ac M A) [1, 2, 3, 4, 5, 18, 19, 20, 21, 22, 23, 24, 25, 26, 27, 32] [X, T, N, Dr, Kp, Th, La, Lb, Lc, Fo, St, Ri, Br, Ro, Ot, S])) _ _ _ _
  have key1 : ∀ z1 : Int, z1 = x_zb (x_sc g (i + 1)) → Ev g yL_law_ cL_law_ 7 (some .boolean) [] 60 1921 [some (x_r 1), some (x_r (16 * 1 + 0)), some (x_r (16 * 32 + 0)), some (x_r (16 * 27 + 0)), some (x_i (i : Int)), none, none] [x_i z1, x_r (16 * 1 + 0)] (al, ro, fl (ml (x_ac M A) [1, 2, 3, 4, 5, 18, 19, 20, 21, 22, 23, 24, 25, 26, 27, 32] [X, T, N, Dr, Kp, Th, La, Lb, Lc, Fo, St, Ri, Br, Ro, Ot, S])) (1 + K) (6 + S0) (.inl (some (x_i 1))) h' := by
    intro z1 hz
    subst hz
    refine e_aloadn (pc := 1921) (i := 3) dL_law__1921 rfl rfl ?_
    refine e_invSH (pc := 1922) (K1 := 1) (S1 := 6) (K := K) (S := S0) (dd2 := 6) (av := [x_r (16 * 1 + 0), x_i (x_zb (x_sc g (i + 1))), x_r (16 * 27 + 0)]) (st := []) dL_law__1922 (xmH_rule 261 (x_inB (x_t6 (List.mem_of_getElem? (i := 131) rfl)) rfl)) rfl (f_calH (M := (x_ac M A)) (us2 := [2, 24, 27]) [1, 11, 14] hn rfl (And.intro rfl (And.intro rfl (And.intro rfl trivial))) rfl rfl rfl (c_L_rule hst hs ho hX hE)) (by decide) (Nat.le_of_ble_eq_true rfl) (Or.inl rfl) ?_
    show Ev g _ _ _ _ _ _ 1925 [some (x_r 1), some (x_r (16 * 1 + 0)), some (x_r (16 * 32 + 0)), some (x_r (16 * 27 + 0)), some (x_i (i : Int)), none, none] [x_i (x_wc [0] t0)] (al, ro, fl (ml (x_ac M A) [1, 2, 3, 4, 5, 18, 19, 20, 21, 22, 23, 24, 25, 26, 27, 32] [X, Tx, N, Dr, Kp, Th, La, Lb, Lc, Fo, St, Rix, Br, Ro, (x_out Ot t0), S])) _ _ _ _
    refine e_istore (pc := 1925) (i := 5) dL_law__1925 (by decide) rfl ?_
    show Ev g _ _ _ _ _ _ 1927 [some (x_r 1), some (x_r (16 * 1 + 0)), some (x_r (16 * 32 + 0)), some (x_r (16 * 27 + 0)), some (x_i (i : Int)), some (x_i (x_wc [0] t0)), none] [] (al, ro, fl (ml (x_ac M A) [1, 2, 3, 4, 5, 18, 19, 20, 21, 22, 23, 24, 25, 26, 27, 32] [X, Tx, N, Dr, Kp, Th, La, Lb, Lc, Fo, St, Rix, Br, Ro, (x_out Ot t0), S])) _ _ _ _
    refine e_aloadn (pc := 1927) (i := 2) dL_law__1927 rfl rfl ?_
    refine e_aloadn (pc := 1928) (i := 0) dL_law__1928 rfl rfl ?_
    refine e_iload (pc := 1929) dL_law__1929 rfl ?_
    refine e_iconst (pc := 1931) dL_law__1931 (x_R rfl) ?_
    refine e_iadd (pc := 1932) dL_law__1932 ?_
    rw [show x_add (i : Int) 1 = ((i + 1 : Nat) : Int) from x_ni (k := 1) (by omega)]
    refine e_sld (pc := 1933) dL_law__1933 (by omega) (by omega) ?_
    show Ev g _ _ _ _ _ _ 1934 [some (x_r 1), some (x_r (16 * 1 + 0)), some (x_r (16 * 32 + 0)), some (x_r (16 * 27 + 0)), some (x_i (i : Int)), some (x_i (x_wc [0] t0)), none] [x_i (x_sc g (i + 1)), x_r (16 * 32 + 0)] (al, ro, fl (ml (x_ac M A) [1, 2, 3, 4, 5, 18, 19, 20, 21, 22, 23, 24, 25, 26, 27, 32] [X, Tx, N, Dr, Kp, Th, La, Lb, Lc, Fo, St, Rix, Br, Ro, (x_out Ot t0), S])) _ _ _ _
    have key2 : ∀ z2 : Int, z2 = x_zb (x_sc g (i + 1)) → Ev g yL_law_ cL_law_ 7 (some .boolean) [] 60 1942 [some (x_r 1), some (x_r (16 * 1 + 0)), some (x_r (16 * 32 + 0)), some (x_r (16 * 27 + 0)), some (x_i (i : Int)), some (x_i (x_wc [0] t0)), none] [x_i z2, x_r (16 * 32 + 0)] (al, ro, fl (ml (x_ac M A) [1, 2, 3, 4, 5, 18, 19, 20, 21, 22, 23, 24, 25, 26, 27, 32] [X, Tx, N, Dr, Kp, Th, La, Lb, Lc, Fo, St, Rix, Br, Ro, (x_out Ot t0), S])) K S0 (.inl (some (x_i 1))) h' := by
      intro z2 hz
      subst hz
      refine e_wide (K0 := 0 + K) (S0 := 0 + S0) (by omega) (by omega) ?_
      refine e_invV (pc := 1942) (K1 := 0) (S1 := 0) (K := K) (S := S0) (dd2 := 2) (av := [x_i (x_zb (x_sc g (i + 1)))]) (st := []) (id := 16 * 32 + 0) dL_law__1942 xmL_263 rfl (Or.inl ⟨10, 27, TX12, (sa_32_0 hs), rfl, by decide⟩) (f_cal (M := (x_ac M A)) (us2 := [32]) [15] hn rfl (And.intro rfl trivial) rfl rfl rfl (c_X12_rule hst hs hS)) (by decide) (Nat.le_of_ble_eq_true rfl) (Or.inl rfl) ?_
      show Ev g _ _ _ _ _ _ 1945 [some (x_r 1), some (x_r (16 * 1 + 0)), some (x_r (16 * 32 + 0)), some (x_r (16 * 27 + 0)), some (x_i (i : Int)), some (x_i (x_wc [0] t0)), none] [x_i b] (al, ro, fl (ml (x_ac M A) [1, 2, 3, 4, 5, 18, 19, 20, 21, 22, 23, 24, 25, 26, 27, 32] [X, Tx, N, Dr, Kp, Th, La, Lb, Lc, Fo, St, Rix, Br, Ro, (x_out Ot t0), Sy])) _ _ _ _
      refine e_istore (pc := 1945) (i := 6) dL_law__1945 (by decide) rfl ?_
      show Ev g _ _ _ _ _ _ 1947 [some (x_r 1), some (x_r (16 * 1 + 0)), some (x_r (16 * 32 + 0)), some (x_r (16 * 27 + 0)), some (x_i (i : Int)), some (x_i (x_wc [0] t0)), some (x_i b)] [] (al, ro, fl (ml (x_ac M A) [1, 2, 3, 4, 5, 18, 19, 20, 21, 22, 23, 24, 25, 26, 27, 32] [X, Tx, N, Dr, Kp, Th, La, Lb, Lc, Fo, St, Rix, Br, Ro, (x_out Ot t0), Sy])) _ _ _ _
      refine e_aloadn (pc := 1947) (i := 2) dL_law__1947 rfl rfl ?_
      refine e_wide (K0 := 0 + K) (S0 := 0 + S0) (by omega) (by omega) ?_
      refine e_invV (pc := 1948) (K1 := 0) (S1 := 0) (K := K) (S := S0) (dd2 := 0) (av := []) (st := []) (id := 16 * 32 + 0) dL_law__1948 xmL_156 rfl (Or.inl ⟨10, 27, TX12, (sa_32_0 hs), rfl, by decide⟩) (f_cal (M := (x_ac M A)) (us2 := [32]) [15] hn rfl (And.intro rfl trivial) rfl rfl rfl (c_X12_thrown hst hs (show G12_thrown Sy = some (Sy 0 0) from rfl))) (by decide) (Nat.le_of_ble_eq_true rfl) (Or.inl rfl) ?_
      show Ev g _ _ _ _ _ _ 1951 [some (x_r 1), some (x_r (16 * 1 + 0)), some (x_r (16 * 32 + 0)), some (x_r (16 * 27 + 0)), some (x_i (i : Int)), some (x_i (x_wc [0] t0)), some (x_i b)] [x_i (Sy 0 0)] (al, ro, fl (ml (x_ac M A) [1, 2, 3, 4, 5, 18, 19, 20, 21, 22, 23, 24, 25, 26, 27, 32] [X, Tx, N, Dr, Kp, Th, La, Lb, Lc, Fo, St, Rix, Br, Ro, (x_out Ot t0), Sy])) _ _ _ _
      have hk : Sy 0 0 = x_wc [0] t0 := x_ag_k hA
      refine e_iload (pc := 1951) dL_law__1951 rfl ?_
      refine e_icmp_eq (pc := 1953) (tgt := 1958) dL_law__1953 (by decide) (fun _ => ?_) (fun q => absurd hk q)
      refine e_iload (pc := 1958) dL_law__1958 rfl ?_
      cases t0 with
      | inr E =>
        refine e_if_ne (pc := 1960) (tgt := 1975) dL_law__1960 (by decide) (fun _ => ?_) (fun q => absurd q (x_wc_r [0] E))
        refine e_goto (pc := 1975) (tgt := 3041) dL_law__1975 (by decide) ?_
        refine e_drop (i := 5) ?_
        refine e_drop (i := 6) ?_
        exact kk
      | inl v =>
        refine e_if_ne (pc := 1960) (tgt := 1975) dL_law__1960 (by decide) (fun q => absurd rfl q) (fun _ => ?_)
        refine e_aloadn (pc := 1963) (i := 3) dL_law__1963 rfl rfl ?_
        refine e_iconst (pc := 1964) dL_law__1964 (x_R rfl) ?_
        refine f_lald (pc := 1965) (k := 14) (u := 27) (q := 0) (len := 1) dL_law__1965 ho (by decide) hn rfl rfl (by decide) ?_
        refine e_iload (pc := 1966) dL_law__1966 rfl ?_
        refine e_i2l (pc := 1968) dL_law__1968 ?_
        refine e_lcmp (pc := 1969) dL_law__1969 ?_
        refine e_if_eq (pc := 1970) (tgt := 1975) dL_law__1970 (by decide) (fun _ => ?_) (fun q => absurd (x_lc (show v = b from hA.2.symm)) q)
        refine e_goto (pc := 1975) (tgt := 3041) dL_law__1975 (by decide) ?_
        refine e_drop (i := 5) ?_
        refine e_drop (i := 6) ?_
        exact kk
    refine e_if_eq (pc := 1934) (tgt := 1941) dL_law__1934 (by decide) (fun q => ?_) (fun q => ?_)
    · refine e_iconst (pc := 1941) dL_law__1941 (x_R rfl) ?_
      exact key2 0 (by rw [x_zb, if_pos q])
    · refine e_iconst (pc := 1937) dL_law__1937 (x_R rfl) ?_
      refine e_goto (pc := 1938) (tgt := 1942) dL_law__1938 (by decide) ?_
      exact key2 1 (by rw [x_zb, if_neg q])
  refine e_if_eq (pc := 1913) (tgt := 1920) dL_law__1913 (by decide) (fun q => ?_) (fun q => ?_)
  · refine e_iconst (pc := 1920) dL_law__1920 (x_R rfl) ?_
    exact key1 0 (by rw [x_zb, if_pos q])
  · refine e_iconst (pc := 1916) dL_law__1916 (x_R rfl) ?_
    refine e_goto (pc := 1917) (tgt := 1921) dL_law__1917 (by decide) ?_
    exact key1 1 (by rw [x_zb, if_neg q])
set_option maxRecDepth 100000 in
set_option maxHeartbeats 4000000 in
theorem k34 {g : xG} {al : List (Nat × Nat × Nat)} {ro : Nat → Nat → Option Nat} (hst : g.1.stackTraces = false) (hs : SH al ro) (ho : (16 * 27 + 0, 21, 1) ∈ al) {M : Nat → xU} {h' : xH} {i K S0 : Nat} (hi : i + 6 ≤ x_L g) (hL : x_L g < 2147483648) {X T N Dr Kp Th La Lb Lc Fo St Ri Br Ro Ot S : xU} {A : xA} {t0 : (Int ⊕ Nat)} {Tx : xU} {Rix : xU} {b : Int} {Sy : xU} (hX : G11_tells T Ri = some (t0, Tx, Rix)) (hE : ∀ E, t0 = .inr E → E ∈ ([0] : List Nat)) (hS : G12_tells S = some (b, Sy)) (hA : Ag (x_cd [0]) t0 b Sy)
    (kk : Ev g yL_law_ cL_law_ 7 (some .boolean) [] 60 3041 [some (x_r 1), some (x_r (16 * 1 + 0)), some (x_r (16 * 32 + 0)), some (x_r (16 * 27 + 0)), some (x_i (i : Int)), none, none] [] (al, ro, fl (ml (x_ac M A) [1, 2, 3, 4, 5, 18, 19, 20, 21, 22, 23, 24, 25, 26, 27, 32] [X, Tx, N, Dr, Kp, Th, La, Lb, Lc, Fo, St, Rix, Br, Ro, (x_out Ot t0), Sy])) K S0 (.inl (some (x_i 1))) h') : Ev g yL_law_ cL_law_ 7 (some .boolean) [] 60 1978 [some (x_r 1), some (x_r (16 * 1 + 0)), some (x_r (16 * 32 + 0)), some (x_r (16 * 27 + 0)), some (x_i (i : Int)), none, none] [] (al, ro, fl (ml (x_ac M A) [1, 2, 3, 4, 5, 18, 19, 20, 21, 22, 23, 24, 25, 26, 27, 32] [X, T, N, Dr, Kp, Th, La, Lb, Lc, Fo, St, Ri, Br, Ro, Ot, S])) (1 + K) (6 + S0) (.inl (some (x_i 1))) h' := by
  have hn : ([1, 2, 3, 4, 5, 18, 19, 20, 21, 22, 23, 24, 25, 26, 27, 32] : List Nat).Nodup := by decide
  refine e_aloadn (pc := 1978) (i := 1) dL_law__1978 rfl rfl ?_
  refine e_aloadn (pc := 1979) (i := 3) dL_law__1979 rfl rfl ?_
  refine e_invSH (pc := 1980) (K1 := 1) (S1 := 6) (K := K) (S := S0) (dd2 := 6) (av := [x_r (16 * 1 + 0), x_r (16 * 27 + 0)]) (st := []) dL_law__1980 (xmH_tells 264 (x_inB (x_t6 (List.mem_of_getElem? (i := 146) rfl)) rfl)) rfl (f_calH (M := (x_ac M A)) (us2 := [2, 24, 27]) [1, 11, 14] hn rfl (And.intro rfl (And.intro rfl (And.intro rfl trivial))) rfl rfl rfl (c_L_tells hst hs ho hX hE)) (by decide) (Nat.le_of_ble_eq_true rfl) (Or.inl rfl) ?_
  show Ev g _ _ _ _ _ _ 1983 [some (x_r 1), some (x_r (16 * 1 + 0)), some (x_r (16 * 32 + 0)), some (x_r (16 * 27 + 0)), some (x_i (i : Int)), none, none] [x_i (x_wc [0] t0)] (al, ro, fl (ml (x_ac M A) [1, 2, 3, 4, 5, 18, 19, 20, 21, 22, 23, 24, 25, 26, 27, 32] [X, Tx, N, Dr, Kp, Th, La, Lb, Lc, Fo, St, Rix, Br, Ro, (x_out Ot t0), S])) _ _ _ _
  refine e_istore (pc := 1983) (i := 5) dL_law__1983 (by decide) rfl ?_
  show Ev g _ _ _ _ _ _ 1985 [some (x_r 1), some (x_r (16 * 1 + 0)), some (x_r (16 * 32 + 0)), some (x_r (16 * 27 + 0)), some (x_i (i : Int)), some (x_i (x_wc [0] t0)), none] [] (al, ro, fl (ml (x_ac M A) [1, 2, 3, 4, 5, 18, 19, 20, 21, 22, 23, 24, 25, 26, 27, 32] [X, Tx, N, Dr, Kp, Th, La, Lb, Lc, Fo, St, Rix, Br, Ro, (x_out Ot t0), S])) _ _ _ _
  refine e_aloadn (pc := 1985) (i := 2) dL_law__1985 rfl rfl ?_
  refine e_wide (K0 := 0 + K) (S0 := 0 + S0) (by omega) (by omega) ?_
  refine e_invV (pc := 1986) (K1 := 0) (S1 := 0) (K := K) (S := S0) (dd2 := 2) (av := []) (st := []) (id := 16 * 32 + 0) dL_law__1986 xmL_266 rfl (Or.inl ⟨10, 27, TX12, (sa_32_0 hs), rfl, by decide⟩) (f_cal (M := (x_ac M A)) (us2 := [32]) [15] hn rfl (And.intro rfl trivial) rfl rfl rfl (c_X12_tells hst hs hS)) (by decide) (Nat.le_of_ble_eq_true rfl) (Or.inl rfl) ?_
  show Ev g _ _ _ _ _ _ 1989 [some (x_r 1), some (x_r (16 * 1 + 0)), some (x_r (16 * 32 + 0)), some (x_r (16 * 27 + 0)), some (x_i (i : Int)), some (x_i (x_wc [0] t0)), none] [x_i b] (al, ro, fl (ml (x_ac M A) [1, 2, 3, 4, 5, 18, 19, 20, 21, 22, 23, 24, 25, 26, 27, 32] [X, Tx, N, Dr, Kp, Th, La, Lb, Lc, Fo, St, Rix, Br, Ro, (x_out Ot t0), Sy])) _ _ _ _
  refine e_istore (pc := 1989) (i := 6) dL_law__1989 (by decide) rfl ?_
  show Ev g _ _ _ _ _ _ 1991 [some (x_r 1), some (x_r (16 * 1 + 0)), some (x_r (16 * 32 + 0)), some (x_r (16 * 27 + 0)), some (x_i (i : Int)), some (x_i (x_wc [0] t0)), some (x_i b)] [] (al, ro, fl (ml (x_ac M A) [1, 2, 3, 4, 5, 18, 19, 20, 21, 22, 23, 24, 25, 26, 27, 32] [X, Tx, N, Dr, Kp, Th, La, Lb, Lc, Fo, St, Rix, Br, Ro, (x_out Ot t0), Sy])) _ _ _ _
  refine e_aloadn (pc := 1991) (i := 2) dL_law__1991 rfl rfl ?_
  refine e_wide (K0 := 0 + K) (S0 := 0 + S0) (by omega) (by omega) ?_
  refine e_invV (pc := 1992) (K1 := 0) (S1 := 0) (K := K) (S := S0) (dd2 := 0) (av := []) (st := []) (id := 16 * 32 + 0) dL_law__1992 xmL_156 rfl (Or.inl ⟨10, 27, TX12, (sa_32_0 hs), rfl, by decide⟩) (f_cal (M := (x_ac M A)) (us2 := [32]) [15] hn rfl (And.intro rfl trivial) rfl rfl rfl (c_X12_thrown hst hs (show G12_thrown Sy = some (Sy 0 0) from rfl))) (by decide) (Nat.le_of_ble_eq_true rfl) (Or.inl rfl) ?_
  show Ev g _ _ _ _ _ _ 1995 [some (x_r 1), some (x_r (16 * 1 + 0)), some (x_r (16 * 32 + 0)), some (x_r (16 * 27 + 0)), some (x_i (i : Int)), some (x_i (x_wc [0] t0)), some (x_i b)] [x_i (Sy 0 0)] (al, ro, fl (ml (x_ac M A) [1, 2, 3, 4, 5, 18, 19, 20, 21, 22, 23, 24, 25, 26, 27, 32] [X, Tx, N, Dr, Kp, Th, La, Lb, Lc, Fo, St, Rix, Br, Ro, (x_out Ot t0), Sy])) _ _ _ _
  have hk : Sy 0 0 = x_wc [0] t0 := x_ag_k hA
  refine e_iload (pc := 1995) dL_law__1995 rfl ?_
  refine e_icmp_eq (pc := 1997) (tgt := 2002) dL_law__1997 (by decide) (fun _ => ?_) (fun q => absurd hk q)
  refine e_iload (pc := 2002) dL_law__2002 rfl ?_
  cases t0 with
  | inr E =>
    refine e_if_ne (pc := 2004) (tgt := 2019) dL_law__2004 (by decide) (fun _ => ?_) (fun q => absurd q (x_wc_r [0] E))
    refine e_goto (pc := 2019) (tgt := 3041) dL_law__2019 (by decide) ?_
    refine e_drop (i := 5) ?_
    refine e_drop (i := 6) ?_
    exact kk
  | inl v =>
    refine e_if_ne (pc := 2004) (tgt := 2019) dL_law__2004 (by decide) (fun q => absurd rfl q) (fun _ => ?_)
    refine e_aloadn (pc := 2007) (i := 3) dL_law__2007 rfl rfl ?_
    refine e_iconst (pc := 2008) dL_law__2008 (x_R rfl) ?_
    refine f_lald (pc := 2009) (k := 14) (u := 27) (q := 0) (len := 1) dL_law__2009 ho (by decide) hn rfl rfl (by decide) ?_
    refine e_iload (pc := 2010) dL_law__2010 rfl ?_
    refine e_i2l (pc := 2012) dL_law__2012 ?_
    refine e_lcmp (pc := 2013) dL_law__2013 ?_
    refine e_if_eq (pc := 2014) (tgt := 2019) dL_law__2014 (by decide) (fun _ => ?_) (fun q => absurd (x_lc (show v = b from hA.2.symm)) q)
    refine e_goto (pc := 2019) (tgt := 3041) dL_law__2019 (by decide) ?_
    refine e_drop (i := 5) ?_
    refine e_drop (i := 6) ?_
    exact kk
set_option maxRecDepth 100000 in
set_option maxHeartbeats 4000000 in
theorem k35 {g : xG} {al : List (Nat × Nat × Nat)} {ro : Nat → Nat → Option Nat} (hst : g.1.stackTraces = false) (hs : SH al ro) (ho : (16 * 27 + 0, 21, 1) ∈ al) {M : Nat → xU} {h' : xH} {i K S0 : Nat} (hi : i + 6 ≤ x_L g) (hL : x_L g < 2147483648) {X T N Dr Kp Th La Lb Lc Fo St Ri Br Ro Ot S : xU} {A : xA} {t0 : (Int ⊕ Nat)} {Thx : xU} {b : Int} {Sy : xU} (hX : G11_share (x_sc g (i + 1)) (x_sc g (i + 2)) N Th = some (t0, Thx)) (hE : ∀ E, t0 = .inr E → E ∈ ([1, 0] : List Nat)) (hS : G12_share (x_sc g (i + 1)) (x_sc g (i + 2)) S = some (b, Sy)) (hA : Ag (x_cd [1, 0]) t0 b Sy)
    (kk : Ev g yL_law_ cL_law_ 7 (some .boolean) [] 60 3041 [some (x_r 1), some (x_r (16 * 1 + 0)), some (x_r (16 * 32 + 0)), some (x_r (16 * 27 + 0)), some (x_i (i : Int)), none, none] [] (al, ro, fl (ml (x_ac M A) [1, 2, 3, 4, 5, 18, 19, 20, 21, 22, 23, 24, 25, 26, 27, 32] [X, T, N, Dr, Kp, Thx, La, Lb, Lc, Fo, St, Ri, Br, Ro, (x_out Ot t0), Sy])) K S0 (.inl (some (x_i 1))) h') : Ev g yL_law_ cL_law_ 7 (some .boolean) [] 60 2022 [some (x_r 1), some (x_r (16 * 1 + 0)), some (x_r (16 * 32 + 0)), some (x_r (16 * 27 + 0)), some (x_i (i : Int)), none, none] [] (al, ro, fl (ml (x_ac M A) [1, 2, 3, 4, 5, 18, 19, 20, 21, 22, 23, 24, 25, 26, 27, 32] [X, T, N, Dr, Kp, Th, La, Lb, Lc, Fo, St, Ri, Br, Ro, Ot, S])) (2 + K) (12 + S0) (.inl (some (x_i 1))) h' := by
  have hn : ([1, 2, 3, 4, 5, 18, 19, 20, 21, 22, 23, 24, 25, 26, 27, 32] : List Nat).Nodup := by decide
  refine e_aloadn (pc := 2022) (i := 1) dL_law__2022 rfl rfl ?_
  refine e_aloadn (pc := 2023) (i := 0) dL_law__2023 rfl rfl ?_
  refine e_iload (pc := 2024) dL_law__2024 rfl ?_
  refine e_iconst (pc := 2026) dL_law__2026 (x_R rfl) ?_
  refine e_iadd (pc := 2027) dL_law__2027 ?_
  rw [show x_add (i : Int) 1 = ((i + 1 : Nat) : Int) from x_ni (k := 1) (by omega)]
  refine e_sld (pc := 2028) dL_law__2028 (by omega) (by omega) ?_
  show Ev g _ _ _ _ _ _ 2029 [some (x_r 1), some (x_r (16 * 1 + 0)), some (x_r (16 * 32 + 0)), some (x_r (16 * 27 + 0)), some (x_i (i : Int)), none, none] [x_i (x_sc g (i + 1)), x_r (16 * 1 + 0)] (al, ro, fl (ml (x_ac M A) [1, 2, 3, 4, 5, 18, 19, 20, 21, 22, 23, 24, 25, 26, 27, 32] [X, T, N, Dr, Kp, Th, La, Lb, Lc, Fo, St, Ri, Br, Ro, Ot, S])) _ _ _ _
  refine e_aloadn (pc := 2029) (i := 0) dL_law__2029 rfl rfl ?_
  refine e_iload (pc := 2030) dL_law__2030 rfl ?_
  refine e_iconst (pc := 2032) dL_law__2032 (x_R rfl) ?_
  refine e_iadd (pc := 2033) dL_law__2033 ?_
  rw [show x_add (i : Int) 2 = ((i + 2 : Nat) : Int) from x_ni (k := 2) (by omega)]
  refine e_sld (pc := 2034) dL_law__2034 (by omega) (by omega) ?_
  show Ev g _ _ _ _ _ _ 2035 [some (x_r 1), some (x_r (16 * 1 + 0)), some (x_r (16 * 32 + 0)), some (x_r (16 * 27 + 0)), some (x_i (i : Int)), none, none] [x_i (x_sc g (i + 2)), x_i (x_sc g (i + 1)), x_r (16 * 1 + 0)] (al, ro, fl (ml (x_ac M A) [1, 2, 3, 4, 5, 18, 19, 20, 21, 22, 23, 24, 25, 26, 27, 32] [X, T, N, Dr, Kp, Th, La, Lb, Lc, Fo, St, Ri, Br, Ro, Ot, S])) _ _ _ _
  refine e_aloadn (pc := 2035) (i := 3) dL_law__2035 rfl rfl ?_
  refine e_invSH (pc := 2036) (K1 := 2) (S1 := 12) (K := K) (S := S0) (dd2 := 5) (av := [x_r (16 * 1 + 0), x_i (x_sc g (i + 1)), x_i (x_sc g (i + 2)), x_r (16 * 27 + 0)]) (st := []) dL_law__2036 (xmH_share 267 (x_inB (x_t6 (List.mem_of_getElem? (i := 153) rfl)) rfl)) rfl (f_calH (M := (x_ac M A)) (us2 := [3, 18, 27]) [2, 5, 14] hn rfl (And.intro rfl (And.intro rfl (And.intro rfl trivial))) rfl rfl rfl (c_L_share hst hs ho hX hE)) (by decide) (Nat.le_of_ble_eq_true rfl) (Or.inl rfl) ?_
  show Ev g _ _ _ _ _ _ 2039 [some (x_r 1), some (x_r (16 * 1 + 0)), some (x_r (16 * 32 + 0)), some (x_r (16 * 27 + 0)), some (x_i (i : Int)), none, none] [x_i (x_wc [1, 0] t0)] (al, ro, fl (ml (x_ac M A) [1, 2, 3, 4, 5, 18, 19, 20, 21, 22, 23, 24, 25, 26, 27, 32] [X, T, N, Dr, Kp, Thx, La, Lb, Lc, Fo, St, Ri, Br, Ro, (x_out Ot t0), S])) _ _ _ _
  refine e_istore (pc := 2039) (i := 5) dL_law__2039 (by decide) rfl ?_
  show Ev g _ _ _ _ _ _ 2041 [some (x_r 1), some (x_r (16 * 1 + 0)), some (x_r (16 * 32 + 0)), some (x_r (16 * 27 + 0)), some (x_i (i : Int)), some (x_i (x_wc [1, 0] t0)), none] [] (al, ro, fl (ml (x_ac M A) [1, 2, 3, 4, 5, 18, 19, 20, 21, 22, 23, 24, 25, 26, 27, 32] [X, T, N, Dr, Kp, Thx, La, Lb, Lc, Fo, St, Ri, Br, Ro, (x_out Ot t0), S])) _ _ _ _
  refine e_aloadn (pc := 2041) (i := 2) dL_law__2041 rfl rfl ?_
  refine e_aloadn (pc := 2042) (i := 0) dL_law__2042 rfl rfl ?_
  refine e_iload (pc := 2043) dL_law__2043 rfl ?_
  refine e_iconst (pc := 2045) dL_law__2045 (x_R rfl) ?_
  refine e_iadd (pc := 2046) dL_law__2046 ?_
  rw [show x_add (i : Int) 1 = ((i + 1 : Nat) : Int) from x_ni (k := 1) (by omega)]
  refine e_sld (pc := 2047) dL_law__2047 (by omega) (by omega) ?_
  show Ev g _ _ _ _ _ _ 2048 [some (x_r 1), some (x_r (16 * 1 + 0)), some (x_r (16 * 32 + 0)), some (x_r (16 * 27 + 0)), some (x_i (i : Int)), some (x_i (x_wc [1, 0] t0)), none] [x_i (x_sc g (i + 1)), x_r (16 * 32 + 0)] (al, ro, fl (ml (x_ac M A) [1, 2, 3, 4, 5, 18, 19, 20, 21, 22, 23, 24, 25, 26, 27, 32] [X, T, N, Dr, Kp, Thx, La, Lb, Lc, Fo, St, Ri, Br, Ro, (x_out Ot t0), S])) _ _ _ _
  refine e_aloadn (pc := 2048) (i := 0) dL_law__2048 rfl rfl ?_
  refine e_iload (pc := 2049) dL_law__2049 rfl ?_
  refine e_iconst (pc := 2051) dL_law__2051 (x_R rfl) ?_
  refine e_iadd (pc := 2052) dL_law__2052 ?_
  rw [show x_add (i : Int) 2 = ((i + 2 : Nat) : Int) from x_ni (k := 2) (by omega)]
  refine e_sld (pc := 2053) dL_law__2053 (by omega) (by omega) ?_
  show Ev g _ _ _ _ _ _ 2054 [some (x_r 1), some (x_r (16 * 1 + 0)), some (x_r (16 * 32 + 0)), some (x_r (16 * 27 + 0)), some (x_i (i : Int)), some (x_i (x_wc [1, 0] t0)), none] [x_i (x_sc g (i + 2)), x_i (x_sc g (i + 1)), x_r (16 * 32 + 0)] (al, ro, fl (ml (x_ac M A) [1, 2, 3, 4, 5, 18, 19, 20, 21, 22, 23, 24, 25, 26, 27, 32] [X, T, N, Dr, Kp, Thx, La, Lb, Lc, Fo, St, Ri, Br, Ro, (x_out Ot t0), S])) _ _ _ _
  refine e_wide (K0 := 0 + K) (S0 := 0 + S0) (by omega) (by omega) ?_
  refine e_invV (pc := 2054) (K1 := 0) (S1 := 0) (K := K) (S := S0) (dd2 := 2) (av := [x_i (x_sc g (i + 1)), x_i (x_sc g (i + 2))]) (st := []) (id := 16 * 32 + 0) dL_law__2054 xmL_269 rfl (Or.inl ⟨10, 27, TX12, (sa_32_0 hs), rfl, by decide⟩) (f_cal (M := (x_ac M A)) (us2 := [32]) [15] hn rfl (And.intro rfl trivial) rfl rfl rfl (c_X12_share hst hs hS)) (by decide) (Nat.le_of_ble_eq_true rfl) (Or.inl rfl) ?_
  show Ev g _ _ _ _ _ _ 2057 [some (x_r 1), some (x_r (16 * 1 + 0)), some (x_r (16 * 32 + 0)), some (x_r (16 * 27 + 0)), some (x_i (i : Int)), some (x_i (x_wc [1, 0] t0)), none] [x_i b] (al, ro, fl (ml (x_ac M A) [1, 2, 3, 4, 5, 18, 19, 20, 21, 22, 23, 24, 25, 26, 27, 32] [X, T, N, Dr, Kp, Thx, La, Lb, Lc, Fo, St, Ri, Br, Ro, (x_out Ot t0), Sy])) _ _ _ _
  refine e_istore (pc := 2057) (i := 6) dL_law__2057 (by decide) rfl ?_
  show Ev g _ _ _ _ _ _ 2059 [some (x_r 1), some (x_r (16 * 1 + 0)), some (x_r (16 * 32 + 0)), some (x_r (16 * 27 + 0)), some (x_i (i : Int)), some (x_i (x_wc [1, 0] t0)), some (x_i b)] [] (al, ro, fl (ml (x_ac M A) [1, 2, 3, 4, 5, 18, 19, 20, 21, 22, 23, 24, 25, 26, 27, 32] [X, T, N, Dr, Kp, Thx, La, Lb, Lc, Fo, St, Ri, Br, Ro, (x_out Ot t0), Sy])) _ _ _ _
  refine e_aloadn (pc := 2059) (i := 2) dL_law__2059 rfl rfl ?_
  refine e_wide (K0 := 0 + K) (S0 := 0 + S0) (by omega) (by omega) ?_
  refine e_invV (pc := 2060) (K1 := 0) (S1 := 0) (K := K) (S := S0) (dd2 := 0) (av := []) (st := []) (id := 16 * 32 + 0) dL_law__2060 xmL_156 rfl (Or.inl ⟨10, 27, TX12, (sa_32_0 hs), rfl, by decide⟩) (f_cal (M := (x_ac M A)) (us2 := [32]) [15] hn rfl (And.intro rfl trivial) rfl rfl rfl (c_X12_thrown hst hs (show G12_thrown Sy = some (Sy 0 0) from rfl))) (by decide) (Nat.le_of_ble_eq_true rfl) (Or.inl rfl) ?_
  show Ev g _ _ _ _ _ _ 2063 [some (x_r 1), some (x_r (16 * 1 + 0)), some (x_r (16 * 32 + 0)), some (x_r (16 * 27 + 0)), some (x_i (i : Int)), some (x_i (x_wc [1, 0] t0)), some (x_i b)] [x_i (Sy 0 0)] (al, ro, fl (ml (x_ac M A) [1, 2, 3, 4, 5, 18, 19, 20, 21, 22, 23, 24, 25, 26, 27, 32] [X, T, N, Dr, Kp, Thx, La, Lb, Lc, Fo, St, Ri, Br, Ro, (x_out Ot t0), Sy])) _ _ _ _
  have hk : Sy 0 0 = x_wc [1, 0] t0 := x_ag_k hA
  refine e_iload (pc := 2063) dL_law__2063 rfl ?_
  refine e_icmp_eq (pc := 2065) (tgt := 2070) dL_law__2065 (by decide) (fun _ => ?_) (fun q => absurd hk q)
  refine e_iload (pc := 2070) dL_law__2070 rfl ?_
  cases t0 with
  | inr E =>
    refine e_if_ne (pc := 2072) (tgt := 2087) dL_law__2072 (by decide) (fun _ => ?_) (fun q => absurd q (x_wc_r [1, 0] E))
    refine e_goto (pc := 2087) (tgt := 3041) dL_law__2087 (by decide) ?_
    refine e_drop (i := 5) ?_
    refine e_drop (i := 6) ?_
    exact kk
  | inl v =>
    refine e_if_ne (pc := 2072) (tgt := 2087) dL_law__2072 (by decide) (fun q => absurd rfl q) (fun _ => ?_)
    refine e_aloadn (pc := 2075) (i := 3) dL_law__2075 rfl rfl ?_
    refine e_iconst (pc := 2076) dL_law__2076 (x_R rfl) ?_
    refine f_lald (pc := 2077) (k := 14) (u := 27) (q := 0) (len := 1) dL_law__2077 ho (by decide) hn rfl rfl (by decide) ?_
    refine e_iload (pc := 2078) dL_law__2078 rfl ?_
    refine e_i2l (pc := 2080) dL_law__2080 ?_
    refine e_lcmp (pc := 2081) dL_law__2081 ?_
    refine e_if_eq (pc := 2082) (tgt := 2087) dL_law__2082 (by decide) (fun _ => ?_) (fun q => absurd (x_lc (show v = b from hA.2.symm)) q)
    refine e_goto (pc := 2087) (tgt := 3041) dL_law__2087 (by decide) ?_
    refine e_drop (i := 5) ?_
    refine e_drop (i := 6) ?_
    exact kk
set_option maxRecDepth 100000 in
set_option maxHeartbeats 4000000 in
theorem k36 {g : xG} {al : List (Nat × Nat × Nat)} {ro : Nat → Nat → Option Nat} (hst : g.1.stackTraces = false) (hs : SH al ro) (ho : (16 * 27 + 0, 21, 1) ∈ al) {M : Nat → xU} {h' : xH} {i K S0 : Nat} (hi : i + 6 ≤ x_L g) (hL : x_L g < 2147483648) {X T N Dr Kp Th La Lb Lc Fo St Ri Br Ro Ot S : xU} {A : xA} {t0 : (Int ⊕ Nat)} {b : Int} {Sy : xU} (hX : G11_feeds (x_sc g (i + 1)) N = some t0) (hE : ∀ E, t0 = .inr E → E ∈ ([1] : List Nat)) (hS : G12_feeds (x_sc g (i + 1)) S = some (b, Sy)) (hA : Ag (x_cd [1]) t0 b Sy)
    (kk : Ev g yL_law_ cL_law_ 7 (some .boolean) [] 60 3041 [some (x_r 1), some (x_r (16 * 1 + 0)), some (x_r (16 * 32 + 0)), some (x_r (16 * 27 + 0)), some (x_i (i : Int)), none, none] [] (al, ro, fl (ml (x_ac M A) [1, 2, 3, 4, 5, 18, 19, 20, 21, 22, 23, 24, 25, 26, 27, 32] [X, T, N, Dr, Kp, Th, La, Lb, Lc, Fo, St, Ri, Br, Ro, (x_out Ot t0), Sy])) K S0 (.inl (some (x_i 1))) h') : Ev g yL_law_ cL_law_ 7 (some .boolean) [] 60 2090 [some (x_r 1), some (x_r (16 * 1 + 0)), some (x_r (16 * 32 + 0)), some (x_r (16 * 27 + 0)), some (x_i (i : Int)), none, none] [] (al, ro, fl (ml (x_ac M A) [1, 2, 3, 4, 5, 18, 19, 20, 21, 22, 23, 24, 25, 26, 27, 32] [X, T, N, Dr, Kp, Th, La, Lb, Lc, Fo, St, Ri, Br, Ro, Ot, S])) (1 + K) (6 + S0) (.inl (some (x_i 1))) h' := by
  have hn : ([1, 2, 3, 4, 5, 18, 19, 20, 21, 22, 23, 24, 25, 26, 27, 32] : List Nat).Nodup := by decide
  refine e_aloadn (pc := 2090) (i := 1) dL_law__2090 rfl rfl ?_
  refine e_aloadn (pc := 2091) (i := 0) dL_law__2091 rfl rfl ?_
  refine e_iload (pc := 2092) dL_law__2092 rfl ?_
  refine e_iconst (pc := 2094) dL_law__2094 (x_R rfl) ?_
  refine e_iadd (pc := 2095) dL_law__2095 ?_
  rw [show x_add (i : Int) 1 = ((i + 1 : Nat) : Int) from x_ni (k := 1) (by omega)]
  refine e_sld (pc := 2096) dL_law__2096 (by omega) (by omega) ?_
  show Ev g _ _ _ _ _ _ 2097 [some (x_r 1), some (x_r (16 * 1 + 0)), some (x_r (16 * 32 + 0)), some (x_r (16 * 27 + 0)), some (x_i (i : Int)), none, none] [x_i (x_sc g (i + 1)), x_r (16 * 1 + 0)] (al, ro, fl (ml (x_ac M A) [1, 2, 3, 4, 5, 18, 19, 20, 21, 22, 23, 24, 25, 26, 27, 32] [X, T, N, Dr, Kp, Th, La, Lb, Lc, Fo, St, Ri, Br, Ro, Ot, S])) _ _ _ _
  refine e_aloadn (pc := 2097) (i := 3) dL_law__2097 rfl rfl ?_
  refine e_invSH (pc := 2098) (K1 := 1) (S1 := 6) (K := K) (S := S0) (dd2 := 3) (av := [x_r (16 * 1 + 0), x_i (x_sc g (i + 1)), x_r (16 * 27 + 0)]) (st := []) dL_law__2098 (xmH_feeds 270 (x_inB (x_t6 (List.mem_of_getElem? (i := 164) rfl)) rfl)) rfl (f_calH (M := (x_ac M A)) (us2 := [3, 27]) [2, 14] hn rfl (And.intro rfl (And.intro rfl trivial)) rfl rfl rfl (c_L_feeds hst hs ho hX hE)) (by decide) (Nat.le_of_ble_eq_true rfl) (Or.inl rfl) ?_
  show Ev g _ _ _ _ _ _ 2101 [some (x_r 1), some (x_r (16 * 1 + 0)), some (x_r (16 * 32 + 0)), some (x_r (16 * 27 + 0)), some (x_i (i : Int)), none, none] [x_i (x_wc [1] t0)] (al, ro, fl (ml (x_ac M A) [1, 2, 3, 4, 5, 18, 19, 20, 21, 22, 23, 24, 25, 26, 27, 32] [X, T, N, Dr, Kp, Th, La, Lb, Lc, Fo, St, Ri, Br, Ro, (x_out Ot t0), S])) _ _ _ _
  refine e_istore (pc := 2101) (i := 5) dL_law__2101 (by decide) rfl ?_
  show Ev g _ _ _ _ _ _ 2103 [some (x_r 1), some (x_r (16 * 1 + 0)), some (x_r (16 * 32 + 0)), some (x_r (16 * 27 + 0)), some (x_i (i : Int)), some (x_i (x_wc [1] t0)), none] [] (al, ro, fl (ml (x_ac M A) [1, 2, 3, 4, 5, 18, 19, 20, 21, 22, 23, 24, 25, 26, 27, 32] [X, T, N, Dr, Kp, Th, La, Lb, Lc, Fo, St, Ri, Br, Ro, (x_out Ot t0), S])) _ _ _ _
  refine e_aloadn (pc := 2103) (i := 2) dL_law__2103 rfl rfl ?_
  refine e_aloadn (pc := 2104) (i := 0) dL_law__2104 rfl rfl ?_
  refine e_iload (pc := 2105) dL_law__2105 rfl ?_
  refine e_iconst (pc := 2107) dL_law__2107 (x_R rfl) ?_
  refine e_iadd (pc := 2108) dL_law__2108 ?_
  rw [show x_add (i : Int) 1 = ((i + 1 : Nat) : Int) from x_ni (k := 1) (by omega)]
  refine e_sld (pc := 2109) dL_law__2109 (by omega) (by omega) ?_
  show Ev g _ _ _ _ _ _ 2110 [some (x_r 1), some (x_r (16 * 1 + 0)), some (x_r (16 * 32 + 0)), some (x_r (16 * 27 + 0)), some (x_i (i : Int)), some (x_i (x_wc [1] t0)), none] [x_i (x_sc g (i + 1)), x_r (16 * 32 + 0)] (al, ro, fl (ml (x_ac M A) [1, 2, 3, 4, 5, 18, 19, 20, 21, 22, 23, 24, 25, 26, 27, 32] [X, T, N, Dr, Kp, Th, La, Lb, Lc, Fo, St, Ri, Br, Ro, (x_out Ot t0), S])) _ _ _ _
  refine e_wide (K0 := 0 + K) (S0 := 0 + S0) (by omega) (by omega) ?_
  refine e_invV (pc := 2110) (K1 := 0) (S1 := 0) (K := K) (S := S0) (dd2 := 3) (av := [x_i (x_sc g (i + 1))]) (st := []) (id := 16 * 32 + 0) dL_law__2110 xmL_272 rfl (Or.inl ⟨10, 27, TX12, (sa_32_0 hs), rfl, by decide⟩) (f_cal (M := (x_ac M A)) (us2 := [32]) [15] hn rfl (And.intro rfl trivial) rfl rfl rfl (c_X12_feeds hst hs hS)) (by decide) (Nat.le_of_ble_eq_true rfl) (Or.inl rfl) ?_
  show Ev g _ _ _ _ _ _ 2113 [some (x_r 1), some (x_r (16 * 1 + 0)), some (x_r (16 * 32 + 0)), some (x_r (16 * 27 + 0)), some (x_i (i : Int)), some (x_i (x_wc [1] t0)), none] [x_i b] (al, ro, fl (ml (x_ac M A) [1, 2, 3, 4, 5, 18, 19, 20, 21, 22, 23, 24, 25, 26, 27, 32] [X, T, N, Dr, Kp, Th, La, Lb, Lc, Fo, St, Ri, Br, Ro, (x_out Ot t0), Sy])) _ _ _ _
  refine e_istore (pc := 2113) (i := 6) dL_law__2113 (by decide) rfl ?_
  show Ev g _ _ _ _ _ _ 2115 [some (x_r 1), some (x_r (16 * 1 + 0)), some (x_r (16 * 32 + 0)), some (x_r (16 * 27 + 0)), some (x_i (i : Int)), some (x_i (x_wc [1] t0)), some (x_i b)] [] (al, ro, fl (ml (x_ac M A) [1, 2, 3, 4, 5, 18, 19, 20, 21, 22, 23, 24, 25, 26, 27, 32] [X, T, N, Dr, Kp, Th, La, Lb, Lc, Fo, St, Ri, Br, Ro, (x_out Ot t0), Sy])) _ _ _ _
  refine e_aloadn (pc := 2115) (i := 2) dL_law__2115 rfl rfl ?_
  refine e_wide (K0 := 0 + K) (S0 := 0 + S0) (by omega) (by omega) ?_
  refine e_invV (pc := 2116) (K1 := 0) (S1 := 0) (K := K) (S := S0) (dd2 := 0) (av := []) (st := []) (id := 16 * 32 + 0) dL_law__2116 xmL_156 rfl (Or.inl ⟨10, 27, TX12, (sa_32_0 hs), rfl, by decide⟩) (f_cal (M := (x_ac M A)) (us2 := [32]) [15] hn rfl (And.intro rfl trivial) rfl rfl rfl (c_X12_thrown hst hs (show G12_thrown Sy = some (Sy 0 0) from rfl))) (by decide) (Nat.le_of_ble_eq_true rfl) (Or.inl rfl) ?_
  show Ev g _ _ _ _ _ _ 2119 [some (x_r 1), some (x_r (16 * 1 + 0)), some (x_r (16 * 32 + 0)), some (x_r (16 * 27 + 0)), some (x_i (i : Int)), some (x_i (x_wc [1] t0)), some (x_i b)] [x_i (Sy 0 0)] (al, ro, fl (ml (x_ac M A) [1, 2, 3, 4, 5, 18, 19, 20, 21, 22, 23, 24, 25, 26, 27, 32] [X, T, N, Dr, Kp, Th, La, Lb, Lc, Fo, St, Ri, Br, Ro, (x_out Ot t0), Sy])) _ _ _ _
  have hk : Sy 0 0 = x_wc [1] t0 := x_ag_k hA
  refine e_iload (pc := 2119) dL_law__2119 rfl ?_
  refine e_icmp_eq (pc := 2121) (tgt := 2126) dL_law__2121 (by decide) (fun _ => ?_) (fun q => absurd hk q)
  refine e_iload (pc := 2126) dL_law__2126 rfl ?_
  cases t0 with
  | inr E =>
    refine e_if_ne (pc := 2128) (tgt := 2143) dL_law__2128 (by decide) (fun _ => ?_) (fun q => absurd q (x_wc_r [1] E))
    refine e_goto (pc := 2143) (tgt := 3041) dL_law__2143 (by decide) ?_
    refine e_drop (i := 5) ?_
    refine e_drop (i := 6) ?_
    exact kk
  | inl v =>
    refine e_if_ne (pc := 2128) (tgt := 2143) dL_law__2128 (by decide) (fun q => absurd rfl q) (fun _ => ?_)
    refine e_aloadn (pc := 2131) (i := 3) dL_law__2131 rfl rfl ?_
    refine e_iconst (pc := 2132) dL_law__2132 (x_R rfl) ?_
    refine f_lald (pc := 2133) (k := 14) (u := 27) (q := 0) (len := 1) dL_law__2133 ho (by decide) hn rfl rfl (by decide) ?_
    refine e_iload (pc := 2134) dL_law__2134 rfl ?_
    refine e_i2l (pc := 2136) dL_law__2136 ?_
    refine e_lcmp (pc := 2137) dL_law__2137 ?_
    refine e_if_eq (pc := 2138) (tgt := 2143) dL_law__2138 (by decide) (fun _ => ?_) (fun q => absurd (x_lc (show v = b from hA.2.symm)) q)
    refine e_goto (pc := 2143) (tgt := 3041) dL_law__2143 (by decide) ?_
    refine e_drop (i := 5) ?_
    refine e_drop (i := 6) ?_
    exact kk
set_option maxRecDepth 100000 in
set_option maxHeartbeats 4000000 in
theorem k37 {g : xG} {al : List (Nat × Nat × Nat)} {ro : Nat → Nat → Option Nat} (hst : g.1.stackTraces = false) (hs : SH al ro) (ho : (16 * 27 + 0, 21, 1) ∈ al) {M : Nat → xU} {h' : xH} {i K S0 : Nat} (hi : i + 6 ≤ x_L g) (hL : x_L g < 2147483648) {X T N Dr Kp Th La Lb Lc Fo St Ri Br Ro Ot S : xU} {A : xA} {t0 : (Int ⊕ Nat)} {Brx : xU} {b : Int} {Sy : xU} (hX : G11_pairs (x_sc g (i + 1)) N Br = some (t0, Brx)) (hE : ∀ E, t0 = .inr E → E ∈ ([1] : List Nat)) (hS : G12_pairs (x_sc g (i + 1)) S = some (b, Sy)) (hA : Ag (x_cd [1]) t0 b Sy)
    (kk : Ev g yL_law_ cL_law_ 7 (some .boolean) [] 60 3041 [some (x_r 1), some (x_r (16 * 1 + 0)), some (x_r (16 * 32 + 0)), some (x_r (16 * 27 + 0)), some (x_i (i : Int)), none, none] [] (al, ro, fl (ml (x_ac M A) [1, 2, 3, 4, 5, 18, 19, 20, 21, 22, 23, 24, 25, 26, 27, 32] [X, T, N, Dr, Kp, Th, La, Lb, Lc, Fo, St, Ri, Brx, Ro, (x_out Ot t0), Sy])) K S0 (.inl (some (x_i 1))) h') : Ev g yL_law_ cL_law_ 7 (some .boolean) [] 60 2146 [some (x_r 1), some (x_r (16 * 1 + 0)), some (x_r (16 * 32 + 0)), some (x_r (16 * 27 + 0)), some (x_i (i : Int)), none, none] [] (al, ro, fl (ml (x_ac M A) [1, 2, 3, 4, 5, 18, 19, 20, 21, 22, 23, 24, 25, 26, 27, 32] [X, T, N, Dr, Kp, Th, La, Lb, Lc, Fo, St, Ri, Br, Ro, Ot, S])) (1 + K) (6 + S0) (.inl (some (x_i 1))) h' := by
  have hn : ([1, 2, 3, 4, 5, 18, 19, 20, 21, 22, 23, 24, 25, 26, 27, 32] : List Nat).Nodup := by decide
  refine e_aloadn (pc := 2146) (i := 1) dL_law__2146 rfl rfl ?_
  refine e_aloadn (pc := 2147) (i := 0) dL_law__2147 rfl rfl ?_
  refine e_iload (pc := 2148) dL_law__2148 rfl ?_
  refine e_iconst (pc := 2150) dL_law__2150 (x_R rfl) ?_
  refine e_iadd (pc := 2151) dL_law__2151 ?_
  rw [show x_add (i : Int) 1 = ((i + 1 : Nat) : Int) from x_ni (k := 1) (by omega)]
  refine e_sld (pc := 2152) dL_law__2152 (by omega) (by omega) ?_
  show Ev g _ _ _ _ _ _ 2153 [some (x_r 1), some (x_r (16 * 1 + 0)), some (x_r (16 * 32 + 0)), some (x_r (16 * 27 + 0)), some (x_i (i : Int)), none, none] [x_i (x_sc g (i + 1)), x_r (16 * 1 + 0)] (al, ro, fl (ml (x_ac M A) [1, 2, 3, 4, 5, 18, 19, 20, 21, 22, 23, 24, 25, 26, 27, 32] [X, T, N, Dr, Kp, Th, La, Lb, Lc, Fo, St, Ri, Br, Ro, Ot, S])) _ _ _ _
  refine e_aloadn (pc := 2153) (i := 3) dL_law__2153 rfl rfl ?_
  refine e_invSH (pc := 2154) (K1 := 1) (S1 := 6) (K := K) (S := S0) (dd2 := 5) (av := [x_r (16 * 1 + 0), x_i (x_sc g (i + 1)), x_r (16 * 27 + 0)]) (st := []) dL_law__2154 (xmH_pairs 273 (x_inB (x_t6 (List.mem_of_getElem? (i := 171) rfl)) rfl)) rfl (f_calH (M := (x_ac M A)) (us2 := [3, 25, 27]) [2, 12, 14] hn rfl (And.intro rfl (And.intro rfl (And.intro rfl trivial))) rfl rfl rfl (c_L_pairs hst hs ho hX hE)) (by decide) (Nat.le_of_ble_eq_true rfl) (Or.inl rfl) ?_
  show Ev g _ _ _ _ _ _ 2157 [some (x_r 1), some (x_r (16 * 1 + 0)), some (x_r (16 * 32 + 0)), some (x_r (16 * 27 + 0)), some (x_i (i : Int)), none, none] [x_i (x_wc [1] t0)] (al, ro, fl (ml (x_ac M A) [1, 2, 3, 4, 5, 18, 19, 20, 21, 22, 23, 24, 25, 26, 27, 32] [X, T, N, Dr, Kp, Th, La, Lb, Lc, Fo, St, Ri, Brx, Ro, (x_out Ot t0), S])) _ _ _ _
  refine e_istore (pc := 2157) (i := 5) dL_law__2157 (by decide) rfl ?_
  show Ev g _ _ _ _ _ _ 2159 [some (x_r 1), some (x_r (16 * 1 + 0)), some (x_r (16 * 32 + 0)), some (x_r (16 * 27 + 0)), some (x_i (i : Int)), some (x_i (x_wc [1] t0)), none] [] (al, ro, fl (ml (x_ac M A) [1, 2, 3, 4, 5, 18, 19, 20, 21, 22, 23, 24, 25, 26, 27, 32] [X, T, N, Dr, Kp, Th, La, Lb, Lc, Fo, St, Ri, Brx, Ro, (x_out Ot t0), S])) _ _ _ _
  refine e_aloadn (pc := 2159) (i := 2) dL_law__2159 rfl rfl ?_
  refine e_aloadn (pc := 2160) (i := 0) dL_law__2160 rfl rfl ?_
  refine e_iload (pc := 2161) dL_law__2161 rfl ?_
  refine e_iconst (pc := 2163) dL_law__2163 (x_R rfl) ?_
  refine e_iadd (pc := 2164) dL_law__2164 ?_
  rw [show x_add (i : Int) 1 = ((i + 1 : Nat) : Int) from x_ni (k := 1) (by omega)]
  refine e_sld (pc := 2165) dL_law__2165 (by omega) (by omega) ?_
  show Ev g _ _ _ _ _ _ 2166 [some (x_r 1), some (x_r (16 * 1 + 0)), some (x_r (16 * 32 + 0)), some (x_r (16 * 27 + 0)), some (x_i (i : Int)), some (x_i (x_wc [1] t0)), none] [x_i (x_sc g (i + 1)), x_r (16 * 32 + 0)] (al, ro, fl (ml (x_ac M A) [1, 2, 3, 4, 5, 18, 19, 20, 21, 22, 23, 24, 25, 26, 27, 32] [X, T, N, Dr, Kp, Th, La, Lb, Lc, Fo, St, Ri, Brx, Ro, (x_out Ot t0), S])) _ _ _ _
  refine e_wide (K0 := 0 + K) (S0 := 0 + S0) (by omega) (by omega) ?_
  refine e_invV (pc := 2166) (K1 := 0) (S1 := 0) (K := K) (S := S0) (dd2 := 3) (av := [x_i (x_sc g (i + 1))]) (st := []) (id := 16 * 32 + 0) dL_law__2166 xmL_275 rfl (Or.inl ⟨10, 27, TX12, (sa_32_0 hs), rfl, by decide⟩) (f_cal (M := (x_ac M A)) (us2 := [32]) [15] hn rfl (And.intro rfl trivial) rfl rfl rfl (c_X12_pairs hst hs hS)) (by decide) (Nat.le_of_ble_eq_true rfl) (Or.inl rfl) ?_
  show Ev g _ _ _ _ _ _ 2169 [some (x_r 1), some (x_r (16 * 1 + 0)), some (x_r (16 * 32 + 0)), some (x_r (16 * 27 + 0)), some (x_i (i : Int)), some (x_i (x_wc [1] t0)), none] [x_i b] (al, ro, fl (ml (x_ac M A) [1, 2, 3, 4, 5, 18, 19, 20, 21, 22, 23, 24, 25, 26, 27, 32] [X, T, N, Dr, Kp, Th, La, Lb, Lc, Fo, St, Ri, Brx, Ro, (x_out Ot t0), Sy])) _ _ _ _
  refine e_istore (pc := 2169) (i := 6) dL_law__2169 (by decide) rfl ?_
  show Ev g _ _ _ _ _ _ 2171 [some (x_r 1), some (x_r (16 * 1 + 0)), some (x_r (16 * 32 + 0)), some (x_r (16 * 27 + 0)), some (x_i (i : Int)), some (x_i (x_wc [1] t0)), some (x_i b)] [] (al, ro, fl (ml (x_ac M A) [1, 2, 3, 4, 5, 18, 19, 20, 21, 22, 23, 24, 25, 26, 27, 32] [X, T, N, Dr, Kp, Th, La, Lb, Lc, Fo, St, Ri, Brx, Ro, (x_out Ot t0), Sy])) _ _ _ _
  refine e_aloadn (pc := 2171) (i := 2) dL_law__2171 rfl rfl ?_
  refine e_wide (K0 := 0 + K) (S0 := 0 + S0) (by omega) (by omega) ?_
  refine e_invV (pc := 2172) (K1 := 0) (S1 := 0) (K := K) (S := S0) (dd2 := 0) (av := []) (st := []) (id := 16 * 32 + 0) dL_law__2172 xmL_156 rfl (Or.inl ⟨10, 27, TX12, (sa_32_0 hs), rfl, by decide⟩) (f_cal (M := (x_ac M A)) (us2 := [32]) [15] hn rfl (And.intro rfl trivial) rfl rfl rfl (c_X12_thrown hst hs (show G12_thrown Sy = some (Sy 0 0) from rfl))) (by decide) (Nat.le_of_ble_eq_true rfl) (Or.inl rfl) ?_
  show Ev g _ _ _ _ _ _ 2175 [some (x_r 1), some (x_r (16 * 1 + 0)), some (x_r (16 * 32 + 0)), some (x_r (16 * 27 + 0)), some (x_i (i : Int)), some (x_i (x_wc [1] t0)), some (x_i b)] [x_i (Sy 0 0)] (al, ro, fl (ml (x_ac M A) [1, 2, 3, 4, 5, 18, 19, 20, 21, 22, 23, 24, 25, 26, 27, 32] [X, T, N, Dr, Kp, Th, La, Lb, Lc, Fo, St, Ri, Brx, Ro, (x_out Ot t0), Sy])) _ _ _ _
  have hk : Sy 0 0 = x_wc [1] t0 := x_ag_k hA
  refine e_iload (pc := 2175) dL_law__2175 rfl ?_
  refine e_icmp_eq (pc := 2177) (tgt := 2182) dL_law__2177 (by decide) (fun _ => ?_) (fun q => absurd hk q)
  refine e_iload (pc := 2182) dL_law__2182 rfl ?_
  cases t0 with
  | inr E =>
    refine e_if_ne (pc := 2184) (tgt := 2199) dL_law__2184 (by decide) (fun _ => ?_) (fun q => absurd q (x_wc_r [1] E))
    refine e_goto (pc := 2199) (tgt := 3041) dL_law__2199 (by decide) ?_
    refine e_drop (i := 5) ?_
    refine e_drop (i := 6) ?_
    exact kk
  | inl v =>
    refine e_if_ne (pc := 2184) (tgt := 2199) dL_law__2184 (by decide) (fun q => absurd rfl q) (fun _ => ?_)
    refine e_aloadn (pc := 2187) (i := 3) dL_law__2187 rfl rfl ?_
    refine e_iconst (pc := 2188) dL_law__2188 (x_R rfl) ?_
    refine f_lald (pc := 2189) (k := 14) (u := 27) (q := 0) (len := 1) dL_law__2189 ho (by decide) hn rfl rfl (by decide) ?_
    refine e_iload (pc := 2190) dL_law__2190 rfl ?_
    refine e_i2l (pc := 2192) dL_law__2192 ?_
    refine e_lcmp (pc := 2193) dL_law__2193 ?_
    refine e_if_eq (pc := 2194) (tgt := 2199) dL_law__2194 (by decide) (fun _ => ?_) (fun q => absurd (x_lc (show v = b from hA.2.symm)) q)
    refine e_goto (pc := 2199) (tgt := 3041) dL_law__2199 (by decide) ?_
    refine e_drop (i := 5) ?_
    refine e_drop (i := 6) ?_
    exact kk
set_option maxRecDepth 100000 in
set_option maxHeartbeats 4000000 in
theorem k38 {g : xG} {al : List (Nat × Nat × Nat)} {ro : Nat → Nat → Option Nat} (hst : g.1.stackTraces = false) (hs : SH al ro) (ho : (16 * 27 + 0, 21, 1) ∈ al) {M : Nat → xU} {h' : xH} {i K S0 : Nat} (hi : i + 6 ≤ x_L g) (hL : x_L g < 2147483648) {X T N Dr Kp Th La Lb Lc Fo St Ri Br Ro Ot S : xU} {A : xA} {a : Int} {b : Int} {Sy : xU} (hX : G11_watch N = some a) (hS : G12_watch S = some (b, Sy)) (hA : a = b)
    (kk : Ev g yL_law_ cL_law_ 7 (some .boolean) [] 60 3041 [some (x_r 1), some (x_r (16 * 1 + 0)), some (x_r (16 * 32 + 0)), some (x_r (16 * 27 + 0)), some (x_i (i : Int)), none, none] [] (al, ro, fl (ml (x_ac M A) [1, 2, 3, 4, 5, 18, 19, 20, 21, 22, 23, 24, 25, 26, 27, 32] [X, T, N, Dr, Kp, Th, La, Lb, Lc, Fo, St, Ri, Br, Ro, Ot, Sy])) K S0 (.inl (some (x_i 1))) h') : Ev g yL_law_ cL_law_ 7 (some .boolean) [] 60 2202 [some (x_r 1), some (x_r (16 * 1 + 0)), some (x_r (16 * 32 + 0)), some (x_r (16 * 27 + 0)), some (x_i (i : Int)), none, none] [] (al, ro, fl (ml (x_ac M A) [1, 2, 3, 4, 5, 18, 19, 20, 21, 22, 23, 24, 25, 26, 27, 32] [X, T, N, Dr, Kp, Th, La, Lb, Lc, Fo, St, Ri, Br, Ro, Ot, S])) K S0 (.inl (some (x_i 1))) h' := by
  have hn : ([1, 2, 3, 4, 5, 18, 19, 20, 21, 22, 23, 24, 25, 26, 27, 32] : List Nat).Nodup := by decide
  refine e_aloadn (pc := 2202) (i := 1) dL_law__2202 rfl rfl ?_
  refine e_wide (K0 := 0 + K) (S0 := 0 + S0) (by omega) (by omega) ?_
  refine e_invV (pc := 2203) (K1 := 0) (S1 := 0) (K := K) (S := S0) (dd2 := 5) (av := []) (st := []) (id := 16 * 1 + 0) dL_law__2203 xmL_276 rfl (Or.inl ⟨9, 17, TX11, (sa_1_0 hs), rfl, by decide⟩) (f_cal (M := (x_ac M A)) (us2 := [3]) [2] hn rfl (And.intro rfl trivial) rfl rfl rfl (c_X11_watch hst hs hX)) (by decide) (Nat.le_of_ble_eq_true rfl) (Or.inl rfl) ?_
  show Ev g _ _ _ _ _ _ 2206 [some (x_r 1), some (x_r (16 * 1 + 0)), some (x_r (16 * 32 + 0)), some (x_r (16 * 27 + 0)), some (x_i (i : Int)), none, none] [x_i a] (al, ro, fl (ml (x_ac M A) [1, 2, 3, 4, 5, 18, 19, 20, 21, 22, 23, 24, 25, 26, 27, 32] [X, T, N, Dr, Kp, Th, La, Lb, Lc, Fo, St, Ri, Br, Ro, Ot, S])) _ _ _ _
  refine e_aloadn (pc := 2206) (i := 2) dL_law__2206 rfl rfl ?_
  refine e_wide (K0 := 0 + K) (S0 := 0 + S0) (by omega) (by omega) ?_
  refine e_invV (pc := 2207) (K1 := 0) (S1 := 0) (K := K) (S := S0) (dd2 := 3) (av := []) (st := [x_i a]) (id := 16 * 32 + 0) dL_law__2207 xmL_279 rfl (Or.inl ⟨10, 27, TX12, (sa_32_0 hs), rfl, by decide⟩) (f_cal (M := (x_ac M A)) (us2 := [32]) [15] hn rfl (And.intro rfl trivial) rfl rfl rfl (c_X12_watch hst hs hS)) (by decide) (Nat.le_of_ble_eq_true rfl) (Or.inl rfl) ?_
  show Ev g _ _ _ _ _ _ 2210 [some (x_r 1), some (x_r (16 * 1 + 0)), some (x_r (16 * 32 + 0)), some (x_r (16 * 27 + 0)), some (x_i (i : Int)), none, none] [x_i b, x_i a] (al, ro, fl (ml (x_ac M A) [1, 2, 3, 4, 5, 18, 19, 20, 21, 22, 23, 24, 25, 26, 27, 32] [X, T, N, Dr, Kp, Th, La, Lb, Lc, Fo, St, Ri, Br, Ro, Ot, Sy])) _ _ _ _
  refine e_icmp_eq (pc := 2210) (tgt := 3041) dL_law__2210 (by decide) (fun _ => ?_) (fun q => absurd hA q)
  exact kk
set_option maxRecDepth 100000 in
set_option maxHeartbeats 4000000 in
theorem k39 {g : xG} {al : List (Nat × Nat × Nat)} {ro : Nat → Nat → Option Nat} (hst : g.1.stackTraces = false) (hs : SH al ro) (ho : (16 * 27 + 0, 21, 1) ∈ al) {M : Nat → xU} {h' : xH} {i K S0 : Nat} (hi : i + 6 ≤ x_L g) (hL : x_L g < 2147483648) {X T N Dr Kp Th La Lb Lc Fo St Ri Br Ro Ot S : xU} {A : xA} {a : Int} {b : Int} {Sy : xU} (hX : G11_chapter (x_sc g (i + 1)) N = some a) (hS : G12_chapter (x_sc g (i + 1)) S = some (b, Sy)) (hA : a = b)
    (kk : Ev g yL_law_ cL_law_ 7 (some .boolean) [] 60 3041 [some (x_r 1), some (x_r (16 * 1 + 0)), some (x_r (16 * 32 + 0)), some (x_r (16 * 27 + 0)), some (x_i (i : Int)), none, none] [] (al, ro, fl (ml (x_ac M A) [1, 2, 3, 4, 5, 18, 19, 20, 21, 22, 23, 24, 25, 26, 27, 32] [X, T, N, Dr, Kp, Th, La, Lb, Lc, Fo, St, Ri, Br, Ro, Ot, Sy])) K S0 (.inl (some (x_i 1))) h') : Ev g yL_law_ cL_law_ 7 (some .boolean) [] 60 2215 [some (x_r 1), some (x_r (16 * 1 + 0)), some (x_r (16 * 32 + 0)), some (x_r (16 * 27 + 0)), some (x_i (i : Int)), none, none] [] (al, ro, fl (ml (x_ac M A) [1, 2, 3, 4, 5, 18, 19, 20, 21, 22, 23, 24, 25, 26, 27, 32] [X, T, N, Dr, Kp, Th, La, Lb, Lc, Fo, St, Ri, Br, Ro, Ot, S])) K S0 (.inl (some (x_i 1))) h' := by
  have hn : ([1, 2, 3, 4, 5, 18, 19, 20, 21, 22, 23, 24, 25, 26, 27, 32] : List Nat).Nodup := by decide
  refine e_aloadn (pc := 2215) (i := 1) dL_law__2215 rfl rfl ?_
  refine e_aloadn (pc := 2216) (i := 0) dL_law__2216 rfl rfl ?_
  refine e_iload (pc := 2217) dL_law__2217 rfl ?_
  refine e_iconst (pc := 2219) dL_law__2219 (x_R rfl) ?_
  refine e_iadd (pc := 2220) dL_law__2220 ?_
  rw [show x_add (i : Int) 1 = ((i + 1 : Nat) : Int) from x_ni (k := 1) (by omega)]
  refine e_sld (pc := 2221) dL_law__2221 (by omega) (by omega) ?_
  show Ev g _ _ _ _ _ _ 2222 [some (x_r 1), some (x_r (16 * 1 + 0)), some (x_r (16 * 32 + 0)), some (x_r (16 * 27 + 0)), some (x_i (i : Int)), none, none] [x_i (x_sc g (i + 1)), x_r (16 * 1 + 0)] (al, ro, fl (ml (x_ac M A) [1, 2, 3, 4, 5, 18, 19, 20, 21, 22, 23, 24, 25, 26, 27, 32] [X, T, N, Dr, Kp, Th, La, Lb, Lc, Fo, St, Ri, Br, Ro, Ot, S])) _ _ _ _
  refine e_wide (K0 := 0 + K) (S0 := 0 + S0) (by omega) (by omega) ?_
  refine e_invV (pc := 2222) (K1 := 0) (S1 := 0) (K := K) (S := S0) (dd2 := 3) (av := [x_i (x_sc g (i + 1))]) (st := []) (id := 16 * 1 + 0) dL_law__2222 xmL_280 rfl (Or.inl ⟨9, 17, TX11, (sa_1_0 hs), rfl, by decide⟩) (f_cal (M := (x_ac M A)) (us2 := [3]) [2] hn rfl (And.intro rfl trivial) rfl rfl rfl (c_X11_chapter hst hs hX)) (by decide) (Nat.le_of_ble_eq_true rfl) (Or.inl rfl) ?_
  show Ev g _ _ _ _ _ _ 2225 [some (x_r 1), some (x_r (16 * 1 + 0)), some (x_r (16 * 32 + 0)), some (x_r (16 * 27 + 0)), some (x_i (i : Int)), none, none] [x_i a] (al, ro, fl (ml (x_ac M A) [1, 2, 3, 4, 5, 18, 19, 20, 21, 22, 23, 24, 25, 26, 27, 32] [X, T, N, Dr, Kp, Th, La, Lb, Lc, Fo, St, Ri, Br, Ro, Ot, S])) _ _ _ _
  refine e_aloadn (pc := 2225) (i := 2) dL_law__2225 rfl rfl ?_
  refine e_aloadn (pc := 2226) (i := 0) dL_law__2226 rfl rfl ?_
  refine e_iload (pc := 2227) dL_law__2227 rfl ?_
  refine e_iconst (pc := 2229) dL_law__2229 (x_R rfl) ?_
  refine e_iadd (pc := 2230) dL_law__2230 ?_
  rw [show x_add (i : Int) 1 = ((i + 1 : Nat) : Int) from x_ni (k := 1) (by omega)]
  refine e_sld (pc := 2231) dL_law__2231 (by omega) (by omega) ?_
  show Ev g _ _ _ _ _ _ 2232 [some (x_r 1), some (x_r (16 * 1 + 0)), some (x_r (16 * 32 + 0)), some (x_r (16 * 27 + 0)), some (x_i (i : Int)), none, none] [x_i (x_sc g (i + 1)), x_r (16 * 32 + 0), x_i a] (al, ro, fl (ml (x_ac M A) [1, 2, 3, 4, 5, 18, 19, 20, 21, 22, 23, 24, 25, 26, 27, 32] [X, T, N, Dr, Kp, Th, La, Lb, Lc, Fo, St, Ri, Br, Ro, Ot, S])) _ _ _ _
  refine e_wide (K0 := 0 + K) (S0 := 0 + S0) (by omega) (by omega) ?_
  refine e_invV (pc := 2232) (K1 := 0) (S1 := 0) (K := K) (S := S0) (dd2 := 3) (av := [x_i (x_sc g (i + 1))]) (st := [x_i a]) (id := 16 * 32 + 0) dL_law__2232 xmL_283 rfl (Or.inl ⟨10, 27, TX12, (sa_32_0 hs), rfl, by decide⟩) (f_cal (M := (x_ac M A)) (us2 := [32]) [15] hn rfl (And.intro rfl trivial) rfl rfl rfl (c_X12_chapter hst hs hS)) (by decide) (Nat.le_of_ble_eq_true rfl) (Or.inl rfl) ?_
  show Ev g _ _ _ _ _ _ 2235 [some (x_r 1), some (x_r (16 * 1 + 0)), some (x_r (16 * 32 + 0)), some (x_r (16 * 27 + 0)), some (x_i (i : Int)), none, none] [x_i b, x_i a] (al, ro, fl (ml (x_ac M A) [1, 2, 3, 4, 5, 18, 19, 20, 21, 22, 23, 24, 25, 26, 27, 32] [X, T, N, Dr, Kp, Th, La, Lb, Lc, Fo, St, Ri, Br, Ro, Ot, Sy])) _ _ _ _
  refine e_icmp_eq (pc := 2235) (tgt := 3041) dL_law__2235 (by decide) (fun _ => ?_) (fun q => absurd hA q)
  exact kk
set_option maxRecDepth 100000 in
set_option maxHeartbeats 4000000 in
theorem k40 {g : xG} {al : List (Nat × Nat × Nat)} {ro : Nat → Nat → Option Nat} (hst : g.1.stackTraces = false) (hs : SH al ro) (ho : (16 * 27 + 0, 21, 1) ∈ al) {M : Nat → xU} {h' : xH} {i K S0 : Nat} (hi : i + 6 ≤ x_L g) (hL : x_L g < 2147483648) {X T N Dr Kp Th La Lb Lc Fo St Ri Br Ro Ot S : xU} {A : xA} {t0 : (Int ⊕ Nat)} {b : Int} {Sy : xU} (hX : G11_swings (x_sc g (i + 1)) N = some t0) (hE : ∀ E, t0 = .inr E → E ∈ ([1] : List Nat)) (hS : G12_swings (x_sc g (i + 1)) S = some (b, Sy)) (hA : Ag (x_cd [1]) t0 b Sy)
    (kk : Ev g yL_law_ cL_law_ 7 (some .boolean) [] 60 3041 [some (x_r 1), some (x_r (16 * 1 + 0)), some (x_r (16 * 32 + 0)), some (x_r (16 * 27 + 0)), some (x_i (i : Int)), none, none] [] (al, ro, fl (ml (x_ac M A) [1, 2, 3, 4, 5, 18, 19, 20, 21, 22, 23, 24, 25, 26, 27, 32] [X, T, N, Dr, Kp, Th, La, Lb, Lc, Fo, St, Ri, Br, Ro, (x_out Ot t0), Sy])) K S0 (.inl (some (x_i 1))) h') : Ev g yL_law_ cL_law_ 7 (some .boolean) [] 60 2240 [some (x_r 1), some (x_r (16 * 1 + 0)), some (x_r (16 * 32 + 0)), some (x_r (16 * 27 + 0)), some (x_i (i : Int)), none, none] [] (al, ro, fl (ml (x_ac M A) [1, 2, 3, 4, 5, 18, 19, 20, 21, 22, 23, 24, 25, 26, 27, 32] [X, T, N, Dr, Kp, Th, La, Lb, Lc, Fo, St, Ri, Br, Ro, Ot, S])) (1 + K) (6 + S0) (.inl (some (x_i 1))) h' := by
  have hn : ([1, 2, 3, 4, 5, 18, 19, 20, 21, 22, 23, 24, 25, 26, 27, 32] : List Nat).Nodup := by decide
  refine e_aloadn (pc := 2240) (i := 1) dL_law__2240 rfl rfl ?_
  refine e_aloadn (pc := 2241) (i := 0) dL_law__2241 rfl rfl ?_
  refine e_iload (pc := 2242) dL_law__2242 rfl ?_
  refine e_iconst (pc := 2244) dL_law__2244 (x_R rfl) ?_
  refine e_iadd (pc := 2245) dL_law__2245 ?_
  rw [show x_add (i : Int) 1 = ((i + 1 : Nat) : Int) from x_ni (k := 1) (by omega)]
  refine e_sld (pc := 2246) dL_law__2246 (by omega) (by omega) ?_
  show Ev g _ _ _ _ _ _ 2247 [some (x_r 1), some (x_r (16 * 1 + 0)), some (x_r (16 * 32 + 0)), some (x_r (16 * 27 + 0)), some (x_i (i : Int)), none, none] [x_i (x_sc g (i + 1)), x_r (16 * 1 + 0)] (al, ro, fl (ml (x_ac M A) [1, 2, 3, 4, 5, 18, 19, 20, 21, 22, 23, 24, 25, 26, 27, 32] [X, T, N, Dr, Kp, Th, La, Lb, Lc, Fo, St, Ri, Br, Ro, Ot, S])) _ _ _ _
  refine e_aloadn (pc := 2247) (i := 3) dL_law__2247 rfl rfl ?_
  refine e_invSH (pc := 2248) (K1 := 1) (S1 := 6) (K := K) (S := S0) (dd2 := 5) (av := [x_r (16 * 1 + 0), x_i (x_sc g (i + 1)), x_r (16 * 27 + 0)]) (st := []) dL_law__2248 (xmH_swings 284 (x_inB (x_t6 (List.mem_of_getElem? (i := 200) rfl)) rfl)) rfl (f_calH (M := (x_ac M A)) (us2 := [3, 27]) [2, 14] hn rfl (And.intro rfl (And.intro rfl trivial)) rfl rfl rfl (c_L_swings hst hs ho hX hE)) (by decide) (Nat.le_of_ble_eq_true rfl) (Or.inl rfl) ?_
  show Ev g _ _ _ _ _ _ 2251 [some (x_r 1), some (x_r (16 * 1 + 0)), some (x_r (16 * 32 + 0)), some (x_r (16 * 27 + 0)), some (x_i (i : Int)), none, none] [x_i (x_wc [1] t0)] (al, ro, fl (ml (x_ac M A) [1, 2, 3, 4, 5, 18, 19, 20, 21, 22, 23, 24, 25, 26, 27, 32] [X, T, N, Dr, Kp, Th, La, Lb, Lc, Fo, St, Ri, Br, Ro, (x_out Ot t0), S])) _ _ _ _
  refine e_istore (pc := 2251) (i := 5) dL_law__2251 (by decide) rfl ?_
  show Ev g _ _ _ _ _ _ 2253 [some (x_r 1), some (x_r (16 * 1 + 0)), some (x_r (16 * 32 + 0)), some (x_r (16 * 27 + 0)), some (x_i (i : Int)), some (x_i (x_wc [1] t0)), none] [] (al, ro, fl (ml (x_ac M A) [1, 2, 3, 4, 5, 18, 19, 20, 21, 22, 23, 24, 25, 26, 27, 32] [X, T, N, Dr, Kp, Th, La, Lb, Lc, Fo, St, Ri, Br, Ro, (x_out Ot t0), S])) _ _ _ _
  refine e_aloadn (pc := 2253) (i := 2) dL_law__2253 rfl rfl ?_
  refine e_aloadn (pc := 2254) (i := 0) dL_law__2254 rfl rfl ?_
  refine e_iload (pc := 2255) dL_law__2255 rfl ?_
  refine e_iconst (pc := 2257) dL_law__2257 (x_R rfl) ?_
  refine e_iadd (pc := 2258) dL_law__2258 ?_
  rw [show x_add (i : Int) 1 = ((i + 1 : Nat) : Int) from x_ni (k := 1) (by omega)]
  refine e_sld (pc := 2259) dL_law__2259 (by omega) (by omega) ?_
  show Ev g _ _ _ _ _ _ 2260 [some (x_r 1), some (x_r (16 * 1 + 0)), some (x_r (16 * 32 + 0)), some (x_r (16 * 27 + 0)), some (x_i (i : Int)), some (x_i (x_wc [1] t0)), none] [x_i (x_sc g (i + 1)), x_r (16 * 32 + 0)] (al, ro, fl (ml (x_ac M A) [1, 2, 3, 4, 5, 18, 19, 20, 21, 22, 23, 24, 25, 26, 27, 32] [X, T, N, Dr, Kp, Th, La, Lb, Lc, Fo, St, Ri, Br, Ro, (x_out Ot t0), S])) _ _ _ _
  refine e_wide (K0 := 0 + K) (S0 := 0 + S0) (by omega) (by omega) ?_
  refine e_invV (pc := 2260) (K1 := 0) (S1 := 0) (K := K) (S := S0) (dd2 := 4) (av := [x_i (x_sc g (i + 1))]) (st := []) (id := 16 * 32 + 0) dL_law__2260 xmL_286 rfl (Or.inl ⟨10, 27, TX12, (sa_32_0 hs), rfl, by decide⟩) (f_cal (M := (x_ac M A)) (us2 := [32]) [15] hn rfl (And.intro rfl trivial) rfl rfl rfl (c_X12_swings hst hs hS)) (by decide) (Nat.le_of_ble_eq_true rfl) (Or.inl rfl) ?_
  show Ev g _ _ _ _ _ _ 2263 [some (x_r 1), some (x_r (16 * 1 + 0)), some (x_r (16 * 32 + 0)), some (x_r (16 * 27 + 0)), some (x_i (i : Int)), some (x_i (x_wc [1] t0)), none] [x_i b] (al, ro, fl (ml (x_ac M A) [1, 2, 3, 4, 5, 18, 19, 20, 21, 22, 23, 24, 25, 26, 27, 32] [X, T, N, Dr, Kp, Th, La, Lb, Lc, Fo, St, Ri, Br, Ro, (x_out Ot t0), Sy])) _ _ _ _
  refine e_istore (pc := 2263) (i := 6) dL_law__2263 (by decide) rfl ?_
  show Ev g _ _ _ _ _ _ 2265 [some (x_r 1), some (x_r (16 * 1 + 0)), some (x_r (16 * 32 + 0)), some (x_r (16 * 27 + 0)), some (x_i (i : Int)), some (x_i (x_wc [1] t0)), some (x_i b)] [] (al, ro, fl (ml (x_ac M A) [1, 2, 3, 4, 5, 18, 19, 20, 21, 22, 23, 24, 25, 26, 27, 32] [X, T, N, Dr, Kp, Th, La, Lb, Lc, Fo, St, Ri, Br, Ro, (x_out Ot t0), Sy])) _ _ _ _
  refine e_aloadn (pc := 2265) (i := 2) dL_law__2265 rfl rfl ?_
  refine e_wide (K0 := 0 + K) (S0 := 0 + S0) (by omega) (by omega) ?_
  refine e_invV (pc := 2266) (K1 := 0) (S1 := 0) (K := K) (S := S0) (dd2 := 0) (av := []) (st := []) (id := 16 * 32 + 0) dL_law__2266 xmL_156 rfl (Or.inl ⟨10, 27, TX12, (sa_32_0 hs), rfl, by decide⟩) (f_cal (M := (x_ac M A)) (us2 := [32]) [15] hn rfl (And.intro rfl trivial) rfl rfl rfl (c_X12_thrown hst hs (show G12_thrown Sy = some (Sy 0 0) from rfl))) (by decide) (Nat.le_of_ble_eq_true rfl) (Or.inl rfl) ?_
  show Ev g _ _ _ _ _ _ 2269 [some (x_r 1), some (x_r (16 * 1 + 0)), some (x_r (16 * 32 + 0)), some (x_r (16 * 27 + 0)), some (x_i (i : Int)), some (x_i (x_wc [1] t0)), some (x_i b)] [x_i (Sy 0 0)] (al, ro, fl (ml (x_ac M A) [1, 2, 3, 4, 5, 18, 19, 20, 21, 22, 23, 24, 25, 26, 27, 32] [X, T, N, Dr, Kp, Th, La, Lb, Lc, Fo, St, Ri, Br, Ro, (x_out Ot t0), Sy])) _ _ _ _
  have hk : Sy 0 0 = x_wc [1] t0 := x_ag_k hA
  refine e_iload (pc := 2269) dL_law__2269 rfl ?_
  refine e_icmp_eq (pc := 2271) (tgt := 2276) dL_law__2271 (by decide) (fun _ => ?_) (fun q => absurd hk q)
  refine e_iload (pc := 2276) dL_law__2276 rfl ?_
  cases t0 with
  | inr E =>
    refine e_if_ne (pc := 2278) (tgt := 2293) dL_law__2278 (by decide) (fun _ => ?_) (fun q => absurd q (x_wc_r [1] E))
    refine e_goto (pc := 2293) (tgt := 3041) dL_law__2293 (by decide) ?_
    refine e_drop (i := 5) ?_
    refine e_drop (i := 6) ?_
    exact kk
  | inl v =>
    refine e_if_ne (pc := 2278) (tgt := 2293) dL_law__2278 (by decide) (fun q => absurd rfl q) (fun _ => ?_)
    refine e_aloadn (pc := 2281) (i := 3) dL_law__2281 rfl rfl ?_
    refine e_iconst (pc := 2282) dL_law__2282 (x_R rfl) ?_
    refine f_lald (pc := 2283) (k := 14) (u := 27) (q := 0) (len := 1) dL_law__2283 ho (by decide) hn rfl rfl (by decide) ?_
    refine e_iload (pc := 2284) dL_law__2284 rfl ?_
    refine e_i2l (pc := 2286) dL_law__2286 ?_
    refine e_lcmp (pc := 2287) dL_law__2287 ?_
    refine e_if_eq (pc := 2288) (tgt := 2293) dL_law__2288 (by decide) (fun _ => ?_) (fun q => absurd (x_lc (show v = b from hA.2.symm)) q)
    refine e_goto (pc := 2293) (tgt := 3041) dL_law__2293 (by decide) ?_
    refine e_drop (i := 5) ?_
    refine e_drop (i := 6) ?_
    exact kk
set_option maxRecDepth 100000 in
set_option maxHeartbeats 4000000 in
theorem k41 {g : xG} {al : List (Nat × Nat × Nat)} {ro : Nat → Nat → Option Nat} (hst : g.1.stackTraces = false) (hs : SH al ro) (ho : (16 * 27 + 0, 21, 1) ∈ al) {M : Nat → xU} {h' : xH} {i K S0 : Nat} (hi : i + 6 ≤ x_L g) (hL : x_L g < 2147483648) {X T N Dr Kp Th La Lb Lc Fo St Ri Br Ro Ot S : xU} {A : xA} {a : Int} {b : Int} {Sy : xU} (hX : G11_elder N = some a) (hS : G12_elder S = some (b, Sy)) (hA : a = b)
    (kk : Ev g yL_law_ cL_law_ 7 (some .boolean) [] 60 3041 [some (x_r 1), some (x_r (16 * 1 + 0)), some (x_r (16 * 32 + 0)), some (x_r (16 * 27 + 0)), some (x_i (i : Int)), none, none] [] (al, ro, fl (ml (x_ac M A) [1, 2, 3, 4, 5, 18, 19, 20, 21, 22, 23, 24, 25, 26, 27, 32] [X, T, N, Dr, Kp, Th, La, Lb, Lc, Fo, St, Ri, Br, Ro, Ot, Sy])) K S0 (.inl (some (x_i 1))) h') : Ev g yL_law_ cL_law_ 7 (some .boolean) [] 60 2296 [some (x_r 1), some (x_r (16 * 1 + 0)), some (x_r (16 * 32 + 0)), some (x_r (16 * 27 + 0)), some (x_i (i : Int)), none, none] [] (al, ro, fl (ml (x_ac M A) [1, 2, 3, 4, 5, 18, 19, 20, 21, 22, 23, 24, 25, 26, 27, 32] [X, T, N, Dr, Kp, Th, La, Lb, Lc, Fo, St, Ri, Br, Ro, Ot, S])) K S0 (.inl (some (x_i 1))) h' := by
  have hn : ([1, 2, 3, 4, 5, 18, 19, 20, 21, 22, 23, 24, 25, 26, 27, 32] : List Nat).Nodup := by decide
  refine e_aloadn (pc := 2296) (i := 1) dL_law__2296 rfl rfl ?_
  refine e_wide (K0 := 0 + K) (S0 := 0 + S0) (by omega) (by omega) ?_
  refine e_invV (pc := 2297) (K1 := 0) (S1 := 0) (K := K) (S := S0) (dd2 := 5) (av := []) (st := []) (id := 16 * 1 + 0) dL_law__2297 xmL_287 rfl (Or.inl ⟨9, 17, TX11, (sa_1_0 hs), rfl, by decide⟩) (f_cal (M := (x_ac M A)) (us2 := [3]) [2] hn rfl (And.intro rfl trivial) rfl rfl rfl (c_X11_elder hst hs hX)) (by decide) (Nat.le_of_ble_eq_true rfl) (Or.inl rfl) ?_
  show Ev g _ _ _ _ _ _ 2300 [some (x_r 1), some (x_r (16 * 1 + 0)), some (x_r (16 * 32 + 0)), some (x_r (16 * 27 + 0)), some (x_i (i : Int)), none, none] [x_i a] (al, ro, fl (ml (x_ac M A) [1, 2, 3, 4, 5, 18, 19, 20, 21, 22, 23, 24, 25, 26, 27, 32] [X, T, N, Dr, Kp, Th, La, Lb, Lc, Fo, St, Ri, Br, Ro, Ot, S])) _ _ _ _
  refine e_aloadn (pc := 2300) (i := 2) dL_law__2300 rfl rfl ?_
  refine e_wide (K0 := 0 + K) (S0 := 0 + S0) (by omega) (by omega) ?_
  refine e_invV (pc := 2301) (K1 := 0) (S1 := 0) (K := K) (S := S0) (dd2 := 4) (av := []) (st := [x_i a]) (id := 16 * 32 + 0) dL_law__2301 xmL_290 rfl (Or.inl ⟨10, 27, TX12, (sa_32_0 hs), rfl, by decide⟩) (f_cal (M := (x_ac M A)) (us2 := [32]) [15] hn rfl (And.intro rfl trivial) rfl rfl rfl (c_X12_elder hst hs hS)) (by decide) (Nat.le_of_ble_eq_true rfl) (Or.inl rfl) ?_
  show Ev g _ _ _ _ _ _ 2304 [some (x_r 1), some (x_r (16 * 1 + 0)), some (x_r (16 * 32 + 0)), some (x_r (16 * 27 + 0)), some (x_i (i : Int)), none, none] [x_i b, x_i a] (al, ro, fl (ml (x_ac M A) [1, 2, 3, 4, 5, 18, 19, 20, 21, 22, 23, 24, 25, 26, 27, 32] [X, T, N, Dr, Kp, Th, La, Lb, Lc, Fo, St, Ri, Br, Ro, Ot, Sy])) _ _ _ _
  refine e_icmp_eq (pc := 2304) (tgt := 3041) dL_law__2304 (by decide) (fun _ => ?_) (fun q => absurd hA q)
  exact kk
set_option maxRecDepth 100000 in
set_option maxHeartbeats 4000000 in
theorem k42 {g : xG} {al : List (Nat × Nat × Nat)} {ro : Nat → Nat → Option Nat} (hst : g.1.stackTraces = false) (hs : SH al ro) (ho : (16 * 27 + 0, 21, 1) ∈ al) {M : Nat → xU} {h' : xH} {i K S0 : Nat} (hi : i + 6 ≤ x_L g) (hL : x_L g < 2147483648) {X T N Dr Kp Th La Lb Lc Fo St Ri Br Ro Ot S : xU} {A : xA} {t0 : (Int ⊕ Nat)} {b : Int} {Sy : xU} (hX : G11_rests (x_sc g (i + 1)) N = some t0) (hE : ∀ E, t0 = .inr E → E ∈ ([1] : List Nat)) (hS : G12_rests (x_sc g (i + 1)) S = some (b, Sy)) (hA : Ag (x_cd [1]) t0 b Sy)
    (kk : Ev g yL_law_ cL_law_ 7 (some .boolean) [] 60 3041 [some (x_r 1), some (x_r (16 * 1 + 0)), some (x_r (16 * 32 + 0)), some (x_r (16 * 27 + 0)), some (x_i (i : Int)), none, none] [] (al, ro, fl (ml (x_ac M A) [1, 2, 3, 4, 5, 18, 19, 20, 21, 22, 23, 24, 25, 26, 27, 32] [X, T, N, Dr, Kp, Th, La, Lb, Lc, Fo, St, Ri, Br, Ro, (x_out Ot t0), Sy])) K S0 (.inl (some (x_i 1))) h') : Ev g yL_law_ cL_law_ 7 (some .boolean) [] 60 2309 [some (x_r 1), some (x_r (16 * 1 + 0)), some (x_r (16 * 32 + 0)), some (x_r (16 * 27 + 0)), some (x_i (i : Int)), none, none] [] (al, ro, fl (ml (x_ac M A) [1, 2, 3, 4, 5, 18, 19, 20, 21, 22, 23, 24, 25, 26, 27, 32] [X, T, N, Dr, Kp, Th, La, Lb, Lc, Fo, St, Ri, Br, Ro, Ot, S])) (1 + K) (6 + S0) (.inl (some (x_i 1))) h' := by
  have hn : ([1, 2, 3, 4, 5, 18, 19, 20, 21, 22, 23, 24, 25, 26, 27, 32] : List Nat).Nodup := by decide
  refine e_aloadn (pc := 2309) (i := 1) dL_law__2309 rfl rfl ?_
  refine e_aloadn (pc := 2310) (i := 0) dL_law__2310 rfl rfl ?_
  refine e_iload (pc := 2311) dL_law__2311 rfl ?_
  refine e_iconst (pc := 2313) dL_law__2313 (x_R rfl) ?_
  refine e_iadd (pc := 2314) dL_law__2314 ?_
  rw [show x_add (i : Int) 1 = ((i + 1 : Nat) : Int) from x_ni (k := 1) (by omega)]
  refine e_sld (pc := 2315) dL_law__2315 (by omega) (by omega) ?_
  show Ev g _ _ _ _ _ _ 2316 [some (x_r 1), some (x_r (16 * 1 + 0)), some (x_r (16 * 32 + 0)), some (x_r (16 * 27 + 0)), some (x_i (i : Int)), none, none] [x_i (x_sc g (i + 1)), x_r (16 * 1 + 0)] (al, ro, fl (ml (x_ac M A) [1, 2, 3, 4, 5, 18, 19, 20, 21, 22, 23, 24, 25, 26, 27, 32] [X, T, N, Dr, Kp, Th, La, Lb, Lc, Fo, St, Ri, Br, Ro, Ot, S])) _ _ _ _
  refine e_aloadn (pc := 2316) (i := 3) dL_law__2316 rfl rfl ?_
  refine e_invSH (pc := 2317) (K1 := 1) (S1 := 6) (K := K) (S := S0) (dd2 := 5) (av := [x_r (16 * 1 + 0), x_i (x_sc g (i + 1)), x_r (16 * 27 + 0)]) (st := []) dL_law__2317 (xmH_rests 291 (x_inB (x_t6 (List.mem_of_getElem? (i := 208) rfl)) rfl)) rfl (f_calH (M := (x_ac M A)) (us2 := [3, 27]) [2, 14] hn rfl (And.intro rfl (And.intro rfl trivial)) rfl rfl rfl (c_L_rests hst hs ho hX hE)) (by decide) (Nat.le_of_ble_eq_true rfl) (Or.inl rfl) ?_
  show Ev g _ _ _ _ _ _ 2320 [some (x_r 1), some (x_r (16 * 1 + 0)), some (x_r (16 * 32 + 0)), some (x_r (16 * 27 + 0)), some (x_i (i : Int)), none, none] [x_i (x_wc [1] t0)] (al, ro, fl (ml (x_ac M A) [1, 2, 3, 4, 5, 18, 19, 20, 21, 22, 23, 24, 25, 26, 27, 32] [X, T, N, Dr, Kp, Th, La, Lb, Lc, Fo, St, Ri, Br, Ro, (x_out Ot t0), S])) _ _ _ _
  refine e_istore (pc := 2320) (i := 5) dL_law__2320 (by decide) rfl ?_
  show Ev g _ _ _ _ _ _ 2322 [some (x_r 1), some (x_r (16 * 1 + 0)), some (x_r (16 * 32 + 0)), some (x_r (16 * 27 + 0)), some (x_i (i : Int)), some (x_i (x_wc [1] t0)), none] [] (al, ro, fl (ml (x_ac M A) [1, 2, 3, 4, 5, 18, 19, 20, 21, 22, 23, 24, 25, 26, 27, 32] [X, T, N, Dr, Kp, Th, La, Lb, Lc, Fo, St, Ri, Br, Ro, (x_out Ot t0), S])) _ _ _ _
  refine e_aloadn (pc := 2322) (i := 2) dL_law__2322 rfl rfl ?_
  refine e_aloadn (pc := 2323) (i := 0) dL_law__2323 rfl rfl ?_
  refine e_iload (pc := 2324) dL_law__2324 rfl ?_
  refine e_iconst (pc := 2326) dL_law__2326 (x_R rfl) ?_
  refine e_iadd (pc := 2327) dL_law__2327 ?_
  rw [show x_add (i : Int) 1 = ((i + 1 : Nat) : Int) from x_ni (k := 1) (by omega)]
  refine e_sld (pc := 2328) dL_law__2328 (by omega) (by omega) ?_
  show Ev g _ _ _ _ _ _ 2329 [some (x_r 1), some (x_r (16 * 1 + 0)), some (x_r (16 * 32 + 0)), some (x_r (16 * 27 + 0)), some (x_i (i : Int)), some (x_i (x_wc [1] t0)), none] [x_i (x_sc g (i + 1)), x_r (16 * 32 + 0)] (al, ro, fl (ml (x_ac M A) [1, 2, 3, 4, 5, 18, 19, 20, 21, 22, 23, 24, 25, 26, 27, 32] [X, T, N, Dr, Kp, Th, La, Lb, Lc, Fo, St, Ri, Br, Ro, (x_out Ot t0), S])) _ _ _ _
  refine e_wide (K0 := 0 + K) (S0 := 0 + S0) (by omega) (by omega) ?_
  refine e_invV (pc := 2329) (K1 := 0) (S1 := 0) (K := K) (S := S0) (dd2 := 3) (av := [x_i (x_sc g (i + 1))]) (st := []) (id := 16 * 32 + 0) dL_law__2329 xmL_293 rfl (Or.inl ⟨10, 27, TX12, (sa_32_0 hs), rfl, by decide⟩) (f_cal (M := (x_ac M A)) (us2 := [32]) [15] hn rfl (And.intro rfl trivial) rfl rfl rfl (c_X12_rests hst hs hS)) (by decide) (Nat.le_of_ble_eq_true rfl) (Or.inl rfl) ?_
  show Ev g _ _ _ _ _ _ 2332 [some (x_r 1), some (x_r (16 * 1 + 0)), some (x_r (16 * 32 + 0)), some (x_r (16 * 27 + 0)), some (x_i (i : Int)), some (x_i (x_wc [1] t0)), none] [x_i b] (al, ro, fl (ml (x_ac M A) [1, 2, 3, 4, 5, 18, 19, 20, 21, 22, 23, 24, 25, 26, 27, 32] [X, T, N, Dr, Kp, Th, La, Lb, Lc, Fo, St, Ri, Br, Ro, (x_out Ot t0), Sy])) _ _ _ _
  refine e_istore (pc := 2332) (i := 6) dL_law__2332 (by decide) rfl ?_
  show Ev g _ _ _ _ _ _ 2334 [some (x_r 1), some (x_r (16 * 1 + 0)), some (x_r (16 * 32 + 0)), some (x_r (16 * 27 + 0)), some (x_i (i : Int)), some (x_i (x_wc [1] t0)), some (x_i b)] [] (al, ro, fl (ml (x_ac M A) [1, 2, 3, 4, 5, 18, 19, 20, 21, 22, 23, 24, 25, 26, 27, 32] [X, T, N, Dr, Kp, Th, La, Lb, Lc, Fo, St, Ri, Br, Ro, (x_out Ot t0), Sy])) _ _ _ _
  refine e_aloadn (pc := 2334) (i := 2) dL_law__2334 rfl rfl ?_
  refine e_wide (K0 := 0 + K) (S0 := 0 + S0) (by omega) (by omega) ?_
  refine e_invV (pc := 2335) (K1 := 0) (S1 := 0) (K := K) (S := S0) (dd2 := 0) (av := []) (st := []) (id := 16 * 32 + 0) dL_law__2335 xmL_156 rfl (Or.inl ⟨10, 27, TX12, (sa_32_0 hs), rfl, by decide⟩) (f_cal (M := (x_ac M A)) (us2 := [32]) [15] hn rfl (And.intro rfl trivial) rfl rfl rfl (c_X12_thrown hst hs (show G12_thrown Sy = some (Sy 0 0) from rfl))) (by decide) (Nat.le_of_ble_eq_true rfl) (Or.inl rfl) ?_
  show Ev g _ _ _ _ _ _ 2338 [some (x_r 1), some (x_r (16 * 1 + 0)), some (x_r (16 * 32 + 0)), some (x_r (16 * 27 + 0)), some (x_i (i : Int)), some (x_i (x_wc [1] t0)), some (x_i b)] [x_i (Sy 0 0)] (al, ro, fl (ml (x_ac M A) [1, 2, 3, 4, 5, 18, 19, 20, 21, 22, 23, 24, 25, 26, 27, 32] [X, T, N, Dr, Kp, Th, La, Lb, Lc, Fo, St, Ri, Br, Ro, (x_out Ot t0), Sy])) _ _ _ _
  have hk : Sy 0 0 = x_wc [1] t0 := x_ag_k hA
  refine e_iload (pc := 2338) dL_law__2338 rfl ?_
  refine e_icmp_eq (pc := 2340) (tgt := 2345) dL_law__2340 (by decide) (fun _ => ?_) (fun q => absurd hk q)
  refine e_iload (pc := 2345) dL_law__2345 rfl ?_
  cases t0 with
  | inr E =>
    refine e_if_ne (pc := 2347) (tgt := 2362) dL_law__2347 (by decide) (fun _ => ?_) (fun q => absurd q (x_wc_r [1] E))
    refine e_goto (pc := 2362) (tgt := 3041) dL_law__2362 (by decide) ?_
    refine e_drop (i := 5) ?_
    refine e_drop (i := 6) ?_
    exact kk
  | inl v =>
    refine e_if_ne (pc := 2347) (tgt := 2362) dL_law__2347 (by decide) (fun q => absurd rfl q) (fun _ => ?_)
    refine e_aloadn (pc := 2350) (i := 3) dL_law__2350 rfl rfl ?_
    refine e_iconst (pc := 2351) dL_law__2351 (x_R rfl) ?_
    refine f_lald (pc := 2352) (k := 14) (u := 27) (q := 0) (len := 1) dL_law__2352 ho (by decide) hn rfl rfl (by decide) ?_
    refine e_iload (pc := 2353) dL_law__2353 rfl ?_
    refine e_i2l (pc := 2355) dL_law__2355 ?_
    refine e_lcmp (pc := 2356) dL_law__2356 ?_
    refine e_if_eq (pc := 2357) (tgt := 2362) dL_law__2357 (by decide) (fun _ => ?_) (fun q => absurd (x_lc (show v = b from hA.2.symm)) q)
    refine e_goto (pc := 2362) (tgt := 3041) dL_law__2362 (by decide) ?_
    refine e_drop (i := 5) ?_
    refine e_drop (i := 6) ?_
    exact kk
set_option maxRecDepth 100000 in
set_option maxHeartbeats 4000000 in
theorem k43 {g : xG} {al : List (Nat × Nat × Nat)} {ro : Nat → Nat → Option Nat} (hst : g.1.stackTraces = false) (hs : SH al ro) (ho : (16 * 27 + 0, 21, 1) ∈ al) {M : Nat → xU} {h' : xH} {i K S0 : Nat} (hi : i + 6 ≤ x_L g) (hL : x_L g < 2147483648) {X T N Dr Kp Th La Lb Lc Fo St Ri Br Ro Ot S : xU} {A : xA} {t0 : (Int ⊕ Nat)} {Fox : xU} {b : Int} {Sy : xU} (hX : G11_odds (x_sc g (i + 1)) (x_sc g (i + 2)) N Fo = some (t0, Fox)) (hE : ∀ E, t0 = .inr E → E ∈ ([0] : List Nat)) (hS : G12_odds (x_sc g (i + 1)) (x_sc g (i + 2)) S = some (b, Sy)) (hA : Ag (x_cd [0]) t0 b Sy)
    (kk : Ev g yL_law_ cL_law_ 7 (some .boolean) [] 60 3041 [some (x_r 1), some (x_r (16 * 1 + 0)), some (x_r (16 * 32 + 0)), some (x_r (16 * 27 + 0)), some (x_i (i : Int)), none, none] [] (al, ro, fl (ml (x_ac M A) [1, 2, 3, 4, 5, 18, 19, 20, 21, 22, 23, 24, 25, 26, 27, 32] [X, T, N, Dr, Kp, Th, La, Lb, Lc, Fox, St, Ri, Br, Ro, (x_out Ot t0), Sy])) K S0 (.inl (some (x_i 1))) h') : Ev g yL_law_ cL_law_ 7 (some .boolean) [] 60 2365 [some (x_r 1), some (x_r (16 * 1 + 0)), some (x_r (16 * 32 + 0)), some (x_r (16 * 27 + 0)), some (x_i (i : Int)), none, none] [] (al, ro, fl (ml (x_ac M A) [1, 2, 3, 4, 5, 18, 19, 20, 21, 22, 23, 24, 25, 26, 27, 32] [X, T, N, Dr, Kp, Th, La, Lb, Lc, Fo, St, Ri, Br, Ro, Ot, S])) (2 + K) (12 + S0) (.inl (some (x_i 1))) h' := by
  have hn : ([1, 2, 3, 4, 5, 18, 19, 20, 21, 22, 23, 24, 25, 26, 27, 32] : List Nat).Nodup := by decide
  refine e_aloadn (pc := 2365) (i := 1) dL_law__2365 rfl rfl ?_
  refine e_aloadn (pc := 2366) (i := 0) dL_law__2366 rfl rfl ?_
  refine e_iload (pc := 2367) dL_law__2367 rfl ?_
  refine e_iconst (pc := 2369) dL_law__2369 (x_R rfl) ?_
  refine e_iadd (pc := 2370) dL_law__2370 ?_
  rw [show x_add (i : Int) 1 = ((i + 1 : Nat) : Int) from x_ni (k := 1) (by omega)]
  refine e_sld (pc := 2371) dL_law__2371 (by omega) (by omega) ?_
  show Ev g _ _ _ _ _ _ 2372 [some (x_r 1), some (x_r (16 * 1 + 0)), some (x_r (16 * 32 + 0)), some (x_r (16 * 27 + 0)), some (x_i (i : Int)), none, none] [x_i (x_sc g (i + 1)), x_r (16 * 1 + 0)] (al, ro, fl (ml (x_ac M A) [1, 2, 3, 4, 5, 18, 19, 20, 21, 22, 23, 24, 25, 26, 27, 32] [X, T, N, Dr, Kp, Th, La, Lb, Lc, Fo, St, Ri, Br, Ro, Ot, S])) _ _ _ _
  refine e_aloadn (pc := 2372) (i := 0) dL_law__2372 rfl rfl ?_
  refine e_iload (pc := 2373) dL_law__2373 rfl ?_
  refine e_iconst (pc := 2375) dL_law__2375 (x_R rfl) ?_
  refine e_iadd (pc := 2376) dL_law__2376 ?_
  rw [show x_add (i : Int) 2 = ((i + 2 : Nat) : Int) from x_ni (k := 2) (by omega)]
  refine e_sld (pc := 2377) dL_law__2377 (by omega) (by omega) ?_
  show Ev g _ _ _ _ _ _ 2378 [some (x_r 1), some (x_r (16 * 1 + 0)), some (x_r (16 * 32 + 0)), some (x_r (16 * 27 + 0)), some (x_i (i : Int)), none, none] [x_i (x_sc g (i + 2)), x_i (x_sc g (i + 1)), x_r (16 * 1 + 0)] (al, ro, fl (ml (x_ac M A) [1, 2, 3, 4, 5, 18, 19, 20, 21, 22, 23, 24, 25, 26, 27, 32] [X, T, N, Dr, Kp, Th, La, Lb, Lc, Fo, St, Ri, Br, Ro, Ot, S])) _ _ _ _
  refine e_aloadn (pc := 2378) (i := 3) dL_law__2378 rfl rfl ?_
  refine e_invSH (pc := 2379) (K1 := 2) (S1 := 12) (K := K) (S := S0) (dd2 := 2) (av := [x_r (16 * 1 + 0), x_i (x_sc g (i + 1)), x_i (x_sc g (i + 2)), x_r (16 * 27 + 0)]) (st := []) dL_law__2379 (xmH_odds 294 (x_inB (x_t6 (List.mem_of_getElem? (i := 225) rfl)) rfl)) rfl (f_calH (M := (x_ac M A)) (us2 := [3, 22, 27]) [2, 9, 14] hn rfl (And.intro rfl (And.intro rfl (And.intro rfl trivial))) rfl rfl rfl (c_L_odds hst hs ho hX hE)) (by decide) (Nat.le_of_ble_eq_true rfl) (Or.inl rfl) ?_
  show Ev g _ _ _ _ _ _ 2382 [some (x_r 1), some (x_r (16 * 1 + 0)), some (x_r (16 * 32 + 0)), some (x_r (16 * 27 + 0)), some (x_i (i : Int)), none, none] [x_i (x_wc [0] t0)] (al, ro, fl (ml (x_ac M A) [1, 2, 3, 4, 5, 18, 19, 20, 21, 22, 23, 24, 25, 26, 27, 32] [X, T, N, Dr, Kp, Th, La, Lb, Lc, Fox, St, Ri, Br, Ro, (x_out Ot t0), S])) _ _ _ _
  refine e_istore (pc := 2382) (i := 5) dL_law__2382 (by decide) rfl ?_
  show Ev g _ _ _ _ _ _ 2384 [some (x_r 1), some (x_r (16 * 1 + 0)), some (x_r (16 * 32 + 0)), some (x_r (16 * 27 + 0)), some (x_i (i : Int)), some (x_i (x_wc [0] t0)), none] [] (al, ro, fl (ml (x_ac M A) [1, 2, 3, 4, 5, 18, 19, 20, 21, 22, 23, 24, 25, 26, 27, 32] [X, T, N, Dr, Kp, Th, La, Lb, Lc, Fox, St, Ri, Br, Ro, (x_out Ot t0), S])) _ _ _ _
  refine e_aloadn (pc := 2384) (i := 2) dL_law__2384 rfl rfl ?_
  refine e_aloadn (pc := 2385) (i := 0) dL_law__2385 rfl rfl ?_
  refine e_iload (pc := 2386) dL_law__2386 rfl ?_
  refine e_iconst (pc := 2388) dL_law__2388 (x_R rfl) ?_
  refine e_iadd (pc := 2389) dL_law__2389 ?_
  rw [show x_add (i : Int) 1 = ((i + 1 : Nat) : Int) from x_ni (k := 1) (by omega)]
  refine e_sld (pc := 2390) dL_law__2390 (by omega) (by omega) ?_
  show Ev g _ _ _ _ _ _ 2391 [some (x_r 1), some (x_r (16 * 1 + 0)), some (x_r (16 * 32 + 0)), some (x_r (16 * 27 + 0)), some (x_i (i : Int)), some (x_i (x_wc [0] t0)), none] [x_i (x_sc g (i + 1)), x_r (16 * 32 + 0)] (al, ro, fl (ml (x_ac M A) [1, 2, 3, 4, 5, 18, 19, 20, 21, 22, 23, 24, 25, 26, 27, 32] [X, T, N, Dr, Kp, Th, La, Lb, Lc, Fox, St, Ri, Br, Ro, (x_out Ot t0), S])) _ _ _ _
  refine e_aloadn (pc := 2391) (i := 0) dL_law__2391 rfl rfl ?_
  refine e_iload (pc := 2392) dL_law__2392 rfl ?_
  refine e_iconst (pc := 2394) dL_law__2394 (x_R rfl) ?_
  refine e_iadd (pc := 2395) dL_law__2395 ?_
  rw [show x_add (i : Int) 2 = ((i + 2 : Nat) : Int) from x_ni (k := 2) (by omega)]
  refine e_sld (pc := 2396) dL_law__2396 (by omega) (by omega) ?_
  show Ev g _ _ _ _ _ _ 2397 [some (x_r 1), some (x_r (16 * 1 + 0)), some (x_r (16 * 32 + 0)), some (x_r (16 * 27 + 0)), some (x_i (i : Int)), some (x_i (x_wc [0] t0)), none] [x_i (x_sc g (i + 2)), x_i (x_sc g (i + 1)), x_r (16 * 32 + 0)] (al, ro, fl (ml (x_ac M A) [1, 2, 3, 4, 5, 18, 19, 20, 21, 22, 23, 24, 25, 26, 27, 32] [X, T, N, Dr, Kp, Th, La, Lb, Lc, Fox, St, Ri, Br, Ro, (x_out Ot t0), S])) _ _ _ _
  refine e_wide (K0 := 0 + K) (S0 := 0 + S0) (by omega) (by omega) ?_
  refine e_invV (pc := 2397) (K1 := 0) (S1 := 0) (K := K) (S := S0) (dd2 := 1) (av := [x_i (x_sc g (i + 1)), x_i (x_sc g (i + 2))]) (st := []) (id := 16 * 32 + 0) dL_law__2397 xmL_296 rfl (Or.inl ⟨10, 27, TX12, (sa_32_0 hs), rfl, by decide⟩) (f_cal (M := (x_ac M A)) (us2 := [32]) [15] hn rfl (And.intro rfl trivial) rfl rfl rfl (c_X12_odds hst hs hS)) (by decide) (Nat.le_of_ble_eq_true rfl) (Or.inl rfl) ?_
  show Ev g _ _ _ _ _ _ 2400 [some (x_r 1), some (x_r (16 * 1 + 0)), some (x_r (16 * 32 + 0)), some (x_r (16 * 27 + 0)), some (x_i (i : Int)), some (x_i (x_wc [0] t0)), none] [x_i b] (al, ro, fl (ml (x_ac M A) [1, 2, 3, 4, 5, 18, 19, 20, 21, 22, 23, 24, 25, 26, 27, 32] [X, T, N, Dr, Kp, Th, La, Lb, Lc, Fox, St, Ri, Br, Ro, (x_out Ot t0), Sy])) _ _ _ _
  refine e_istore (pc := 2400) (i := 6) dL_law__2400 (by decide) rfl ?_
  show Ev g _ _ _ _ _ _ 2402 [some (x_r 1), some (x_r (16 * 1 + 0)), some (x_r (16 * 32 + 0)), some (x_r (16 * 27 + 0)), some (x_i (i : Int)), some (x_i (x_wc [0] t0)), some (x_i b)] [] (al, ro, fl (ml (x_ac M A) [1, 2, 3, 4, 5, 18, 19, 20, 21, 22, 23, 24, 25, 26, 27, 32] [X, T, N, Dr, Kp, Th, La, Lb, Lc, Fox, St, Ri, Br, Ro, (x_out Ot t0), Sy])) _ _ _ _
  refine e_aloadn (pc := 2402) (i := 2) dL_law__2402 rfl rfl ?_
  refine e_wide (K0 := 0 + K) (S0 := 0 + S0) (by omega) (by omega) ?_
  refine e_invV (pc := 2403) (K1 := 0) (S1 := 0) (K := K) (S := S0) (dd2 := 0) (av := []) (st := []) (id := 16 * 32 + 0) dL_law__2403 xmL_156 rfl (Or.inl ⟨10, 27, TX12, (sa_32_0 hs), rfl, by decide⟩) (f_cal (M := (x_ac M A)) (us2 := [32]) [15] hn rfl (And.intro rfl trivial) rfl rfl rfl (c_X12_thrown hst hs (show G12_thrown Sy = some (Sy 0 0) from rfl))) (by decide) (Nat.le_of_ble_eq_true rfl) (Or.inl rfl) ?_
  show Ev g _ _ _ _ _ _ 2406 [some (x_r 1), some (x_r (16 * 1 + 0)), some (x_r (16 * 32 + 0)), some (x_r (16 * 27 + 0)), some (x_i (i : Int)), some (x_i (x_wc [0] t0)), some (x_i b)] [x_i (Sy 0 0)] (al, ro, fl (ml (x_ac M A) [1, 2, 3, 4, 5, 18, 19, 20, 21, 22, 23, 24, 25, 26, 27, 32] [X, T, N, Dr, Kp, Th, La, Lb, Lc, Fox, St, Ri, Br, Ro, (x_out Ot t0), Sy])) _ _ _ _
  have hk : Sy 0 0 = x_wc [0] t0 := x_ag_k hA
  refine e_iload (pc := 2406) dL_law__2406 rfl ?_
  refine e_icmp_eq (pc := 2408) (tgt := 2413) dL_law__2408 (by decide) (fun _ => ?_) (fun q => absurd hk q)
  refine e_iload (pc := 2413) dL_law__2413 rfl ?_
  cases t0 with
  | inr E =>
    refine e_if_ne (pc := 2415) (tgt := 2430) dL_law__2415 (by decide) (fun _ => ?_) (fun q => absurd q (x_wc_r [0] E))
    refine e_goto (pc := 2430) (tgt := 3041) dL_law__2430 (by decide) ?_
    refine e_drop (i := 5) ?_
    refine e_drop (i := 6) ?_
    exact kk
  | inl v =>
    refine e_if_ne (pc := 2415) (tgt := 2430) dL_law__2415 (by decide) (fun q => absurd rfl q) (fun _ => ?_)
    refine e_aloadn (pc := 2418) (i := 3) dL_law__2418 rfl rfl ?_
    refine e_iconst (pc := 2419) dL_law__2419 (x_R rfl) ?_
    refine f_lald (pc := 2420) (k := 14) (u := 27) (q := 0) (len := 1) dL_law__2420 ho (by decide) hn rfl rfl (by decide) ?_
    refine e_iload (pc := 2421) dL_law__2421 rfl ?_
    refine e_i2l (pc := 2423) dL_law__2423 ?_
    refine e_lcmp (pc := 2424) dL_law__2424 ?_
    refine e_if_eq (pc := 2425) (tgt := 2430) dL_law__2425 (by decide) (fun _ => ?_) (fun q => absurd (x_lc (show v = b from hA.2.symm)) q)
    refine e_goto (pc := 2430) (tgt := 3041) dL_law__2430 (by decide) ?_
    refine e_drop (i := 5) ?_
    refine e_drop (i := 6) ?_
    exact kk
set_option maxRecDepth 100000 in
set_option maxHeartbeats 4000000 in
theorem k44 {g : xG} {al : List (Nat × Nat × Nat)} {ro : Nat → Nat → Option Nat} (hst : g.1.stackTraces = false) (hs : SH al ro) (ho : (16 * 27 + 0, 21, 1) ∈ al) {M : Nat → xU} {h' : xH} {i K S0 : Nat} (hi : i + 6 ≤ x_L g) (hL : x_L g < 2147483648) {X T N Dr Kp Th La Lb Lc Fo St Ri Br Ro Ot S : xU} {A : xA} {a : Int} {b : Int} {Sy : xU} (hX : G11_empty N = some a) (hS : G12_empty S = some (b, Sy)) (hA : a = b)
    (kk : Ev g yL_law_ cL_law_ 7 (some .boolean) [] 60 3041 [some (x_r 1), some (x_r (16 * 1 + 0)), some (x_r (16 * 32 + 0)), some (x_r (16 * 27 + 0)), some (x_i (i : Int)), none, none] [] (al, ro, fl (ml (x_ac M A) [1, 2, 3, 4, 5, 18, 19, 20, 21, 22, 23, 24, 25, 26, 27, 32] [X, T, N, Dr, Kp, Th, La, Lb, Lc, Fo, St, Ri, Br, Ro, Ot, Sy])) K S0 (.inl (some (x_i 1))) h') : Ev g yL_law_ cL_law_ 7 (some .boolean) [] 60 2433 [some (x_r 1), some (x_r (16 * 1 + 0)), some (x_r (16 * 32 + 0)), some (x_r (16 * 27 + 0)), some (x_i (i : Int)), none, none] [] (al, ro, fl (ml (x_ac M A) [1, 2, 3, 4, 5, 18, 19, 20, 21, 22, 23, 24, 25, 26, 27, 32] [X, T, N, Dr, Kp, Th, La, Lb, Lc, Fo, St, Ri, Br, Ro, Ot, S])) K S0 (.inl (some (x_i 1))) h' := by
  have hn : ([1, 2, 3, 4, 5, 18, 19, 20, 21, 22, 23, 24, 25, 26, 27, 32] : List Nat).Nodup := by decide
  refine e_aloadn (pc := 2433) (i := 1) dL_law__2433 rfl rfl ?_
  refine e_wide (K0 := 0 + K) (S0 := 0 + S0) (by omega) (by omega) ?_
  refine e_invV (pc := 2434) (K1 := 0) (S1 := 0) (K := K) (S := S0) (dd2 := 2) (av := []) (st := []) (id := 16 * 1 + 0) dL_law__2434 xmL_297 rfl (Or.inl ⟨9, 17, TX11, (sa_1_0 hs), rfl, by decide⟩) (f_cal (M := (x_ac M A)) (us2 := [3]) [2] hn rfl (And.intro rfl trivial) rfl rfl rfl (c_X11_empty hst hs hX)) (by decide) (Nat.le_of_ble_eq_true rfl) (Or.inl rfl) ?_
  show Ev g _ _ _ _ _ _ 2437 [some (x_r 1), some (x_r (16 * 1 + 0)), some (x_r (16 * 32 + 0)), some (x_r (16 * 27 + 0)), some (x_i (i : Int)), none, none] [x_i a] (al, ro, fl (ml (x_ac M A) [1, 2, 3, 4, 5, 18, 19, 20, 21, 22, 23, 24, 25, 26, 27, 32] [X, T, N, Dr, Kp, Th, La, Lb, Lc, Fo, St, Ri, Br, Ro, Ot, S])) _ _ _ _
  refine e_aloadn (pc := 2437) (i := 2) dL_law__2437 rfl rfl ?_
  refine e_wide (K0 := 0 + K) (S0 := 0 + S0) (by omega) (by omega) ?_
  refine e_invV (pc := 2438) (K1 := 0) (S1 := 0) (K := K) (S := S0) (dd2 := 3) (av := []) (st := [x_i a]) (id := 16 * 32 + 0) dL_law__2438 xmL_300 rfl (Or.inl ⟨10, 27, TX12, (sa_32_0 hs), rfl, by decide⟩) (f_cal (M := (x_ac M A)) (us2 := [32]) [15] hn rfl (And.intro rfl trivial) rfl rfl rfl (c_X12_empty hst hs hS)) (by decide) (Nat.le_of_ble_eq_true rfl) (Or.inl rfl) ?_
  show Ev g _ _ _ _ _ _ 2441 [some (x_r 1), some (x_r (16 * 1 + 0)), some (x_r (16 * 32 + 0)), some (x_r (16 * 27 + 0)), some (x_i (i : Int)), none, none] [x_i b, x_i a] (al, ro, fl (ml (x_ac M A) [1, 2, 3, 4, 5, 18, 19, 20, 21, 22, 23, 24, 25, 26, 27, 32] [X, T, N, Dr, Kp, Th, La, Lb, Lc, Fo, St, Ri, Br, Ro, Ot, Sy])) _ _ _ _
  refine e_icmp_eq (pc := 2441) (tgt := 3041) dL_law__2441 (by decide) (fun _ => ?_) (fun q => absurd hA q)
  exact kk
set_option maxRecDepth 100000 in
set_option maxHeartbeats 4000000 in
theorem k45 {g : xG} {al : List (Nat × Nat × Nat)} {ro : Nat → Nat → Option Nat} (hst : g.1.stackTraces = false) (hs : SH al ro) (ho : (16 * 27 + 0, 21, 1) ∈ al) {M : Nat → xU} {h' : xH} {i K S0 : Nat} (hi : i + 6 ≤ x_L g) (hL : x_L g < 2147483648) {X T N Dr Kp Th La Lb Lc Fo St Ri Br Ro Ot S : xU} {A : xA} {a : Int} {b : Int} {Sy : xU} (hX : G11_throng N = some a) (hS : G12_throng S = some (b, Sy)) (hA : a = b)
    (kk : Ev g yL_law_ cL_law_ 7 (some .boolean) [] 60 3041 [some (x_r 1), some (x_r (16 * 1 + 0)), some (x_r (16 * 32 + 0)), some (x_r (16 * 27 + 0)), some (x_i (i : Int)), none, none] [] (al, ro, fl (ml (x_ac M A) [1, 2, 3, 4, 5, 18, 19, 20, 21, 22, 23, 24, 25, 26, 27, 32] [X, T, N, Dr, Kp, Th, La, Lb, Lc, Fo, St, Ri, Br, Ro, Ot, Sy])) K S0 (.inl (some (x_i 1))) h') : Ev g yL_law_ cL_law_ 7 (some .boolean) [] 60 2446 [some (x_r 1), some (x_r (16 * 1 + 0)), some (x_r (16 * 32 + 0)), some (x_r (16 * 27 + 0)), some (x_i (i : Int)), none, none] [] (al, ro, fl (ml (x_ac M A) [1, 2, 3, 4, 5, 18, 19, 20, 21, 22, 23, 24, 25, 26, 27, 32] [X, T, N, Dr, Kp, Th, La, Lb, Lc, Fo, St, Ri, Br, Ro, Ot, S])) K S0 (.inl (some (x_i 1))) h' := by
  have hn : ([1, 2, 3, 4, 5, 18, 19, 20, 21, 22, 23, 24, 25, 26, 27, 32] : List Nat).Nodup := by decide
  refine e_aloadn (pc := 2446) (i := 1) dL_law__2446 rfl rfl ?_
  refine e_wide (K0 := 0 + K) (S0 := 0 + S0) (by omega) (by omega) ?_
  refine e_invV (pc := 2447) (K1 := 0) (S1 := 0) (K := K) (S := S0) (dd2 := 3) (av := []) (st := []) (id := 16 * 1 + 0) dL_law__2447 xmL_301 rfl (Or.inl ⟨9, 17, TX11, (sa_1_0 hs), rfl, by decide⟩) (f_cal (M := (x_ac M A)) (us2 := [3]) [2] hn rfl (And.intro rfl trivial) rfl rfl rfl (c_X11_throng hst hs hX)) (by decide) (Nat.le_of_ble_eq_true rfl) (Or.inl rfl) ?_
  show Ev g _ _ _ _ _ _ 2450 [some (x_r 1), some (x_r (16 * 1 + 0)), some (x_r (16 * 32 + 0)), some (x_r (16 * 27 + 0)), some (x_i (i : Int)), none, none] [x_i a] (al, ro, fl (ml (x_ac M A) [1, 2, 3, 4, 5, 18, 19, 20, 21, 22, 23, 24, 25, 26, 27, 32] [X, T, N, Dr, Kp, Th, La, Lb, Lc, Fo, St, Ri, Br, Ro, Ot, S])) _ _ _ _
  refine e_aloadn (pc := 2450) (i := 2) dL_law__2450 rfl rfl ?_
  refine e_wide (K0 := 0 + K) (S0 := 0 + S0) (by omega) (by omega) ?_
  refine e_invV (pc := 2451) (K1 := 0) (S1 := 0) (K := K) (S := S0) (dd2 := 3) (av := []) (st := [x_i a]) (id := 16 * 32 + 0) dL_law__2451 xmL_304 rfl (Or.inl ⟨10, 27, TX12, (sa_32_0 hs), rfl, by decide⟩) (f_cal (M := (x_ac M A)) (us2 := [32]) [15] hn rfl (And.intro rfl trivial) rfl rfl rfl (c_X12_throng hst hs hS)) (by decide) (Nat.le_of_ble_eq_true rfl) (Or.inl rfl) ?_
  show Ev g _ _ _ _ _ _ 2454 [some (x_r 1), some (x_r (16 * 1 + 0)), some (x_r (16 * 32 + 0)), some (x_r (16 * 27 + 0)), some (x_i (i : Int)), none, none] [x_i b, x_i a] (al, ro, fl (ml (x_ac M A) [1, 2, 3, 4, 5, 18, 19, 20, 21, 22, 23, 24, 25, 26, 27, 32] [X, T, N, Dr, Kp, Th, La, Lb, Lc, Fo, St, Ri, Br, Ro, Ot, Sy])) _ _ _ _
  refine e_icmp_eq (pc := 2454) (tgt := 3041) dL_law__2454 (by decide) (fun _ => ?_) (fun q => absurd hA q)
  exact kk
set_option maxRecDepth 100000 in
set_option maxHeartbeats 4000000 in
theorem k46 {g : xG} {al : List (Nat × Nat × Nat)} {ro : Nat → Nat → Option Nat} (hst : g.1.stackTraces = false) (hs : SH al ro) (ho : (16 * 27 + 0, 21, 1) ∈ al) {M : Nat → xU} {h' : xH} {i K S0 : Nat} (hi : i + 6 ≤ x_L g) (hL : x_L g < 2147483648) {X T N Dr Kp Th La Lb Lc Fo St Ri Br Ro Ot S : xU} {A : xA} {a : Int} {b : Int} {Sy : xU} (hX : G11_gone N = some a) (hS : G12_gone S = some (b, Sy)) (hA : a = b)
    (kk : Ev g yL_law_ cL_law_ 7 (some .boolean) [] 60 3041 [some (x_r 1), some (x_r (16 * 1 + 0)), some (x_r (16 * 32 + 0)), some (x_r (16 * 27 + 0)), some (x_i (i : Int)), none, none] [] (al, ro, fl (ml (x_ac M A) [1, 2, 3, 4, 5, 18, 19, 20, 21, 22, 23, 24, 25, 26, 27, 32] [X, T, N, Dr, Kp, Th, La, Lb, Lc, Fo, St, Ri, Br, Ro, Ot, Sy])) K S0 (.inl (some (x_i 1))) h') : Ev g yL_law_ cL_law_ 7 (some .boolean) [] 60 2459 [some (x_r 1), some (x_r (16 * 1 + 0)), some (x_r (16 * 32 + 0)), some (x_r (16 * 27 + 0)), some (x_i (i : Int)), none, none] [] (al, ro, fl (ml (x_ac M A) [1, 2, 3, 4, 5, 18, 19, 20, 21, 22, 23, 24, 25, 26, 27, 32] [X, T, N, Dr, Kp, Th, La, Lb, Lc, Fo, St, Ri, Br, Ro, Ot, S])) K S0 (.inl (some (x_i 1))) h' := by
  have hn : ([1, 2, 3, 4, 5, 18, 19, 20, 21, 22, 23, 24, 25, 26, 27, 32] : List Nat).Nodup := by decide
  refine e_aloadn (pc := 2459) (i := 1) dL_law__2459 rfl rfl ?_
  refine e_wide (K0 := 0 + K) (S0 := 0 + S0) (by omega) (by omega) ?_
  refine e_invV (pc := 2460) (K1 := 0) (S1 := 0) (K := K) (S := S0) (dd2 := 2) (av := []) (st := []) (id := 16 * 1 + 0) dL_law__2460 xmL_305 rfl (Or.inl ⟨9, 17, TX11, (sa_1_0 hs), rfl, by decide⟩) (f_cal (M := (x_ac M A)) (us2 := [3]) [2] hn rfl (And.intro rfl trivial) rfl rfl rfl (c_X11_gone hst hs hX)) (by decide) (Nat.le_of_ble_eq_true rfl) (Or.inl rfl) ?_
  show Ev g _ _ _ _ _ _ 2463 [some (x_r 1), some (x_r (16 * 1 + 0)), some (x_r (16 * 32 + 0)), some (x_r (16 * 27 + 0)), some (x_i (i : Int)), none, none] [x_i a] (al, ro, fl (ml (x_ac M A) [1, 2, 3, 4, 5, 18, 19, 20, 21, 22, 23, 24, 25, 26, 27, 32] [X, T, N, Dr, Kp, Th, La, Lb, Lc, Fo, St, Ri, Br, Ro, Ot, S])) _ _ _ _
  refine e_aloadn (pc := 2463) (i := 2) dL_law__2463 rfl rfl ?_
  refine e_wide (K0 := 0 + K) (S0 := 0 + S0) (by omega) (by omega) ?_
  refine e_invV (pc := 2464) (K1 := 0) (S1 := 0) (K := K) (S := S0) (dd2 := 3) (av := []) (st := [x_i a]) (id := 16 * 32 + 0) dL_law__2464 xmL_308 rfl (Or.inl ⟨10, 27, TX12, (sa_32_0 hs), rfl, by decide⟩) (f_cal (M := (x_ac M A)) (us2 := [32]) [15] hn rfl (And.intro rfl trivial) rfl rfl rfl (c_X12_gone hst hs hS)) (by decide) (Nat.le_of_ble_eq_true rfl) (Or.inl rfl) ?_
  show Ev g _ _ _ _ _ _ 2467 [some (x_r 1), some (x_r (16 * 1 + 0)), some (x_r (16 * 32 + 0)), some (x_r (16 * 27 + 0)), some (x_i (i : Int)), none, none] [x_i b, x_i a] (al, ro, fl (ml (x_ac M A) [1, 2, 3, 4, 5, 18, 19, 20, 21, 22, 23, 24, 25, 26, 27, 32] [X, T, N, Dr, Kp, Th, La, Lb, Lc, Fo, St, Ri, Br, Ro, Ot, Sy])) _ _ _ _
  refine e_icmp_eq (pc := 2467) (tgt := 3041) dL_law__2467 (by decide) (fun _ => ?_) (fun q => absurd hA q)
  exact kk
set_option maxRecDepth 100000 in
set_option maxHeartbeats 4000000 in
theorem k47 {g : xG} {al : List (Nat × Nat × Nat)} {ro : Nat → Nat → Option Nat} (hst : g.1.stackTraces = false) (hs : SH al ro) (ho : (16 * 27 + 0, 21, 1) ∈ al) {M : Nat → xU} {h' : xH} {i K S0 : Nat} (hi : i + 6 ≤ x_L g) (hL : x_L g < 2147483648) {X T N Dr Kp Th La Lb Lc Fo St Ri Br Ro Ot S : xU} {A : xA} {t0 : (Int ⊕ Nat)} {b : Int} {Sy : xU} (hX : G11_round (x_sc g (i + 1)) N = some t0) (hE : ∀ E, t0 = .inr E → E ∈ ([0] : List Nat)) (hS : G12_round (x_sc g (i + 1)) S = some (b, Sy)) (hA : Ag (x_cd [0]) t0 b Sy)
    (kk : Ev g yL_law_ cL_law_ 7 (some .boolean) [] 60 3041 [some (x_r 1), some (x_r (16 * 1 + 0)), some (x_r (16 * 32 + 0)), some (x_r (16 * 27 + 0)), some (x_i (i : Int)), none, none] [] (al, ro, fl (ml (x_ac M A) [1, 2, 3, 4, 5, 18, 19, 20, 21, 22, 23, 24, 25, 26, 27, 32] [X, T, N, Dr, Kp, Th, La, Lb, Lc, Fo, St, Ri, Br, Ro, (x_out Ot t0), Sy])) K S0 (.inl (some (x_i 1))) h') : Ev g yL_law_ cL_law_ 7 (some .boolean) [] 60 2472 [some (x_r 1), some (x_r (16 * 1 + 0)), some (x_r (16 * 32 + 0)), some (x_r (16 * 27 + 0)), some (x_i (i : Int)), none, none] [] (al, ro, fl (ml (x_ac M A) [1, 2, 3, 4, 5, 18, 19, 20, 21, 22, 23, 24, 25, 26, 27, 32] [X, T, N, Dr, Kp, Th, La, Lb, Lc, Fo, St, Ri, Br, Ro, Ot, S])) (1 + K) (6 + S0) (.inl (some (x_i 1))) h' := by
  have hn : ([1, 2, 3, 4, 5, 18, 19, 20, 21, 22, 23, 24, 25, 26, 27, 32] : List Nat).Nodup := by decide
  refine e_aloadn (pc := 2472) (i := 1) dL_law__2472 rfl rfl ?_
  refine e_aloadn (pc := 2473) (i := 0) dL_law__2473 rfl rfl ?_
  refine e_iload (pc := 2474) dL_law__2474 rfl ?_
  refine e_iconst (pc := 2476) dL_law__2476 (x_R rfl) ?_
  refine e_iadd (pc := 2477) dL_law__2477 ?_
  rw [show x_add (i : Int) 1 = ((i + 1 : Nat) : Int) from x_ni (k := 1) (by omega)]
  refine e_sld (pc := 2478) dL_law__2478 (by omega) (by omega) ?_
  show Ev g _ _ _ _ _ _ 2479 [some (x_r 1), some (x_r (16 * 1 + 0)), some (x_r (16 * 32 + 0)), some (x_r (16 * 27 + 0)), some (x_i (i : Int)), none, none] [x_i (x_sc g (i + 1)), x_r (16 * 1 + 0)] (al, ro, fl (ml (x_ac M A) [1, 2, 3, 4, 5, 18, 19, 20, 21, 22, 23, 24, 25, 26, 27, 32] [X, T, N, Dr, Kp, Th, La, Lb, Lc, Fo, St, Ri, Br, Ro, Ot, S])) _ _ _ _
  refine e_aloadn (pc := 2479) (i := 3) dL_law__2479 rfl rfl ?_
  refine e_invSH (pc := 2480) (K1 := 1) (S1 := 6) (K := K) (S := S0) (dd2 := 2) (av := [x_r (16 * 1 + 0), x_i (x_sc g (i + 1)), x_r (16 * 27 + 0)]) (st := []) dL_law__2480 (xmH_round 309 (x_inB (x_t6 (List.mem_of_getElem? (i := 238) rfl)) rfl)) rfl (f_calH (M := (x_ac M A)) (us2 := [3, 27]) [2, 14] hn rfl (And.intro rfl (And.intro rfl trivial)) rfl rfl rfl (c_L_round hst hs ho hX hE)) (by decide) (Nat.le_of_ble_eq_true rfl) (Or.inl rfl) ?_
  show Ev g _ _ _ _ _ _ 2483 [some (x_r 1), some (x_r (16 * 1 + 0)), some (x_r (16 * 32 + 0)), some (x_r (16 * 27 + 0)), some (x_i (i : Int)), none, none] [x_i (x_wc [0] t0)] (al, ro, fl (ml (x_ac M A) [1, 2, 3, 4, 5, 18, 19, 20, 21, 22, 23, 24, 25, 26, 27, 32] [X, T, N, Dr, Kp, Th, La, Lb, Lc, Fo, St, Ri, Br, Ro, (x_out Ot t0), S])) _ _ _ _
  refine e_istore (pc := 2483) (i := 5) dL_law__2483 (by decide) rfl ?_
  show Ev g _ _ _ _ _ _ 2485 [some (x_r 1), some (x_r (16 * 1 + 0)), some (x_r (16 * 32 + 0)), some (x_r (16 * 27 + 0)), some (x_i (i : Int)), some (x_i (x_wc [0] t0)), none] [] (al, ro, fl (ml (x_ac M A) [1, 2, 3, 4, 5, 18, 19, 20, 21, 22, 23, 24, 25, 26, 27, 32] [X, T, N, Dr, Kp, Th, La, Lb, Lc, Fo, St, Ri, Br, Ro, (x_out Ot t0), S])) _ _ _ _
  refine e_aloadn (pc := 2485) (i := 2) dL_law__2485 rfl rfl ?_
  refine e_aloadn (pc := 2486) (i := 0) dL_law__2486 rfl rfl ?_
  refine e_iload (pc := 2487) dL_law__2487 rfl ?_
  refine e_iconst (pc := 2489) dL_law__2489 (x_R rfl) ?_
  refine e_iadd (pc := 2490) dL_law__2490 ?_
  rw [show x_add (i : Int) 1 = ((i + 1 : Nat) : Int) from x_ni (k := 1) (by omega)]
  refine e_sld (pc := 2491) dL_law__2491 (by omega) (by omega) ?_
  show Ev g _ _ _ _ _ _ 2492 [some (x_r 1), some (x_r (16 * 1 + 0)), some (x_r (16 * 32 + 0)), some (x_r (16 * 27 + 0)), some (x_i (i : Int)), some (x_i (x_wc [0] t0)), none] [x_i (x_sc g (i + 1)), x_r (16 * 32 + 0)] (al, ro, fl (ml (x_ac M A) [1, 2, 3, 4, 5, 18, 19, 20, 21, 22, 23, 24, 25, 26, 27, 32] [X, T, N, Dr, Kp, Th, La, Lb, Lc, Fo, St, Ri, Br, Ro, (x_out Ot t0), S])) _ _ _ _
  refine e_wide (K0 := 0 + K) (S0 := 0 + S0) (by omega) (by omega) ?_
  refine e_invV (pc := 2492) (K1 := 0) (S1 := 0) (K := K) (S := S0) (dd2 := 1) (av := [x_i (x_sc g (i + 1))]) (st := []) (id := 16 * 32 + 0) dL_law__2492 xmL_311 rfl (Or.inl ⟨10, 27, TX12, (sa_32_0 hs), rfl, by decide⟩) (f_cal (M := (x_ac M A)) (us2 := [32]) [15] hn rfl (And.intro rfl trivial) rfl rfl rfl (c_X12_round hst hs hS)) (by decide) (Nat.le_of_ble_eq_true rfl) (Or.inl rfl) ?_
  show Ev g _ _ _ _ _ _ 2495 [some (x_r 1), some (x_r (16 * 1 + 0)), some (x_r (16 * 32 + 0)), some (x_r (16 * 27 + 0)), some (x_i (i : Int)), some (x_i (x_wc [0] t0)), none] [x_i b] (al, ro, fl (ml (x_ac M A) [1, 2, 3, 4, 5, 18, 19, 20, 21, 22, 23, 24, 25, 26, 27, 32] [X, T, N, Dr, Kp, Th, La, Lb, Lc, Fo, St, Ri, Br, Ro, (x_out Ot t0), Sy])) _ _ _ _
  refine e_istore (pc := 2495) (i := 6) dL_law__2495 (by decide) rfl ?_
  show Ev g _ _ _ _ _ _ 2497 [some (x_r 1), some (x_r (16 * 1 + 0)), some (x_r (16 * 32 + 0)), some (x_r (16 * 27 + 0)), some (x_i (i : Int)), some (x_i (x_wc [0] t0)), some (x_i b)] [] (al, ro, fl (ml (x_ac M A) [1, 2, 3, 4, 5, 18, 19, 20, 21, 22, 23, 24, 25, 26, 27, 32] [X, T, N, Dr, Kp, Th, La, Lb, Lc, Fo, St, Ri, Br, Ro, (x_out Ot t0), Sy])) _ _ _ _
  refine e_aloadn (pc := 2497) (i := 2) dL_law__2497 rfl rfl ?_
  refine e_wide (K0 := 0 + K) (S0 := 0 + S0) (by omega) (by omega) ?_
  refine e_invV (pc := 2498) (K1 := 0) (S1 := 0) (K := K) (S := S0) (dd2 := 0) (av := []) (st := []) (id := 16 * 32 + 0) dL_law__2498 xmL_156 rfl (Or.inl ⟨10, 27, TX12, (sa_32_0 hs), rfl, by decide⟩) (f_cal (M := (x_ac M A)) (us2 := [32]) [15] hn rfl (And.intro rfl trivial) rfl rfl rfl (c_X12_thrown hst hs (show G12_thrown Sy = some (Sy 0 0) from rfl))) (by decide) (Nat.le_of_ble_eq_true rfl) (Or.inl rfl) ?_
  show Ev g _ _ _ _ _ _ 2501 [some (x_r 1), some (x_r (16 * 1 + 0)), some (x_r (16 * 32 + 0)), some (x_r (16 * 27 + 0)), some (x_i (i : Int)), some (x_i (x_wc [0] t0)), some (x_i b)] [x_i (Sy 0 0)] (al, ro, fl (ml (x_ac M A) [1, 2, 3, 4, 5, 18, 19, 20, 21, 22, 23, 24, 25, 26, 27, 32] [X, T, N, Dr, Kp, Th, La, Lb, Lc, Fo, St, Ri, Br, Ro, (x_out Ot t0), Sy])) _ _ _ _
  have hk : Sy 0 0 = x_wc [0] t0 := x_ag_k hA
  refine e_iload (pc := 2501) dL_law__2501 rfl ?_
  refine e_icmp_eq (pc := 2503) (tgt := 2508) dL_law__2503 (by decide) (fun _ => ?_) (fun q => absurd hk q)
  refine e_iload (pc := 2508) dL_law__2508 rfl ?_
  cases t0 with
  | inr E =>
    refine e_if_ne (pc := 2510) (tgt := 2525) dL_law__2510 (by decide) (fun _ => ?_) (fun q => absurd q (x_wc_r [0] E))
    refine e_goto (pc := 2525) (tgt := 3041) dL_law__2525 (by decide) ?_
    refine e_drop (i := 5) ?_
    refine e_drop (i := 6) ?_
    exact kk
  | inl v =>
    refine e_if_ne (pc := 2510) (tgt := 2525) dL_law__2510 (by decide) (fun q => absurd rfl q) (fun _ => ?_)
    refine e_aloadn (pc := 2513) (i := 3) dL_law__2513 rfl rfl ?_
    refine e_iconst (pc := 2514) dL_law__2514 (x_R rfl) ?_
    refine f_lald (pc := 2515) (k := 14) (u := 27) (q := 0) (len := 1) dL_law__2515 ho (by decide) hn rfl rfl (by decide) ?_
    refine e_iload (pc := 2516) dL_law__2516 rfl ?_
    refine e_i2l (pc := 2518) dL_law__2518 ?_
    refine e_lcmp (pc := 2519) dL_law__2519 ?_
    refine e_if_eq (pc := 2520) (tgt := 2525) dL_law__2520 (by decide) (fun _ => ?_) (fun q => absurd (x_lc (show v = b from hA.2.symm)) q)
    refine e_goto (pc := 2525) (tgt := 3041) dL_law__2525 (by decide) ?_
    refine e_drop (i := 5) ?_
    refine e_drop (i := 6) ?_
    exact kk
set_option maxRecDepth 100000 in
set_option maxHeartbeats 4000000 in
theorem k48 {g : xG} {al : List (Nat × Nat × Nat)} {ro : Nat → Nat → Option Nat} (hst : g.1.stackTraces = false) (hs : SH al ro) (ho : (16 * 27 + 0, 21, 1) ∈ al) {M : Nat → xU} {h' : xH} {i K S0 : Nat} (hi : i + 6 ≤ x_L g) (hL : x_L g < 2147483648) {X T N Dr Kp Th La Lb Lc Fo St Ri Br Ro Ot S : xU} {A : xA} {a : Int} {b : Int} {Sy : xU} (hX : G11_hungriest N = some a) (hS : G12_hungriest S = some (b, Sy)) (hA : a = b)
    (kk : Ev g yL_law_ cL_law_ 7 (some .boolean) [] 60 3041 [some (x_r 1), some (x_r (16 * 1 + 0)), some (x_r (16 * 32 + 0)), some (x_r (16 * 27 + 0)), some (x_i (i : Int)), none, none] [] (al, ro, fl (ml (x_ac M A) [1, 2, 3, 4, 5, 18, 19, 20, 21, 22, 23, 24, 25, 26, 27, 32] [X, T, N, Dr, Kp, Th, La, Lb, Lc, Fo, St, Ri, Br, Ro, Ot, Sy])) K S0 (.inl (some (x_i 1))) h') : Ev g yL_law_ cL_law_ 7 (some .boolean) [] 60 2528 [some (x_r 1), some (x_r (16 * 1 + 0)), some (x_r (16 * 32 + 0)), some (x_r (16 * 27 + 0)), some (x_i (i : Int)), none, none] [] (al, ro, fl (ml (x_ac M A) [1, 2, 3, 4, 5, 18, 19, 20, 21, 22, 23, 24, 25, 26, 27, 32] [X, T, N, Dr, Kp, Th, La, Lb, Lc, Fo, St, Ri, Br, Ro, Ot, S])) K S0 (.inl (some (x_i 1))) h' := by
  have hn : ([1, 2, 3, 4, 5, 18, 19, 20, 21, 22, 23, 24, 25, 26, 27, 32] : List Nat).Nodup := by decide
  refine e_aloadn (pc := 2528) (i := 1) dL_law__2528 rfl rfl ?_
  refine e_wide (K0 := 0 + K) (S0 := 0 + S0) (by omega) (by omega) ?_
  refine e_invV (pc := 2529) (K1 := 0) (S1 := 0) (K := K) (S := S0) (dd2 := 1) (av := []) (st := []) (id := 16 * 1 + 0) dL_law__2529 xmL_312 rfl (Or.inl ⟨9, 17, TX11, (sa_1_0 hs), rfl, by decide⟩) (f_cal (M := (x_ac M A)) (us2 := [3]) [2] hn rfl (And.intro rfl trivial) rfl rfl rfl (c_X11_hungriest hst hs hX)) (by decide) (Nat.le_of_ble_eq_true rfl) (Or.inl rfl) ?_
  show Ev g _ _ _ _ _ _ 2532 [some (x_r 1), some (x_r (16 * 1 + 0)), some (x_r (16 * 32 + 0)), some (x_r (16 * 27 + 0)), some (x_i (i : Int)), none, none] [x_i a] (al, ro, fl (ml (x_ac M A) [1, 2, 3, 4, 5, 18, 19, 20, 21, 22, 23, 24, 25, 26, 27, 32] [X, T, N, Dr, Kp, Th, La, Lb, Lc, Fo, St, Ri, Br, Ro, Ot, S])) _ _ _ _
  refine e_aloadn (pc := 2532) (i := 2) dL_law__2532 rfl rfl ?_
  refine e_wide (K0 := 0 + K) (S0 := 0 + S0) (by omega) (by omega) ?_
  refine e_invV (pc := 2533) (K1 := 0) (S1 := 0) (K := K) (S := S0) (dd2 := 1) (av := []) (st := [x_i a]) (id := 16 * 32 + 0) dL_law__2533 xmL_315 rfl (Or.inl ⟨10, 27, TX12, (sa_32_0 hs), rfl, by decide⟩) (f_cal (M := (x_ac M A)) (us2 := [32]) [15] hn rfl (And.intro rfl trivial) rfl rfl rfl (c_X12_hungriest hst hs hS)) (by decide) (Nat.le_of_ble_eq_true rfl) (Or.inl rfl) ?_
  show Ev g _ _ _ _ _ _ 2536 [some (x_r 1), some (x_r (16 * 1 + 0)), some (x_r (16 * 32 + 0)), some (x_r (16 * 27 + 0)), some (x_i (i : Int)), none, none] [x_i b, x_i a] (al, ro, fl (ml (x_ac M A) [1, 2, 3, 4, 5, 18, 19, 20, 21, 22, 23, 24, 25, 26, 27, 32] [X, T, N, Dr, Kp, Th, La, Lb, Lc, Fo, St, Ri, Br, Ro, Ot, Sy])) _ _ _ _
  refine e_icmp_eq (pc := 2536) (tgt := 3041) dL_law__2536 (by decide) (fun _ => ?_) (fun q => absurd hA q)
  exact kk
set_option maxRecDepth 100000 in
set_option maxHeartbeats 4000000 in
theorem k49 {g : xG} {al : List (Nat × Nat × Nat)} {ro : Nat → Nat → Option Nat} (hst : g.1.stackTraces = false) (hs : SH al ro) (ho : (16 * 27 + 0, 21, 1) ∈ al) {M : Nat → xU} {h' : xH} {i K S0 : Nat} (hi : i + 6 ≤ x_L g) (hL : x_L g < 2147483648) {X T N Dr Kp Th La Lb Lc Fo St Ri Br Ro Ot S : xU} {A : xA} {a : Int} {b : Int} {Sy : xU} (hX : G11_alike N = some a) (hS : G12_alike S = some (b, Sy)) (hA : a = b)
    (kk : Ev g yL_law_ cL_law_ 7 (some .boolean) [] 60 3041 [some (x_r 1), some (x_r (16 * 1 + 0)), some (x_r (16 * 32 + 0)), some (x_r (16 * 27 + 0)), some (x_i (i : Int)), none, none] [] (al, ro, fl (ml (x_ac M A) [1, 2, 3, 4, 5, 18, 19, 20, 21, 22, 23, 24, 25, 26, 27, 32] [X, T, N, Dr, Kp, Th, La, Lb, Lc, Fo, St, Ri, Br, Ro, Ot, Sy])) K S0 (.inl (some (x_i 1))) h') : Ev g yL_law_ cL_law_ 7 (some .boolean) [] 60 2541 [some (x_r 1), some (x_r (16 * 1 + 0)), some (x_r (16 * 32 + 0)), some (x_r (16 * 27 + 0)), some (x_i (i : Int)), none, none] [] (al, ro, fl (ml (x_ac M A) [1, 2, 3, 4, 5, 18, 19, 20, 21, 22, 23, 24, 25, 26, 27, 32] [X, T, N, Dr, Kp, Th, La, Lb, Lc, Fo, St, Ri, Br, Ro, Ot, S])) K S0 (.inl (some (x_i 1))) h' := by
  have hn : ([1, 2, 3, 4, 5, 18, 19, 20, 21, 22, 23, 24, 25, 26, 27, 32] : List Nat).Nodup := by decide
  refine e_aloadn (pc := 2541) (i := 1) dL_law__2541 rfl rfl ?_
  refine e_wide (K0 := 0 + K) (S0 := 0 + S0) (by omega) (by omega) ?_
  refine e_invV (pc := 2542) (K1 := 0) (S1 := 0) (K := K) (S := S0) (dd2 := 1) (av := []) (st := []) (id := 16 * 1 + 0) dL_law__2542 xmL_316 rfl (Or.inl ⟨9, 17, TX11, (sa_1_0 hs), rfl, by decide⟩) (f_cal (M := (x_ac M A)) (us2 := [3]) [2] hn rfl (And.intro rfl trivial) rfl rfl rfl (c_X11_alike hst hs hX)) (by decide) (Nat.le_of_ble_eq_true rfl) (Or.inl rfl) ?_
  show Ev g _ _ _ _ _ _ 2545 [some (x_r 1), some (x_r (16 * 1 + 0)), some (x_r (16 * 32 + 0)), some (x_r (16 * 27 + 0)), some (x_i (i : Int)), none, none] [x_i a] (al, ro, fl (ml (x_ac M A) [1, 2, 3, 4, 5, 18, 19, 20, 21, 22, 23, 24, 25, 26, 27, 32] [X, T, N, Dr, Kp, Th, La, Lb, Lc, Fo, St, Ri, Br, Ro, Ot, S])) _ _ _ _
  refine e_aloadn (pc := 2545) (i := 2) dL_law__2545 rfl rfl ?_
  refine e_wide (K0 := 0 + K) (S0 := 0 + S0) (by omega) (by omega) ?_
  refine e_invV (pc := 2546) (K1 := 0) (S1 := 0) (K := K) (S := S0) (dd2 := 1) (av := []) (st := [x_i a]) (id := 16 * 32 + 0) dL_law__2546 xmL_319 rfl (Or.inl ⟨10, 27, TX12, (sa_32_0 hs), rfl, by decide⟩) (f_cal (M := (x_ac M A)) (us2 := [32]) [15] hn rfl (And.intro rfl trivial) rfl rfl rfl (c_X12_alike hst hs hS)) (by decide) (Nat.le_of_ble_eq_true rfl) (Or.inl rfl) ?_
  show Ev g _ _ _ _ _ _ 2549 [some (x_r 1), some (x_r (16 * 1 + 0)), some (x_r (16 * 32 + 0)), some (x_r (16 * 27 + 0)), some (x_i (i : Int)), none, none] [x_i b, x_i a] (al, ro, fl (ml (x_ac M A) [1, 2, 3, 4, 5, 18, 19, 20, 21, 22, 23, 24, 25, 26, 27, 32] [X, T, N, Dr, Kp, Th, La, Lb, Lc, Fo, St, Ri, Br, Ro, Ot, Sy])) _ _ _ _
  refine e_icmp_eq (pc := 2549) (tgt := 3041) dL_law__2549 (by decide) (fun _ => ?_) (fun q => absurd hA q)
  exact kk
set_option maxRecDepth 100000 in
set_option maxHeartbeats 4000000 in
theorem k50 {g : xG} {al : List (Nat × Nat × Nat)} {ro : Nat → Nat → Option Nat} (hst : g.1.stackTraces = false) (hs : SH al ro) (ho : (16 * 27 + 0, 21, 1) ∈ al) {M : Nat → xU} {h' : xH} {i K S0 : Nat} (hi : i + 6 ≤ x_L g) (hL : x_L g < 2147483648) {X T N Dr Kp Th La Lb Lc Fo St Ri Br Ro Ot S : xU} {A : xA} {t0 : (Int ⊕ Nat)} {Thx : xU} {Lax : xU} {b : Int} {Sy : xU} (hX : G11_ahead (x_sc g (i + 1)) (x_sc g (i + 2)) (x_sc g (i + 3)) N Th La = some (t0, Thx, Lax)) (hE : ∀ E, t0 = .inr E → E ∈ ([1, 0, 3] : List Nat)) (hS : G12_ahead (x_sc g (i + 1)) (x_sc g (i + 2)) (x_sc g (i + 3)) S = some (b, Sy)) (hA : Ag (x_cd [1, 0, 3]) t0 b Sy)
    (kk : Ev g yL_law_ cL_law_ 7 (some .boolean) [] 60 3041 [some (x_r 1), some (x_r (16 * 1 + 0)), some (x_r (16 * 32 + 0)), some (x_r (16 * 27 + 0)), some (x_i (i : Int)), none, none] [] (al, ro, fl (ml (x_ac M A) [1, 2, 3, 4, 5, 18, 19, 20, 21, 22, 23, 24, 25, 26, 27, 32] [X, T, N, Dr, Kp, Thx, Lax, Lb, Lc, Fo, St, Ri, Br, Ro, (x_out Ot t0), Sy])) K S0 (.inl (some (x_i 1))) h') : Ev g yL_law_ cL_law_ 7 (some .boolean) [] 60 2554 [some (x_r 1), some (x_r (16 * 1 + 0)), some (x_r (16 * 32 + 0)), some (x_r (16 * 27 + 0)), some (x_i (i : Int)), none, none] [] (al, ro, fl (ml (x_ac M A) [1, 2, 3, 4, 5, 18, 19, 20, 21, 22, 23, 24, 25, 26, 27, 32] [X, T, N, Dr, Kp, Th, La, Lb, Lc, Fo, St, Ri, Br, Ro, Ot, S])) (3 + K) (18 + S0) (.inl (some (x_i 1))) h' := by
  have hn : ([1, 2, 3, 4, 5, 18, 19, 20, 21, 22, 23, 24, 25, 26, 27, 32] : List Nat).Nodup := by decide
  refine e_aloadn (pc := 2554) (i := 1) dL_law__2554 rfl rfl ?_
  refine e_aloadn (pc := 2555) (i := 0) dL_law__2555 rfl rfl ?_
  refine e_iload (pc := 2556) dL_law__2556 rfl ?_
  refine e_iconst (pc := 2558) dL_law__2558 (x_R rfl) ?_
  refine e_iadd (pc := 2559) dL_law__2559 ?_
  rw [show x_add (i : Int) 1 = ((i + 1 : Nat) : Int) from x_ni (k := 1) (by omega)]
  refine e_sld (pc := 2560) dL_law__2560 (by omega) (by omega) ?_
  show Ev g _ _ _ _ _ _ 2561 [some (x_r 1), some (x_r (16 * 1 + 0)), some (x_r (16 * 32 + 0)), some (x_r (16 * 27 + 0)), some (x_i (i : Int)), none, none] [x_i (x_sc g (i + 1)), x_r (16 * 1 + 0)] (al, ro, fl (ml (x_ac M A) [1, 2, 3, 4, 5, 18, 19, 20, 21, 22, 23, 24, 25, 26, 27, 32] [X, T, N, Dr, Kp, Th, La, Lb, Lc, Fo, St, Ri, Br, Ro, Ot, S])) _ _ _ _
  refine e_aloadn (pc := 2561) (i := 0) dL_law__2561 rfl rfl ?_
  refine e_iload (pc := 2562) dL_law__2562 rfl ?_
  refine e_iconst (pc := 2564) dL_law__2564 (x_R rfl) ?_
  refine e_iadd (pc := 2565) dL_law__2565 ?_
  rw [show x_add (i : Int) 2 = ((i + 2 : Nat) : Int) from x_ni (k := 2) (by omega)]
  refine e_sld (pc := 2566) dL_law__2566 (by omega) (by omega) ?_
  show Ev g _ _ _ _ _ _ 2567 [some (x_r 1), some (x_r (16 * 1 + 0)), some (x_r (16 * 32 + 0)), some (x_r (16 * 27 + 0)), some (x_i (i : Int)), none, none] [x_i (x_sc g (i + 2)), x_i (x_sc g (i + 1)), x_r (16 * 1 + 0)] (al, ro, fl (ml (x_ac M A) [1, 2, 3, 4, 5, 18, 19, 20, 21, 22, 23, 24, 25, 26, 27, 32] [X, T, N, Dr, Kp, Th, La, Lb, Lc, Fo, St, Ri, Br, Ro, Ot, S])) _ _ _ _
  refine e_aloadn (pc := 2567) (i := 0) dL_law__2567 rfl rfl ?_
  refine e_iload (pc := 2568) dL_law__2568 rfl ?_
  refine e_iconst (pc := 2570) dL_law__2570 (x_R rfl) ?_
  refine e_iadd (pc := 2571) dL_law__2571 ?_
  rw [show x_add (i : Int) 3 = ((i + 3 : Nat) : Int) from x_ni (k := 3) (by omega)]
  refine e_sld (pc := 2572) dL_law__2572 (by omega) (by omega) ?_
  show Ev g _ _ _ _ _ _ 2573 [some (x_r 1), some (x_r (16 * 1 + 0)), some (x_r (16 * 32 + 0)), some (x_r (16 * 27 + 0)), some (x_i (i : Int)), none, none] [x_i (x_sc g (i + 3)), x_i (x_sc g (i + 2)), x_i (x_sc g (i + 1)), x_r (16 * 1 + 0)] (al, ro, fl (ml (x_ac M A) [1, 2, 3, 4, 5, 18, 19, 20, 21, 22, 23, 24, 25, 26, 27, 32] [X, T, N, Dr, Kp, Th, La, Lb, Lc, Fo, St, Ri, Br, Ro, Ot, S])) _ _ _ _
  refine e_aloadn (pc := 2573) (i := 3) dL_law__2573 rfl rfl ?_
  refine e_invSH (pc := 2574) (K1 := 3) (S1 := 18) (K := K) (S := S0) (dd2 := 7) (av := [x_r (16 * 1 + 0), x_i (x_sc g (i + 1)), x_i (x_sc g (i + 2)), x_i (x_sc g (i + 3)), x_r (16 * 27 + 0)]) (st := []) dL_law__2574 (xmH_ahead 320 (x_inB (x_t7 (List.mem_of_getElem? (i := 5) rfl)) rfl)) rfl (f_calH (M := (x_ac M A)) (us2 := [3, 18, 19, 27]) [2, 5, 6, 14] hn rfl (And.intro rfl (And.intro rfl (And.intro rfl (And.intro rfl trivial)))) rfl rfl rfl (c_L_ahead hst hs ho hX hE)) (by decide) (Nat.le_of_ble_eq_true rfl) (Or.inl rfl) ?_
  show Ev g _ _ _ _ _ _ 2577 [some (x_r 1), some (x_r (16 * 1 + 0)), some (x_r (16 * 32 + 0)), some (x_r (16 * 27 + 0)), some (x_i (i : Int)), none, none] [x_i (x_wc [1, 0, 3] t0)] (al, ro, fl (ml (x_ac M A) [1, 2, 3, 4, 5, 18, 19, 20, 21, 22, 23, 24, 25, 26, 27, 32] [X, T, N, Dr, Kp, Thx, Lax, Lb, Lc, Fo, St, Ri, Br, Ro, (x_out Ot t0), S])) _ _ _ _
  refine e_istore (pc := 2577) (i := 5) dL_law__2577 (by decide) rfl ?_
  show Ev g _ _ _ _ _ _ 2579 [some (x_r 1), some (x_r (16 * 1 + 0)), some (x_r (16 * 32 + 0)), some (x_r (16 * 27 + 0)), some (x_i (i : Int)), some (x_i (x_wc [1, 0, 3] t0)), none] [] (al, ro, fl (ml (x_ac M A) [1, 2, 3, 4, 5, 18, 19, 20, 21, 22, 23, 24, 25, 26, 27, 32] [X, T, N, Dr, Kp, Thx, Lax, Lb, Lc, Fo, St, Ri, Br, Ro, (x_out Ot t0), S])) _ _ _ _
  refine e_aloadn (pc := 2579) (i := 2) dL_law__2579 rfl rfl ?_
  refine e_aloadn (pc := 2580) (i := 0) dL_law__2580 rfl rfl ?_
  refine e_iload (pc := 2581) dL_law__2581 rfl ?_
  refine e_iconst (pc := 2583) dL_law__2583 (x_R rfl) ?_
  refine e_iadd (pc := 2584) dL_law__2584 ?_
  rw [show x_add (i : Int) 1 = ((i + 1 : Nat) : Int) from x_ni (k := 1) (by omega)]
  refine e_sld (pc := 2585) dL_law__2585 (by omega) (by omega) ?_
  show Ev g _ _ _ _ _ _ 2586 [some (x_r 1), some (x_r (16 * 1 + 0)), some (x_r (16 * 32 + 0)), some (x_r (16 * 27 + 0)), some (x_i (i : Int)), some (x_i (x_wc [1, 0, 3] t0)), none] [x_i (x_sc g (i + 1)), x_r (16 * 32 + 0)] (al, ro, fl (ml (x_ac M A) [1, 2, 3, 4, 5, 18, 19, 20, 21, 22, 23, 24, 25, 26, 27, 32] [X, T, N, Dr, Kp, Thx, Lax, Lb, Lc, Fo, St, Ri, Br, Ro, (x_out Ot t0), S])) _ _ _ _
  refine e_aloadn (pc := 2586) (i := 0) dL_law__2586 rfl rfl ?_
  refine e_iload (pc := 2587) dL_law__2587 rfl ?_
  refine e_iconst (pc := 2589) dL_law__2589 (x_R rfl) ?_
  refine e_iadd (pc := 2590) dL_law__2590 ?_
  rw [show x_add (i : Int) 2 = ((i + 2 : Nat) : Int) from x_ni (k := 2) (by omega)]
  refine e_sld (pc := 2591) dL_law__2591 (by omega) (by omega) ?_
  show Ev g _ _ _ _ _ _ 2592 [some (x_r 1), some (x_r (16 * 1 + 0)), some (x_r (16 * 32 + 0)), some (x_r (16 * 27 + 0)), some (x_i (i : Int)), some (x_i (x_wc [1, 0, 3] t0)), none] [x_i (x_sc g (i + 2)), x_i (x_sc g (i + 1)), x_r (16 * 32 + 0)] (al, ro, fl (ml (x_ac M A) [1, 2, 3, 4, 5, 18, 19, 20, 21, 22, 23, 24, 25, 26, 27, 32] [X, T, N, Dr, Kp, Thx, Lax, Lb, Lc, Fo, St, Ri, Br, Ro, (x_out Ot t0), S])) _ _ _ _
  refine e_aloadn (pc := 2592) (i := 0) dL_law__2592 rfl rfl ?_
  refine e_iload (pc := 2593) dL_law__2593 rfl ?_
  refine e_iconst (pc := 2595) dL_law__2595 (x_R rfl) ?_
  refine e_iadd (pc := 2596) dL_law__2596 ?_
  rw [show x_add (i : Int) 3 = ((i + 3 : Nat) : Int) from x_ni (k := 3) (by omega)]
  refine e_sld (pc := 2597) dL_law__2597 (by omega) (by omega) ?_
  show Ev g _ _ _ _ _ _ 2598 [some (x_r 1), some (x_r (16 * 1 + 0)), some (x_r (16 * 32 + 0)), some (x_r (16 * 27 + 0)), some (x_i (i : Int)), some (x_i (x_wc [1, 0, 3] t0)), none] [x_i (x_sc g (i + 3)), x_i (x_sc g (i + 2)), x_i (x_sc g (i + 1)), x_r (16 * 32 + 0)] (al, ro, fl (ml (x_ac M A) [1, 2, 3, 4, 5, 18, 19, 20, 21, 22, 23, 24, 25, 26, 27, 32] [X, T, N, Dr, Kp, Thx, Lax, Lb, Lc, Fo, St, Ri, Br, Ro, (x_out Ot t0), S])) _ _ _ _
  refine e_wide (K0 := 0 + K) (S0 := 0 + S0) (by omega) (by omega) ?_
  refine e_invV (pc := 2598) (K1 := 0) (S1 := 0) (K := K) (S := S0) (dd2 := 47) (av := [x_i (x_sc g (i + 1)), x_i (x_sc g (i + 2)), x_i (x_sc g (i + 3))]) (st := []) (id := 16 * 32 + 0) dL_law__2598 xmL_323 rfl (Or.inl ⟨10, 27, TX12, (sa_32_0 hs), rfl, by decide⟩) (f_cal (M := (x_ac M A)) (us2 := [32]) [15] hn rfl (And.intro rfl trivial) rfl rfl rfl (c_X12_ahead hst hs hS)) (by decide) (Nat.le_of_ble_eq_true rfl) (Or.inl rfl) ?_
  show Ev g _ _ _ _ _ _ 2601 [some (x_r 1), some (x_r (16 * 1 + 0)), some (x_r (16 * 32 + 0)), some (x_r (16 * 27 + 0)), some (x_i (i : Int)), some (x_i (x_wc [1, 0, 3] t0)), none] [x_i b] (al, ro, fl (ml (x_ac M A) [1, 2, 3, 4, 5, 18, 19, 20, 21, 22, 23, 24, 25, 26, 27, 32] [X, T, N, Dr, Kp, Thx, Lax, Lb, Lc, Fo, St, Ri, Br, Ro, (x_out Ot t0), Sy])) _ _ _ _
  refine e_istore (pc := 2601) (i := 6) dL_law__2601 (by decide) rfl ?_
  show Ev g _ _ _ _ _ _ 2603 [some (x_r 1), some (x_r (16 * 1 + 0)), some (x_r (16 * 32 + 0)), some (x_r (16 * 27 + 0)), some (x_i (i : Int)), some (x_i (x_wc [1, 0, 3] t0)), some (x_i b)] [] (al, ro, fl (ml (x_ac M A) [1, 2, 3, 4, 5, 18, 19, 20, 21, 22, 23, 24, 25, 26, 27, 32] [X, T, N, Dr, Kp, Thx, Lax, Lb, Lc, Fo, St, Ri, Br, Ro, (x_out Ot t0), Sy])) _ _ _ _
  refine e_aloadn (pc := 2603) (i := 2) dL_law__2603 rfl rfl ?_
  refine e_wide (K0 := 0 + K) (S0 := 0 + S0) (by omega) (by omega) ?_
  refine e_invV (pc := 2604) (K1 := 0) (S1 := 0) (K := K) (S := S0) (dd2 := 0) (av := []) (st := []) (id := 16 * 32 + 0) dL_law__2604 xmL_156 rfl (Or.inl ⟨10, 27, TX12, (sa_32_0 hs), rfl, by decide⟩) (f_cal (M := (x_ac M A)) (us2 := [32]) [15] hn rfl (And.intro rfl trivial) rfl rfl rfl (c_X12_thrown hst hs (show G12_thrown Sy = some (Sy 0 0) from rfl))) (by decide) (Nat.le_of_ble_eq_true rfl) (Or.inl rfl) ?_
  show Ev g _ _ _ _ _ _ 2607 [some (x_r 1), some (x_r (16 * 1 + 0)), some (x_r (16 * 32 + 0)), some (x_r (16 * 27 + 0)), some (x_i (i : Int)), some (x_i (x_wc [1, 0, 3] t0)), some (x_i b)] [x_i (Sy 0 0)] (al, ro, fl (ml (x_ac M A) [1, 2, 3, 4, 5, 18, 19, 20, 21, 22, 23, 24, 25, 26, 27, 32] [X, T, N, Dr, Kp, Thx, Lax, Lb, Lc, Fo, St, Ri, Br, Ro, (x_out Ot t0), Sy])) _ _ _ _
  have hk : Sy 0 0 = x_wc [1, 0, 3] t0 := x_ag_k hA
  refine e_iload (pc := 2607) dL_law__2607 rfl ?_
  refine e_icmp_eq (pc := 2609) (tgt := 2614) dL_law__2609 (by decide) (fun _ => ?_) (fun q => absurd hk q)
  refine e_iload (pc := 2614) dL_law__2614 rfl ?_
  cases t0 with
  | inr E =>
    refine e_if_ne (pc := 2616) (tgt := 2631) dL_law__2616 (by decide) (fun _ => ?_) (fun q => absurd q (x_wc_r [1, 0, 3] E))
    refine e_goto (pc := 2631) (tgt := 3041) dL_law__2631 (by decide) ?_
    refine e_drop (i := 5) ?_
    refine e_drop (i := 6) ?_
    exact kk
  | inl v =>
    refine e_if_ne (pc := 2616) (tgt := 2631) dL_law__2616 (by decide) (fun q => absurd rfl q) (fun _ => ?_)
    refine e_aloadn (pc := 2619) (i := 3) dL_law__2619 rfl rfl ?_
    refine e_iconst (pc := 2620) dL_law__2620 (x_R rfl) ?_
    refine f_lald (pc := 2621) (k := 14) (u := 27) (q := 0) (len := 1) dL_law__2621 ho (by decide) hn rfl rfl (by decide) ?_
    refine e_iload (pc := 2622) dL_law__2622 rfl ?_
    refine e_i2l (pc := 2624) dL_law__2624 ?_
    refine e_lcmp (pc := 2625) dL_law__2625 ?_
    refine e_if_eq (pc := 2626) (tgt := 2631) dL_law__2626 (by decide) (fun _ => ?_) (fun q => absurd (x_lc (show v = b from hA.2.symm)) q)
    refine e_goto (pc := 2631) (tgt := 3041) dL_law__2631 (by decide) ?_
    refine e_drop (i := 5) ?_
    refine e_drop (i := 6) ?_
    exact kk
set_option maxRecDepth 100000 in
set_option maxHeartbeats 4000000 in
theorem k51 {g : xG} {al : List (Nat × Nat × Nat)} {ro : Nat → Nat → Option Nat} (hst : g.1.stackTraces = false) (hs : SH al ro) (ho : (16 * 27 + 0, 21, 1) ∈ al) {M : Nat → xU} {h' : xH} {i K S0 : Nat} (hi : i + 6 ≤ x_L g) (hL : x_L g < 2147483648) {X T N Dr Kp Th La Lb Lc Fo St Ri Br Ro Ot S : xU} {A : xA} {t0 : (Int ⊕ Nat)} {Thx : xU} {Lax : xU} {b : Int} {Sy : xU} (hX : G11_trial (x_sc g (i + 1)) (x_zb (x_sc g (i + 2))) N Th La = some (t0, Thx, Lax)) (hE : ∀ E, t0 = .inr E → E ∈ ([0] : List Nat)) (hS : G12_trial (x_sc g (i + 1)) (x_zb (x_sc g (i + 2))) S = some (b, Sy)) (hA : Ag (x_cd [0]) t0 b Sy)
    (kk : Ev g yL_law_ cL_law_ 7 (some .boolean) [] 60 3041 [some (x_r 1), some (x_r (16 * 1 + 0)), some (x_r (16 * 32 + 0)), some (x_r (16 * 27 + 0)), some (x_i (i : Int)), none, none] [] (al, ro, fl (ml (x_ac M A) [1, 2, 3, 4, 5, 18, 19, 20, 21, 22, 23, 24, 25, 26, 27, 32] [X, T, N, Dr, Kp, Thx, Lax, Lb, Lc, Fo, St, Ri, Br, Ro, (x_out Ot t0), Sy])) K S0 (.inl (some (x_i 1))) h') : Ev g yL_law_ cL_law_ 7 (some .boolean) [] 60 2634 [some (x_r 1), some (x_r (16 * 1 + 0)), some (x_r (16 * 32 + 0)), some (x_r (16 * 27 + 0)), some (x_i (i : Int)), none, none] [] (al, ro, fl (ml (x_ac M A) [1, 2, 3, 4, 5, 18, 19, 20, 21, 22, 23, 24, 25, 26, 27, 32] [X, T, N, Dr, Kp, Th, La, Lb, Lc, Fo, St, Ri, Br, Ro, Ot, S])) (1 + K) (6 + S0) (.inl (some (x_i 1))) h' := by
  have hn : ([1, 2, 3, 4, 5, 18, 19, 20, 21, 22, 23, 24, 25, 26, 27, 32] : List Nat).Nodup := by decide
  refine e_aloadn (pc := 2634) (i := 1) dL_law__2634 rfl rfl ?_
  refine e_aloadn (pc := 2635) (i := 0) dL_law__2635 rfl rfl ?_
  refine e_iload (pc := 2636) dL_law__2636 rfl ?_
  refine e_iconst (pc := 2638) dL_law__2638 (x_R rfl) ?_
  refine e_iadd (pc := 2639) dL_law__2639 ?_
  rw [show x_add (i : Int) 1 = ((i + 1 : Nat) : Int) from x_ni (k := 1) (by omega)]
  refine e_sld (pc := 2640) dL_law__2640 (by omega) (by omega) ?_
  show Ev g _ _ _ _ _ _ 2641 [some (x_r 1), some (x_r (16 * 1 + 0)), some (x_r (16 * 32 + 0)), some (x_r (16 * 27 + 0)), some (x_i (i : Int)), none, none] [x_i (x_sc g (i + 1)), x_r (16 * 1 + 0)] (al, ro, fl (ml (x_ac M A) [1, 2, 3, 4, 5, 18, 19, 20, 21, 22, 23, 24, 25, 26, 27, 32] [X, T, N, Dr, Kp, Th, La, Lb, Lc, Fo, St, Ri, Br, Ro, Ot, S])) _ _ _ _
  refine e_aloadn (pc := 2641) (i := 0) dL_law__2641 rfl rfl ?_
  refine e_iload (pc := 2642) dL_law__2642 rfl ?_
  refine e_iconst (pc := 2644) dL_law__2644 (x_R rfl) ?_
  refine e_iadd (pc := 2645) dL_law__2645 ?_
  rw [show x_add (i : Int) 2 = ((i + 2 : Nat) : Int) from x_ni (k := 2) (by omega)]
  refine e_sld (pc := 2646) dL_law__2646 (by omega) (by omega) ?_
  show Ev g _ _ _ _ _ _ 2647 [some (x_r 1), some (x_r (16 * 1 + 0)), some (x_r (16 * 32 + 0)), some (x_r (16 * 27 + 0)), some (x_i (i : Int)), none, none] [x_i (x_sc g (i + 2)), x_i (x_sc g (i + 1)), x_r (16 * 1 + 0)] (al, ro, fl (ml (x_ac M A) [1, 2, 3, 4, 5, 18, 19, 20, 21, 22, 23, 24, 25, 26, 27, 32] [X, T, N, Dr, Kp, Th, La, Lb, Lc, Fo, St, Ri, Br, Ro, Ot, S])) _ _ _ _
  have key1 : ∀ z1 : Int, z1 = x_zb (x_sc g (i + 2)) → Ev g yL_law_ cL_law_ 7 (some .boolean) [] 60 2655 [some (x_r 1), some (x_r (16 * 1 + 0)), some (x_r (16 * 32 + 0)), some (x_r (16 * 27 + 0)), some (x_i (i : Int)), none, none] [x_i z1, x_i (x_sc g (i + 1)), x_r (16 * 1 + 0)] (al, ro, fl (ml (x_ac M A) [1, 2, 3, 4, 5, 18, 19, 20, 21, 22, 23, 24, 25, 26, 27, 32] [X, T, N, Dr, Kp, Th, La, Lb, Lc, Fo, St, Ri, Br, Ro, Ot, S])) (1 + K) (6 + S0) (.inl (some (x_i 1))) h' := by
    intro z1 hz
    subst hz
    refine e_aloadn (pc := 2655) (i := 3) dL_law__2655 rfl rfl ?_
    refine e_invSH (pc := 2656) (K1 := 1) (S1 := 6) (K := K) (S := S0) (dd2 := 7) (av := [x_r (16 * 1 + 0), x_i (x_sc g (i + 1)), x_i (x_zb (x_sc g (i + 2))), x_r (16 * 27 + 0)]) (st := []) dL_law__2656 (xmH_trial 324 (x_inB (x_t7 (List.mem_of_getElem? (i := 16) rfl)) rfl)) rfl (f_calH (M := (x_ac M A)) (us2 := [3, 18, 19, 27]) [2, 5, 6, 14] hn rfl (And.intro rfl (And.intro rfl (And.intro rfl (And.intro rfl trivial)))) rfl rfl rfl (c_L_trial hst hs ho hX hE)) (by decide) (Nat.le_of_ble_eq_true rfl) (Or.inl rfl) ?_
    show Ev g _ _ _ _ _ _ 2659 [some (x_r 1), some (x_r (16 * 1 + 0)), some (x_r (16 * 32 + 0)), some (x_r (16 * 27 + 0)), some (x_i (i : Int)), none, none] [x_i (x_wc [0] t0)] (al, ro, fl (ml (x_ac M A) [1, 2, 3, 4, 5, 18, 19, 20, 21, 22, 23, 24, 25, 26, 27, 32] [X, T, N, Dr, Kp, Thx, Lax, Lb, Lc, Fo, St, Ri, Br, Ro, (x_out Ot t0), S])) _ _ _ _
    refine e_istore (pc := 2659) (i := 5) dL_law__2659 (by decide) rfl ?_
    show Ev g _ _ _ _ _ _ 2661 [some (x_r 1), some (x_r (16 * 1 + 0)), some (x_r (16 * 32 + 0)), some (x_r (16 * 27 + 0)), some (x_i (i : Int)), some (x_i (x_wc [0] t0)), none] [] (al, ro, fl (ml (x_ac M A) [1, 2, 3, 4, 5, 18, 19, 20, 21, 22, 23, 24, 25, 26, 27, 32] [X, T, N, Dr, Kp, Thx, Lax, Lb, Lc, Fo, St, Ri, Br, Ro, (x_out Ot t0), S])) _ _ _ _
    refine e_aloadn (pc := 2661) (i := 2) dL_law__2661 rfl rfl ?_
    refine e_aloadn (pc := 2662) (i := 0) dL_law__2662 rfl rfl ?_
    refine e_iload (pc := 2663) dL_law__2663 rfl ?_
    refine e_iconst (pc := 2665) dL_law__2665 (x_R rfl) ?_
    refine e_iadd (pc := 2666) dL_law__2666 ?_
    rw [show x_add (i : Int) 1 = ((i + 1 : Nat) : Int) from x_ni (k := 1) (by omega)]
    refine e_sld (pc := 2667) dL_law__2667 (by omega) (by omega) ?_
    show Ev g _ _ _ _ _ _ 2668 [some (x_r 1), some (x_r (16 * 1 + 0)), some (x_r (16 * 32 + 0)), some (x_r (16 * 27 + 0)), some (x_i (i : Int)), some (x_i (x_wc [0] t0)), none] [x_i (x_sc g (i + 1)), x_r (16 * 32 + 0)] (al, ro, fl (ml (x_ac M A) [1, 2, 3, 4, 5, 18, 19, 20, 21, 22, 23, 24, 25, 26, 27, 32] [X, T, N, Dr, Kp, Thx, Lax, Lb, Lc, Fo, St, Ri, Br, Ro, (x_out Ot t0), S])) _ _ _ _
    refine e_aloadn (pc := 2668) (i := 0) dL_law__2668 rfl rfl ?_
    refine e_iload (pc := 2669) dL_law__2669 rfl ?_
    refine e_iconst (pc := 2671) dL_law__2671 (x_R rfl) ?_
    refine e_iadd (pc := 2672) dL_law__2672 ?_
    rw [show x_add (i : Int) 2 = ((i + 2 : Nat) : Int) from x_ni (k := 2) (by omega)]
    refine e_sld (pc := 2673) dL_law__2673 (by omega) (by omega) ?_
    show Ev g _ _ _ _ _ _ 2674 [some (x_r 1), some (x_r (16 * 1 + 0)), some (x_r (16 * 32 + 0)), some (x_r (16 * 27 + 0)), some (x_i (i : Int)), some (x_i (x_wc [0] t0)), none] [x_i (x_sc g (i + 2)), x_i (x_sc g (i + 1)), x_r (16 * 32 + 0)] (al, ro, fl (ml (x_ac M A) [1, 2, 3, 4, 5, 18, 19, 20, 21, 22, 23, 24, 25, 26, 27, 32] [X, T, N, Dr, Kp, Thx, Lax, Lb, Lc, Fo, St, Ri, Br, Ro, (x_out Ot t0), S])) _ _ _ _
    have key2 : ∀ z2 : Int, z2 = x_zb (x_sc g (i + 2)) → Ev g yL_law_ cL_law_ 7 (some .boolean) [] 60 2682 [some (x_r 1), some (x_r (16 * 1 + 0)), some (x_r (16 * 32 + 0)), some (x_r (16 * 27 + 0)), some (x_i (i : Int)), some (x_i (x_wc [0] t0)), none] [x_i z2, x_i (x_sc g (i + 1)), x_r (16 * 32 + 0)] (al, ro, fl (ml (x_ac M A) [1, 2, 3, 4, 5, 18, 19, 20, 21, 22, 23, 24, 25, 26, 27, 32] [X, T, N, Dr, Kp, Thx, Lax, Lb, Lc, Fo, St, Ri, Br, Ro, (x_out Ot t0), S])) K S0 (.inl (some (x_i 1))) h' := by
      intro z2 hz
      subst hz
      refine e_wide (K0 := 0 + K) (S0 := 0 + S0) (by omega) (by omega) ?_
      refine e_invV (pc := 2682) (K1 := 0) (S1 := 0) (K := K) (S := S0) (dd2 := 47) (av := [x_i (x_sc g (i + 1)), x_i (x_zb (x_sc g (i + 2)))]) (st := []) (id := 16 * 32 + 0) dL_law__2682 xmL_326 rfl (Or.inl ⟨10, 27, TX12, (sa_32_0 hs), rfl, by decide⟩) (f_cal (M := (x_ac M A)) (us2 := [32]) [15] hn rfl (And.intro rfl trivial) rfl rfl rfl (c_X12_trial hst hs hS)) (by decide) (Nat.le_of_ble_eq_true rfl) (Or.inl rfl) ?_
      show Ev g _ _ _ _ _ _ 2685 [some (x_r 1), some (x_r (16 * 1 + 0)), some (x_r (16 * 32 + 0)), some (x_r (16 * 27 + 0)), some (x_i (i : Int)), some (x_i (x_wc [0] t0)), none] [x_i b] (al, ro, fl (ml (x_ac M A) [1, 2, 3, 4, 5, 18, 19, 20, 21, 22, 23, 24, 25, 26, 27, 32] [X, T, N, Dr, Kp, Thx, Lax, Lb, Lc, Fo, St, Ri, Br, Ro, (x_out Ot t0), Sy])) _ _ _ _
      refine e_istore (pc := 2685) (i := 6) dL_law__2685 (by decide) rfl ?_
      show Ev g _ _ _ _ _ _ 2687 [some (x_r 1), some (x_r (16 * 1 + 0)), some (x_r (16 * 32 + 0)), some (x_r (16 * 27 + 0)), some (x_i (i : Int)), some (x_i (x_wc [0] t0)), some (x_i b)] [] (al, ro, fl (ml (x_ac M A) [1, 2, 3, 4, 5, 18, 19, 20, 21, 22, 23, 24, 25, 26, 27, 32] [X, T, N, Dr, Kp, Thx, Lax, Lb, Lc, Fo, St, Ri, Br, Ro, (x_out Ot t0), Sy])) _ _ _ _
      refine e_aloadn (pc := 2687) (i := 2) dL_law__2687 rfl rfl ?_
      refine e_wide (K0 := 0 + K) (S0 := 0 + S0) (by omega) (by omega) ?_
      refine e_invV (pc := 2688) (K1 := 0) (S1 := 0) (K := K) (S := S0) (dd2 := 0) (av := []) (st := []) (id := 16 * 32 + 0) dL_law__2688 xmL_156 rfl (Or.inl ⟨10, 27, TX12, (sa_32_0 hs), rfl, by decide⟩) (f_cal (M := (x_ac M A)) (us2 := [32]) [15] hn rfl (And.intro rfl trivial) rfl rfl rfl (c_X12_thrown hst hs (show G12_thrown Sy = some (Sy 0 0) from rfl))) (by decide) (Nat.le_of_ble_eq_true rfl) (Or.inl rfl) ?_
      show Ev g _ _ _ _ _ _ 2691 [some (x_r 1), some (x_r (16 * 1 + 0)), some (x_r (16 * 32 + 0)), some (x_r (16 * 27 + 0)), some (x_i (i : Int)), some (x_i (x_wc [0] t0)), some (x_i b)] [x_i (Sy 0 0)] (al, ro, fl (ml (x_ac M A) [1, 2, 3, 4, 5, 18, 19, 20, 21, 22, 23, 24, 25, 26, 27, 32] [X, T, N, Dr, Kp, Thx, Lax, Lb, Lc, Fo, St, Ri, Br, Ro, (x_out Ot t0), Sy])) _ _ _ _
      have hk : Sy 0 0 = x_wc [0] t0 := x_ag_k hA
      refine e_iload (pc := 2691) dL_law__2691 rfl ?_
      refine e_icmp_eq (pc := 2693) (tgt := 2698) dL_law__2693 (by decide) (fun _ => ?_) (fun q => absurd hk q)
      refine e_iload (pc := 2698) dL_law__2698 rfl ?_
      cases t0 with
      | inr E =>
        refine e_if_ne (pc := 2700) (tgt := 2715) dL_law__2700 (by decide) (fun _ => ?_) (fun q => absurd q (x_wc_r [0] E))
        refine e_goto (pc := 2715) (tgt := 3041) dL_law__2715 (by decide) ?_
        refine e_drop (i := 5) ?_
        refine e_drop (i := 6) ?_
        exact kk
      | inl v =>
        refine e_if_ne (pc := 2700) (tgt := 2715) dL_law__2700 (by decide) (fun q => absurd rfl q) (fun _ => ?_)
        refine e_aloadn (pc := 2703) (i := 3) dL_law__2703 rfl rfl ?_
        refine e_iconst (pc := 2704) dL_law__2704 (x_R rfl) ?_
        refine f_lald (pc := 2705) (k := 14) (u := 27) (q := 0) (len := 1) dL_law__2705 ho (by decide) hn rfl rfl (by decide) ?_
        refine e_iload (pc := 2706) dL_law__2706 rfl ?_
        refine e_i2l (pc := 2708) dL_law__2708 ?_
        refine e_lcmp (pc := 2709) dL_law__2709 ?_
        refine e_if_eq (pc := 2710) (tgt := 2715) dL_law__2710 (by decide) (fun _ => ?_) (fun q => absurd (x_lc (show v = b from hA.2.symm)) q)
        refine e_goto (pc := 2715) (tgt := 3041) dL_law__2715 (by decide) ?_
        refine e_drop (i := 5) ?_
        refine e_drop (i := 6) ?_
        exact kk
    refine e_if_eq (pc := 2674) (tgt := 2681) dL_law__2674 (by decide) (fun q => ?_) (fun q => ?_)
    · refine e_iconst (pc := 2681) dL_law__2681 (x_R rfl) ?_
      exact key2 0 (by rw [x_zb, if_pos q])
    · refine e_iconst (pc := 2677) dL_law__2677 (x_R rfl) ?_
      refine e_goto (pc := 2678) (tgt := 2682) dL_law__2678 (by decide) ?_
      exact key2 1 (by rw [x_zb, if_neg q])
  refine e_if_eq (pc := 2647) (tgt := 2654) dL_law__2647 (by decide) (fun q => ?_) (fun q => ?_)
  · refine e_iconst (pc := 2654) dL_law__2654 (x_R rfl) ?_
    exact key1 0 (by rw [x_zb, if_pos q])
  · refine e_iconst (pc := 2650) dL_law__2650 (x_R rfl) ?_
    refine e_goto (pc := 2651) (tgt := 2655) dL_law__2651 (by decide) ?_
    exact key1 1 (by rw [x_zb, if_neg q])
set_option maxRecDepth 100000 in
set_option maxHeartbeats 4000000 in
theorem k52 {g : xG} {al : List (Nat × Nat × Nat)} {ro : Nat → Nat → Option Nat} (hst : g.1.stackTraces = false) (hs : SH al ro) (ho : (16 * 27 + 0, 21, 1) ∈ al) {M : Nat → xU} {h' : xH} {i K S0 : Nat} (hi : i + 6 ≤ x_L g) (hL : x_L g < 2147483648) {X T N Dr Kp Th La Lb Lc Fo St Ri Br Ro Ot S : xU} {A : xA} {t0 : (Int ⊕ Nat)} {Thx : xU} {Lax : xU} {b : Int} {Sy : xU} (hX : G11_span (x_sc g (i + 1)) (x_zb (x_sc g (i + 2))) N Th La = some (t0, Thx, Lax)) (hE : ∀ E, t0 = .inr E → E ∈ ([0] : List Nat)) (hS : G12_span (x_sc g (i + 1)) (x_zb (x_sc g (i + 2))) S = some (b, Sy)) (hA : Ag (x_cd [0]) t0 b Sy)
    (kk : Ev g yL_law_ cL_law_ 7 (some .boolean) [] 60 3041 [some (x_r 1), some (x_r (16 * 1 + 0)), some (x_r (16 * 32 + 0)), some (x_r (16 * 27 + 0)), some (x_i (i : Int)), none, none] [] (al, ro, fl (ml (x_ac M A) [1, 2, 3, 4, 5, 18, 19, 20, 21, 22, 23, 24, 25, 26, 27, 32] [X, T, N, Dr, Kp, Thx, Lax, Lb, Lc, Fo, St, Ri, Br, Ro, (x_out Ot t0), Sy])) K S0 (.inl (some (x_i 1))) h') : Ev g yL_law_ cL_law_ 7 (some .boolean) [] 60 2718 [some (x_r 1), some (x_r (16 * 1 + 0)), some (x_r (16 * 32 + 0)), some (x_r (16 * 27 + 0)), some (x_i (i : Int)), none, none] [] (al, ro, fl (ml (x_ac M A) [1, 2, 3, 4, 5, 18, 19, 20, 21, 22, 23, 24, 25, 26, 27, 32] [X, T, N, Dr, Kp, Th, La, Lb, Lc, Fo, St, Ri, Br, Ro, Ot, S])) (1 + K) (6 + S0) (.inl (some (x_i 1))) h' := by
  have hn : ([1, 2, 3, 4, 5, 18, 19, 20, 21, 22, 23, 24, 25, 26, 27, 32] : List Nat).Nodup := by decide
  refine e_aloadn (pc := 2718) (i := 1) dL_law__2718 rfl rfl ?_
  refine e_aloadn (pc := 2719) (i := 0) dL_law__2719 rfl rfl ?_
  refine e_iload (pc := 2720) dL_law__2720 rfl ?_
  refine e_iconst (pc := 2722) dL_law__2722 (x_R rfl) ?_
  refine e_iadd (pc := 2723) dL_law__2723 ?_
  rw [show x_add (i : Int) 1 = ((i + 1 : Nat) : Int) from x_ni (k := 1) (by omega)]
  refine e_sld (pc := 2724) dL_law__2724 (by omega) (by omega) ?_
  show Ev g _ _ _ _ _ _ 2725 [some (x_r 1), some (x_r (16 * 1 + 0)), some (x_r (16 * 32 + 0)), some (x_r (16 * 27 + 0)), some (x_i (i : Int)), none, none] [x_i (x_sc g (i + 1)), x_r (16 * 1 + 0)] (al, ro, fl (ml (x_ac M A) [1, 2, 3, 4, 5, 18, 19, 20, 21, 22, 23, 24, 25, 26, 27, 32] [X, T, N, Dr, Kp, Th, La, Lb, Lc, Fo, St, Ri, Br, Ro, Ot, S])) _ _ _ _
  refine e_aloadn (pc := 2725) (i := 0) dL_law__2725 rfl rfl ?_
  refine e_iload (pc := 2726) dL_law__2726 rfl ?_
  refine e_iconst (pc := 2728) dL_law__2728 (x_R rfl) ?_
  refine e_iadd (pc := 2729) dL_law__2729 ?_
  rw [show x_add (i : Int) 2 = ((i + 2 : Nat) : Int) from x_ni (k := 2) (by omega)]
  refine e_sld (pc := 2730) dL_law__2730 (by omega) (by omega) ?_
  show Ev g _ _ _ _ _ _ 2731 [some (x_r 1), some (x_r (16 * 1 + 0)), some (x_r (16 * 32 + 0)), some (x_r (16 * 27 + 0)), some (x_i (i : Int)), none, none] [x_i (x_sc g (i + 2)), x_i (x_sc g (i + 1)), x_r (16 * 1 + 0)] (al, ro, fl (ml (x_ac M A) [1, 2, 3, 4, 5, 18, 19, 20, 21, 22, 23, 24, 25, 26, 27, 32] [X, T, N, Dr, Kp, Th, La, Lb, Lc, Fo, St, Ri, Br, Ro, Ot, S])) _ _ _ _
  have key1 : ∀ z1 : Int, z1 = x_zb (x_sc g (i + 2)) → Ev g yL_law_ cL_law_ 7 (some .boolean) [] 60 2739 [some (x_r 1), some (x_r (16 * 1 + 0)), some (x_r (16 * 32 + 0)), some (x_r (16 * 27 + 0)), some (x_i (i : Int)), none, none] [x_i z1, x_i (x_sc g (i + 1)), x_r (16 * 1 + 0)] (al, ro, fl (ml (x_ac M A) [1, 2, 3, 4, 5, 18, 19, 20, 21, 22, 23, 24, 25, 26, 27, 32] [X, T, N, Dr, Kp, Th, La, Lb, Lc, Fo, St, Ri, Br, Ro, Ot, S])) (1 + K) (6 + S0) (.inl (some (x_i 1))) h' := by
    intro z1 hz
    subst hz
    refine e_aloadn (pc := 2739) (i := 3) dL_law__2739 rfl rfl ?_
    refine e_invSH (pc := 2740) (K1 := 1) (S1 := 6) (K := K) (S := S0) (dd2 := 8) (av := [x_r (16 * 1 + 0), x_i (x_sc g (i + 1)), x_i (x_zb (x_sc g (i + 2))), x_r (16 * 27 + 0)]) (st := []) dL_law__2740 (xmH_span 327 (x_inB (x_t7 (List.mem_of_getElem? (i := 23) rfl)) rfl)) rfl (f_calH (M := (x_ac M A)) (us2 := [3, 18, 19, 27]) [2, 5, 6, 14] hn rfl (And.intro rfl (And.intro rfl (And.intro rfl (And.intro rfl trivial)))) rfl rfl rfl (c_L_span hst hs ho hX hE)) (by decide) (Nat.le_of_ble_eq_true rfl) (Or.inl rfl) ?_
    show Ev g _ _ _ _ _ _ 2743 [some (x_r 1), some (x_r (16 * 1 + 0)), some (x_r (16 * 32 + 0)), some (x_r (16 * 27 + 0)), some (x_i (i : Int)), none, none] [x_i (x_wc [0] t0)] (al, ro, fl (ml (x_ac M A) [1, 2, 3, 4, 5, 18, 19, 20, 21, 22, 23, 24, 25, 26, 27, 32] [X, T, N, Dr, Kp, Thx, Lax, Lb, Lc, Fo, St, Ri, Br, Ro, (x_out Ot t0), S])) _ _ _ _
    refine e_istore (pc := 2743) (i := 5) dL_law__2743 (by decide) rfl ?_
    show Ev g _ _ _ _ _ _ 2745 [some (x_r 1), some (x_r (16 * 1 + 0)), some (x_r (16 * 32 + 0)), some (x_r (16 * 27 + 0)), some (x_i (i : Int)), some (x_i (x_wc [0] t0)), none] [] (al, ro, fl (ml (x_ac M A) [1, 2, 3, 4, 5, 18, 19, 20, 21, 22, 23, 24, 25, 26, 27, 32] [X, T, N, Dr, Kp, Thx, Lax, Lb, Lc, Fo, St, Ri, Br, Ro, (x_out Ot t0), S])) _ _ _ _
    refine e_aloadn (pc := 2745) (i := 2) dL_law__2745 rfl rfl ?_
    refine e_aloadn (pc := 2746) (i := 0) dL_law__2746 rfl rfl ?_
    refine e_iload (pc := 2747) dL_law__2747 rfl ?_
    refine e_iconst (pc := 2749) dL_law__2749 (x_R rfl) ?_
    refine e_iadd (pc := 2750) dL_law__2750 ?_
    rw [show x_add (i : Int) 1 = ((i + 1 : Nat) : Int) from x_ni (k := 1) (by omega)]
    refine e_sld (pc := 2751) dL_law__2751 (by omega) (by omega) ?_
    show Ev g _ _ _ _ _ _ 2752 [some (x_r 1), some (x_r (16 * 1 + 0)), some (x_r (16 * 32 + 0)), some (x_r (16 * 27 + 0)), some (x_i (i : Int)), some (x_i (x_wc [0] t0)), none] [x_i (x_sc g (i + 1)), x_r (16 * 32 + 0)] (al, ro, fl (ml (x_ac M A) [1, 2, 3, 4, 5, 18, 19, 20, 21, 22, 23, 24, 25, 26, 27, 32] [X, T, N, Dr, Kp, Thx, Lax, Lb, Lc, Fo, St, Ri, Br, Ro, (x_out Ot t0), S])) _ _ _ _
    refine e_aloadn (pc := 2752) (i := 0) dL_law__2752 rfl rfl ?_
    refine e_iload (pc := 2753) dL_law__2753 rfl ?_
    refine e_iconst (pc := 2755) dL_law__2755 (x_R rfl) ?_
    refine e_iadd (pc := 2756) dL_law__2756 ?_
    rw [show x_add (i : Int) 2 = ((i + 2 : Nat) : Int) from x_ni (k := 2) (by omega)]
    refine e_sld (pc := 2757) dL_law__2757 (by omega) (by omega) ?_
    show Ev g _ _ _ _ _ _ 2758 [some (x_r 1), some (x_r (16 * 1 + 0)), some (x_r (16 * 32 + 0)), some (x_r (16 * 27 + 0)), some (x_i (i : Int)), some (x_i (x_wc [0] t0)), none] [x_i (x_sc g (i + 2)), x_i (x_sc g (i + 1)), x_r (16 * 32 + 0)] (al, ro, fl (ml (x_ac M A) [1, 2, 3, 4, 5, 18, 19, 20, 21, 22, 23, 24, 25, 26, 27, 32] [X, T, N, Dr, Kp, Thx, Lax, Lb, Lc, Fo, St, Ri, Br, Ro, (x_out Ot t0), S])) _ _ _ _
    have key2 : ∀ z2 : Int, z2 = x_zb (x_sc g (i + 2)) → Ev g yL_law_ cL_law_ 7 (some .boolean) [] 60 2766 [some (x_r 1), some (x_r (16 * 1 + 0)), some (x_r (16 * 32 + 0)), some (x_r (16 * 27 + 0)), some (x_i (i : Int)), some (x_i (x_wc [0] t0)), none] [x_i z2, x_i (x_sc g (i + 1)), x_r (16 * 32 + 0)] (al, ro, fl (ml (x_ac M A) [1, 2, 3, 4, 5, 18, 19, 20, 21, 22, 23, 24, 25, 26, 27, 32] [X, T, N, Dr, Kp, Thx, Lax, Lb, Lc, Fo, St, Ri, Br, Ro, (x_out Ot t0), S])) K S0 (.inl (some (x_i 1))) h' := by
      intro z2 hz
      subst hz
      refine e_wide (K0 := 0 + K) (S0 := 0 + S0) (by omega) (by omega) ?_
      refine e_invV (pc := 2766) (K1 := 0) (S1 := 0) (K := K) (S := S0) (dd2 := 47) (av := [x_i (x_sc g (i + 1)), x_i (x_zb (x_sc g (i + 2)))]) (st := []) (id := 16 * 32 + 0) dL_law__2766 xmL_329 rfl (Or.inl ⟨10, 27, TX12, (sa_32_0 hs), rfl, by decide⟩) (f_cal (M := (x_ac M A)) (us2 := [32]) [15] hn rfl (And.intro rfl trivial) rfl rfl rfl (c_X12_span hst hs hS)) (by decide) (Nat.le_of_ble_eq_true rfl) (Or.inl rfl) ?_
      show Ev g _ _ _ _ _ _ 2769 [some (x_r 1), some (x_r (16 * 1 + 0)), some (x_r (16 * 32 + 0)), some (x_r (16 * 27 + 0)), some (x_i (i : Int)), some (x_i (x_wc [0] t0)), none] [x_i b] (al, ro, fl (ml (x_ac M A) [1, 2, 3, 4, 5, 18, 19, 20, 21, 22, 23, 24, 25, 26, 27, 32] [X, T, N, Dr, Kp, Thx, Lax, Lb, Lc, Fo, St, Ri, Br, Ro, (x_out Ot t0), Sy])) _ _ _ _
      refine e_istore (pc := 2769) (i := 6) dL_law__2769 (by decide) rfl ?_
      show Ev g _ _ _ _ _ _ 2771 [some (x_r 1), some (x_r (16 * 1 + 0)), some (x_r (16 * 32 + 0)), some (x_r (16 * 27 + 0)), some (x_i (i : Int)), some (x_i (x_wc [0] t0)), some (x_i b)] [] (al, ro, fl (ml (x_ac M A) [1, 2, 3, 4, 5, 18, 19, 20, 21, 22, 23, 24, 25, 26, 27, 32] [X, T, N, Dr, Kp, Thx, Lax, Lb, Lc, Fo, St, Ri, Br, Ro, (x_out Ot t0), Sy])) _ _ _ _
      refine e_aloadn (pc := 2771) (i := 2) dL_law__2771 rfl rfl ?_
      refine e_wide (K0 := 0 + K) (S0 := 0 + S0) (by omega) (by omega) ?_
      refine e_invV (pc := 2772) (K1 := 0) (S1 := 0) (K := K) (S := S0) (dd2 := 0) (av := []) (st := []) (id := 16 * 32 + 0) dL_law__2772 xmL_156 rfl (Or.inl ⟨10, 27, TX12, (sa_32_0 hs), rfl, by decide⟩) (f_cal (M := (x_ac M A)) (us2 := [32]) [15] hn rfl (And.intro rfl trivial) rfl rfl rfl (c_X12_thrown hst hs (show G12_thrown Sy = some (Sy 0 0) from rfl))) (by decide) (Nat.le_of_ble_eq_true rfl) (Or.inl rfl) ?_
      show Ev g _ _ _ _ _ _ 2775 [some (x_r 1), some (x_r (16 * 1 + 0)), some (x_r (16 * 32 + 0)), some (x_r (16 * 27 + 0)), some (x_i (i : Int)), some (x_i (x_wc [0] t0)), some (x_i b)] [x_i (Sy 0 0)] (al, ro, fl (ml (x_ac M A) [1, 2, 3, 4, 5, 18, 19, 20, 21, 22, 23, 24, 25, 26, 27, 32] [X, T, N, Dr, Kp, Thx, Lax, Lb, Lc, Fo, St, Ri, Br, Ro, (x_out Ot t0), Sy])) _ _ _ _
      have hk : Sy 0 0 = x_wc [0] t0 := x_ag_k hA
      refine e_iload (pc := 2775) dL_law__2775 rfl ?_
      refine e_icmp_eq (pc := 2777) (tgt := 2782) dL_law__2777 (by decide) (fun _ => ?_) (fun q => absurd hk q)
      refine e_iload (pc := 2782) dL_law__2782 rfl ?_
      cases t0 with
      | inr E =>
        refine e_if_ne (pc := 2784) (tgt := 2799) dL_law__2784 (by decide) (fun _ => ?_) (fun q => absurd q (x_wc_r [0] E))
        refine e_goto (pc := 2799) (tgt := 3041) dL_law__2799 (by decide) ?_
        refine e_drop (i := 5) ?_
        refine e_drop (i := 6) ?_
        exact kk
      | inl v =>
        refine e_if_ne (pc := 2784) (tgt := 2799) dL_law__2784 (by decide) (fun q => absurd rfl q) (fun _ => ?_)
        refine e_aloadn (pc := 2787) (i := 3) dL_law__2787 rfl rfl ?_
        refine e_iconst (pc := 2788) dL_law__2788 (x_R rfl) ?_
        refine f_lald (pc := 2789) (k := 14) (u := 27) (q := 0) (len := 1) dL_law__2789 ho (by decide) hn rfl rfl (by decide) ?_
        refine e_iload (pc := 2790) dL_law__2790 rfl ?_
        refine e_i2l (pc := 2792) dL_law__2792 ?_
        refine e_lcmp (pc := 2793) dL_law__2793 ?_
        refine e_if_eq (pc := 2794) (tgt := 2799) dL_law__2794 (by decide) (fun _ => ?_) (fun q => absurd (x_lc (show v = b from hA.2.symm)) q)
        refine e_goto (pc := 2799) (tgt := 3041) dL_law__2799 (by decide) ?_
        refine e_drop (i := 5) ?_
        refine e_drop (i := 6) ?_
        exact kk
    refine e_if_eq (pc := 2758) (tgt := 2765) dL_law__2758 (by decide) (fun q => ?_) (fun q => ?_)
    · refine e_iconst (pc := 2765) dL_law__2765 (x_R rfl) ?_
      exact key2 0 (by rw [x_zb, if_pos q])
    · refine e_iconst (pc := 2761) dL_law__2761 (x_R rfl) ?_
      refine e_goto (pc := 2762) (tgt := 2766) dL_law__2762 (by decide) ?_
      exact key2 1 (by rw [x_zb, if_neg q])
  refine e_if_eq (pc := 2731) (tgt := 2738) dL_law__2731 (by decide) (fun q => ?_) (fun q => ?_)
  · refine e_iconst (pc := 2738) dL_law__2738 (x_R rfl) ?_
    exact key1 0 (by rw [x_zb, if_pos q])
  · refine e_iconst (pc := 2734) dL_law__2734 (x_R rfl) ?_
    refine e_goto (pc := 2735) (tgt := 2739) dL_law__2735 (by decide) ?_
    exact key1 1 (by rw [x_zb, if_neg q])
set_option maxRecDepth 100000 in
set_option maxHeartbeats 4000000 in
theorem k53 {g : xG} {al : List (Nat × Nat × Nat)} {ro : Nat → Nat → Option Nat} (hst : g.1.stackTraces = false) (hs : SH al ro) (ho : (16 * 27 + 0, 21, 1) ∈ al) {M : Nat → xU} {h' : xH} {i K S0 : Nat} (hi : i + 6 ≤ x_L g) (hL : x_L g < 2147483648) {X T N Dr Kp Th La Lb Lc Fo St Ri Br Ro Ot S : xU} {A : xA} {t0 : (Int ⊕ Nat)} {b : Int} {Sy : xU} (hX : G11_led (x_sc g (i + 1)) (x_zb (x_sc g (i + 2))) N = some t0) (hE : ∀ E, t0 = .inr E → E ∈ ([1] : List Nat)) (hS : G12_led (x_sc g (i + 1)) (x_zb (x_sc g (i + 2))) S = some (b, Sy)) (hA : Ag (x_cd [1]) t0 b Sy)
    (kk : Ev g yL_law_ cL_law_ 7 (some .boolean) [] 60 3041 [some (x_r 1), some (x_r (16 * 1 + 0)), some (x_r (16 * 32 + 0)), some (x_r (16 * 27 + 0)), some (x_i (i : Int)), none, none] [] (al, ro, fl (ml (x_ac M A) [1, 2, 3, 4, 5, 18, 19, 20, 21, 22, 23, 24, 25, 26, 27, 32] [X, T, N, Dr, Kp, Th, La, Lb, Lc, Fo, St, Ri, Br, Ro, (x_out Ot t0), Sy])) K S0 (.inl (some (x_i 1))) h') : Ev g yL_law_ cL_law_ 7 (some .boolean) [] 60 2802 [some (x_r 1), some (x_r (16 * 1 + 0)), some (x_r (16 * 32 + 0)), some (x_r (16 * 27 + 0)), some (x_i (i : Int)), none, none] [] (al, ro, fl (ml (x_ac M A) [1, 2, 3, 4, 5, 18, 19, 20, 21, 22, 23, 24, 25, 26, 27, 32] [X, T, N, Dr, Kp, Th, La, Lb, Lc, Fo, St, Ri, Br, Ro, Ot, S])) (1 + K) (6 + S0) (.inl (some (x_i 1))) h' := by
  have hn : ([1, 2, 3, 4, 5, 18, 19, 20, 21, 22, 23, 24, 25, 26, 27, 32] : List Nat).Nodup := by decide
  refine e_aloadn (pc := 2802) (i := 1) dL_law__2802 rfl rfl ?_
  refine e_aloadn (pc := 2803) (i := 0) dL_law__2803 rfl rfl ?_
  refine e_iload (pc := 2804) dL_law__2804 rfl ?_
  refine e_iconst (pc := 2806) dL_law__2806 (x_R rfl) ?_
  refine e_iadd (pc := 2807) dL_law__2807 ?_
  rw [show x_add (i : Int) 1 = ((i + 1 : Nat) : Int) from x_ni (k := 1) (by omega)]
  refine e_sld (pc := 2808) dL_law__2808 (by omega) (by omega) ?_
  show Ev g _ _ _ _ _ _ 2809 [some (x_r 1), some (x_r (16 * 1 + 0)), some (x_r (16 * 32 + 0)), some (x_r (16 * 27 + 0)), some (x_i (i : Int)), none, none] [x_i (x_sc g (i + 1)), x_r (16 * 1 + 0)] (al, ro, fl (ml (x_ac M A) [1, 2, 3, 4, 5, 18, 19, 20, 21, 22, 23, 24, 25, 26, 27, 32] [X, T, N, Dr, Kp, Th, La, Lb, Lc, Fo, St, Ri, Br, Ro, Ot, S])) _ _ _ _
  refine e_aloadn (pc := 2809) (i := 0) dL_law__2809 rfl rfl ?_
  refine e_iload (pc := 2810) dL_law__2810 rfl ?_
  refine e_iconst (pc := 2812) dL_law__2812 (x_R rfl) ?_
  refine e_iadd (pc := 2813) dL_law__2813 ?_
  rw [show x_add (i : Int) 2 = ((i + 2 : Nat) : Int) from x_ni (k := 2) (by omega)]
  refine e_sld (pc := 2814) dL_law__2814 (by omega) (by omega) ?_
  show Ev g _ _ _ _ _ _ 2815 [some (x_r 1), some (x_r (16 * 1 + 0)), some (x_r (16 * 32 + 0)), some (x_r (16 * 27 + 0)), some (x_i (i : Int)), none, none] [x_i (x_sc g (i + 2)), x_i (x_sc g (i + 1)), x_r (16 * 1 + 0)] (al, ro, fl (ml (x_ac M A) [1, 2, 3, 4, 5, 18, 19, 20, 21, 22, 23, 24, 25, 26, 27, 32] [X, T, N, Dr, Kp, Th, La, Lb, Lc, Fo, St, Ri, Br, Ro, Ot, S])) _ _ _ _
  have key1 : ∀ z1 : Int, z1 = x_zb (x_sc g (i + 2)) → Ev g yL_law_ cL_law_ 7 (some .boolean) [] 60 2823 [some (x_r 1), some (x_r (16 * 1 + 0)), some (x_r (16 * 32 + 0)), some (x_r (16 * 27 + 0)), some (x_i (i : Int)), none, none] [x_i z1, x_i (x_sc g (i + 1)), x_r (16 * 1 + 0)] (al, ro, fl (ml (x_ac M A) [1, 2, 3, 4, 5, 18, 19, 20, 21, 22, 23, 24, 25, 26, 27, 32] [X, T, N, Dr, Kp, Th, La, Lb, Lc, Fo, St, Ri, Br, Ro, Ot, S])) (1 + K) (6 + S0) (.inl (some (x_i 1))) h' := by
    intro z1 hz
    subst hz
    refine e_aloadn (pc := 2823) (i := 3) dL_law__2823 rfl rfl ?_
    refine e_invSH (pc := 2824) (K1 := 1) (S1 := 6) (K := K) (S := S0) (dd2 := 4) (av := [x_r (16 * 1 + 0), x_i (x_sc g (i + 1)), x_i (x_zb (x_sc g (i + 2))), x_r (16 * 27 + 0)]) (st := []) dL_law__2824 (xmH_led 330 (x_inB (x_t7 (List.mem_of_getElem? (i := 37) rfl)) rfl)) rfl (f_calH (M := (x_ac M A)) (us2 := [3, 27]) [2, 14] hn rfl (And.intro rfl (And.intro rfl trivial)) rfl rfl rfl (c_L_led hst hs ho hX hE)) (by decide) (Nat.le_of_ble_eq_true rfl) (Or.inl rfl) ?_
    show Ev g _ _ _ _ _ _ 2827 [some (x_r 1), some (x_r (16 * 1 + 0)), some (x_r (16 * 32 + 0)), some (x_r (16 * 27 + 0)), some (x_i (i : Int)), none, none] [x_i (x_wc [1] t0)] (al, ro, fl (ml (x_ac M A) [1, 2, 3, 4, 5, 18, 19, 20, 21, 22, 23, 24, 25, 26, 27, 32] [X, T, N, Dr, Kp, Th, La, Lb, Lc, Fo, St, Ri, Br, Ro, (x_out Ot t0), S])) _ _ _ _
    refine e_istore (pc := 2827) (i := 5) dL_law__2827 (by decide) rfl ?_
    show Ev g _ _ _ _ _ _ 2829 [some (x_r 1), some (x_r (16 * 1 + 0)), some (x_r (16 * 32 + 0)), some (x_r (16 * 27 + 0)), some (x_i (i : Int)), some (x_i (x_wc [1] t0)), none] [] (al, ro, fl (ml (x_ac M A) [1, 2, 3, 4, 5, 18, 19, 20, 21, 22, 23, 24, 25, 26, 27, 32] [X, T, N, Dr, Kp, Th, La, Lb, Lc, Fo, St, Ri, Br, Ro, (x_out Ot t0), S])) _ _ _ _
    refine e_aloadn (pc := 2829) (i := 2) dL_law__2829 rfl rfl ?_
    refine e_aloadn (pc := 2830) (i := 0) dL_law__2830 rfl rfl ?_
    refine e_iload (pc := 2831) dL_law__2831 rfl ?_
    refine e_iconst (pc := 2833) dL_law__2833 (x_R rfl) ?_
    refine e_iadd (pc := 2834) dL_law__2834 ?_
    rw [show x_add (i : Int) 1 = ((i + 1 : Nat) : Int) from x_ni (k := 1) (by omega)]
    refine e_sld (pc := 2835) dL_law__2835 (by omega) (by omega) ?_
    show Ev g _ _ _ _ _ _ 2836 [some (x_r 1), some (x_r (16 * 1 + 0)), some (x_r (16 * 32 + 0)), some (x_r (16 * 27 + 0)), some (x_i (i : Int)), some (x_i (x_wc [1] t0)), none] [x_i (x_sc g (i + 1)), x_r (16 * 32 + 0)] (al, ro, fl (ml (x_ac M A) [1, 2, 3, 4, 5, 18, 19, 20, 21, 22, 23, 24, 25, 26, 27, 32] [X, T, N, Dr, Kp, Th, La, Lb, Lc, Fo, St, Ri, Br, Ro, (x_out Ot t0), S])) _ _ _ _
    refine e_aloadn (pc := 2836) (i := 0) dL_law__2836 rfl rfl ?_
    refine e_iload (pc := 2837) dL_law__2837 rfl ?_
    refine e_iconst (pc := 2839) dL_law__2839 (x_R rfl) ?_
    refine e_iadd (pc := 2840) dL_law__2840 ?_
    rw [show x_add (i : Int) 2 = ((i + 2 : Nat) : Int) from x_ni (k := 2) (by omega)]
    refine e_sld (pc := 2841) dL_law__2841 (by omega) (by omega) ?_
    show Ev g _ _ _ _ _ _ 2842 [some (x_r 1), some (x_r (16 * 1 + 0)), some (x_r (16 * 32 + 0)), some (x_r (16 * 27 + 0)), some (x_i (i : Int)), some (x_i (x_wc [1] t0)), none] [x_i (x_sc g (i + 2)), x_i (x_sc g (i + 1)), x_r (16 * 32 + 0)] (al, ro, fl (ml (x_ac M A) [1, 2, 3, 4, 5, 18, 19, 20, 21, 22, 23, 24, 25, 26, 27, 32] [X, T, N, Dr, Kp, Th, La, Lb, Lc, Fo, St, Ri, Br, Ro, (x_out Ot t0), S])) _ _ _ _
    have key2 : ∀ z2 : Int, z2 = x_zb (x_sc g (i + 2)) → Ev g yL_law_ cL_law_ 7 (some .boolean) [] 60 2850 [some (x_r 1), some (x_r (16 * 1 + 0)), some (x_r (16 * 32 + 0)), some (x_r (16 * 27 + 0)), some (x_i (i : Int)), some (x_i (x_wc [1] t0)), none] [x_i z2, x_i (x_sc g (i + 1)), x_r (16 * 32 + 0)] (al, ro, fl (ml (x_ac M A) [1, 2, 3, 4, 5, 18, 19, 20, 21, 22, 23, 24, 25, 26, 27, 32] [X, T, N, Dr, Kp, Th, La, Lb, Lc, Fo, St, Ri, Br, Ro, (x_out Ot t0), S])) K S0 (.inl (some (x_i 1))) h' := by
      intro z2 hz
      subst hz
      refine e_wide (K0 := 0 + K) (S0 := 0 + S0) (by omega) (by omega) ?_
      refine e_invV (pc := 2850) (K1 := 0) (S1 := 0) (K := K) (S := S0) (dd2 := 2) (av := [x_i (x_sc g (i + 1)), x_i (x_zb (x_sc g (i + 2)))]) (st := []) (id := 16 * 32 + 0) dL_law__2850 xmL_332 rfl (Or.inl ⟨10, 27, TX12, (sa_32_0 hs), rfl, by decide⟩) (f_cal (M := (x_ac M A)) (us2 := [32]) [15] hn rfl (And.intro rfl trivial) rfl rfl rfl (c_X12_led hst hs hS)) (by decide) (Nat.le_of_ble_eq_true rfl) (Or.inl rfl) ?_
      show Ev g _ _ _ _ _ _ 2853 [some (x_r 1), some (x_r (16 * 1 + 0)), some (x_r (16 * 32 + 0)), some (x_r (16 * 27 + 0)), some (x_i (i : Int)), some (x_i (x_wc [1] t0)), none] [x_i b] (al, ro, fl (ml (x_ac M A) [1, 2, 3, 4, 5, 18, 19, 20, 21, 22, 23, 24, 25, 26, 27, 32] [X, T, N, Dr, Kp, Th, La, Lb, Lc, Fo, St, Ri, Br, Ro, (x_out Ot t0), Sy])) _ _ _ _
      refine e_istore (pc := 2853) (i := 6) dL_law__2853 (by decide) rfl ?_
      show Ev g _ _ _ _ _ _ 2855 [some (x_r 1), some (x_r (16 * 1 + 0)), some (x_r (16 * 32 + 0)), some (x_r (16 * 27 + 0)), some (x_i (i : Int)), some (x_i (x_wc [1] t0)), some (x_i b)] [] (al, ro, fl (ml (x_ac M A) [1, 2, 3, 4, 5, 18, 19, 20, 21, 22, 23, 24, 25, 26, 27, 32] [X, T, N, Dr, Kp, Th, La, Lb, Lc, Fo, St, Ri, Br, Ro, (x_out Ot t0), Sy])) _ _ _ _
      refine e_aloadn (pc := 2855) (i := 2) dL_law__2855 rfl rfl ?_
      refine e_wide (K0 := 0 + K) (S0 := 0 + S0) (by omega) (by omega) ?_
      refine e_invV (pc := 2856) (K1 := 0) (S1 := 0) (K := K) (S := S0) (dd2 := 0) (av := []) (st := []) (id := 16 * 32 + 0) dL_law__2856 xmL_156 rfl (Or.inl ⟨10, 27, TX12, (sa_32_0 hs), rfl, by decide⟩) (f_cal (M := (x_ac M A)) (us2 := [32]) [15] hn rfl (And.intro rfl trivial) rfl rfl rfl (c_X12_thrown hst hs (show G12_thrown Sy = some (Sy 0 0) from rfl))) (by decide) (Nat.le_of_ble_eq_true rfl) (Or.inl rfl) ?_
      show Ev g _ _ _ _ _ _ 2859 [some (x_r 1), some (x_r (16 * 1 + 0)), some (x_r (16 * 32 + 0)), some (x_r (16 * 27 + 0)), some (x_i (i : Int)), some (x_i (x_wc [1] t0)), some (x_i b)] [x_i (Sy 0 0)] (al, ro, fl (ml (x_ac M A) [1, 2, 3, 4, 5, 18, 19, 20, 21, 22, 23, 24, 25, 26, 27, 32] [X, T, N, Dr, Kp, Th, La, Lb, Lc, Fo, St, Ri, Br, Ro, (x_out Ot t0), Sy])) _ _ _ _
      have hk : Sy 0 0 = x_wc [1] t0 := x_ag_k hA
      refine e_iload (pc := 2859) dL_law__2859 rfl ?_
      refine e_icmp_eq (pc := 2861) (tgt := 2866) dL_law__2861 (by decide) (fun _ => ?_) (fun q => absurd hk q)
      refine e_iload (pc := 2866) dL_law__2866 rfl ?_
      cases t0 with
      | inr E =>
        refine e_if_ne (pc := 2868) (tgt := 2883) dL_law__2868 (by decide) (fun _ => ?_) (fun q => absurd q (x_wc_r [1] E))
        refine e_goto (pc := 2883) (tgt := 3041) dL_law__2883 (by decide) ?_
        refine e_drop (i := 5) ?_
        refine e_drop (i := 6) ?_
        exact kk
      | inl v =>
        refine e_if_ne (pc := 2868) (tgt := 2883) dL_law__2868 (by decide) (fun q => absurd rfl q) (fun _ => ?_)
        refine e_aloadn (pc := 2871) (i := 3) dL_law__2871 rfl rfl ?_
        refine e_iconst (pc := 2872) dL_law__2872 (x_R rfl) ?_
        refine f_lald (pc := 2873) (k := 14) (u := 27) (q := 0) (len := 1) dL_law__2873 ho (by decide) hn rfl rfl (by decide) ?_
        refine e_iload (pc := 2874) dL_law__2874 rfl ?_
        refine e_i2l (pc := 2876) dL_law__2876 ?_
        refine e_lcmp (pc := 2877) dL_law__2877 ?_
        refine e_if_eq (pc := 2878) (tgt := 2883) dL_law__2878 (by decide) (fun _ => ?_) (fun q => absurd (x_lc (show v = b from hA.2.symm)) q)
        refine e_goto (pc := 2883) (tgt := 3041) dL_law__2883 (by decide) ?_
        refine e_drop (i := 5) ?_
        refine e_drop (i := 6) ?_
        exact kk
    refine e_if_eq (pc := 2842) (tgt := 2849) dL_law__2842 (by decide) (fun q => ?_) (fun q => ?_)
    · refine e_iconst (pc := 2849) dL_law__2849 (x_R rfl) ?_
      exact key2 0 (by rw [x_zb, if_pos q])
    · refine e_iconst (pc := 2845) dL_law__2845 (x_R rfl) ?_
      refine e_goto (pc := 2846) (tgt := 2850) dL_law__2846 (by decide) ?_
      exact key2 1 (by rw [x_zb, if_neg q])
  refine e_if_eq (pc := 2815) (tgt := 2822) dL_law__2815 (by decide) (fun q => ?_) (fun q => ?_)
  · refine e_iconst (pc := 2822) dL_law__2822 (x_R rfl) ?_
    exact key1 0 (by rw [x_zb, if_pos q])
  · refine e_iconst (pc := 2818) dL_law__2818 (x_R rfl) ?_
    refine e_goto (pc := 2819) (tgt := 2823) dL_law__2819 (by decide) ?_
    exact key1 1 (by rw [x_zb, if_neg q])
set_option maxRecDepth 100000 in
set_option maxHeartbeats 4000000 in
theorem k54 {g : xG} {al : List (Nat × Nat × Nat)} {ro : Nat → Nat → Option Nat} (hst : g.1.stackTraces = false) (hs : SH al ro) (ho : (16 * 27 + 0, 21, 1) ∈ al) {M : Nat → xU} {h' : xH} {i K S0 : Nat} (hi : i + 6 ≤ x_L g) (hL : x_L g < 2147483648) {X T N Dr Kp Th La Lb Lc Fo St Ri Br Ro Ot S : xU} {A : xA} {t0 : (Int ⊕ Nat)} {b : Int} {Sy : xU} (hX : G11_log (x_sc g (i + 1)) (x_sc g (i + 2)) N = some t0) (hE : ∀ E, t0 = .inr E → E ∈ ([3] : List Nat)) (hS : G12_log (x_sc g (i + 1)) (x_sc g (i + 2)) S = some (b, Sy)) (hA : Ag (x_cd [3]) t0 b Sy)
    (kk : Ev g yL_law_ cL_law_ 7 (some .boolean) [] 60 3041 [some (x_r 1), some (x_r (16 * 1 + 0)), some (x_r (16 * 32 + 0)), some (x_r (16 * 27 + 0)), some (x_i (i : Int)), none, none] [] (al, ro, fl (ml (x_ac M A) [1, 2, 3, 4, 5, 18, 19, 20, 21, 22, 23, 24, 25, 26, 27, 32] [X, T, N, Dr, Kp, Th, La, Lb, Lc, Fo, St, Ri, Br, Ro, (x_out Ot t0), Sy])) K S0 (.inl (some (x_i 1))) h') : Ev g yL_law_ cL_law_ 7 (some .boolean) [] 60 2886 [some (x_r 1), some (x_r (16 * 1 + 0)), some (x_r (16 * 32 + 0)), some (x_r (16 * 27 + 0)), some (x_i (i : Int)), none, none] [] (al, ro, fl (ml (x_ac M A) [1, 2, 3, 4, 5, 18, 19, 20, 21, 22, 23, 24, 25, 26, 27, 32] [X, T, N, Dr, Kp, Th, La, Lb, Lc, Fo, St, Ri, Br, Ro, Ot, S])) (1 + K) (6 + S0) (.inl (some (x_i 1))) h' := by
  have hn : ([1, 2, 3, 4, 5, 18, 19, 20, 21, 22, 23, 24, 25, 26, 27, 32] : List Nat).Nodup := by decide
  refine e_aloadn (pc := 2886) (i := 1) dL_law__2886 rfl rfl ?_
  refine e_aloadn (pc := 2887) (i := 0) dL_law__2887 rfl rfl ?_
  refine e_iload (pc := 2888) dL_law__2888 rfl ?_
  refine e_iconst (pc := 2890) dL_law__2890 (x_R rfl) ?_
  refine e_iadd (pc := 2891) dL_law__2891 ?_
  rw [show x_add (i : Int) 1 = ((i + 1 : Nat) : Int) from x_ni (k := 1) (by omega)]
  refine e_sld (pc := 2892) dL_law__2892 (by omega) (by omega) ?_
  show Ev g _ _ _ _ _ _ 2893 [some (x_r 1), some (x_r (16 * 1 + 0)), some (x_r (16 * 32 + 0)), some (x_r (16 * 27 + 0)), some (x_i (i : Int)), none, none] [x_i (x_sc g (i + 1)), x_r (16 * 1 + 0)] (al, ro, fl (ml (x_ac M A) [1, 2, 3, 4, 5, 18, 19, 20, 21, 22, 23, 24, 25, 26, 27, 32] [X, T, N, Dr, Kp, Th, La, Lb, Lc, Fo, St, Ri, Br, Ro, Ot, S])) _ _ _ _
  refine e_aloadn (pc := 2893) (i := 0) dL_law__2893 rfl rfl ?_
  refine e_iload (pc := 2894) dL_law__2894 rfl ?_
  refine e_iconst (pc := 2896) dL_law__2896 (x_R rfl) ?_
  refine e_iadd (pc := 2897) dL_law__2897 ?_
  rw [show x_add (i : Int) 2 = ((i + 2 : Nat) : Int) from x_ni (k := 2) (by omega)]
  refine e_sld (pc := 2898) dL_law__2898 (by omega) (by omega) ?_
  show Ev g _ _ _ _ _ _ 2899 [some (x_r 1), some (x_r (16 * 1 + 0)), some (x_r (16 * 32 + 0)), some (x_r (16 * 27 + 0)), some (x_i (i : Int)), none, none] [x_i (x_sc g (i + 2)), x_i (x_sc g (i + 1)), x_r (16 * 1 + 0)] (al, ro, fl (ml (x_ac M A) [1, 2, 3, 4, 5, 18, 19, 20, 21, 22, 23, 24, 25, 26, 27, 32] [X, T, N, Dr, Kp, Th, La, Lb, Lc, Fo, St, Ri, Br, Ro, Ot, S])) _ _ _ _
  refine e_aloadn (pc := 2899) (i := 3) dL_law__2899 rfl rfl ?_
  refine e_invSH (pc := 2900) (K1 := 1) (S1 := 6) (K := K) (S := S0) (dd2 := 3) (av := [x_r (16 * 1 + 0), x_i (x_sc g (i + 1)), x_i (x_sc g (i + 2)), x_r (16 * 27 + 0)]) (st := []) dL_law__2900 (xmH_log 333 (x_inB (x_t7 (List.mem_of_getElem? (i := 57) rfl)) rfl)) rfl (f_calH (M := (x_ac M A)) (us2 := [3, 27]) [2, 14] hn rfl (And.intro rfl (And.intro rfl trivial)) rfl rfl rfl (c_L_log hst hs ho hX hE)) (by decide) (Nat.le_of_ble_eq_true rfl) (Or.inl rfl) ?_
  show Ev g _ _ _ _ _ _ 2903 [some (x_r 1), some (x_r (16 * 1 + 0)), some (x_r (16 * 32 + 0)), some (x_r (16 * 27 + 0)), some (x_i (i : Int)), none, none] [x_i (x_wc [3] t0)] (al, ro, fl (ml (x_ac M A) [1, 2, 3, 4, 5, 18, 19, 20, 21, 22, 23, 24, 25, 26, 27, 32] [X, T, N, Dr, Kp, Th, La, Lb, Lc, Fo, St, Ri, Br, Ro, (x_out Ot t0), S])) _ _ _ _
  refine e_istore (pc := 2903) (i := 5) dL_law__2903 (by decide) rfl ?_
  show Ev g _ _ _ _ _ _ 2905 [some (x_r 1), some (x_r (16 * 1 + 0)), some (x_r (16 * 32 + 0)), some (x_r (16 * 27 + 0)), some (x_i (i : Int)), some (x_i (x_wc [3] t0)), none] [] (al, ro, fl (ml (x_ac M A) [1, 2, 3, 4, 5, 18, 19, 20, 21, 22, 23, 24, 25, 26, 27, 32] [X, T, N, Dr, Kp, Th, La, Lb, Lc, Fo, St, Ri, Br, Ro, (x_out Ot t0), S])) _ _ _ _
  refine e_aloadn (pc := 2905) (i := 2) dL_law__2905 rfl rfl ?_
  refine e_aloadn (pc := 2906) (i := 0) dL_law__2906 rfl rfl ?_
  refine e_iload (pc := 2907) dL_law__2907 rfl ?_
  refine e_iconst (pc := 2909) dL_law__2909 (x_R rfl) ?_
  refine e_iadd (pc := 2910) dL_law__2910 ?_
  rw [show x_add (i : Int) 1 = ((i + 1 : Nat) : Int) from x_ni (k := 1) (by omega)]
  refine e_sld (pc := 2911) dL_law__2911 (by omega) (by omega) ?_
  show Ev g _ _ _ _ _ _ 2912 [some (x_r 1), some (x_r (16 * 1 + 0)), some (x_r (16 * 32 + 0)), some (x_r (16 * 27 + 0)), some (x_i (i : Int)), some (x_i (x_wc [3] t0)), none] [x_i (x_sc g (i + 1)), x_r (16 * 32 + 0)] (al, ro, fl (ml (x_ac M A) [1, 2, 3, 4, 5, 18, 19, 20, 21, 22, 23, 24, 25, 26, 27, 32] [X, T, N, Dr, Kp, Th, La, Lb, Lc, Fo, St, Ri, Br, Ro, (x_out Ot t0), S])) _ _ _ _
  refine e_aloadn (pc := 2912) (i := 0) dL_law__2912 rfl rfl ?_
  refine e_iload (pc := 2913) dL_law__2913 rfl ?_
  refine e_iconst (pc := 2915) dL_law__2915 (x_R rfl) ?_
  refine e_iadd (pc := 2916) dL_law__2916 ?_
  rw [show x_add (i : Int) 2 = ((i + 2 : Nat) : Int) from x_ni (k := 2) (by omega)]
  refine e_sld (pc := 2917) dL_law__2917 (by omega) (by omega) ?_
  show Ev g _ _ _ _ _ _ 2918 [some (x_r 1), some (x_r (16 * 1 + 0)), some (x_r (16 * 32 + 0)), some (x_r (16 * 27 + 0)), some (x_i (i : Int)), some (x_i (x_wc [3] t0)), none] [x_i (x_sc g (i + 2)), x_i (x_sc g (i + 1)), x_r (16 * 32 + 0)] (al, ro, fl (ml (x_ac M A) [1, 2, 3, 4, 5, 18, 19, 20, 21, 22, 23, 24, 25, 26, 27, 32] [X, T, N, Dr, Kp, Th, La, Lb, Lc, Fo, St, Ri, Br, Ro, (x_out Ot t0), S])) _ _ _ _
  refine e_wide (K0 := 0 + K) (S0 := 0 + S0) (by omega) (by omega) ?_
  refine e_invV (pc := 2918) (K1 := 0) (S1 := 0) (K := K) (S := S0) (dd2 := 1) (av := [x_i (x_sc g (i + 1)), x_i (x_sc g (i + 2))]) (st := []) (id := 16 * 32 + 0) dL_law__2918 xmL_335 rfl (Or.inl ⟨10, 27, TX12, (sa_32_0 hs), rfl, by decide⟩) (f_cal (M := (x_ac M A)) (us2 := [32]) [15] hn rfl (And.intro rfl trivial) rfl rfl rfl (c_X12_log hst hs hS)) (by decide) (Nat.le_of_ble_eq_true rfl) (Or.inl rfl) ?_
  show Ev g _ _ _ _ _ _ 2921 [some (x_r 1), some (x_r (16 * 1 + 0)), some (x_r (16 * 32 + 0)), some (x_r (16 * 27 + 0)), some (x_i (i : Int)), some (x_i (x_wc [3] t0)), none] [x_i b] (al, ro, fl (ml (x_ac M A) [1, 2, 3, 4, 5, 18, 19, 20, 21, 22, 23, 24, 25, 26, 27, 32] [X, T, N, Dr, Kp, Th, La, Lb, Lc, Fo, St, Ri, Br, Ro, (x_out Ot t0), Sy])) _ _ _ _
  refine e_istore (pc := 2921) (i := 6) dL_law__2921 (by decide) rfl ?_
  show Ev g _ _ _ _ _ _ 2923 [some (x_r 1), some (x_r (16 * 1 + 0)), some (x_r (16 * 32 + 0)), some (x_r (16 * 27 + 0)), some (x_i (i : Int)), some (x_i (x_wc [3] t0)), some (x_i b)] [] (al, ro, fl (ml (x_ac M A) [1, 2, 3, 4, 5, 18, 19, 20, 21, 22, 23, 24, 25, 26, 27, 32] [X, T, N, Dr, Kp, Th, La, Lb, Lc, Fo, St, Ri, Br, Ro, (x_out Ot t0), Sy])) _ _ _ _
  refine e_aloadn (pc := 2923) (i := 2) dL_law__2923 rfl rfl ?_
  refine e_wide (K0 := 0 + K) (S0 := 0 + S0) (by omega) (by omega) ?_
  refine e_invV (pc := 2924) (K1 := 0) (S1 := 0) (K := K) (S := S0) (dd2 := 0) (av := []) (st := []) (id := 16 * 32 + 0) dL_law__2924 xmL_156 rfl (Or.inl ⟨10, 27, TX12, (sa_32_0 hs), rfl, by decide⟩) (f_cal (M := (x_ac M A)) (us2 := [32]) [15] hn rfl (And.intro rfl trivial) rfl rfl rfl (c_X12_thrown hst hs (show G12_thrown Sy = some (Sy 0 0) from rfl))) (by decide) (Nat.le_of_ble_eq_true rfl) (Or.inl rfl) ?_
  show Ev g _ _ _ _ _ _ 2927 [some (x_r 1), some (x_r (16 * 1 + 0)), some (x_r (16 * 32 + 0)), some (x_r (16 * 27 + 0)), some (x_i (i : Int)), some (x_i (x_wc [3] t0)), some (x_i b)] [x_i (Sy 0 0)] (al, ro, fl (ml (x_ac M A) [1, 2, 3, 4, 5, 18, 19, 20, 21, 22, 23, 24, 25, 26, 27, 32] [X, T, N, Dr, Kp, Th, La, Lb, Lc, Fo, St, Ri, Br, Ro, (x_out Ot t0), Sy])) _ _ _ _
  have hk : Sy 0 0 = x_wc [3] t0 := x_ag_k hA
  refine e_iload (pc := 2927) dL_law__2927 rfl ?_
  refine e_icmp_eq (pc := 2929) (tgt := 2934) dL_law__2929 (by decide) (fun _ => ?_) (fun q => absurd hk q)
  refine e_iload (pc := 2934) dL_law__2934 rfl ?_
  cases t0 with
  | inr E =>
    refine e_if_ne (pc := 2936) (tgt := 2951) dL_law__2936 (by decide) (fun _ => ?_) (fun q => absurd q (x_wc_r [3] E))
    refine e_goto (pc := 2951) (tgt := 3041) dL_law__2951 (by decide) ?_
    refine e_drop (i := 5) ?_
    refine e_drop (i := 6) ?_
    exact kk
  | inl v =>
    refine e_if_ne (pc := 2936) (tgt := 2951) dL_law__2936 (by decide) (fun q => absurd rfl q) (fun _ => ?_)
    refine e_aloadn (pc := 2939) (i := 3) dL_law__2939 rfl rfl ?_
    refine e_iconst (pc := 2940) dL_law__2940 (x_R rfl) ?_
    refine f_lald (pc := 2941) (k := 14) (u := 27) (q := 0) (len := 1) dL_law__2941 ho (by decide) hn rfl rfl (by decide) ?_
    refine e_iload (pc := 2942) dL_law__2942 rfl ?_
    refine e_i2l (pc := 2944) dL_law__2944 ?_
    refine e_lcmp (pc := 2945) dL_law__2945 ?_
    refine e_if_eq (pc := 2946) (tgt := 2951) dL_law__2946 (by decide) (fun _ => ?_) (fun q => absurd (x_lc (show v = b from hA.2.symm)) q)
    refine e_goto (pc := 2951) (tgt := 3041) dL_law__2951 (by decide) ?_
    refine e_drop (i := 5) ?_
    refine e_drop (i := 6) ?_
    exact kk
set_option maxRecDepth 100000 in
set_option maxHeartbeats 4000000 in
theorem k55 {g : xG} {al : List (Nat × Nat × Nat)} {ro : Nat → Nat → Option Nat} (hst : g.1.stackTraces = false) (hs : SH al ro) (ho : (16 * 27 + 0, 21, 1) ∈ al) {M : Nat → xU} {h' : xH} {i K S0 : Nat} (hi : i + 6 ≤ x_L g) (hL : x_L g < 2147483648) {X T N Dr Kp Th La Lb Lc Fo St Ri Br Ro Ot S : xU} {A : xA} {a : Int} {Nx : xU} {b : Int} {Sy : xU} (hX : G11_seed (x_sc g (i + 1)) N = some (a, Nx)) (hS : G12_seed (x_sc g (i + 1)) S = some (b, Sy)) (hA : a = b)
    (kk : Ev g yL_law_ cL_law_ 7 (some .boolean) [] 60 3041 [some (x_r 1), some (x_r (16 * 1 + 0)), some (x_r (16 * 32 + 0)), some (x_r (16 * 27 + 0)), some (x_i (i : Int)), none, none] [] (al, ro, fl (ml (x_ac M A) [1, 2, 3, 4, 5, 18, 19, 20, 21, 22, 23, 24, 25, 26, 27, 32] [X, T, Nx, Dr, Kp, Th, La, Lb, Lc, Fo, St, Ri, Br, Ro, Ot, Sy])) K S0 (.inl (some (x_i 1))) h') : Ev g yL_law_ cL_law_ 7 (some .boolean) [] 60 2954 [some (x_r 1), some (x_r (16 * 1 + 0)), some (x_r (16 * 32 + 0)), some (x_r (16 * 27 + 0)), some (x_i (i : Int)), none, none] [] (al, ro, fl (ml (x_ac M A) [1, 2, 3, 4, 5, 18, 19, 20, 21, 22, 23, 24, 25, 26, 27, 32] [X, T, N, Dr, Kp, Th, La, Lb, Lc, Fo, St, Ri, Br, Ro, Ot, S])) K S0 (.inl (some (x_i 1))) h' := by
  have hn : ([1, 2, 3, 4, 5, 18, 19, 20, 21, 22, 23, 24, 25, 26, 27, 32] : List Nat).Nodup := by decide
  refine e_aloadn (pc := 2954) (i := 1) dL_law__2954 rfl rfl ?_
  refine e_aloadn (pc := 2955) (i := 0) dL_law__2955 rfl rfl ?_
  refine e_iload (pc := 2956) dL_law__2956 rfl ?_
  refine e_iconst (pc := 2958) dL_law__2958 (x_R rfl) ?_
  refine e_iadd (pc := 2959) dL_law__2959 ?_
  rw [show x_add (i : Int) 1 = ((i + 1 : Nat) : Int) from x_ni (k := 1) (by omega)]
  refine e_sld (pc := 2960) dL_law__2960 (by omega) (by omega) ?_
  show Ev g _ _ _ _ _ _ 2961 [some (x_r 1), some (x_r (16 * 1 + 0)), some (x_r (16 * 32 + 0)), some (x_r (16 * 27 + 0)), some (x_i (i : Int)), none, none] [x_i (x_sc g (i + 1)), x_r (16 * 1 + 0)] (al, ro, fl (ml (x_ac M A) [1, 2, 3, 4, 5, 18, 19, 20, 21, 22, 23, 24, 25, 26, 27, 32] [X, T, N, Dr, Kp, Th, La, Lb, Lc, Fo, St, Ri, Br, Ro, Ot, S])) _ _ _ _
  refine e_wide (K0 := 0 + K) (S0 := 0 + S0) (by omega) (by omega) ?_
  refine e_invV (pc := 2961) (K1 := 0) (S1 := 0) (K := K) (S := S0) (dd2 := 0) (av := [x_i (x_sc g (i + 1))]) (st := []) (id := 16 * 1 + 0) dL_law__2961 xmL_336 rfl (Or.inl ⟨9, 17, TX11, (sa_1_0 hs), rfl, by decide⟩) (f_cal (M := (x_ac M A)) (us2 := [3]) [2] hn rfl (And.intro rfl trivial) rfl rfl rfl (c_X11_seed hst hs hX)) (by decide) (Nat.le_of_ble_eq_true rfl) (Or.inl rfl) ?_
  show Ev g _ _ _ _ _ _ 2964 [some (x_r 1), some (x_r (16 * 1 + 0)), some (x_r (16 * 32 + 0)), some (x_r (16 * 27 + 0)), some (x_i (i : Int)), none, none] [x_i a] (al, ro, fl (ml (x_ac M A) [1, 2, 3, 4, 5, 18, 19, 20, 21, 22, 23, 24, 25, 26, 27, 32] [X, T, Nx, Dr, Kp, Th, La, Lb, Lc, Fo, St, Ri, Br, Ro, Ot, S])) _ _ _ _
  refine e_aloadn (pc := 2964) (i := 2) dL_law__2964 rfl rfl ?_
  refine e_aloadn (pc := 2965) (i := 0) dL_law__2965 rfl rfl ?_
  refine e_iload (pc := 2966) dL_law__2966 rfl ?_
  refine e_iconst (pc := 2968) dL_law__2968 (x_R rfl) ?_
  refine e_iadd (pc := 2969) dL_law__2969 ?_
  rw [show x_add (i : Int) 1 = ((i + 1 : Nat) : Int) from x_ni (k := 1) (by omega)]
  refine e_sld (pc := 2970) dL_law__2970 (by omega) (by omega) ?_
  show Ev g _ _ _ _ _ _ 2971 [some (x_r 1), some (x_r (16 * 1 + 0)), some (x_r (16 * 32 + 0)), some (x_r (16 * 27 + 0)), some (x_i (i : Int)), none, none] [x_i (x_sc g (i + 1)), x_r (16 * 32 + 0), x_i a] (al, ro, fl (ml (x_ac M A) [1, 2, 3, 4, 5, 18, 19, 20, 21, 22, 23, 24, 25, 26, 27, 32] [X, T, Nx, Dr, Kp, Th, La, Lb, Lc, Fo, St, Ri, Br, Ro, Ot, S])) _ _ _ _
  refine e_wide (K0 := 0 + K) (S0 := 0 + S0) (by omega) (by omega) ?_
  refine e_invV (pc := 2971) (K1 := 0) (S1 := 0) (K := K) (S := S0) (dd2 := 0) (av := [x_i (x_sc g (i + 1))]) (st := [x_i a]) (id := 16 * 32 + 0) dL_law__2971 xmL_339 rfl (Or.inl ⟨10, 27, TX12, (sa_32_0 hs), rfl, by decide⟩) (f_cal (M := (x_ac M A)) (us2 := [32]) [15] hn rfl (And.intro rfl trivial) rfl rfl rfl (c_X12_seed hst hs hS)) (by decide) (Nat.le_of_ble_eq_true rfl) (Or.inl rfl) ?_
  show Ev g _ _ _ _ _ _ 2974 [some (x_r 1), some (x_r (16 * 1 + 0)), some (x_r (16 * 32 + 0)), some (x_r (16 * 27 + 0)), some (x_i (i : Int)), none, none] [x_i b, x_i a] (al, ro, fl (ml (x_ac M A) [1, 2, 3, 4, 5, 18, 19, 20, 21, 22, 23, 24, 25, 26, 27, 32] [X, T, Nx, Dr, Kp, Th, La, Lb, Lc, Fo, St, Ri, Br, Ro, Ot, Sy])) _ _ _ _
  refine e_icmp_eq (pc := 2974) (tgt := 3041) dL_law__2974 (by decide) (fun _ => ?_) (fun q => absurd hA q)
  exact kk
set_option maxRecDepth 100000 in
set_option maxHeartbeats 4000000 in
theorem k56 {g : xG} {al : List (Nat × Nat × Nat)} {ro : Nat → Nat → Option Nat} (hst : g.1.stackTraces = false) (hs : SH al ro) (ho : (16 * 27 + 0, 21, 1) ∈ al) {M : Nat → xU} {h' : xH} {i K S0 : Nat} (hi : i + 6 ≤ x_L g) (hL : x_L g < 2147483648) {X T N Dr Kp Th La Lb Lc Fo St Ri Br Ro Ot S : xU} {A : xA} {a : Int} {Xx : xU} {Nx : xU} {b : Int} {Sy : xU} (hX : G11_undo X N A = some (a, Xx, Nx)) (hS : G12_undo S = some (b, Sy)) (hA : a = b)
    (kk : Ev g yL_law_ cL_law_ 7 (some .boolean) [] 60 3041 [some (x_r 1), some (x_r (16 * 1 + 0)), some (x_r (16 * 32 + 0)), some (x_r (16 * 27 + 0)), some (x_i (i : Int)), none, none] [] (al, ro, fl (ml (x_ac M A) [1, 2, 3, 4, 5, 18, 19, 20, 21, 22, 23, 24, 25, 26, 27, 32] [Xx, T, Nx, Dr, Kp, Th, La, Lb, Lc, Fo, St, Ri, Br, Ro, Ot, Sy])) K S0 (.inl (some (x_i 1))) h') : Ev g yL_law_ cL_law_ 7 (some .boolean) [] 60 2979 [some (x_r 1), some (x_r (16 * 1 + 0)), some (x_r (16 * 32 + 0)), some (x_r (16 * 27 + 0)), some (x_i (i : Int)), none, none] [] (al, ro, fl (ml (x_ac M A) [1, 2, 3, 4, 5, 18, 19, 20, 21, 22, 23, 24, 25, 26, 27, 32] [X, T, N, Dr, Kp, Th, La, Lb, Lc, Fo, St, Ri, Br, Ro, Ot, S])) K S0 (.inl (some (x_i 1))) h' := by
  have hn : ([1, 2, 3, 4, 5, 18, 19, 20, 21, 22, 23, 24, 25, 26, 27, 32] : List Nat).Nodup := by decide
  refine e_aloadn (pc := 2979) (i := 1) dL_law__2979 rfl rfl ?_
  refine e_wide (K0 := 0 + K) (S0 := 0 + S0) (by omega) (by omega) ?_
  refine e_invV (pc := 2980) (K1 := 0) (S1 := 0) (K := K) (S := S0) (dd2 := 3) (av := []) (st := []) (id := 16 * 1 + 0) dL_law__2980 xmL_340 rfl (Or.inl ⟨9, 17, TX11, (sa_1_0 hs), rfl, by decide⟩) (f_calA (us2 := [1, 3]) [0, 2] hn rfl (And.intro rfl (And.intro rfl trivial)) rfl rfl rfl rfl (c_X11_undo hst hs hX)) (by decide) (Nat.le_of_ble_eq_true rfl) (Or.inl rfl) ?_
  show Ev g _ _ _ _ _ _ 2983 [some (x_r 1), some (x_r (16 * 1 + 0)), some (x_r (16 * 32 + 0)), some (x_r (16 * 27 + 0)), some (x_i (i : Int)), none, none] [x_i a] (al, ro, fl (ml (x_ac M A) [1, 2, 3, 4, 5, 18, 19, 20, 21, 22, 23, 24, 25, 26, 27, 32] [Xx, T, Nx, Dr, Kp, Th, La, Lb, Lc, Fo, St, Ri, Br, Ro, Ot, S])) _ _ _ _
  refine e_aloadn (pc := 2983) (i := 2) dL_law__2983 rfl rfl ?_
  refine e_wide (K0 := 0 + K) (S0 := 0 + S0) (by omega) (by omega) ?_
  refine e_invV (pc := 2984) (K1 := 0) (S1 := 0) (K := K) (S := S0) (dd2 := 0) (av := []) (st := [x_i a]) (id := 16 * 32 + 0) dL_law__2984 xmL_344 rfl (Or.inl ⟨10, 27, TX12, (sa_32_0 hs), rfl, by decide⟩) (f_cal (M := (x_ac M A)) (us2 := [32]) [15] hn rfl (And.intro rfl trivial) rfl rfl rfl (c_X12_undo hst hs hS)) (by decide) (Nat.le_of_ble_eq_true rfl) (Or.inl rfl) ?_
  show Ev g _ _ _ _ _ _ 2987 [some (x_r 1), some (x_r (16 * 1 + 0)), some (x_r (16 * 32 + 0)), some (x_r (16 * 27 + 0)), some (x_i (i : Int)), none, none] [x_i b, x_i a] (al, ro, fl (ml (x_ac M A) [1, 2, 3, 4, 5, 18, 19, 20, 21, 22, 23, 24, 25, 26, 27, 32] [Xx, T, Nx, Dr, Kp, Th, La, Lb, Lc, Fo, St, Ri, Br, Ro, Ot, Sy])) _ _ _ _
  refine e_icmp_eq (pc := 2987) (tgt := 3041) dL_law__2987 (by decide) (fun _ => ?_) (fun q => absurd hA q)
  exact kk
set_option maxRecDepth 100000 in
set_option maxHeartbeats 4000000 in
theorem k57 {g : xG} {al : List (Nat × Nat × Nat)} {ro : Nat → Nat → Option Nat} (hst : g.1.stackTraces = false) (hs : SH al ro) (ho : (16 * 27 + 0, 21, 1) ∈ al) {M : Nat → xU} {h' : xH} {i K S0 : Nat} (hi : i + 6 ≤ x_L g) (hL : x_L g < 2147483648) {X T N Dr Kp Th La Lb Lc Fo St Ri Br Ro Ot S : xU} {A : xA} {Xx : xU} {Kpx : xU} {Lcx : xU} {Sy : xU} (hX : G11_image X N Kp La Lc = some (Xx, Kpx, Lcx)) (hS : G12_image S = some Sy)
    (kk : Ev g yL_law_ cL_law_ 7 (some .boolean) [] 60 3041 [some (x_r 1), some (x_r (16 * 1 + 0)), some (x_r (16 * 32 + 0)), some (x_r (16 * 27 + 0)), some (x_i (i : Int)), none, none] [] (al, ro, fl (ml (x_ac M A) [1, 2, 3, 4, 5, 18, 19, 20, 21, 22, 23, 24, 25, 26, 27, 32] [Xx, T, N, Dr, Kpx, Th, La, Lb, Lcx, Fo, St, Ri, Br, Ro, Ot, Sy])) K S0 (.inl (some (x_i 1))) h') : Ev g yL_law_ cL_law_ 7 (some .boolean) [] 60 2992 [some (x_r 1), some (x_r (16 * 1 + 0)), some (x_r (16 * 32 + 0)), some (x_r (16 * 27 + 0)), some (x_i (i : Int)), none, none] [] (al, ro, fl (ml (x_ac M A) [1, 2, 3, 4, 5, 18, 19, 20, 21, 22, 23, 24, 25, 26, 27, 32] [X, T, N, Dr, Kp, Th, La, Lb, Lc, Fo, St, Ri, Br, Ro, Ot, S])) K S0 (.inl (some (x_i 1))) h' := by
  have hn : ([1, 2, 3, 4, 5, 18, 19, 20, 21, 22, 23, 24, 25, 26, 27, 32] : List Nat).Nodup := by decide
  refine e_aloadn (pc := 2992) (i := 1) dL_law__2992 rfl rfl ?_
  refine e_wide (K0 := 0 + K) (S0 := 0 + S0) (by omega) (by omega) ?_
  refine e_invV (pc := 2993) (K1 := 0) (S1 := 0) (K := K) (S := S0) (dd2 := 3) (av := []) (st := []) (id := 16 * 1 + 0) dL_law__2993 xmL_345 rfl (Or.inl ⟨9, 17, TX11, (sa_1_0 hs), rfl, by decide⟩) (f_cal (M := (x_ac M A)) (us2 := [1, 3, 5, 19, 21]) [0, 2, 4, 6, 8] hn rfl (And.intro rfl (And.intro rfl (And.intro rfl (And.intro rfl (And.intro rfl trivial))))) rfl rfl rfl (c_X11_image hst hs hX)) (by decide) (Nat.le_of_ble_eq_true rfl) (Or.inl rfl) ?_
  show Ev g _ _ _ _ _ _ 2996 [some (x_r 1), some (x_r (16 * 1 + 0)), some (x_r (16 * 32 + 0)), some (x_r (16 * 27 + 0)), some (x_i (i : Int)), none, none] [] (al, ro, fl (ml (x_ac M A) [1, 2, 3, 4, 5, 18, 19, 20, 21, 22, 23, 24, 25, 26, 27, 32] [Xx, T, N, Dr, Kpx, Th, La, Lb, Lcx, Fo, St, Ri, Br, Ro, Ot, S])) _ _ _ _
  refine e_aloadn (pc := 2996) (i := 2) dL_law__2996 rfl rfl ?_
  refine e_wide (K0 := 0 + K) (S0 := 0 + S0) (by omega) (by omega) ?_
  refine e_invV (pc := 2997) (K1 := 0) (S1 := 0) (K := K) (S := S0) (dd2 := 0) (av := []) (st := []) (id := 16 * 32 + 0) dL_law__2997 xmL_348 rfl (Or.inl ⟨10, 27, TX12, (sa_32_0 hs), rfl, by decide⟩) (f_cal (M := (x_ac M A)) (us2 := [32]) [15] hn rfl (And.intro rfl trivial) rfl rfl rfl (c_X12_image hst hs hS)) (by decide) (Nat.le_of_ble_eq_true rfl) (Or.inl rfl) ?_
  show Ev g _ _ _ _ _ _ 3000 [some (x_r 1), some (x_r (16 * 1 + 0)), some (x_r (16 * 32 + 0)), some (x_r (16 * 27 + 0)), some (x_i (i : Int)), none, none] [] (al, ro, fl (ml (x_ac M A) [1, 2, 3, 4, 5, 18, 19, 20, 21, 22, 23, 24, 25, 26, 27, 32] [Xx, T, N, Dr, Kpx, Th, La, Lb, Lcx, Fo, St, Ri, Br, Ro, Ot, Sy])) _ _ _ _
  refine e_goto (pc := 3000) (tgt := 3041) dL_law__3000 (by decide) ?_
  exact kk
set_option maxRecDepth 100000 in
set_option maxHeartbeats 4000000 in
theorem k58 {g : xG} {al : List (Nat × Nat × Nat)} {ro : Nat → Nat → Option Nat} (hst : g.1.stackTraces = false) (hs : SH al ro) (ho : (16 * 27 + 0, 21, 1) ∈ al) {M : Nat → xU} {h' : xH} {i K S0 : Nat} (hi : i + 6 ≤ x_L g) (hL : x_L g < 2147483648) {X T N Dr Kp Th La Lb Lc Fo St Ri Br Ro Ot S : xU} {A : xA} {a : Int} {Xx : xU} {Nx : xU} {Lax : xU} {b : Int} {Sy : xU} (hX : G11_back X N Kp La Lc = some (a, Xx, Nx, Lax)) (hS : G12_back S = some (b, Sy)) (hA : a = b)
    (kk : Ev g yL_law_ cL_law_ 7 (some .boolean) [] 60 3041 [some (x_r 1), some (x_r (16 * 1 + 0)), some (x_r (16 * 32 + 0)), some (x_r (16 * 27 + 0)), some (x_i (i : Int)), none, none] [] (al, ro, fl (ml (x_ac M A) [1, 2, 3, 4, 5, 18, 19, 20, 21, 22, 23, 24, 25, 26, 27, 32] [Xx, T, Nx, Dr, Kp, Th, Lax, Lb, Lc, Fo, St, Ri, Br, Ro, Ot, Sy])) K S0 (.inl (some (x_i 1))) h') : Ev g yL_law_ cL_law_ 7 (some .boolean) [] 60 3003 [some (x_r 1), some (x_r (16 * 1 + 0)), some (x_r (16 * 32 + 0)), some (x_r (16 * 27 + 0)), some (x_i (i : Int)), none, none] [] (al, ro, fl (ml (x_ac M A) [1, 2, 3, 4, 5, 18, 19, 20, 21, 22, 23, 24, 25, 26, 27, 32] [X, T, N, Dr, Kp, Th, La, Lb, Lc, Fo, St, Ri, Br, Ro, Ot, S])) K S0 (.inl (some (x_i 1))) h' := by
  have hn : ([1, 2, 3, 4, 5, 18, 19, 20, 21, 22, 23, 24, 25, 26, 27, 32] : List Nat).Nodup := by decide
  refine e_aloadn (pc := 3003) (i := 1) dL_law__3003 rfl rfl ?_
  refine e_wide (K0 := 0 + K) (S0 := 0 + S0) (by omega) (by omega) ?_
  refine e_invV (pc := 3004) (K1 := 0) (S1 := 0) (K := K) (S := S0) (dd2 := 3) (av := []) (st := []) (id := 16 * 1 + 0) dL_law__3004 xmL_349 rfl (Or.inl ⟨9, 17, TX11, (sa_1_0 hs), rfl, by decide⟩) (f_cal (M := (x_ac M A)) (us2 := [1, 3, 5, 19, 21]) [0, 2, 4, 6, 8] hn rfl (And.intro rfl (And.intro rfl (And.intro rfl (And.intro rfl (And.intro rfl trivial))))) rfl rfl rfl (c_X11_back hst hs hX)) (by decide) (Nat.le_of_ble_eq_true rfl) (Or.inl rfl) ?_
  show Ev g _ _ _ _ _ _ 3007 [some (x_r 1), some (x_r (16 * 1 + 0)), some (x_r (16 * 32 + 0)), some (x_r (16 * 27 + 0)), some (x_i (i : Int)), none, none] [x_i a] (al, ro, fl (ml (x_ac M A) [1, 2, 3, 4, 5, 18, 19, 20, 21, 22, 23, 24, 25, 26, 27, 32] [Xx, T, Nx, Dr, Kp, Th, Lax, Lb, Lc, Fo, St, Ri, Br, Ro, Ot, S])) _ _ _ _
  refine e_aloadn (pc := 3007) (i := 2) dL_law__3007 rfl rfl ?_
  refine e_wide (K0 := 0 + K) (S0 := 0 + S0) (by omega) (by omega) ?_
  refine e_invV (pc := 3008) (K1 := 0) (S1 := 0) (K := K) (S := S0) (dd2 := 0) (av := []) (st := [x_i a]) (id := 16 * 32 + 0) dL_law__3008 xmL_352 rfl (Or.inl ⟨10, 27, TX12, (sa_32_0 hs), rfl, by decide⟩) (f_cal (M := (x_ac M A)) (us2 := [32]) [15] hn rfl (And.intro rfl trivial) rfl rfl rfl (c_X12_back hst hs hS)) (by decide) (Nat.le_of_ble_eq_true rfl) (Or.inl rfl) ?_
  show Ev g _ _ _ _ _ _ 3011 [some (x_r 1), some (x_r (16 * 1 + 0)), some (x_r (16 * 32 + 0)), some (x_r (16 * 27 + 0)), some (x_i (i : Int)), none, none] [x_i b, x_i a] (al, ro, fl (ml (x_ac M A) [1, 2, 3, 4, 5, 18, 19, 20, 21, 22, 23, 24, 25, 26, 27, 32] [Xx, T, Nx, Dr, Kp, Th, Lax, Lb, Lc, Fo, St, Ri, Br, Ro, Ot, Sy])) _ _ _ _
  refine e_icmp_eq (pc := 3011) (tgt := 3041) dL_law__3011 (by decide) (fun _ => ?_) (fun q => absurd hA q)
  exact kk
set_option maxRecDepth 100000 in
set_option maxHeartbeats 4000000 in
theorem k59 {g : xG} {al : List (Nat × Nat × Nat)} {ro : Nat → Nat → Option Nat} (hst : g.1.stackTraces = false) (hs : SH al ro) (ho : (16 * 27 + 0, 21, 1) ∈ al) {M : Nat → xU} {h' : xH} {i K S0 : Nat} (hi : i + 6 ≤ x_L g) (hL : x_L g < 2147483648) {X T N Dr Kp Th La Lb Lc Fo St Ri Br Ro Ot S : xU} {A : xA} {a : Int} {b : Int} {Sy : xU} (hX : G11_count (x_sc g (i + 1)) X N La = some a) (hS : G12_count (x_sc g (i + 1)) S = some (b, Sy)) (hA : a = b)
    (kk : Ev g yL_law_ cL_law_ 7 (some .boolean) [] 60 3041 [some (x_r 1), some (x_r (16 * 1 + 0)), some (x_r (16 * 32 + 0)), some (x_r (16 * 27 + 0)), some (x_i (i : Int)), none, none] [] (al, ro, fl (ml (x_ac M A) [1, 2, 3, 4, 5, 18, 19, 20, 21, 22, 23, 24, 25, 26, 27, 32] [X, T, N, Dr, Kp, Th, La, Lb, Lc, Fo, St, Ri, Br, Ro, Ot, Sy])) K S0 (.inl (some (x_i 1))) h') : Ev g yL_law_ cL_law_ 7 (some .boolean) [] 60 3016 [some (x_r 1), some (x_r (16 * 1 + 0)), some (x_r (16 * 32 + 0)), some (x_r (16 * 27 + 0)), some (x_i (i : Int)), none, none] [] (al, ro, fl (ml (x_ac M A) [1, 2, 3, 4, 5, 18, 19, 20, 21, 22, 23, 24, 25, 26, 27, 32] [X, T, N, Dr, Kp, Th, La, Lb, Lc, Fo, St, Ri, Br, Ro, Ot, S])) K S0 (.inl (some (x_i 1))) h' := by
  have hn : ([1, 2, 3, 4, 5, 18, 19, 20, 21, 22, 23, 24, 25, 26, 27, 32] : List Nat).Nodup := by decide
  refine e_aloadn (pc := 3016) (i := 1) dL_law__3016 rfl rfl ?_
  refine e_aloadn (pc := 3017) (i := 0) dL_law__3017 rfl rfl ?_
  refine e_iload (pc := 3018) dL_law__3018 rfl ?_
  refine e_iconst (pc := 3020) dL_law__3020 (x_R rfl) ?_
  refine e_iadd (pc := 3021) dL_law__3021 ?_
  rw [show x_add (i : Int) 1 = ((i + 1 : Nat) : Int) from x_ni (k := 1) (by omega)]
  refine e_sld (pc := 3022) dL_law__3022 (by omega) (by omega) ?_
  show Ev g _ _ _ _ _ _ 3023 [some (x_r 1), some (x_r (16 * 1 + 0)), some (x_r (16 * 32 + 0)), some (x_r (16 * 27 + 0)), some (x_i (i : Int)), none, none] [x_i (x_sc g (i + 1)), x_r (16 * 1 + 0)] (al, ro, fl (ml (x_ac M A) [1, 2, 3, 4, 5, 18, 19, 20, 21, 22, 23, 24, 25, 26, 27, 32] [X, T, N, Dr, Kp, Th, La, Lb, Lc, Fo, St, Ri, Br, Ro, Ot, S])) _ _ _ _
  refine e_wide (K0 := 0 + K) (S0 := 0 + S0) (by omega) (by omega) ?_
  refine e_invV (pc := 3023) (K1 := 0) (S1 := 0) (K := K) (S := S0) (dd2 := 2) (av := [x_i (x_sc g (i + 1))]) (st := []) (id := 16 * 1 + 0) dL_law__3023 xmL_353 rfl (Or.inl ⟨9, 17, TX11, (sa_1_0 hs), rfl, by decide⟩) (f_cal (M := (x_ac M A)) (us2 := [1, 3, 19]) [0, 2, 6] hn rfl (And.intro rfl (And.intro rfl (And.intro rfl trivial))) rfl rfl rfl (c_X11_count hst hs hX)) (by decide) (Nat.le_of_ble_eq_true rfl) (Or.inl rfl) ?_
  show Ev g _ _ _ _ _ _ 3026 [some (x_r 1), some (x_r (16 * 1 + 0)), some (x_r (16 * 32 + 0)), some (x_r (16 * 27 + 0)), some (x_i (i : Int)), none, none] [x_i a] (al, ro, fl (ml (x_ac M A) [1, 2, 3, 4, 5, 18, 19, 20, 21, 22, 23, 24, 25, 26, 27, 32] [X, T, N, Dr, Kp, Th, La, Lb, Lc, Fo, St, Ri, Br, Ro, Ot, S])) _ _ _ _
  refine e_aloadn (pc := 3026) (i := 2) dL_law__3026 rfl rfl ?_
  refine e_aloadn (pc := 3027) (i := 0) dL_law__3027 rfl rfl ?_
  refine e_iload (pc := 3028) dL_law__3028 rfl ?_
  refine e_iconst (pc := 3030) dL_law__3030 (x_R rfl) ?_
  refine e_iadd (pc := 3031) dL_law__3031 ?_
  rw [show x_add (i : Int) 1 = ((i + 1 : Nat) : Int) from x_ni (k := 1) (by omega)]
  refine e_sld (pc := 3032) dL_law__3032 (by omega) (by omega) ?_
  show Ev g _ _ _ _ _ _ 3033 [some (x_r 1), some (x_r (16 * 1 + 0)), some (x_r (16 * 32 + 0)), some (x_r (16 * 27 + 0)), some (x_i (i : Int)), none, none] [x_i (x_sc g (i + 1)), x_r (16 * 32 + 0), x_i a] (al, ro, fl (ml (x_ac M A) [1, 2, 3, 4, 5, 18, 19, 20, 21, 22, 23, 24, 25, 26, 27, 32] [X, T, N, Dr, Kp, Th, La, Lb, Lc, Fo, St, Ri, Br, Ro, Ot, S])) _ _ _ _
  refine e_wide (K0 := 0 + K) (S0 := 0 + S0) (by omega) (by omega) ?_
  refine e_invV (pc := 3033) (K1 := 0) (S1 := 0) (K := K) (S := S0) (dd2 := 2) (av := [x_i (x_sc g (i + 1))]) (st := [x_i a]) (id := 16 * 32 + 0) dL_law__3033 xmL_356 rfl (Or.inl ⟨10, 27, TX12, (sa_32_0 hs), rfl, by decide⟩) (f_cal (M := (x_ac M A)) (us2 := [32]) [15] hn rfl (And.intro rfl trivial) rfl rfl rfl (c_X12_count hst hs hS)) (by decide) (Nat.le_of_ble_eq_true rfl) (Or.inl rfl) ?_
  show Ev g _ _ _ _ _ _ 3036 [some (x_r 1), some (x_r (16 * 1 + 0)), some (x_r (16 * 32 + 0)), some (x_r (16 * 27 + 0)), some (x_i (i : Int)), none, none] [x_i b, x_i a] (al, ro, fl (ml (x_ac M A) [1, 2, 3, 4, 5, 18, 19, 20, 21, 22, 23, 24, 25, 26, 27, 32] [X, T, N, Dr, Kp, Th, La, Lb, Lc, Fo, St, Ri, Br, Ro, Ot, Sy])) _ _ _ _
  refine e_icmp_eq (pc := 3036) (tgt := 3041) dL_law__3036 (by decide) (fun _ => ?_) (fun q => absurd hA q)
  exact kk
