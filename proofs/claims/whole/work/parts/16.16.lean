set_option maxRecDepth 100000 in
set_option maxHeartbeats 4000000 in
theorem c_X9_pointerOf {g : xG} {al : List (Nat × Nat × Nat)} {ro : Nat → Nat → Option Nat} (hst : g.1.stackTraces = false) (hs : SH al ro) {M : Nat → xU} {a : Int} {b : Int} {N : xU}  {t : Int} (hG : G9_pointerOf a b N = some t) :
    Cal g yX9_pointerOf cX9_pointerOf 8 (some .int) 3 [x_r (16 * 23 + 0), x_r (16 * 3 + 0), x_i a, x_i b] (al, ro, fl (ml M [3] [N])) 0 0 (.inl (some (x_i t))) (al, ro, fl (ml M [3] [N])) := by
  have hn : ([3] : List Nat).Nodup := by decide
  refine cal_of_ev (plainFor_of_name (by decide)) (x_c1 rfl) (Nat.le_of_ble_eq_true rfl) hst ?_
  show Ev g _ _ _ _ _ _ 0 [some (x_r (16 * 23 + 0)), some (x_r (16 * 3 + 0)), some (x_i a), some (x_i b), none, none, none, none] [] (al, ro, fl (ml M [3] [N])) _ _ _ _
  rw [G9_pointerOf] at hG
  refine e_iloadn (pc := 0) (i := 2) dX9_pointerOf_0 rfl rfl ?_
  refine e_istore (pc := 1) (i := 4) dX9_pointerOf_1 (by decide) rfl ?_
  show Ev g _ _ _ _ _ _ 3 [some (x_r (16 * 23 + 0)), some (x_r (16 * 3 + 0)), some (x_i a), some (x_i b), some (x_i a), none, none, none] [] (al, ro, fl (ml M [3] [N])) _ _ _ _
  refine e_ldc (pc := 3) dX9_pointerOf_3 xkX9_71 (x_R rfl) ?_
  refine e_istore (pc := 5) (i := 5) dX9_pointerOf_5 (by decide) rfl ?_
  show Ev g _ _ _ _ _ _ 7 [some (x_r (16 * 23 + 0)), some (x_r (16 * 3 + 0)), some (x_i a), some (x_i b), some (x_i a), some (x_i 1000000), none, none] [] (al, ro, fl (ml M [3] [N])) _ _ _ _
  refine e_iconst (pc := 7) dX9_pointerOf_7 (x_R rfl) ?_
  refine e_istore (pc := 8) (i := 6) dX9_pointerOf_8 (by decide) rfl ?_
  show Ev g _ _ _ _ _ _ 10 [some (x_r (16 * 23 + 0)), some (x_r (16 * 3 + 0)), some (x_i a), some (x_i b), some (x_i a), some (x_i 1000000), some (x_i 0), none] [] (al, ro, fl (ml M [3] [N])) _ _ _ _
  obtain ⟨v4, hl5, hG⟩ := x_bd1 hG
  have hk5 : ∀ q : Int, q = v4 → Ev g yX9_pointerOf cX9_pointerOf 8 (some .int) [] 3 58 [some (x_r (16 * 23 + 0)), some (x_r (16 * 3 + 0)), some (x_i a), some (x_i b), some (x_i q), none, none, none] [] (al, ro, fl (ml M [3] [N])) 0 0 (.inl (some (x_i t))) (al, ro, fl (ml M [3] [N])) := by
    intro q hq
    replace hq := hq.symm
    subst hq
    refine e_iload (pc := 58) dX9_pointerOf_58 rfl ?_
    cases hG
    exact (e_ireturn rfl dX9_pointerOf_60 rfl)
  clear hG
  refine e_whl (G9_pointerOf_L10 a b N) (fun z : (Int × Int × Int) => Ev g yX9_pointerOf cX9_pointerOf 8 (some .int) [] 3 10 [some (x_r (16 * 23 + 0)), some (x_r (16 * 3 + 0)), some (x_i a), some (x_i b), some (x_i z.1), some (x_i z.2.1), some (x_i z.2.2), none] [] (al, ro, fl (ml M [3] [N])) 0 0 (.inl (some (x_i t))) (al, ro, fl (ml M [3] [N]))) (fun q => q = v4) ?_ xFU (a, 1000000, 0) _ hl5 rfl
  intro z t5 hf5 hi5 hx5
  obtain ⟨v1, v2, v3⟩ := z
  rw [G9_pointerOf_L10] at hf5
  show Ev g _ _ _ _ _ _ 10 [some (x_r (16 * 23 + 0)), some (x_r (16 * 3 + 0)), some (x_i a), some (x_i b), some (x_i v1), some (x_i v2), some (x_i v3), none] [] (al, ro, fl (ml M [3] [N])) _ _ _ _
  refine e_iload (pc := 10) dX9_pointerOf_10 rfl ?_
  refine e_aloadn (pc := 12) (i := 1) dX9_pointerOf_12 rfl rfl ?_
  refine f_geti (pc := 13) (k := 0) (u := 3) (q := 0) dX9_pointerOf_13 xf9_24 (sa_3_0 hs) rfl hn rfl rfl (by decide) ?_
  show Ev g _ _ _ _ _ _ 16 [some (x_r (16 * 23 + 0)), some (x_r (16 * 3 + 0)), some (x_i a), some (x_i b), some (x_i v1), some (x_i v2), some (x_i v3), none] [x_i (N 0 3), x_i v3] (al, ro, fl (ml M [3] [N])) _ _ _ _
  refine e_icmp_ge (pc := 16) (tgt := 58) dX9_pointerOf_16 (by decide) (fun hb => ?_) (fun hb => ?_)
  · rw [if_pos hb] at hf5
    cases hf5
    refine e_drop (i := 5) ?_
    refine e_drop (i := 6) ?_
    exact hk5 _ (hx5 _ rfl)
  · rw [if_neg hb] at hf5
    refine e_aloadn (pc := 19) (i := 1) dX9_pointerOf_19 rfl rfl ?_
    refine e_iloadn (pc := 20) (i := 2) dX9_pointerOf_20 rfl rfl ?_
    refine e_iload (pc := 21) dX9_pointerOf_21 rfl ?_
    obtain ⟨v7, hq7, hf5⟩ := x_bd1 hf5
    refine e_invS (pc := 23) (K1 := 0) (S1 := 0) (K := 0) (S := 0) (dd2 := 2) (av := [x_r (16 * 3 + 0), x_i a, x_i v3]) (st := []) dX9_pointerOf_23 xmX9_72 rfl (f_cal (M := M) (us2 := [3]) [0] hn rfl (And.intro rfl trivial) rfl rfl rfl (c_X9_rankOf hst hs   hq7)) (by decide) (Nat.le_of_ble_eq_true rfl) (Or.inl rfl) ?_
    show Ev g _ _ _ _ _ _ 26 [some (x_r (16 * 23 + 0)), some (x_r (16 * 3 + 0)), some (x_i a), some (x_i b), some (x_i v1), some (x_i v2), some (x_i v3), none] [x_i v7] (al, ro, fl (ml M [3] [N])) _ _ _ _
    refine e_istore (pc := 26) (i := 7) dX9_pointerOf_26 (by decide) rfl ?_
    show Ev g _ _ _ _ _ _ 28 [some (x_r (16 * 23 + 0)), some (x_r (16 * 3 + 0)), some (x_i a), some (x_i b), some (x_i v1), some (x_i v2), some (x_i v3), some (x_i v7)] [] (al, ro, fl (ml M [3] [N])) _ _ _ _
    refine e_iloadn (pc := 28) (i := 3) dX9_pointerOf_28 rfl rfl ?_
    refine e_iload (pc := 29) dX9_pointerOf_29 rfl ?_
    obtain ⟨v9, hq9, hf5⟩ := x_bd1 hf5
    refine e_invS (pc := 31) (K1 := 0) (S1 := 0) (K := 0) (S := 0) (dd2 := 0) (av := [x_i b, x_i v3]) (st := []) dX9_pointerOf_31 xmX9_30 rfl (f_cal (M := M) (us2 := []) [] hn rfl trivial rfl rfl rfl (c_X11_holdsBit hst hs   hq9)) (by decide) (Nat.le_of_ble_eq_true rfl) (Or.inl rfl) ?_
    show Ev g _ _ _ _ _ _ 34 [some (x_r (16 * 23 + 0)), some (x_r (16 * 3 + 0)), some (x_i a), some (x_i b), some (x_i v1), some (x_i v2), some (x_i v3), some (x_i v7)] [x_i v9] (al, ro, fl (ml M [3] [N])) _ _ _ _
    obtain ⟨v11, v12, hr12, hf5⟩ := x_bd2 hf5
    have hjhr12 : Ev g yX9_pointerOf cX9_pointerOf 8 (some .int) [] 3 52 [some (x_r (16 * 23 + 0)), some (x_r (16 * 3 + 0)), some (x_i a), some (x_i b), some (x_i v11), some (x_i v12), some (x_i v3), some (x_i v7)] [] (al, ro, fl (ml M [3] [N])) 0 0 (.inl (some (x_i t))) (al, ro, fl (ml M [3] [N])) := by
      refine e_iinc (pc := 52) dX9_pointerOf_52 rfl (by decide) rfl ?_
      show Ev g _ _ _ _ _ _ 55 [some (x_r (16 * 23 + 0)), some (x_r (16 * 3 + 0)), some (x_i a), some (x_i b), some (x_i v11), some (x_i v12), some (x_i (x_add v3 1)), some (x_i v7)] [] (al, ro, fl (ml M [3] [N])) _ _ _ _
      refine e_goto (pc := 55) (tgt := 10) dX9_pointerOf_55 (by decide) ?_
      cases hf5
      refine e_drop (i := 7) ?_
      exact hi5 _ rfl
    clear hf5
    refine e_if_eq (pc := 34) (tgt := 52) dX9_pointerOf_34 (by decide) (fun hb => ?_) (fun hb => ?_)
    · rw [if_pos hb] at hr12
      cases hr12
      exact hjhr12
    · rw [if_neg hb] at hr12
      refine e_iload (pc := 37) dX9_pointerOf_37 rfl ?_
      refine e_iload (pc := 39) dX9_pointerOf_39 rfl ?_
      refine e_icmp_ge (pc := 41) (tgt := 52) dX9_pointerOf_41 (by decide) (fun hb => ?_) (fun hb => ?_)
      · rw [if_pos hb] at hr12
        cases hr12
        exact hjhr12
      · rw [if_neg hb] at hr12
        refine e_iload (pc := 44) dX9_pointerOf_44 rfl ?_
        refine e_istore (pc := 46) (i := 5) dX9_pointerOf_46 (by decide) rfl ?_
        show Ev g _ _ _ _ _ _ 48 [some (x_r (16 * 23 + 0)), some (x_r (16 * 3 + 0)), some (x_i a), some (x_i b), some (x_i v1), some (x_i v7), some (x_i v3), some (x_i v7)] [] (al, ro, fl (ml M [3] [N])) _ _ _ _
        refine e_iload (pc := 48) dX9_pointerOf_48 rfl ?_
        refine e_istore (pc := 50) (i := 4) dX9_pointerOf_50 (by decide) rfl ?_
        show Ev g _ _ _ _ _ _ 52 [some (x_r (16 * 23 + 0)), some (x_r (16 * 3 + 0)), some (x_i a), some (x_i b), some (x_i v3), some (x_i v7), some (x_i v3), some (x_i v7)] [] (al, ro, fl (ml M [3] [N])) _ _ _ _
        cases hr12
        exact hjhr12
set_option maxRecDepth 100000 in
set_option maxHeartbeats 4000000 in
theorem c_X9_ringOf {g : xG} {al : List (Nat × Nat × Nat)} {ro : Nat → Nat → Option Nat} (hst : g.1.stackTraces = false) (hs : SH al ro) {M : Nat → xU} {a : Int} {St : xU}  {t : Int} (hG : G9_ringOf a St = some t) :
    Cal g yX9_ringOf cX9_ringOf 4 (some .int) 0 [x_r (16 * 23 + 0), x_i a] (al, ro, fl (ml M [23] [St])) 0 0 (.inl (some (x_i t))) (al, ro, fl (ml M [23] [St])) := by
  have hn : ([23] : List Nat).Nodup := by decide
  refine cal_of_ev (plainFor_of_name (by decide)) (x_c1 rfl) (Nat.le_of_ble_eq_true rfl) hst ?_
  show Ev g _ _ _ _ _ _ 0 [some (x_r (16 * 23 + 0)), some (x_i a), none, none] [] (al, ro, fl (ml M [23] [St])) _ _ _ _
  rw [G9_ringOf] at hG
  refine e_iloadn (pc := 0) (i := 1) dX9_ringOf_0 rfl rfl ?_
  refine e_istoren (pc := 1) (i := 2) dX9_ringOf_1 rfl (by decide) rfl ?_
  show Ev g _ _ _ _ _ _ 2 [some (x_r (16 * 23 + 0)), some (x_i a), some (x_i a), none] [] (al, ro, fl (ml M [23] [St])) _ _ _ _
  refine e_iconst (pc := 2) dX9_ringOf_2 (x_R rfl) ?_
  refine e_istoren (pc := 3) (i := 3) dX9_ringOf_3 rfl (by decide) rfl ?_
  show Ev g _ _ _ _ _ _ 4 [some (x_r (16 * 23 + 0)), some (x_i a), some (x_i a), some (x_i 1)] [] (al, ro, fl (ml M [23] [St])) _ _ _ _
  obtain ⟨r3, hl3, hG⟩ := x_lrd hG
  have hk3 : ∀ q : Unit, r3 = .inl q → Ev g yX9_ringOf cX9_ringOf 4 (some .int) [] 0 44 [some (x_r (16 * 23 + 0)), some (x_i a), none, none] [] (al, ro, fl (ml M [23] [St])) 0 0 (.inl (some (x_i t))) (al, ro, fl (ml M [23] [St])) := by
    intro q hq
    subst hq
    replace hG := x_lr_l hG
    replace hG := x_ed1 hG
    refine e_iconst (pc := 44) dX9_ringOf_44 (x_R rfl) ?_
    cases hG
    exact (e_ireturn rfl dX9_ringOf_45 rfl)
  have hv3 : ∀ q : Int, r3 = .inr q → some q = some t := by
    intro q hq
    subst hq
    exact x_lr_r hG
  clear hG
  refine e_whl (G9_ringOf_L4 a St) (fun z : (Int × Int) => Ev g yX9_ringOf cX9_ringOf 4 (some .int) [] 0 4 [some (x_r (16 * 23 + 0)), some (x_i a), some (x_i z.1), some (x_i z.2)] [] (al, ro, fl (ml M [23] [St])) 0 0 (.inl (some (x_i t))) (al, ro, fl (ml M [23] [St]))) (fun q => q = r3) ?_ xFU (a, 1) _ hl3 rfl
  intro z t3 hf3 hi3 hx3
  obtain ⟨v1, v2⟩ := z
  rw [G9_ringOf_L4] at hf3
  show Ev g _ _ _ _ _ _ 4 [some (x_r (16 * 23 + 0)), some (x_i a), some (x_i v1), some (x_i v2)] [] (al, ro, fl (ml M [23] [St])) _ _ _ _
  refine e_iloadn (pc := 4) (i := 3) dX9_ringOf_4 rfl rfl ?_
  refine e_bipush (pc := 5) dX9_ringOf_5 (by decide +kernel) (x_R rfl) ?_
  refine e_icmp_gt (pc := 7) (tgt := 44) dX9_ringOf_7 (by decide) (fun hb => ?_) (fun hb => ?_)
  · rw [if_pos hb] at hf3
    cases hf3
    refine e_drop (i := 2) ?_
    refine e_drop (i := 3) ?_
    exact hk3 _ (hx3 _ rfl).symm
  · rw [if_neg hb] at hf3
    refine e_iloadn (pc := 10) (i := 2) dX9_ringOf_10 rfl rfl ?_
    obtain ⟨v5, hr5, hf3⟩ := x_bd1 hf3
    have hjhr5 : Ev g yX9_ringOf cX9_ringOf 4 (some .int) [] 0 30 [some (x_r (16 * 23 + 0)), some (x_i a), some (x_i v1), some (x_i v2)] [x_i v5] (al, ro, fl (ml M [23] [St])) 0 0 (.inl (some (x_i t))) (al, ro, fl (ml M [23] [St])) := by
      refine e_istoren (pc := 30) (i := 2) dX9_ringOf_30 rfl (by decide) rfl ?_
      show Ev g _ _ _ _ _ _ 31 [some (x_r (16 * 23 + 0)), some (x_i a), some (x_i v5), some (x_i v2)] [] (al, ro, fl (ml M [23] [St])) _ _ _ _
      refine e_iloadn (pc := 31) (i := 2) dX9_ringOf_31 rfl rfl ?_
      refine e_iloadn (pc := 32) (i := 1) dX9_ringOf_32 rfl rfl ?_
      refine e_icmp_ne (pc := 33) (tgt := 38) dX9_ringOf_33 (by decide) (fun hb => ?_) (fun hb => ?_)
      · rw [if_neg hb] at hf3
        refine e_iinc (pc := 38) dX9_ringOf_38 rfl (by decide) rfl ?_
        show Ev g _ _ _ _ _ _ 41 [some (x_r (16 * 23 + 0)), some (x_i a), some (x_i v5), some (x_i (x_add v2 1))] [] (al, ro, fl (ml M [23] [St])) _ _ _ _
        refine e_goto (pc := 41) (tgt := 4) dX9_ringOf_41 (by decide) ?_
        cases hf3
        exact hi3 _ rfl
      · rw [if_pos hb] at hf3
        refine e_iloadn (pc := 36) (i := 3) dX9_ringOf_36 rfl rfl ?_
        cases hf3
        have hz := hv3 _ (hx3 _ rfl).symm
        cases hz
        exact (e_ireturn rfl dX9_ringOf_37 rfl)
    clear hf3
    refine e_if_lt (pc := 11) (tgt := 29) dX9_ringOf_11 (by decide) (fun hb => ?_) (fun hb => ?_)
    · rw [if_pos hb] at hr5
      refine e_iloadn (pc := 29) (i := 1) dX9_ringOf_29 rfl rfl ?_
      cases hr5
      exact hjhr5
    · rw [if_neg hb] at hr5
      refine e_iloadn (pc := 14) (i := 2) dX9_ringOf_14 rfl rfl ?_
      refine e_bipush (pc := 15) dX9_ringOf_15 (by decide +kernel) (x_R rfl) ?_
      refine e_icmp_ge (pc := 17) (tgt := 29) dX9_ringOf_17 (by decide) (fun hb => ?_) (fun hb => ?_)
      · rw [if_pos hb] at hr5
        refine e_iloadn (pc := 29) (i := 1) dX9_ringOf_29 rfl rfl ?_
        cases hr5
        exact hjhr5
      · rw [if_neg hb] at hr5
        refine e_aloadn (pc := 20) (i := 0) dX9_ringOf_20 rfl rfl ?_
        refine f_getr (pc := 21) (u := 23) (q := 0) dX9_ringOf_21 xf9_15 (sa_23_0 hs) rfl (sr_23_0_1 hs) ?_
        refine e_iloadn (pc := 24) (i := 2) dX9_ringOf_24 rfl rfl ?_
        obtain ⟨hc0, hr5⟩ := x_gd_some hr5
        refine f_iald (pc := 25) (k := 0) (u := 23) (q := 2) (len := 7) dX9_ringOf_25 (sa_23_2 hs) hc0 hn rfl rfl (by decide) ?_
        show Ev g _ _ _ _ _ _ 26 [some (x_r (16 * 23 + 0)), some (x_i a), some (x_i v1), some (x_i v2)] [x_i (St 2 (v1).toNat)] (al, ro, fl (ml M [23] [St])) _ _ _ _
        refine e_goto (pc := 26) (tgt := 30) dX9_ringOf_26 (by decide) ?_
        cases hr5
        exact hjhr5
set_option maxRecDepth 100000 in
set_option maxHeartbeats 4000000 in
theorem c_X9_tradeAll {g : xG} {al : List (Nat × Nat × Nat)} {ro : Nat → Nat → Option Nat} (hst : g.1.stackTraces = false) (hs : SH al ro) {M : Nat → xU} {N : xU} {St : xU}  {t : xU} (hG : G9_tradeAll N St = some t) :
    Cal g yX9_tradeAll cX9_tradeAll 7 none 4 [x_r (16 * 23 + 0), x_r (16 * 3 + 0)] (al, ro, fl (ml M [3, 23] [N, St])) 0 0 (.inl none) (al, ro, fl (ml M [3, 23] [N, t])) := by
  have hn : ([3, 23] : List Nat).Nodup := by decide
  refine cal_of_ev (plainFor_of_name (by decide)) (x_c1 rfl) (Nat.le_of_ble_eq_true rfl) hst ?_
  show Ev g _ _ _ _ _ _ 0 [some (x_r (16 * 23 + 0)), some (x_r (16 * 3 + 0)), none, none, none, none, none] [] (al, ro, fl (ml M [3, 23] [N, St])) _ _ _ _
  rw [G9_tradeAll] at hG
  refine e_iconst (pc := 0) dX9_tradeAll_0 (x_R rfl) ?_
  refine e_aloadn (pc := 1) (i := 1) dX9_tradeAll_1 rfl rfl ?_
  refine f_geti (pc := 2) (k := 0) (u := 3) (q := 0) dX9_tradeAll_2 xf9_24 (sa_3_0 hs) rfl hn rfl rfl (by decide) ?_
  show Ev g _ _ _ _ _ _ 5 [some (x_r (16 * 23 + 0)), some (x_r (16 * 3 + 0)), none, none, none, none, none] [x_i (N 0 3), x_i 1] (al, ro, fl (ml M [3, 23] [N, St])) _ _ _ _
  refine e_ishl (pc := 5) dX9_tradeAll_5 ?_
  refine e_iconst (pc := 6) dX9_tradeAll_6 (x_R rfl) ?_
  refine e_isub (pc := 7) dX9_tradeAll_7 ?_
  refine e_istoren (pc := 8) (i := 2) dX9_tradeAll_8 rfl (by decide) rfl ?_
  show Ev g _ _ _ _ _ _ 9 [some (x_r (16 * 23 + 0)), some (x_r (16 * 3 + 0)), some (x_i (x_sub (x_shl 1 (N 0 3)) 1)), none, none, none, none] [] (al, ro, fl (ml M [3, 23] [N, St])) _ _ _ _
  refine e_iconst (pc := 9) dX9_tradeAll_9 (x_R rfl) ?_
  refine e_istoren (pc := 10) (i := 3) dX9_tradeAll_10 rfl (by decide) rfl ?_
  show Ev g _ _ _ _ _ _ 11 [some (x_r (16 * 23 + 0)), some (x_r (16 * 3 + 0)), some (x_i (x_sub (x_shl 1 (N 0 3)) 1)), some (x_i 0), none, none, none] [] (al, ro, fl (ml M [3, 23] [N, St])) _ _ _ _
  obtain ⟨St4, hl5, hG⟩ := x_bd1 hG
  have hk5 : ∀ q : xU, q = St4 → Ev g yX9_tradeAll cX9_tradeAll 7 none [] 4 160 [some (x_r (16 * 23 + 0)), some (x_r (16 * 3 + 0)), none, none, none, none, none] [] (al, ro, fl (ml M [3, 23] [N, q])) 0 0 (.inl none) (al, ro, fl (ml M [3, 23] [N, t])) := by
    intro q hq
    replace hq := hq.symm
    subst hq
    cases hG
    exact (e_return rfl dX9_tradeAll_160)
  clear hG
  refine e_whl (G9_tradeAll_L11 N) (fun z : (Int × Int × xU) => Ev g yX9_tradeAll cX9_tradeAll 7 none [] 4 11 [some (x_r (16 * 23 + 0)), some (x_r (16 * 3 + 0)), some (x_i z.1), some (x_i z.2.1), none, none, none] [] (al, ro, fl (ml M [3, 23] [N, z.2.2])) 0 0 (.inl none) (al, ro, fl (ml M [3, 23] [N, t]))) (fun q => q = St4) ?_ xFU ((x_sub (x_shl 1 (N 0 3)) 1), 0, St) _ hl5 rfl
  intro z t5 hf5 hi5 hx5
  obtain ⟨v1, v2, St3⟩ := z
  rw [G9_tradeAll_L11] at hf5
  show Ev g _ _ _ _ _ _ 11 [some (x_r (16 * 23 + 0)), some (x_r (16 * 3 + 0)), some (x_i v1), some (x_i v2), none, none, none] [] (al, ro, fl (ml M [3, 23] [N, St3])) _ _ _ _
  refine e_iloadn (pc := 11) (i := 3) dX9_tradeAll_11 rfl rfl ?_
  refine e_bipush (pc := 12) dX9_tradeAll_12 (by decide +kernel) (x_R rfl) ?_
  refine e_icmp_ge (pc := 14) (tgt := 160) dX9_tradeAll_14 (by decide) (fun hb => ?_) (fun hb => ?_)
  · rw [if_pos hb] at hf5
    cases hf5
    refine e_drop (i := 2) ?_
    refine e_drop (i := 3) ?_
    exact hk5 _ (hx5 _ rfl)
  · rw [if_neg hb] at hf5
    refine e_iloadn (pc := 17) (i := 2) dX9_tradeAll_17 rfl rfl ?_
    refine e_if_eq (pc := 18) (tgt := 160) dX9_tradeAll_18 (by decide) (fun hb => ?_) (fun hb => ?_)
    · rw [if_pos hb] at hf5
      cases hf5
      refine e_drop (i := 2) ?_
      refine e_drop (i := 3) ?_
      exact hk5 _ (hx5 _ rfl)
    · rw [if_neg hb] at hf5
      refine e_iconst (pc := 21) dX9_tradeAll_21 (x_R rfl) ?_
      refine e_istore (pc := 22) (i := 4) dX9_tradeAll_22 (by decide) rfl ?_
      show Ev g _ _ _ _ _ _ 24 [some (x_r (16 * 23 + 0)), some (x_r (16 * 3 + 0)), some (x_i v1), some (x_i v2), some (x_i 0), none, none] [] (al, ro, fl (ml M [3, 23] [N, St3])) _ _ _ _
      obtain ⟨St9, hl10, hf5⟩ := x_bd1 hf5
      have hk10 : ∀ q : xU, q = St9 → Ev g yX9_tradeAll cX9_tradeAll 7 none [] 4 61 [some (x_r (16 * 23 + 0)), some (x_r (16 * 3 + 0)), some (x_i v1), some (x_i v2), none, none, none] [] (al, ro, fl (ml M [3, 23] [N, q])) 0 0 (.inl none) (al, ro, fl (ml M [3, 23] [N, t])) := by
        intro q hq
        replace hq := hq.symm
        subst hq
        refine e_iconst (pc := 61) dX9_tradeAll_61 (x_R rfl) ?_
        refine e_istore (pc := 62) (i := 4) dX9_tradeAll_62 (by decide) rfl ?_
        show Ev g _ _ _ _ _ _ 64 [some (x_r (16 * 23 + 0)), some (x_r (16 * 3 + 0)), some (x_i v1), some (x_i v2), some (x_i 0), none, none] [] (al, ro, fl (ml M [3, 23] [N, St9])) _ _ _ _
        refine e_iconst (pc := 64) dX9_tradeAll_64 (x_R rfl) ?_
        refine e_istore (pc := 65) (i := 5) dX9_tradeAll_65 (by decide) rfl ?_
        show Ev g _ _ _ _ _ _ 67 [some (x_r (16 * 23 + 0)), some (x_r (16 * 3 + 0)), some (x_i v1), some (x_i v2), some (x_i 0), some (x_i 0), none] [] (al, ro, fl (ml M [3, 23] [N, St9])) _ _ _ _
        obtain ⟨v17, St18, hl19, hf5⟩ := x_bd2 hf5
        have hk19 : ∀ q : (Int × xU), q = (v17, St18) → Ev g yX9_tradeAll cX9_tradeAll 7 none [] 4 147 [some (x_r (16 * 23 + 0)), some (x_r (16 * 3 + 0)), some (x_i v1), some (x_i v2), some (x_i q.1), none, none] [] (al, ro, fl (ml M [3, 23] [N, q.2])) 0 0 (.inl none) (al, ro, fl (ml M [3, 23] [N, t])) := by
          intro q hq
          cases hq
          refine e_iloadn (pc := 147) (i := 2) dX9_tradeAll_147 rfl rfl ?_
          refine e_iload (pc := 148) dX9_tradeAll_148 rfl ?_
          refine e_iconst (pc := 150) dX9_tradeAll_150 (x_R rfl) ?_
          refine e_ixor (pc := 151) dX9_tradeAll_151 ?_
          refine e_iand (pc := 152) dX9_tradeAll_152 ?_
          refine e_istoren (pc := 153) (i := 2) dX9_tradeAll_153 rfl (by decide) rfl ?_
          show Ev g _ _ _ _ _ _ 154 [some (x_r (16 * 23 + 0)), some (x_r (16 * 3 + 0)), some (x_i (x_and v1 (x_xor v17 (-1)))), some (x_i v2), some (x_i v17), none, none] [] (al, ro, fl (ml M [3, 23] [N, St18])) _ _ _ _
          refine e_iinc (pc := 154) dX9_tradeAll_154 rfl (by decide) rfl ?_
          show Ev g _ _ _ _ _ _ 157 [some (x_r (16 * 23 + 0)), some (x_r (16 * 3 + 0)), some (x_i (x_and v1 (x_xor v17 (-1)))), some (x_i (x_add v2 1)), some (x_i v17), none, none] [] (al, ro, fl (ml M [3, 23] [N, St18])) _ _ _ _
          refine e_goto (pc := 157) (tgt := 11) dX9_tradeAll_157 (by decide) ?_
          cases hf5
          refine e_drop (i := 4) ?_
          exact hi5 _ rfl
        clear hf5
        refine e_whl (G9_tradeAll_L67 N v1) (fun z : (Int × Int × xU) => Ev g yX9_tradeAll cX9_tradeAll 7 none [] 4 67 [some (x_r (16 * 23 + 0)), some (x_r (16 * 3 + 0)), some (x_i v1), some (x_i v2), some (x_i z.1), some (x_i z.2.1), none] [] (al, ro, fl (ml M [3, 23] [N, z.2.2])) 0 0 (.inl none) (al, ro, fl (ml M [3, 23] [N, t]))) (fun q => q = (v17, St18)) ?_ xFU (0, 0, St9) _ hl19 rfl
        intro z t19 hf19 hi19 hx19
        obtain ⟨v14, v15, St16⟩ := z
        rw [G9_tradeAll_L67] at hf19
        show Ev g _ _ _ _ _ _ 67 [some (x_r (16 * 23 + 0)), some (x_r (16 * 3 + 0)), some (x_i v1), some (x_i v2), some (x_i v14), some (x_i v15), none] [] (al, ro, fl (ml M [3, 23] [N, St16])) _ _ _ _
        refine e_iload (pc := 67) dX9_tradeAll_67 rfl ?_
        refine e_aloadn (pc := 69) (i := 1) dX9_tradeAll_69 rfl rfl ?_
        refine f_geti (pc := 70) (k := 0) (u := 3) (q := 0) dX9_tradeAll_70 xf9_24 (sa_3_0 hs) rfl hn rfl rfl (by decide) ?_
        show Ev g _ _ _ _ _ _ 73 [some (x_r (16 * 23 + 0)), some (x_r (16 * 3 + 0)), some (x_i v1), some (x_i v2), some (x_i v14), some (x_i v15), none] [x_i (N 0 3), x_i v15] (al, ro, fl (ml M [3, 23] [N, St16])) _ _ _ _
        refine e_icmp_ge (pc := 73) (tgt := 147) dX9_tradeAll_73 (by decide) (fun hb => ?_) (fun hb => ?_)
        · rw [if_pos hb] at hf19
          cases hf19
          refine e_drop (i := 5) ?_
          exact hk19 _ (hx19 _ rfl)
        · rw [if_neg hb] at hf19
          refine e_iload (pc := 76) dX9_tradeAll_76 rfl ?_
          refine e_bipush (pc := 78) dX9_tradeAll_78 (by decide +kernel) (x_R rfl) ?_
          refine e_icmp_ge (pc := 80) (tgt := 147) dX9_tradeAll_80 (by decide) (fun hb => ?_) (fun hb => ?_)
          · rw [if_pos hb] at hf19
            cases hf19
            refine e_drop (i := 5) ?_
            exact hk19 _ (hx19 _ rfl)
          · rw [if_neg hb] at hf19
            refine e_iloadn (pc := 83) (i := 2) dX9_tradeAll_83 rfl rfl ?_
            refine e_iload (pc := 84) dX9_tradeAll_84 rfl ?_
            obtain ⟨v21, hq21, hf19⟩ := x_bd1 hf19
            refine e_invS (pc := 86) (K1 := 0) (S1 := 0) (K := 0) (S := 0) (dd2 := 0) (av := [x_i v1, x_i v15]) (st := []) dX9_tradeAll_86 xmX9_30 rfl (f_cal (M := M) (us2 := []) [] hn rfl trivial rfl rfl rfl (c_X11_holdsBit hst hs   hq21)) (by decide) (Nat.le_of_ble_eq_true rfl) (Or.inl rfl) ?_
            show Ev g _ _ _ _ _ _ 89 [some (x_r (16 * 23 + 0)), some (x_r (16 * 3 + 0)), some (x_i v1), some (x_i v2), some (x_i v14), some (x_i v15), none] [x_i v21] (al, ro, fl (ml M [3, 23] [N, St16])) _ _ _ _
            obtain ⟨v23, hr23, hf19⟩ := x_bd1 hf19
            have hjhr23 : Ev g yX9_tradeAll cX9_tradeAll 7 none [] 4 102 [some (x_r (16 * 23 + 0)), some (x_r (16 * 3 + 0)), some (x_i v1), some (x_i v2), some (x_i v14), some (x_i v15), none] [x_i v23] (al, ro, fl (ml M [3, 23] [N, St16])) 0 0 (.inl none) (al, ro, fl (ml M [3, 23] [N, t])) := by
              refine e_istore (pc := 102) (i := 6) dX9_tradeAll_102 (by decide) rfl ?_
              show Ev g _ _ _ _ _ _ 104 [some (x_r (16 * 23 + 0)), some (x_r (16 * 3 + 0)), some (x_i v1), some (x_i v2), some (x_i v14), some (x_i v15), some (x_i v23)] [] (al, ro, fl (ml M [3, 23] [N, St16])) _ _ _ _
              refine e_iload (pc := 104) dX9_tradeAll_104 rfl ?_
              obtain ⟨v27, St28, hr28, hf19⟩ := x_bd2 hf19
              have hjhr28 : Ev g yX9_tradeAll cX9_tradeAll 7 none [] 4 141 [some (x_r (16 * 23 + 0)), some (x_r (16 * 3 + 0)), some (x_i v1), some (x_i v2), some (x_i v27), some (x_i v15), some (x_i v23)] [] (al, ro, fl (ml M [3, 23] [N, St28])) 0 0 (.inl none) (al, ro, fl (ml M [3, 23] [N, t])) := by
                refine e_iinc (pc := 141) dX9_tradeAll_141 rfl (by decide) rfl ?_
                show Ev g _ _ _ _ _ _ 144 [some (x_r (16 * 23 + 0)), some (x_r (16 * 3 + 0)), some (x_i v1), some (x_i v2), some (x_i v27), some (x_i (x_add v15 1)), some (x_i v23)] [] (al, ro, fl (ml M [3, 23] [N, St28])) _ _ _ _
                refine e_goto (pc := 144) (tgt := 67) dX9_tradeAll_144 (by decide) ?_
                cases hf19
                refine e_drop (i := 6) ?_
                exact hi19 _ rfl
              clear hf19
              refine e_if_le (pc := 106) (tgt := 141) dX9_tradeAll_106 (by decide) (fun hb => ?_) (fun hb => ?_)
              · rw [if_pos hb] at hr28
                cases hr28
                exact hjhr28
              · rw [if_neg hb] at hr28
                refine e_aloadn (pc := 109) (i := 0) dX9_tradeAll_109 rfl rfl ?_
                refine f_getr (pc := 110) (u := 23) (q := 0) dX9_tradeAll_110 xf9_18 (sa_23_0 hs) rfl (sr_23_0_2 hs) ?_
                refine e_iload (pc := 113) dX9_tradeAll_113 rfl ?_
                refine e_aloadn (pc := 115) (i := 0) dX9_tradeAll_115 rfl rfl ?_
                refine f_getr (pc := 116) (u := 23) (q := 0) dX9_tradeAll_116 xf9_15 (sa_23_0 hs) rfl (sr_23_0_1 hs) ?_
                refine e_iload (pc := 119) dX9_tradeAll_119 rfl ?_
                obtain ⟨hc0, hr28⟩ := x_gd_some hr28
                refine f_iald (pc := 121) (k := 1) (u := 23) (q := 2) (len := 7) dX9_tradeAll_121 (sa_23_2 hs) hc0 hn rfl rfl (by decide) ?_
                show Ev g _ _ _ _ _ _ 122 [some (x_r (16 * 23 + 0)), some (x_r (16 * 3 + 0)), some (x_i v1), some (x_i v2), some (x_i v14), some (x_i v15), some (x_i v23)] [x_i (St16 2 (v15).toNat), x_i v15, x_r (16 * 23 + 3)] (al, ro, fl (ml M [3, 23] [N, St16])) _ _ _ _
                obtain ⟨hc0, hr28⟩ := x_gd_some hr28
                refine f_iast (pc := 122) (k := 1) (u := 23) (q := 3) (len := 7) dX9_tradeAll_122 (sa_23_3 hs) hc0 hn rfl rfl rfl (by decide) ?_
                show Ev g _ _ _ _ _ _ 123 [some (x_r (16 * 23 + 0)), some (x_r (16 * 3 + 0)), some (x_i v1), some (x_i v2), some (x_i v14), some (x_i v15), some (x_i v23)] [] (al, ro, fl (ml M [3, 23] [N, (x_up St16 3 (v15).toNat (St16 2 (v15).toNat))])) _ _ _ _
                refine e_aloadn (pc := 123) (i := 0) dX9_tradeAll_123 rfl rfl ?_
                refine f_getr (pc := 124) (u := 23) (q := 0) dX9_tradeAll_124 xf9_21 (sa_23_0 hs) rfl (sr_23_0_3 hs) ?_
                refine e_iload (pc := 127) dX9_tradeAll_127 rfl ?_
                refine e_iload (pc := 129) dX9_tradeAll_129 rfl ?_
                obtain ⟨hc0, hr28⟩ := x_gd_some hr28
                refine f_iast (pc := 131) (k := 1) (u := 23) (q := 4) (len := 7) dX9_tradeAll_131 (sa_23_4 hs) hc0 hn rfl rfl rfl (by decide) ?_
                show Ev g _ _ _ _ _ _ 132 [some (x_r (16 * 23 + 0)), some (x_r (16 * 3 + 0)), some (x_i v1), some (x_i v2), some (x_i v14), some (x_i v15), some (x_i v23)] [] (al, ro, fl (ml M [3, 23] [N, (x_up (x_up St16 3 (v15).toNat (St16 2 (v15).toNat)) 4 (v15).toNat v23)])) _ _ _ _
                refine e_iload (pc := 132) dX9_tradeAll_132 rfl ?_
                refine e_iconst (pc := 134) dX9_tradeAll_134 (x_R rfl) ?_
                refine e_iload (pc := 135) dX9_tradeAll_135 rfl ?_
                refine e_ishl (pc := 137) dX9_tradeAll_137 ?_
                refine e_ior (pc := 138) dX9_tradeAll_138 ?_
                refine e_istore (pc := 139) (i := 4) dX9_tradeAll_139 (by decide) rfl ?_
                show Ev g _ _ _ _ _ _ 141 [some (x_r (16 * 23 + 0)), some (x_r (16 * 3 + 0)), some (x_i v1), some (x_i v2), some (x_i (x_or v14 (x_shl 1 v15))), some (x_i v15), some (x_i v23)] [] (al, ro, fl (ml M [3, 23] [N, (x_up (x_up St16 3 (v15).toNat (St16 2 (v15).toNat)) 4 (v15).toNat v23)])) _ _ _ _
                cases hr28
                exact hjhr28
            clear hf19
            refine e_if_eq (pc := 89) (tgt := 101) dX9_tradeAll_89 (by decide) (fun hb => ?_) (fun hb => ?_)
            · rw [if_pos hb] at hr23
              refine e_iconst (pc := 101) dX9_tradeAll_101 (x_R rfl) ?_
              cases hr23
              exact hjhr23
            · rw [if_neg hb] at hr23
              refine e_aloadn (pc := 92) (i := 0) dX9_tradeAll_92 rfl rfl ?_
              refine e_iload (pc := 93) dX9_tradeAll_93 rfl ?_
              obtain ⟨v25, hq25, hr23⟩ := x_bd1 hr23
              refine e_invV (pc := 95) (K1 := 0) (S1 := 0) (K := 0) (S := 0) (dd2 := 0) (av := [x_i v15]) (st := []) (id := 16 * 23 + 0) dX9_tradeAll_95 xmX9_68 rfl (Or.inl ⟨7, 4, TX9, (sa_23_0 hs), rfl, by decide⟩) (f_cal (M := M) (us2 := [23]) [1] hn rfl (And.intro rfl trivial) rfl rfl rfl (c_X9_ringOf hst hs   hq25)) (by decide) (Nat.le_of_ble_eq_true rfl) (Or.inl rfl) ?_
              show Ev g _ _ _ _ _ _ 98 [some (x_r (16 * 23 + 0)), some (x_r (16 * 3 + 0)), some (x_i v1), some (x_i v2), some (x_i v14), some (x_i v15), none] [x_i v25] (al, ro, fl (ml M [3, 23] [N, St16])) _ _ _ _
              refine e_goto (pc := 98) (tgt := 102) dX9_tradeAll_98 (by decide) ?_
              cases hr23
              exact hjhr23
      clear hf5
      refine e_whl (G9_tradeAll_L24 N v1) (fun z : (Int × xU) => Ev g yX9_tradeAll cX9_tradeAll 7 none [] 4 24 [some (x_r (16 * 23 + 0)), some (x_r (16 * 3 + 0)), some (x_i v1), some (x_i v2), some (x_i z.1), none, none] [] (al, ro, fl (ml M [3, 23] [N, z.2])) 0 0 (.inl none) (al, ro, fl (ml M [3, 23] [N, t]))) (fun q => q = St9) ?_ xFU (0, St3) _ hl10 rfl
      intro z t10 hf10 hi10 hx10
      obtain ⟨v7, St8⟩ := z
      rw [G9_tradeAll_L24] at hf10
      show Ev g _ _ _ _ _ _ 24 [some (x_r (16 * 23 + 0)), some (x_r (16 * 3 + 0)), some (x_i v1), some (x_i v2), some (x_i v7), none, none] [] (al, ro, fl (ml M [3, 23] [N, St8])) _ _ _ _
      refine e_iload (pc := 24) dX9_tradeAll_24 rfl ?_
      refine e_aloadn (pc := 26) (i := 1) dX9_tradeAll_26 rfl rfl ?_
      refine f_geti (pc := 27) (k := 0) (u := 3) (q := 0) dX9_tradeAll_27 xf9_24 (sa_3_0 hs) rfl hn rfl rfl (by decide) ?_
      show Ev g _ _ _ _ _ _ 30 [some (x_r (16 * 23 + 0)), some (x_r (16 * 3 + 0)), some (x_i v1), some (x_i v2), some (x_i v7), none, none] [x_i (N 0 3), x_i v7] (al, ro, fl (ml M [3, 23] [N, St8])) _ _ _ _
      refine e_icmp_ge (pc := 30) (tgt := 61) dX9_tradeAll_30 (by decide) (fun hb => ?_) (fun hb => ?_)
      · rw [if_pos hb] at hf10
        cases hf10
        refine e_drop (i := 4) ?_
        exact hk10 _ (hx10 _ rfl)
      · rw [if_neg hb] at hf10
        refine e_iload (pc := 33) dX9_tradeAll_33 rfl ?_
        refine e_bipush (pc := 35) dX9_tradeAll_35 (by decide +kernel) (x_R rfl) ?_
        refine e_icmp_ge (pc := 37) (tgt := 61) dX9_tradeAll_37 (by decide) (fun hb => ?_) (fun hb => ?_)
        · rw [if_pos hb] at hf10
          cases hf10
          refine e_drop (i := 4) ?_
          exact hk10 _ (hx10 _ rfl)
        · rw [if_neg hb] at hf10
          refine e_aloadn (pc := 40) (i := 0) dX9_tradeAll_40 rfl rfl ?_
          refine f_getr (pc := 41) (u := 23) (q := 0) dX9_tradeAll_41 xf9_15 (sa_23_0 hs) rfl (sr_23_0_1 hs) ?_
          refine e_iload (pc := 44) dX9_tradeAll_44 rfl ?_
          refine e_aloadn (pc := 46) (i := 0) dX9_tradeAll_46 rfl rfl ?_
          refine e_aloadn (pc := 47) (i := 1) dX9_tradeAll_47 rfl rfl ?_
          refine e_iload (pc := 48) dX9_tradeAll_48 rfl ?_
          refine e_iloadn (pc := 50) (i := 2) dX9_tradeAll_50 rfl rfl ?_
          obtain ⟨v12, hq12, hf10⟩ := x_bd1 hf10
          refine e_invV (pc := 51) (K1 := 0) (S1 := 0) (K := 0) (S := 0) (dd2 := 3) (av := [x_r (16 * 3 + 0), x_i v7, x_i v1]) (st := [x_i v7, x_r (16 * 23 + 2)]) (id := 16 * 23 + 0) dX9_tradeAll_51 xmX9_64 rfl (Or.inl ⟨7, 4, TX9, (sa_23_0 hs), rfl, by decide⟩) (f_cal (M := M) (us2 := [3]) [0] hn rfl (And.intro rfl trivial) rfl rfl rfl (c_X9_pointerOf hst hs   hq12)) (by decide) (Nat.le_of_ble_eq_true rfl) (Or.inl rfl) ?_
          show Ev g _ _ _ _ _ _ 54 [some (x_r (16 * 23 + 0)), some (x_r (16 * 3 + 0)), some (x_i v1), some (x_i v2), some (x_i v7), none, none] [x_i v12, x_i v7, x_r (16 * 23 + 2)] (al, ro, fl (ml M [3, 23] [N, St8])) _ _ _ _
          obtain ⟨hc0, hf10⟩ := x_gd_some hf10
          refine f_iast (pc := 54) (k := 1) (u := 23) (q := 2) (len := 7) dX9_tradeAll_54 (sa_23_2 hs) hc0 hn rfl rfl rfl (by decide) ?_
          show Ev g _ _ _ _ _ _ 55 [some (x_r (16 * 23 + 0)), some (x_r (16 * 3 + 0)), some (x_i v1), some (x_i v2), some (x_i v7), none, none] [] (al, ro, fl (ml M [3, 23] [N, (x_up St8 2 (v7).toNat v12)])) _ _ _ _
          refine e_iinc (pc := 55) dX9_tradeAll_55 rfl (by decide) rfl ?_
          show Ev g _ _ _ _ _ _ 58 [some (x_r (16 * 23 + 0)), some (x_r (16 * 3 + 0)), some (x_i v1), some (x_i v2), some (x_i (x_add v7 1)), none, none] [] (al, ro, fl (ml M [3, 23] [N, (x_up St8 2 (v7).toNat v12)])) _ _ _ _
          refine e_goto (pc := 58) (tgt := 24) dX9_tradeAll_58 (by decide) ?_
          cases hf10
          exact hi10 _ rfl
set_option maxRecDepth 100000 in
set_option maxHeartbeats 4000000 in
theorem c_X9_giverOf {g : xG} {al : List (Nat × Nat × Nat)} {ro : Nat → Nat → Option Nat} (hst : g.1.stackTraces = false) (hs : SH al ro) {M : Nat → xU} {a : Int} {St : xU}  {t : Int} (hG : G9_giverOf a St = some t) :
    Cal g yX9_giverOf cX9_giverOf 2 (some .int) 0 [x_r (16 * 23 + 0), x_i a] (al, ro, fl (ml M [23] [St])) 0 0 (.inl (some (x_i t))) (al, ro, fl (ml M [23] [St])) := by
  have hn : ([23] : List Nat).Nodup := by decide
  refine cal_of_ev (plainFor_of_name (by decide)) (x_c1 rfl) (Nat.le_of_ble_eq_true rfl) hst ?_
  show Ev g _ _ _ _ _ _ 0 [some (x_r (16 * 23 + 0)), some (x_i a)] [] (al, ro, fl (ml M [23] [St])) _ _ _ _
  rw [G9_giverOf] at hG
  refine e_iloadn (pc := 0) (i := 1) dX9_giverOf_0 rfl rfl ?_
  obtain ⟨v1, hr1, hG⟩ := x_bd1 hG
  have hjhr1 : Ev g yX9_giverOf cX9_giverOf 2 (some .int) [] 0 20 [some (x_r (16 * 23 + 0)), some (x_i a)] [x_i v1] (al, ro, fl (ml M [23] [St])) 0 0 (.inl (some (x_i t))) (al, ro, fl (ml M [23] [St])) := by
    cases hG
    exact (e_ireturn rfl dX9_giverOf_20 rfl)
  clear hG
  refine e_if_lt (pc := 1) (tgt := 19) dX9_giverOf_1 (by decide) (fun hb => ?_) (fun hb => ?_)
  · rw [if_pos hb] at hr1
    refine e_iconst (pc := 19) dX9_giverOf_19 (x_R rfl) ?_
    cases hr1
    exact hjhr1
  · rw [if_neg hb] at hr1
    refine e_iloadn (pc := 4) (i := 1) dX9_giverOf_4 rfl rfl ?_
    refine e_bipush (pc := 5) dX9_giverOf_5 (by decide +kernel) (x_R rfl) ?_
    refine e_icmp_ge (pc := 7) (tgt := 19) dX9_giverOf_7 (by decide) (fun hb => ?_) (fun hb => ?_)
    · rw [if_pos hb] at hr1
      refine e_iconst (pc := 19) dX9_giverOf_19 (x_R rfl) ?_
      cases hr1
      exact hjhr1
    · rw [if_neg hb] at hr1
      refine e_aloadn (pc := 10) (i := 0) dX9_giverOf_10 rfl rfl ?_
      refine f_getr (pc := 11) (u := 23) (q := 0) dX9_giverOf_11 xf9_18 (sa_23_0 hs) rfl (sr_23_0_2 hs) ?_
      refine e_iloadn (pc := 14) (i := 1) dX9_giverOf_14 rfl rfl ?_
      obtain ⟨hc0, hr1⟩ := x_gd_some hr1
      refine f_iald (pc := 15) (k := 0) (u := 23) (q := 3) (len := 7) dX9_giverOf_15 (sa_23_3 hs) hc0 hn rfl rfl (by decide) ?_
      show Ev g _ _ _ _ _ _ 16 [some (x_r (16 * 23 + 0)), some (x_i a)] [x_i (St 3 (a).toNat)] (al, ro, fl (ml M [23] [St])) _ _ _ _
      refine e_goto (pc := 16) (tgt := 20) dX9_giverOf_16 (by decide) ?_
      cases hr1
      exact hjhr1
set_option maxRecDepth 100000 in
set_option maxHeartbeats 4000000 in
theorem c_X9_ringSizeOf {g : xG} {al : List (Nat × Nat × Nat)} {ro : Nat → Nat → Option Nat} (hst : g.1.stackTraces = false) (hs : SH al ro) {M : Nat → xU} {a : Int} {St : xU}  {t : Int} (hG : G9_ringSizeOf a St = some t) :
    Cal g yX9_ringSizeOf cX9_ringSizeOf 2 (some .int) 0 [x_r (16 * 23 + 0), x_i a] (al, ro, fl (ml M [23] [St])) 0 0 (.inl (some (x_i t))) (al, ro, fl (ml M [23] [St])) := by
  have hn : ([23] : List Nat).Nodup := by decide
  refine cal_of_ev (plainFor_of_name (by decide)) (x_c1 rfl) (Nat.le_of_ble_eq_true rfl) hst ?_
  show Ev g _ _ _ _ _ _ 0 [some (x_r (16 * 23 + 0)), some (x_i a)] [] (al, ro, fl (ml M [23] [St])) _ _ _ _
  rw [G9_ringSizeOf] at hG
  refine e_iloadn (pc := 0) (i := 1) dX9_ringSizeOf_0 rfl rfl ?_
  obtain ⟨v1, hr1, hG⟩ := x_bd1 hG
  have hjhr1 : Ev g yX9_ringSizeOf cX9_ringSizeOf 2 (some .int) [] 0 20 [some (x_r (16 * 23 + 0)), some (x_i a)] [x_i v1] (al, ro, fl (ml M [23] [St])) 0 0 (.inl (some (x_i t))) (al, ro, fl (ml M [23] [St])) := by
    cases hG
    exact (e_ireturn rfl dX9_ringSizeOf_20 rfl)
  clear hG
  refine e_if_lt (pc := 1) (tgt := 19) dX9_ringSizeOf_1 (by decide) (fun hb => ?_) (fun hb => ?_)
  · rw [if_pos hb] at hr1
    refine e_iconst (pc := 19) dX9_ringSizeOf_19 (x_R rfl) ?_
    cases hr1
    exact hjhr1
  · rw [if_neg hb] at hr1
    refine e_iloadn (pc := 4) (i := 1) dX9_ringSizeOf_4 rfl rfl ?_
    refine e_bipush (pc := 5) dX9_ringSizeOf_5 (by decide +kernel) (x_R rfl) ?_
    refine e_icmp_ge (pc := 7) (tgt := 19) dX9_ringSizeOf_7 (by decide) (fun hb => ?_) (fun hb => ?_)
    · rw [if_pos hb] at hr1
      refine e_iconst (pc := 19) dX9_ringSizeOf_19 (x_R rfl) ?_
      cases hr1
      exact hjhr1
    · rw [if_neg hb] at hr1
      refine e_aloadn (pc := 10) (i := 0) dX9_ringSizeOf_10 rfl rfl ?_
      refine f_getr (pc := 11) (u := 23) (q := 0) dX9_ringSizeOf_11 xf9_21 (sa_23_0 hs) rfl (sr_23_0_3 hs) ?_
      refine e_iloadn (pc := 14) (i := 1) dX9_ringSizeOf_14 rfl rfl ?_
      obtain ⟨hc0, hr1⟩ := x_gd_some hr1
      refine f_iald (pc := 15) (k := 0) (u := 23) (q := 4) (len := 7) dX9_ringSizeOf_15 (sa_23_4 hs) hc0 hn rfl rfl (by decide) ?_
      show Ev g _ _ _ _ _ _ 16 [some (x_r (16 * 23 + 0)), some (x_i a)] [x_i (St 4 (a).toNat)] (al, ro, fl (ml M [23] [St])) _ _ _ _
      refine e_goto (pc := 16) (tgt := 20) dX9_ringSizeOf_16 (by decide) ?_
      cases hr1
      exact hjhr1
set_option maxRecDepth 100000 in
set_option maxHeartbeats 4000000 in
theorem c_X10_kindOf {g : xG} {al : List (Nat × Nat × Nat)} {ro : Nat → Nat → Option Nat} (hst : g.1.stackTraces = false) (hs : SH al ro) {M : Nat → xU} {a : Int}  {t : Int} (hG : G10_kindOf a = some t) :
    Cal g yX10_kindOf cX10_kindOf 1 (some .int) 0 [x_i a] (al, ro, fl (ml M [] [])) 0 0 (.inl (some (x_i t))) (al, ro, fl (ml M [] [])) := by
  have hn : ([] : List Nat).Nodup := by decide
  refine cal_of_ev (plainFor_of_name (by decide)) (x_c1 rfl) (Nat.le_of_ble_eq_true rfl) hst ?_
  show Ev g _ _ _ _ _ _ 0 [some (x_i a)] [] (al, ro, fl (ml M [] [])) _ _ _ _
  rw [G10_kindOf] at hG
  refine e_iloadn (pc := 0) (i := 0) dX10_kindOf_0 rfl rfl ?_
  refine e_bipush (pc := 1) dX10_kindOf_1 (by decide +kernel) (x_R rfl) ?_
  refine e_icmp_lt (pc := 3) (tgt := 14) dX10_kindOf_3 (by decide) (fun hb => ?_) (fun hb => ?_)
  · rw [if_pos hb] at hG
    refine e_iloadn (pc := 14) (i := 0) dX10_kindOf_14 rfl rfl ?_
    refine e_bipush (pc := 15) dX10_kindOf_15 (by decide +kernel) (x_R rfl) ?_
    refine e_icmp_lt (pc := 17) (tgt := 28) dX10_kindOf_17 (by decide) (fun hb => ?_) (fun hb => ?_)
    · rw [if_pos hb] at hG
      refine e_iloadn (pc := 28) (i := 0) dX10_kindOf_28 rfl rfl ?_
      refine e_bipush (pc := 29) dX10_kindOf_29 (by decide +kernel) (x_R rfl) ?_
      obtain ⟨v1, hr1, hG⟩ := x_bd1 hG
      have hjhr1 : Ev g yX10_kindOf cX10_kindOf 1 (some .int) [] 0 39 [some (x_i a)] [x_i v1] (al, ro, fl (ml M [] [])) 0 0 (.inl (some (x_i t))) (al, ro, fl (ml M [] [])) := by
        cases hG
        exact (e_ireturn rfl dX10_kindOf_39 rfl)
      clear hG
      refine e_icmp_ne (pc := 31) (tgt := 38) dX10_kindOf_31 (by decide) (fun hb => ?_) (fun hb => ?_)
      · rw [if_neg hb] at hr1
        refine e_iconst (pc := 38) dX10_kindOf_38 (x_R rfl) ?_
        cases hr1
        exact hjhr1
      · rw [if_pos hb] at hr1
        refine e_iconst (pc := 34) dX10_kindOf_34 (x_R rfl) ?_
        refine e_goto (pc := 35) (tgt := 39) dX10_kindOf_35 (by decide) ?_
        cases hr1
        exact hjhr1
    · rw [if_neg hb] at hG
      refine e_iloadn (pc := 20) (i := 0) dX10_kindOf_20 rfl rfl ?_
      refine e_bipush (pc := 21) dX10_kindOf_21 (by decide +kernel) (x_R rfl) ?_
      refine e_icmp_gt (pc := 23) (tgt := 28) dX10_kindOf_23 (by decide) (fun hb => ?_) (fun hb => ?_)
      · rw [if_pos hb] at hG
        refine e_iloadn (pc := 28) (i := 0) dX10_kindOf_28 rfl rfl ?_
        refine e_bipush (pc := 29) dX10_kindOf_29 (by decide +kernel) (x_R rfl) ?_
        obtain ⟨v3, hr3, hG⟩ := x_bd1 hG
        have hjhr3 : Ev g yX10_kindOf cX10_kindOf 1 (some .int) [] 0 39 [some (x_i a)] [x_i v3] (al, ro, fl (ml M [] [])) 0 0 (.inl (some (x_i t))) (al, ro, fl (ml M [] [])) := by
          cases hG
          exact (e_ireturn rfl dX10_kindOf_39 rfl)
        clear hG
        refine e_icmp_ne (pc := 31) (tgt := 38) dX10_kindOf_31 (by decide) (fun hb => ?_) (fun hb => ?_)
        · rw [if_neg hb] at hr3
          refine e_iconst (pc := 38) dX10_kindOf_38 (x_R rfl) ?_
          cases hr3
          exact hjhr3
        · rw [if_pos hb] at hr3
          refine e_iconst (pc := 34) dX10_kindOf_34 (x_R rfl) ?_
          refine e_goto (pc := 35) (tgt := 39) dX10_kindOf_35 (by decide) ?_
          cases hr3
          exact hjhr3
      · rw [if_neg hb] at hG
        refine e_iconst (pc := 26) dX10_kindOf_26 (x_R rfl) ?_
        cases hG
        exact (e_ireturn rfl dX10_kindOf_27 rfl)
  · rw [if_neg hb] at hG
    refine e_iloadn (pc := 6) (i := 0) dX10_kindOf_6 rfl rfl ?_
    refine e_bipush (pc := 7) dX10_kindOf_7 (by decide +kernel) (x_R rfl) ?_
    refine e_icmp_gt (pc := 9) (tgt := 14) dX10_kindOf_9 (by decide) (fun hb => ?_) (fun hb => ?_)
    · rw [if_pos hb] at hG
      refine e_iloadn (pc := 14) (i := 0) dX10_kindOf_14 rfl rfl ?_
      refine e_bipush (pc := 15) dX10_kindOf_15 (by decide +kernel) (x_R rfl) ?_
      refine e_icmp_lt (pc := 17) (tgt := 28) dX10_kindOf_17 (by decide) (fun hb => ?_) (fun hb => ?_)
      · rw [if_pos hb] at hG
        refine e_iloadn (pc := 28) (i := 0) dX10_kindOf_28 rfl rfl ?_
        refine e_bipush (pc := 29) dX10_kindOf_29 (by decide +kernel) (x_R rfl) ?_
        obtain ⟨v5, hr5, hG⟩ := x_bd1 hG
        have hjhr5 : Ev g yX10_kindOf cX10_kindOf 1 (some .int) [] 0 39 [some (x_i a)] [x_i v5] (al, ro, fl (ml M [] [])) 0 0 (.inl (some (x_i t))) (al, ro, fl (ml M [] [])) := by
          cases hG
          exact (e_ireturn rfl dX10_kindOf_39 rfl)
        clear hG
        refine e_icmp_ne (pc := 31) (tgt := 38) dX10_kindOf_31 (by decide) (fun hb => ?_) (fun hb => ?_)
        · rw [if_neg hb] at hr5
          refine e_iconst (pc := 38) dX10_kindOf_38 (x_R rfl) ?_
          cases hr5
          exact hjhr5
        · rw [if_pos hb] at hr5
          refine e_iconst (pc := 34) dX10_kindOf_34 (x_R rfl) ?_
          refine e_goto (pc := 35) (tgt := 39) dX10_kindOf_35 (by decide) ?_
          cases hr5
          exact hjhr5
      · rw [if_neg hb] at hG
        refine e_iloadn (pc := 20) (i := 0) dX10_kindOf_20 rfl rfl ?_
        refine e_bipush (pc := 21) dX10_kindOf_21 (by decide +kernel) (x_R rfl) ?_
        refine e_icmp_gt (pc := 23) (tgt := 28) dX10_kindOf_23 (by decide) (fun hb => ?_) (fun hb => ?_)
        · rw [if_pos hb] at hG
          refine e_iloadn (pc := 28) (i := 0) dX10_kindOf_28 rfl rfl ?_
          refine e_bipush (pc := 29) dX10_kindOf_29 (by decide +kernel) (x_R rfl) ?_
          obtain ⟨v7, hr7, hG⟩ := x_bd1 hG
          have hjhr7 : Ev g yX10_kindOf cX10_kindOf 1 (some .int) [] 0 39 [some (x_i a)] [x_i v7] (al, ro, fl (ml M [] [])) 0 0 (.inl (some (x_i t))) (al, ro, fl (ml M [] [])) := by
            cases hG
            exact (e_ireturn rfl dX10_kindOf_39 rfl)
          clear hG
          refine e_icmp_ne (pc := 31) (tgt := 38) dX10_kindOf_31 (by decide) (fun hb => ?_) (fun hb => ?_)
          · rw [if_neg hb] at hr7
            refine e_iconst (pc := 38) dX10_kindOf_38 (x_R rfl) ?_
            cases hr7
            exact hjhr7
          · rw [if_pos hb] at hr7
            refine e_iconst (pc := 34) dX10_kindOf_34 (x_R rfl) ?_
            refine e_goto (pc := 35) (tgt := 39) dX10_kindOf_35 (by decide) ?_
            cases hr7
            exact hjhr7
        · rw [if_neg hb] at hG
          refine e_iconst (pc := 26) dX10_kindOf_26 (x_R rfl) ?_
          cases hG
          exact (e_ireturn rfl dX10_kindOf_27 rfl)
    · rw [if_neg hb] at hG
      refine e_iconst (pc := 12) dX10_kindOf_12 (x_R rfl) ?_
      cases hG
      exact (e_ireturn rfl dX10_kindOf_13 rfl)
set_option maxRecDepth 100000 in
set_option maxHeartbeats 4000000 in
theorem c_X10_addNumber {g : xG} {al : List (Nat × Nat × Nat)} {ro : Nat → Nat → Option Nat} (hst : g.1.stackTraces = false) (hs : SH al ro) {M : Nat → xU} {a : Int} {T : xU}  {t : xU} (hG : G10_addNumber a T = some t) :
    Cal g yX10_addNumber cX10_addNumber 3 none 1 [x_r (16 * 2 + 0), x_i a] (al, ro, fl (ml M [2] [T])) 0 0 (.inl none) (al, ro, fl (ml M [2] [t])) := by
  have hn : ([2] : List Nat).Nodup := by decide
  refine cal_of_ev (plainFor_of_name (by decide)) (x_c1 rfl) (Nat.le_of_ble_eq_true rfl) hst ?_
  show Ev g _ _ _ _ _ _ 0 [some (x_r (16 * 2 + 0)), some (x_i a), none] [] (al, ro, fl (ml M [2] [T])) _ _ _ _
  rw [G10_addNumber] at hG
  refine e_bipush (pc := 0) dX10_addNumber_0 (by decide +kernel) (x_R rfl) ?_
  refine e_istoren (pc := 2) (i := 2) dX10_addNumber_2 rfl (by decide) rfl ?_
  show Ev g _ _ _ _ _ _ 3 [some (x_r (16 * 2 + 0)), some (x_i a), some (x_i 24)] [] (al, ro, fl (ml M [2] [T])) _ _ _ _
  obtain ⟨T3, hl4, hG⟩ := x_bd1 hG
  have hk4 : ∀ q : xU, q = T3 → Ev g yX10_addNumber cX10_addNumber 3 none [] 1 77 [some (x_r (16 * 2 + 0)), some (x_i a), none] [] (al, ro, fl (ml M [2] [q])) 0 0 (.inl none) (al, ro, fl (ml M [2] [t])) := by
    intro q hq
    replace hq := hq.symm
    subst hq
    cases hG
    exact (e_return rfl dX10_addNumber_77)
  clear hG
  refine e_whl (G10_addNumber_L3 a) (fun z : (Int × xU) => Ev g yX10_addNumber cX10_addNumber 3 none [] 1 3 [some (x_r (16 * 2 + 0)), some (x_i a), some (x_i z.1)] [] (al, ro, fl (ml M [2] [z.2])) 0 0 (.inl none) (al, ro, fl (ml M [2] [t]))) (fun q => q = T3) ?_ xFU (24, T) _ hl4 rfl
  intro z t4 hf4 hi4 hx4
  obtain ⟨v1, T2⟩ := z
  rw [G10_addNumber_L3] at hf4
  show Ev g _ _ _ _ _ _ 3 [some (x_r (16 * 2 + 0)), some (x_i a), some (x_i v1)] [] (al, ro, fl (ml M [2] [T2])) _ _ _ _
  refine e_iloadn (pc := 3) (i := 2) dX10_addNumber_3 rfl rfl ?_
  refine e_if_lt (pc := 4) (tgt := 77) dX10_addNumber_4 (by decide) (fun hb => ?_) (fun hb => ?_)
  · rw [if_pos hb] at hf4
    cases hf4
    refine e_drop (i := 2) ?_
    exact hk4 _ (hx4 _ rfl)
  · rw [if_neg hb] at hf4
    refine e_aloadn (pc := 7) (i := 0) dX10_addNumber_7 rfl rfl ?_
    refine f_geti (pc := 8) (k := 0) (u := 2) (q := 0) dX10_addNumber_8 xf10_22 (sa_2_0 hs) rfl hn rfl rfl (by decide) ?_
    show Ev g _ _ _ _ _ _ 11 [some (x_r (16 * 2 + 0)), some (x_i a), some (x_i v1)] [x_i (T2 0 2)] (al, ro, fl (ml M [2] [T2])) _ _ _ _
    obtain ⟨T6, hr6, hf4⟩ := x_bd1 hf4
    have hjhr6 : Ev g yX10_addNumber cX10_addNumber 3 none [] 1 71 [some (x_r (16 * 2 + 0)), some (x_i a), some (x_i v1)] [] (al, ro, fl (ml M [2] [T6])) 0 0 (.inl none) (al, ro, fl (ml M [2] [t])) := by
      refine e_iinc (pc := 71) dX10_addNumber_71 rfl (by decide) rfl ?_
      show Ev g _ _ _ _ _ _ 74 [some (x_r (16 * 2 + 0)), some (x_i a), some (x_i (x_add v1 (-8)))] [] (al, ro, fl (ml M [2] [T6])) _ _ _ _
      refine e_goto (pc := 74) (tgt := 3) dX10_addNumber_74 (by decide) ?_
      cases hf4
      exact hi4 _ rfl
    clear hf4
    refine e_if_lt (pc := 11) (tgt := 71) dX10_addNumber_11 (by decide) (fun hb => ?_) (fun hb => ?_)
    · rw [if_pos hb] at hr6
      cases hr6
      exact hjhr6
    · rw [if_neg hb] at hr6
      refine e_aloadn (pc := 14) (i := 0) dX10_addNumber_14 rfl rfl ?_
      refine f_geti (pc := 15) (k := 0) (u := 2) (q := 0) dX10_addNumber_15 xf10_22 (sa_2_0 hs) rfl hn rfl rfl (by decide) ?_
      show Ev g _ _ _ _ _ _ 18 [some (x_r (16 * 2 + 0)), some (x_i a), some (x_i v1)] [x_i (T2 0 2)] (al, ro, fl (ml M [2] [T2])) _ _ _ _
      refine e_sipush (pc := 18) dX10_addNumber_18 (by decide +kernel) (x_R rfl) ?_
      refine e_icmp_ge (pc := 21) (tgt := 71) dX10_addNumber_21 (by decide) (fun hb => ?_) (fun hb => ?_)
      · rw [if_pos hb] at hr6
        cases hr6
        exact hjhr6
      · rw [if_neg hb] at hr6
        refine e_aloadn (pc := 24) (i := 0) dX10_addNumber_24 rfl rfl ?_
        refine f_getr (pc := 25) (u := 2) (q := 0) dX10_addNumber_25 xf10_9 (sa_2_0 hs) rfl (sr_2_0_0 hs) ?_
        refine e_aloadn (pc := 28) (i := 0) dX10_addNumber_28 rfl rfl ?_
        refine f_geti (pc := 29) (k := 0) (u := 2) (q := 0) dX10_addNumber_29 xf10_22 (sa_2_0 hs) rfl hn rfl rfl (by decide) ?_
        show Ev g _ _ _ _ _ _ 32 [some (x_r (16 * 2 + 0)), some (x_i a), some (x_i v1)] [x_i (T2 0 2), x_r (16 * 2 + 1)] (al, ro, fl (ml M [2] [T2])) _ _ _ _
        refine e_iloadn (pc := 32) (i := 1) dX10_addNumber_32 rfl rfl ?_
        refine e_iloadn (pc := 33) (i := 2) dX10_addNumber_33 rfl rfl ?_
        refine e_ishr (pc := 34) dX10_addNumber_34 ?_
        refine e_sipush (pc := 35) dX10_addNumber_35 (by decide +kernel) (x_R rfl) ?_
        refine e_iand (pc := 38) dX10_addNumber_38 ?_
        obtain ⟨hc0, hr6⟩ := x_gd_some hr6
        refine f_iast (pc := 39) (k := 0) (u := 2) (q := 1) (len := 400) dX10_addNumber_39 (sa_2_1 hs) hc0 hn rfl rfl rfl (by decide) ?_
        show Ev g _ _ _ _ _ _ 40 [some (x_r (16 * 2 + 0)), some (x_i a), some (x_i v1)] [] (al, ro, fl (ml M [2] [(x_up T2 1 ((T2 0 2)).toNat (x_and (x_shr a v1) 255))])) _ _ _ _
        refine e_aloadn (pc := 40) (i := 0) dX10_addNumber_40 rfl rfl ?_
        refine f_getr (pc := 41) (u := 2) (q := 0) dX10_addNumber_41 xf10_15 (sa_2_0 hs) rfl (sr_2_0_1 hs) ?_
        refine e_aloadn (pc := 44) (i := 0) dX10_addNumber_44 rfl rfl ?_
        refine f_geti (pc := 45) (k := 0) (u := 2) (q := 0) dX10_addNumber_45 xf10_22 (sa_2_0 hs) rfl hn rfl rfl (by decide) ?_
        show Ev g _ _ _ _ _ _ 48 [some (x_r (16 * 2 + 0)), some (x_i a), some (x_i v1)] [x_i ((x_up T2 1 ((T2 0 2)).toNat (x_and (x_shr a v1) 255)) 0 2), x_r (16 * 2 + 2)] (al, ro, fl (ml M [2] [(x_up T2 1 ((T2 0 2)).toNat (x_and (x_shr a v1) 255))])) _ _ _ _
        refine e_aloadn (pc := 48) (i := 0) dX10_addNumber_48 rfl rfl ?_
        refine f_getr (pc := 49) (u := 2) (q := 0) dX10_addNumber_49 xf10_9 (sa_2_0 hs) rfl (sr_2_0_0 hs) ?_
        refine e_aloadn (pc := 52) (i := 0) dX10_addNumber_52 rfl rfl ?_
        refine f_geti (pc := 53) (k := 0) (u := 2) (q := 0) dX10_addNumber_53 xf10_22 (sa_2_0 hs) rfl hn rfl rfl (by decide) ?_
        show Ev g _ _ _ _ _ _ 56 [some (x_r (16 * 2 + 0)), some (x_i a), some (x_i v1)] [x_i ((x_up T2 1 ((T2 0 2)).toNat (x_and (x_shr a v1) 255)) 0 2), x_r (16 * 2 + 1), x_i ((x_up T2 1 ((T2 0 2)).toNat (x_and (x_shr a v1) 255)) 0 2), x_r (16 * 2 + 2)] (al, ro, fl (ml M [2] [(x_up T2 1 ((T2 0 2)).toNat (x_and (x_shr a v1) 255))])) _ _ _ _
        obtain ⟨hc0, hr6⟩ := x_gd_some hr6
        refine f_iald (pc := 56) (k := 0) (u := 2) (q := 1) (len := 400) dX10_addNumber_56 (sa_2_1 hs) hc0 hn rfl rfl (by decide) ?_
        show Ev g _ _ _ _ _ _ 57 [some (x_r (16 * 2 + 0)), some (x_i a), some (x_i v1)] [x_i ((x_up T2 1 ((T2 0 2)).toNat (x_and (x_shr a v1) 255)) 1 (((x_up T2 1 ((T2 0 2)).toNat (x_and (x_shr a v1) 255)) 0 2)).toNat), x_i ((x_up T2 1 ((T2 0 2)).toNat (x_and (x_shr a v1) 255)) 0 2), x_r (16 * 2 + 2)] (al, ro, fl (ml M [2] [(x_up T2 1 ((T2 0 2)).toNat (x_and (x_shr a v1) 255))])) _ _ _ _
        obtain ⟨v8, hq8, hr6⟩ := x_bd1 hr6
        refine e_invS (pc := 57) (K1 := 0) (S1 := 0) (K := 0) (S := 0) (dd2 := 0) (av := [x_i ((x_up T2 1 ((T2 0 2)).toNat (x_and (x_shr a v1) 255)) 1 (((x_up T2 1 ((T2 0 2)).toNat (x_and (x_shr a v1) 255)) 0 2)).toNat)]) (st := [x_i ((x_up T2 1 ((T2 0 2)).toNat (x_and (x_shr a v1) 255)) 0 2), x_r (16 * 2 + 2)]) dX10_addNumber_57 xmX10_25 rfl (f_cal (M := M) (us2 := []) [] hn rfl trivial rfl rfl rfl (c_X10_kindOf hst hs   hq8)) (by decide) (Nat.le_of_ble_eq_true rfl) (Or.inl rfl) ?_
        show Ev g _ _ _ _ _ _ 60 [some (x_r (16 * 2 + 0)), some (x_i a), some (x_i v1)] [x_i v8, x_i ((x_up T2 1 ((T2 0 2)).toNat (x_and (x_shr a v1) 255)) 0 2), x_r (16 * 2 + 2)] (al, ro, fl (ml M [2] [(x_up T2 1 ((T2 0 2)).toNat (x_and (x_shr a v1) 255))])) _ _ _ _
        obtain ⟨hc0, hr6⟩ := x_gd_some hr6
        refine f_iast (pc := 60) (k := 0) (u := 2) (q := 2) (len := 400) dX10_addNumber_60 (sa_2_2 hs) hc0 hn rfl rfl rfl (by decide) ?_
        show Ev g _ _ _ _ _ _ 61 [some (x_r (16 * 2 + 0)), some (x_i a), some (x_i v1)] [] (al, ro, fl (ml M [2] [(x_up (x_up T2 1 ((T2 0 2)).toNat (x_and (x_shr a v1) 255)) 2 (((x_up T2 1 ((T2 0 2)).toNat (x_and (x_shr a v1) 255)) 0 2)).toNat v8)])) _ _ _ _
        refine e_aloadn (pc := 61) (i := 0) dX10_addNumber_61 rfl rfl ?_
        refine e_dup (pc := 62) dX10_addNumber_62 rfl ?_
        refine f_geti (pc := 63) (k := 0) (u := 2) (q := 0) dX10_addNumber_63 xf10_22 (sa_2_0 hs) rfl hn rfl rfl (by decide) ?_
        show Ev g _ _ _ _ _ _ 66 [some (x_r (16 * 2 + 0)), some (x_i a), some (x_i v1)] [x_i ((x_up (x_up T2 1 ((T2 0 2)).toNat (x_and (x_shr a v1) 255)) 2 (((x_up T2 1 ((T2 0 2)).toNat (x_and (x_shr a v1) 255)) 0 2)).toNat v8) 0 2), x_r (16 * 2 + 0)] (al, ro, fl (ml M [2] [(x_up (x_up T2 1 ((T2 0 2)).toNat (x_and (x_shr a v1) 255)) 2 (((x_up T2 1 ((T2 0 2)).toNat (x_and (x_shr a v1) 255)) 0 2)).toNat v8)])) _ _ _ _
        refine e_iconst (pc := 66) dX10_addNumber_66 (x_R rfl) ?_
        refine e_iadd (pc := 67) dX10_addNumber_67 ?_
        refine f_puti (pc := 68) (k := 0) (u := 2) (q := 0) dX10_addNumber_68 xf10_22 xw8_2 (sa_2_0 hs) hn rfl rfl rfl (by decide) ?_
        show Ev g _ _ _ _ _ _ 71 [some (x_r (16 * 2 + 0)), some (x_i a), some (x_i v1)] [] (al, ro, fl (ml M [2] [(x_up (x_up (x_up T2 1 ((T2 0 2)).toNat (x_and (x_shr a v1) 255)) 2 (((x_up T2 1 ((T2 0 2)).toNat (x_and (x_shr a v1) 255)) 0 2)).toNat v8) 0 2 (x_add ((x_up (x_up T2 1 ((T2 0 2)).toNat (x_and (x_shr a v1) 255)) 2 (((x_up T2 1 ((T2 0 2)).toNat (x_and (x_shr a v1) 255)) 0 2)).toNat v8) 0 2) 1))])) _ _ _ _
        cases hr6
        exact hjhr6
set_option maxRecDepth 100000 in
set_option maxHeartbeats 4000000 in
theorem c_X10_useUp {g : xG} {al : List (Nat × Nat × Nat)} {ro : Nat → Nat → Option Nat} (hst : g.1.stackTraces = false) (hs : SH al ro) {M : Nat → xU} {T : xU}  {t : xU} (hG : G10_useUp T = some t) :
    Cal g yX10_useUp cX10_useUp 1 none 0 [x_r (16 * 2 + 0)] (al, ro, fl (ml M [2] [T])) 0 0 (.inl none) (al, ro, fl (ml M [2] [t])) := by
  have hn : ([2] : List Nat).Nodup := by decide
  refine cal_of_ev (plainFor_of_name (by decide)) (x_c1 rfl) (Nat.le_of_ble_eq_true rfl) hst ?_
  show Ev g _ _ _ _ _ _ 0 [some (x_r (16 * 2 + 0))] [] (al, ro, fl (ml M [2] [T])) _ _ _ _
  rw [G10_useUp] at hG
  refine e_aloadn (pc := 0) (i := 0) dX10_useUp_0 rfl rfl ?_
  refine e_iconst (pc := 1) dX10_useUp_1 (x_R rfl) ?_
  refine f_puti (pc := 2) (k := 0) (u := 2) (q := 0) dX10_useUp_2 xf10_22 xw8_2 (sa_2_0 hs) hn rfl rfl rfl (by decide) ?_
  show Ev g _ _ _ _ _ _ 5 [some (x_r (16 * 2 + 0))] [] (al, ro, fl (ml M [2] [(x_up T 0 2 0)])) _ _ _ _
  cases hG
  exact (e_return rfl dX10_useUp_5)
set_option maxRecDepth 100000 in
set_option maxHeartbeats 4000000 in
theorem c_X11_feed {g : xG} {al : List (Nat × Nat × Nat)} {ro : Nat → Nat → Option Nat} (hst : g.1.stackTraces = false) (hs : SH al ro) {M : Nat → xU} {a : Int} {b : Int} {c : Int} {d : Int} {e : Int} {T : xU}  {t : (Int × xU)} (hG : G11_feed a b c d e T = some t) :
    Cal g yX11_feed cX11_feed 6 (some .int) 2 [x_r (16 * 1 + 0), x_i a, x_i b, x_i c, x_i d, x_i e] (al, ro, fl (ml M [2] [T])) 0 0 (.inl (some (x_i t.1))) (al, ro, fl (ml M [2] [t.2])) := by
  have hn : ([2] : List Nat).Nodup := by decide
  refine cal_of_ev (plainFor_of_name (by decide)) (x_c1 rfl) (Nat.le_of_ble_eq_true rfl) hst ?_
  show Ev g _ _ _ _ _ _ 0 [some (x_r (16 * 1 + 0)), some (x_i a), some (x_i b), some (x_i c), some (x_i d), some (x_i e)] [] (al, ro, fl (ml M [2] [T])) _ _ _ _
  rw [G11_feed] at hG
  refine e_aloadn (pc := 0) (i := 0) dX11_feed_0 rfl rfl ?_
  refine f_getr (pc := 1) (u := 1) (q := 0) dX11_feed_1 xf11_10 (sa_1_0 hs) rfl (sr_1_0_0 hs) ?_
  refine f_geti (pc := 4) (k := 0) (u := 2) (q := 0) dX11_feed_4 xf11_85 (sa_2_0 hs) rfl hn rfl rfl (by decide) ?_
  show Ev g _ _ _ _ _ _ 7 [some (x_r (16 * 1 + 0)), some (x_i a), some (x_i b), some (x_i c), some (x_i d), some (x_i e)] [x_i (T 0 2)] (al, ro, fl (ml M [2] [T])) _ _ _ _
  refine e_bipush (pc := 7) dX11_feed_7 (by decide +kernel) (x_R rfl) ?_
  refine e_iadd (pc := 9) dX11_feed_9 ?_
  refine e_sipush (pc := 10) dX11_feed_10 (by decide +kernel) (x_R rfl) ?_
  refine e_icmp_le (pc := 13) (tgt := 18) dX11_feed_13 (by decide) (fun hb => ?_) (fun hb => ?_)
  · rw [if_pos hb] at hG
    refine e_aloadn (pc := 18) (i := 0) dX11_feed_18 rfl rfl ?_
    refine f_getr (pc := 19) (u := 1) (q := 0) dX11_feed_19 xf11_10 (sa_1_0 hs) rfl (sr_1_0_0 hs) ?_
    refine e_iloadn (pc := 22) (i := 1) dX11_feed_22 rfl rfl ?_
    obtain ⟨T1, hq1, hG⟩ := x_bd1 hG
    refine e_invV (pc := 23) (K1 := 0) (S1 := 0) (K := 0) (S := 0) (dd2 := 1) (av := [x_i a]) (st := []) (id := 16 * 2 + 0) dX11_feed_23 xmX11_88 rfl (Or.inl ⟨8, 8, TX10, (sa_2_0 hs), rfl, by decide⟩) (f_cal (M := M) (us2 := [2]) [0] hn rfl (And.intro rfl trivial) rfl rfl rfl (c_X10_addNumber hst hs   hq1)) (by decide) (Nat.le_of_ble_eq_true rfl) (Or.inl rfl) ?_
    show Ev g _ _ _ _ _ _ 26 [some (x_r (16 * 1 + 0)), some (x_i a), some (x_i b), some (x_i c), some (x_i d), some (x_i e)] [] (al, ro, fl (ml M [2] [T1])) _ _ _ _
    refine e_aloadn (pc := 26) (i := 0) dX11_feed_26 rfl rfl ?_
    refine f_getr (pc := 27) (u := 1) (q := 0) dX11_feed_27 xf11_10 (sa_1_0 hs) rfl (sr_1_0_0 hs) ?_
    refine e_iloadn (pc := 30) (i := 2) dX11_feed_30 rfl rfl ?_
    obtain ⟨T3, hq3, hG⟩ := x_bd1 hG
    refine e_invV (pc := 31) (K1 := 0) (S1 := 0) (K := 0) (S := 0) (dd2 := 1) (av := [x_i b]) (st := []) (id := 16 * 2 + 0) dX11_feed_31 xmX11_88 rfl (Or.inl ⟨8, 8, TX10, (sa_2_0 hs), rfl, by decide⟩) (f_cal (M := M) (us2 := [2]) [0] hn rfl (And.intro rfl trivial) rfl rfl rfl (c_X10_addNumber hst hs   hq3)) (by decide) (Nat.le_of_ble_eq_true rfl) (Or.inl rfl) ?_
    show Ev g _ _ _ _ _ _ 34 [some (x_r (16 * 1 + 0)), some (x_i a), some (x_i b), some (x_i c), some (x_i d), some (x_i e)] [] (al, ro, fl (ml M [2] [T3])) _ _ _ _
    refine e_aloadn (pc := 34) (i := 0) dX11_feed_34 rfl rfl ?_
    refine f_getr (pc := 35) (u := 1) (q := 0) dX11_feed_35 xf11_10 (sa_1_0 hs) rfl (sr_1_0_0 hs) ?_
    refine e_iloadn (pc := 38) (i := 3) dX11_feed_38 rfl rfl ?_
    obtain ⟨T5, hq5, hG⟩ := x_bd1 hG
    refine e_invV (pc := 39) (K1 := 0) (S1 := 0) (K := 0) (S := 0) (dd2 := 1) (av := [x_i c]) (st := []) (id := 16 * 2 + 0) dX11_feed_39 xmX11_88 rfl (Or.inl ⟨8, 8, TX10, (sa_2_0 hs), rfl, by decide⟩) (f_cal (M := M) (us2 := [2]) [0] hn rfl (And.intro rfl trivial) rfl rfl rfl (c_X10_addNumber hst hs   hq5)) (by decide) (Nat.le_of_ble_eq_true rfl) (Or.inl rfl) ?_
    show Ev g _ _ _ _ _ _ 42 [some (x_r (16 * 1 + 0)), some (x_i a), some (x_i b), some (x_i c), some (x_i d), some (x_i e)] [] (al, ro, fl (ml M [2] [T5])) _ _ _ _
    refine e_aloadn (pc := 42) (i := 0) dX11_feed_42 rfl rfl ?_
    refine f_getr (pc := 43) (u := 1) (q := 0) dX11_feed_43 xf11_10 (sa_1_0 hs) rfl (sr_1_0_0 hs) ?_
    refine e_iload (pc := 46) dX11_feed_46 rfl ?_
    obtain ⟨T7, hq7, hG⟩ := x_bd1 hG
    refine e_invV (pc := 48) (K1 := 0) (S1 := 0) (K := 0) (S := 0) (dd2 := 1) (av := [x_i d]) (st := []) (id := 16 * 2 + 0) dX11_feed_48 xmX11_88 rfl (Or.inl ⟨8, 8, TX10, (sa_2_0 hs), rfl, by decide⟩) (f_cal (M := M) (us2 := [2]) [0] hn rfl (And.intro rfl trivial) rfl rfl rfl (c_X10_addNumber hst hs   hq7)) (by decide) (Nat.le_of_ble_eq_true rfl) (Or.inl rfl) ?_
    show Ev g _ _ _ _ _ _ 51 [some (x_r (16 * 1 + 0)), some (x_i a), some (x_i b), some (x_i c), some (x_i d), some (x_i e)] [] (al, ro, fl (ml M [2] [T7])) _ _ _ _
    refine e_aloadn (pc := 51) (i := 0) dX11_feed_51 rfl rfl ?_
    refine f_getr (pc := 52) (u := 1) (q := 0) dX11_feed_52 xf11_10 (sa_1_0 hs) rfl (sr_1_0_0 hs) ?_
    refine e_iload (pc := 55) dX11_feed_55 rfl ?_
    obtain ⟨T9, hq9, hG⟩ := x_bd1 hG
    refine e_invV (pc := 57) (K1 := 0) (S1 := 0) (K := 0) (S := 0) (dd2 := 1) (av := [x_i e]) (st := []) (id := 16 * 2 + 0) dX11_feed_57 xmX11_88 rfl (Or.inl ⟨8, 8, TX10, (sa_2_0 hs), rfl, by decide⟩) (f_cal (M := M) (us2 := [2]) [0] hn rfl (And.intro rfl trivial) rfl rfl rfl (c_X10_addNumber hst hs   hq9)) (by decide) (Nat.le_of_ble_eq_true rfl) (Or.inl rfl) ?_
    show Ev g _ _ _ _ _ _ 60 [some (x_r (16 * 1 + 0)), some (x_i a), some (x_i b), some (x_i c), some (x_i d), some (x_i e)] [] (al, ro, fl (ml M [2] [T9])) _ _ _ _
    refine e_aloadn (pc := 60) (i := 0) dX11_feed_60 rfl rfl ?_
    refine f_getr (pc := 61) (u := 1) (q := 0) dX11_feed_61 xf11_10 (sa_1_0 hs) rfl (sr_1_0_0 hs) ?_
    refine f_geti (pc := 64) (k := 0) (u := 2) (q := 0) dX11_feed_64 xf11_85 (sa_2_0 hs) rfl hn rfl rfl (by decide) ?_
    show Ev g _ _ _ _ _ _ 67 [some (x_r (16 * 1 + 0)), some (x_i a), some (x_i b), some (x_i c), some (x_i d), some (x_i e)] [x_i (T9 0 2)] (al, ro, fl (ml M [2] [T9])) _ _ _ _
    cases hG
    exact (e_ireturn rfl dX11_feed_67 rfl)
  · rw [if_neg hb] at hG
    refine e_iconst (pc := 16) dX11_feed_16 (x_R rfl) ?_
    cases hG
    exact (e_ireturn rfl dX11_feed_17 rfl)
set_option maxRecDepth 100000 in
set_option maxHeartbeats 4000000 in
theorem c_X11_end {g : xG} {al : List (Nat × Nat × Nat)} {ro : Nat → Nat → Option Nat} (hst : g.1.stackTraces = false) (hs : SH al ro) {M : Nat → xU} {a : Int} {T : xU}  {t : (Int × xU)} (hG : G11_end a T = some t) :
    Cal g yX11_end cX11_end 2 (some .boolean) 0 [x_r (16 * 1 + 0), x_i a] (al, ro, fl (ml M [2] [T])) 0 0 (.inl (some (x_i t.1))) (al, ro, fl (ml M [2] [t.2])) := by
  have hn : ([2] : List Nat).Nodup := by decide
  refine cal_of_ev (plainFor_of_name (by decide)) (x_c1 rfl) (Nat.le_of_ble_eq_true rfl) hst ?_
  show Ev g _ _ _ _ _ _ 0 [some (x_r (16 * 1 + 0)), some (x_i a)] [] (al, ro, fl (ml M [2] [T])) _ _ _ _
  rw [G11_end] at hG
  refine e_iloadn (pc := 0) (i := 1) dX11_end_0 rfl rfl ?_
  refine e_if_lt (pc := 1) (tgt := 15) dX11_end_1 (by decide) (fun hb => ?_) (fun hb => ?_)
  · rw [if_pos hb] at hG
    refine e_iconst (pc := 15) dX11_end_15 (x_R rfl) ?_
    cases hG
    exact (e_ireturn rfl dX11_end_16 (x_bool (by decide)).1)
  · rw [if_neg hb] at hG
    refine e_iloadn (pc := 4) (i := 1) dX11_end_4 rfl rfl ?_
    refine e_aloadn (pc := 5) (i := 0) dX11_end_5 rfl rfl ?_
    refine f_getr (pc := 6) (u := 1) (q := 0) dX11_end_6 xf11_10 (sa_1_0 hs) rfl (sr_1_0_0 hs) ?_
    refine f_geti (pc := 9) (k := 0) (u := 2) (q := 0) dX11_end_9 xf11_85 (sa_2_0 hs) rfl hn rfl rfl (by decide) ?_
    show Ev g _ _ _ _ _ _ 12 [some (x_r (16 * 1 + 0)), some (x_i a)] [x_i (T 0 2), x_i a] (al, ro, fl (ml M [2] [T])) _ _ _ _
    refine e_icmp_le (pc := 12) (tgt := 17) dX11_end_12 (by decide) (fun hb => ?_) (fun hb => ?_)
    · rw [if_pos hb] at hG
      refine e_aloadn (pc := 17) (i := 0) dX11_end_17 rfl rfl ?_
      refine f_getr (pc := 18) (u := 1) (q := 0) dX11_end_18 xf11_10 (sa_1_0 hs) rfl (sr_1_0_0 hs) ?_
      refine e_iloadn (pc := 21) (i := 1) dX11_end_21 rfl rfl ?_
      refine f_puti (pc := 22) (k := 0) (u := 2) (q := 0) dX11_end_22 xf11_85 xw8_2 (sa_2_0 hs) hn rfl rfl rfl (by decide) ?_
      show Ev g _ _ _ _ _ _ 25 [some (x_r (16 * 1 + 0)), some (x_i a)] [] (al, ro, fl (ml M [2] [(x_up T 0 2 a)])) _ _ _ _
      refine e_iconst (pc := 25) dX11_end_25 (x_R rfl) ?_
      cases hG
      exact (e_ireturn rfl dX11_end_26 (x_bool (by decide)).1)
    · rw [if_neg hb] at hG
      refine e_iconst (pc := 15) dX11_end_15 (x_R rfl) ?_
      cases hG
      exact (e_ireturn rfl dX11_end_16 (x_bool (by decide)).1)
