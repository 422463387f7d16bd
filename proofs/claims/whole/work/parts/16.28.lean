set_option maxRecDepth 100000 in
set_option maxHeartbeats 4000000 in
theorem c_X12_pace {g : xG} {al : List (Nat × Nat × Nat)} {ro : Nat → Nat → Option Nat} (hst : g.1.stackTraces = false) (hs : SH al ro) {M : Nat → xU} {a : Int} {b : Int} {S : xU}  {t : (Int × xU)} (hG : G12_pace a b S = some t) :
    Cal g yX12_pace cX12_pace 3 (some .int) 2 [x_r (16 * 32 + 0), x_i a, x_i b] (al, ro, fl (ml M [32] [S])) 0 0 (.inl (some (x_i t.1))) (al, ro, fl (ml M [32] [t.2])) := by
  have hn : ([32] : List Nat).Nodup := by decide
  refine cal_of_ev (plainFor_of_name (by decide)) (x_c1 rfl) (Nat.le_of_ble_eq_true rfl) hst ?_
  show Ev g _ _ _ _ _ _ 0 [some (x_r (16 * 32 + 0)), some (x_i a), some (x_i b)] [] (al, ro, fl (ml M [32] [S])) _ _ _ _
  rw [G12_pace] at hG
  refine e_aloadn (pc := 0) (i := 0) dX12_pace_0 rfl rfl ?_
  refine e_aloadn (pc := 1) (i := 0) dX12_pace_1 rfl rfl ?_
  refine e_iloadn (pc := 2) (i := 1) dX12_pace_2 rfl rfl ?_
  obtain ⟨v1, hq1, hG⟩ := x_bd1 hG
  refine e_invV (pc := 3) (K1 := 0) (S1 := 0) (K := 0) (S := 0) (dd2 := 1) (av := [x_i a]) (st := [x_r (16 * 32 + 0)]) (id := 16 * 32 + 0) dX12_pace_3 xmX12_295 rfl (Or.inl ⟨10, 27, TX12, (sa_32_0 hs), rfl, by decide⟩) (f_cal (M := M) (us2 := [32]) [0] hn rfl (And.intro rfl trivial) rfl rfl rfl (c_X12_isMonk hst hs   hq1)) (by decide) (Nat.le_of_ble_eq_true rfl) (Or.inl rfl) ?_
  show Ev g _ _ _ _ _ _ 6 [some (x_r (16 * 32 + 0)), some (x_i a), some (x_i b)] [x_i v1, x_r (16 * 32 + 0)] (al, ro, fl (ml M [32] [S])) _ _ _ _
  obtain ⟨v3, hr3, hG⟩ := x_bd1 hG
  have hjhr3 : Ev g yX12_pace cX12_pace 3 (some .int) [] 2 28 [some (x_r (16 * 32 + 0)), some (x_i a), some (x_i b)] [x_i v3, x_r (16 * 32 + 0)] (al, ro, fl (ml M [32] [S])) 0 0 (.inl (some (x_i t.1))) (al, ro, fl (ml M [32] [t.2])) := by
    refine f_puti (pc := 28) (k := 0) (u := 32) (q := 0) dX12_pace_28 xf12_58 xw10_0 (sa_32_0 hs) hn rfl rfl rfl (by decide) ?_
    show Ev g _ _ _ _ _ _ 31 [some (x_r (16 * 32 + 0)), some (x_i a), some (x_i b)] [] (al, ro, fl (ml M [32] [(x_up S 0 0 v3)])) _ _ _ _
    refine e_aloadn (pc := 31) (i := 0) dX12_pace_31 rfl rfl ?_
    refine f_geti (pc := 32) (k := 0) (u := 32) (q := 0) dX12_pace_32 xf12_58 (sa_32_0 hs) rfl hn rfl rfl (by decide) ?_
    show Ev g _ _ _ _ _ _ 35 [some (x_r (16 * 32 + 0)), some (x_i a), some (x_i b)] [x_i ((x_up S 0 0 v3) 0 0)] (al, ro, fl (ml M [32] [(x_up S 0 0 v3)])) _ _ _ _
    obtain ⟨v7, S8, hr8, hG⟩ := x_bd2 hG
    have hjhr8 : Ev g yX12_pace cX12_pace 3 (some .int) [] 2 56 [some (x_r (16 * 32 + 0)), some (x_i a), some (x_i b)] [x_i v7] (al, ro, fl (ml M [32] [S8])) 0 0 (.inl (some (x_i t.1))) (al, ro, fl (ml M [32] [t.2])) := by
      cases hG
      exact (e_ireturn rfl dX12_pace_56 rfl)
    clear hG
    refine e_if_le (pc := 35) (tgt := 42) dX12_pace_35 (by decide) (fun hb => ?_) (fun hb => ?_)
    · rw [if_pos hb] at hr8
      refine e_aloadn (pc := 42) (i := 0) dX12_pace_42 rfl rfl ?_
      refine e_bipush (pc := 43) dX12_pace_43 (by decide +kernel) (x_R rfl) ?_
      refine e_bipush (pc := 45) dX12_pace_45 (by decide +kernel) (x_R rfl) ?_
      refine e_iloadn (pc := 47) (i := 1) dX12_pace_47 rfl rfl ?_
      refine e_imul (pc := 48) dX12_pace_48 ?_
      refine e_iadd (pc := 49) dX12_pace_49 ?_
      refine e_iconst (pc := 50) dX12_pace_50 (x_R rfl) ?_
      refine e_iadd (pc := 51) dX12_pace_51 ?_
      refine e_iloadn (pc := 52) (i := 2) dX12_pace_52 rfl rfl ?_
      obtain ⟨v10, S11, hq11, hr8⟩ := x_bd2 hr8
      refine e_invV (pc := 53) (K1 := 0) (S1 := 0) (K := 0) (S := 0) (dd2 := 1) (av := [x_i (x_add (x_add 16 (x_mul 8 a)) 1), x_i b]) (st := []) (id := 16 * 32 + 0) dX12_pace_53 xmX12_314 rfl (Or.inl ⟨10, 27, TX12, (sa_32_0 hs), rfl, by decide⟩) (f_cal (M := M) (us2 := [32]) [0] hn rfl (And.intro rfl trivial) rfl rfl rfl (c_X12_sets hst hs   hq11)) (by decide) (Nat.le_of_ble_eq_true rfl) (Or.inl rfl) ?_
      show Ev g _ _ _ _ _ _ 56 [some (x_r (16 * 32 + 0)), some (x_i a), some (x_i b)] [x_i v10] (al, ro, fl (ml M [32] [S11])) _ _ _ _
      cases hr8
      exact hjhr8
    · rw [if_neg hb] at hr8
      refine e_iconst (pc := 38) dX12_pace_38 (x_R rfl) ?_
      refine e_goto (pc := 39) (tgt := 56) dX12_pace_39 (by decide) ?_
      cases hr8
      exact hjhr8
  clear hG
  refine e_if_ne (pc := 6) (tgt := 13) dX12_pace_6 (by decide) (fun hb => ?_) (fun hb => ?_)
  · rw [if_neg hb] at hr3
    refine e_iloadn (pc := 13) (i := 2) dX12_pace_13 rfl rfl ?_
    refine e_iconst (pc := 14) dX12_pace_14 (x_R rfl) ?_
    refine e_bipush (pc := 15) dX12_pace_15 (by decide +kernel) (x_R rfl) ?_
    obtain ⟨v5, hq5, hr3⟩ := x_bd1 hr3
    refine e_invS (pc := 17) (K1 := 0) (S1 := 0) (K := 0) (S := 0) (dd2 := 0) (av := [x_i b, x_i 0, x_i 8]) (st := [x_r (16 * 32 + 0)]) dX12_pace_17 xmX12_61 rfl (f_cal (M := M) (us2 := []) [] hn rfl trivial rfl rfl rfl (c_X12_isIn hst hs   hq5)) (by decide) (Nat.le_of_ble_eq_true rfl) (Or.inl rfl) ?_
    show Ev g _ _ _ _ _ _ 20 [some (x_r (16 * 32 + 0)), some (x_i a), some (x_i b)] [x_i v5, x_r (16 * 32 + 0)] (al, ro, fl (ml M [32] [S])) _ _ _ _
    refine e_if_ne (pc := 20) (tgt := 27) dX12_pace_20 (by decide) (fun hb => ?_) (fun hb => ?_)
    · rw [if_neg hb] at hr3
      refine e_iconst (pc := 27) dX12_pace_27 (x_R rfl) ?_
      cases hr3
      exact hjhr3
    · rw [if_pos hb] at hr3
      refine e_iconst (pc := 23) dX12_pace_23 (x_R rfl) ?_
      refine e_goto (pc := 24) (tgt := 28) dX12_pace_24 (by decide) ?_
      cases hr3
      exact hjhr3
  · rw [if_pos hb] at hr3
    refine e_iconst (pc := 9) dX12_pace_9 (x_R rfl) ?_
    refine e_goto (pc := 10) (tgt := 28) dX12_pace_10 (by decide) ?_
    cases hr3
    exact hjhr3
set_option maxRecDepth 100000 in
set_option maxHeartbeats 4000000 in
theorem c_X12_fill {g : xG} {al : List (Nat × Nat × Nat)} {ro : Nat → Nat → Option Nat} (hst : g.1.stackTraces = false) (hs : SH al ro) {M : Nat → xU} {a : Int} {b : Int} {S : xU}  {t : (Int × xU)} (hG : G12_fill a b S = some t) :
    Cal g yX12_fill cX12_fill 4 (some .int) 2 [x_r (16 * 32 + 0), x_i a, x_i b] (al, ro, fl (ml M [32] [S])) 0 0 (.inl (some (x_i t.1))) (al, ro, fl (ml M [32] [t.2])) := by
  have hn : ([32] : List Nat).Nodup := by decide
  refine cal_of_ev (plainFor_of_name (by decide)) (x_c1 rfl) (Nat.le_of_ble_eq_true rfl) hst ?_
  show Ev g _ _ _ _ _ _ 0 [some (x_r (16 * 32 + 0)), some (x_i a), some (x_i b), none] [] (al, ro, fl (ml M [32] [S])) _ _ _ _
  rw [G12_fill] at hG
  refine e_aloadn (pc := 0) (i := 0) dX12_fill_0 rfl rfl ?_
  refine e_iloadn (pc := 1) (i := 1) dX12_fill_1 rfl rfl ?_
  obtain ⟨v1, hq1, hG⟩ := x_bd1 hG
  refine e_invS (pc := 2) (K1 := 0) (S1 := 0) (K := 0) (S := 0) (dd2 := 1) (av := [x_i a]) (st := [x_r (16 * 32 + 0)]) dX12_fill_2 xmX12_301 rfl (f_cal (M := M) (us2 := []) [] hn rfl trivial rfl rfl rfl (c_X12_isWalk hst hs   hq1)) (by decide) (Nat.le_of_ble_eq_true rfl) (Or.inl rfl) ?_
  show Ev g _ _ _ _ _ _ 5 [some (x_r (16 * 32 + 0)), some (x_i a), some (x_i b), none] [x_i v1, x_r (16 * 32 + 0)] (al, ro, fl (ml M [32] [S])) _ _ _ _
  obtain ⟨v3, hr3, hG⟩ := x_bd1 hG
  have hjhr3 : Ev g yX12_fill cX12_fill 4 (some .int) [] 2 27 [some (x_r (16 * 32 + 0)), some (x_i a), some (x_i b), none] [x_i v3, x_r (16 * 32 + 0)] (al, ro, fl (ml M [32] [S])) 0 0 (.inl (some (x_i t.1))) (al, ro, fl (ml M [32] [t.2])) := by
    refine f_puti (pc := 27) (k := 0) (u := 32) (q := 0) dX12_fill_27 xf12_58 xw10_0 (sa_32_0 hs) hn rfl rfl rfl (by decide) ?_
    show Ev g _ _ _ _ _ _ 30 [some (x_r (16 * 32 + 0)), some (x_i a), some (x_i b), none] [] (al, ro, fl (ml M [32] [(x_up S 0 0 v3)])) _ _ _ _
    refine e_aloadn (pc := 30) (i := 0) dX12_fill_30 rfl rfl ?_
    refine f_geti (pc := 31) (k := 0) (u := 32) (q := 0) dX12_fill_31 xf12_58 (sa_32_0 hs) rfl hn rfl rfl (by decide) ?_
    show Ev g _ _ _ _ _ _ 34 [some (x_r (16 * 32 + 0)), some (x_i a), some (x_i b), none] [x_i ((x_up S 0 0 v3) 0 0)] (al, ro, fl (ml M [32] [(x_up S 0 0 v3)])) _ _ _ _
    refine e_if_le (pc := 34) (tgt := 39) dX12_fill_34 (by decide) (fun hb => ?_) (fun hb => ?_)
    · rw [if_pos hb] at hG
      refine e_aloadn (pc := 39) (i := 0) dX12_fill_39 rfl rfl ?_
      refine e_bipush (pc := 40) dX12_fill_40 (by decide +kernel) (x_R rfl) ?_
      refine e_iloadn (pc := 42) (i := 1) dX12_fill_42 rfl rfl ?_
      refine e_iadd (pc := 43) dX12_fill_43 ?_
      refine e_sipush (pc := 44) dX12_fill_44 (by decide +kernel) (x_R rfl) ?_
      refine e_aloadn (pc := 47) (i := 0) dX12_fill_47 rfl rfl ?_
      refine f_getr (pc := 48) (u := 32) (q := 0) dX12_fill_48 xf12_7 (sa_32_0 hs) rfl (sr_32_0_1 hs) ?_
      refine e_bipush (pc := 51) dX12_fill_51 (by decide +kernel) (x_R rfl) ?_
      refine e_iloadn (pc := 53) (i := 1) dX12_fill_53 rfl rfl ?_
      refine e_iadd (pc := 54) dX12_fill_54 ?_
      obtain ⟨hc0, hG⟩ := x_gd_some hG
      refine f_iald (pc := 55) (k := 0) (u := 32) (q := 1) (len := 772) dX12_fill_55 (sa_32_1 hs) hc0 hn rfl rfl (by decide) ?_
      show Ev g _ _ _ _ _ _ 56 [some (x_r (16 * 32 + 0)), some (x_i a), some (x_i b), none] [x_i ((x_up S 0 0 v3) 1 ((x_add 12 a)).toNat), x_i 999, x_i (x_add 12 a), x_r (16 * 32 + 0)] (al, ro, fl (ml M [32] [(x_up S 0 0 v3)])) _ _ _ _
      refine e_iloadn (pc := 56) (i := 2) dX12_fill_56 rfl rfl ?_
      refine e_iadd (pc := 57) dX12_fill_57 ?_
      obtain ⟨v7, hq7, hG⟩ := x_bd1 hG
      refine e_invS (pc := 58) (K1 := 0) (S1 := 0) (K := 0) (S := 0) (dd2 := 0) (av := [x_i 999, x_i (x_add ((x_up S 0 0 v3) 1 ((x_add 12 a)).toNat) b)]) (st := [x_i (x_add 12 a), x_r (16 * 32 + 0)]) dX12_fill_58 xmX12_73 rfl (f_cal (M := M) (us2 := []) [] hn rfl trivial rfl rfl rfl (c_X12_lesser hst hs   hq7)) (by decide) (Nat.le_of_ble_eq_true rfl) (Or.inl rfl) ?_
      show Ev g _ _ _ _ _ _ 61 [some (x_r (16 * 32 + 0)), some (x_i a), some (x_i b), none] [x_i v7, x_i (x_add 12 a), x_r (16 * 32 + 0)] (al, ro, fl (ml M [32] [(x_up S 0 0 v3)])) _ _ _ _
      obtain ⟨v9, S10, hq10, hG⟩ := x_bd2 hG
      refine e_invV (pc := 61) (K1 := 0) (S1 := 0) (K := 0) (S := 0) (dd2 := 1) (av := [x_i (x_add 12 a), x_i v7]) (st := []) (id := 16 * 32 + 0) dX12_fill_61 xmX12_314 rfl (Or.inl ⟨10, 27, TX12, (sa_32_0 hs), rfl, by decide⟩) (f_cal (M := M) (us2 := [32]) [0] hn rfl (And.intro rfl trivial) rfl rfl rfl (c_X12_sets hst hs   hq10)) (by decide) (Nat.le_of_ble_eq_true rfl) (Or.inl rfl) ?_
      show Ev g _ _ _ _ _ _ 64 [some (x_r (16 * 32 + 0)), some (x_i a), some (x_i b), none] [x_i v9] (al, ro, fl (ml M [32] [S10])) _ _ _ _
      refine e_istoren (pc := 64) (i := 3) dX12_fill_64 rfl (by decide) rfl ?_
      show Ev g _ _ _ _ _ _ 65 [some (x_r (16 * 32 + 0)), some (x_i a), some (x_i b), some (x_i v9)] [] (al, ro, fl (ml M [32] [S10])) _ _ _ _
      refine e_aloadn (pc := 65) (i := 0) dX12_fill_65 rfl rfl ?_
      refine f_getr (pc := 66) (u := 32) (q := 0) dX12_fill_66 xf12_7 (sa_32_0 hs) rfl (sr_32_0_1 hs) ?_
      refine e_bipush (pc := 69) dX12_fill_69 (by decide +kernel) (x_R rfl) ?_
      refine e_iloadn (pc := 71) (i := 1) dX12_fill_71 rfl rfl ?_
      refine e_iadd (pc := 72) dX12_fill_72 ?_
      obtain ⟨hc0, hG⟩ := x_gd_some hG
      refine f_iald (pc := 73) (k := 0) (u := 32) (q := 1) (len := 772) dX12_fill_73 (sa_32_1 hs) hc0 hn rfl rfl (by decide) ?_
      show Ev g _ _ _ _ _ _ 74 [some (x_r (16 * 32 + 0)), some (x_i a), some (x_i b), some (x_i v9)] [x_i (S10 1 ((x_add 12 a)).toNat)] (al, ro, fl (ml M [32] [S10])) _ _ _ _
      cases hG
      exact (e_ireturn rfl dX12_fill_74 rfl)
    · rw [if_neg hb] at hG
      refine e_iconst (pc := 37) dX12_fill_37 (x_R rfl) ?_
      cases hG
      exact (e_ireturn rfl dX12_fill_38 rfl)
  clear hG
  refine e_if_ne (pc := 5) (tgt := 12) dX12_fill_5 (by decide) (fun hb => ?_) (fun hb => ?_)
  · rw [if_neg hb] at hr3
    refine e_iloadn (pc := 12) (i := 2) dX12_fill_12 rfl rfl ?_
    refine e_iconst (pc := 13) dX12_fill_13 (x_R rfl) ?_
    refine e_bipush (pc := 14) dX12_fill_14 (by decide +kernel) (x_R rfl) ?_
    obtain ⟨v5, hq5, hr3⟩ := x_bd1 hr3
    refine e_invS (pc := 16) (K1 := 0) (S1 := 0) (K := 0) (S := 0) (dd2 := 0) (av := [x_i b, x_i 1, x_i 99]) (st := [x_r (16 * 32 + 0)]) dX12_fill_16 xmX12_61 rfl (f_cal (M := M) (us2 := []) [] hn rfl trivial rfl rfl rfl (c_X12_isIn hst hs   hq5)) (by decide) (Nat.le_of_ble_eq_true rfl) (Or.inl rfl) ?_
    show Ev g _ _ _ _ _ _ 19 [some (x_r (16 * 32 + 0)), some (x_i a), some (x_i b), none] [x_i v5, x_r (16 * 32 + 0)] (al, ro, fl (ml M [32] [S])) _ _ _ _
    refine e_if_ne (pc := 19) (tgt := 26) dX12_fill_19 (by decide) (fun hb => ?_) (fun hb => ?_)
    · rw [if_neg hb] at hr3
      refine e_iconst (pc := 26) dX12_fill_26 (x_R rfl) ?_
      cases hr3
      exact hjhr3
    · rw [if_pos hb] at hr3
      refine e_iconst (pc := 22) dX12_fill_22 (x_R rfl) ?_
      refine e_goto (pc := 23) (tgt := 27) dX12_fill_23 (by decide) ?_
      cases hr3
      exact hjhr3
  · rw [if_pos hb] at hr3
    refine e_iconst (pc := 8) dX12_fill_8 (x_R rfl) ?_
    refine e_goto (pc := 9) (tgt := 27) dX12_fill_9 (by decide) ?_
    cases hr3
    exact hjhr3
set_option maxRecDepth 100000 in
set_option maxHeartbeats 4000000 in
theorem c_X12_find {g : xG} {al : List (Nat × Nat × Nat)} {ro : Nat → Nat → Option Nat} (hst : g.1.stackTraces = false) (hs : SH al ro) {M : Nat → xU} {a : Int} {S : xU}  {t : (Int × xU)} (hG : G12_find a S = some t) :
    Cal g yX12_find cX12_find 2 (some .int) 2 [x_r (16 * 32 + 0), x_i a] (al, ro, fl (ml M [32] [S])) 0 0 (.inl (some (x_i t.1))) (al, ro, fl (ml M [32] [t.2])) := by
  have hn : ([32] : List Nat).Nodup := by decide
  refine cal_of_ev (plainFor_of_name (by decide)) (x_c1 rfl) (Nat.le_of_ble_eq_true rfl) hst ?_
  show Ev g _ _ _ _ _ _ 0 [some (x_r (16 * 32 + 0)), some (x_i a)] [] (al, ro, fl (ml M [32] [S])) _ _ _ _
  rw [G12_find] at hG
  refine e_aloadn (pc := 0) (i := 0) dX12_find_0 rfl rfl ?_
  refine e_aloadn (pc := 1) (i := 0) dX12_find_1 rfl rfl ?_
  refine e_iloadn (pc := 2) (i := 1) dX12_find_2 rfl rfl ?_
  obtain ⟨v1, hq1, hG⟩ := x_bd1 hG
  refine e_invV (pc := 3) (K1 := 0) (S1 := 0) (K := 0) (S := 0) (dd2 := 1) (av := [x_i a]) (st := [x_r (16 * 32 + 0)]) (id := 16 * 32 + 0) dX12_find_3 xmX12_295 rfl (Or.inl ⟨10, 27, TX12, (sa_32_0 hs), rfl, by decide⟩) (f_cal (M := M) (us2 := [32]) [0] hn rfl (And.intro rfl trivial) rfl rfl rfl (c_X12_isMonk hst hs   hq1)) (by decide) (Nat.le_of_ble_eq_true rfl) (Or.inl rfl) ?_
  show Ev g _ _ _ _ _ _ 6 [some (x_r (16 * 32 + 0)), some (x_i a)] [x_i v1, x_r (16 * 32 + 0)] (al, ro, fl (ml M [32] [S])) _ _ _ _
  obtain ⟨v3, hr3, hG⟩ := x_bd1 hG
  have hjhr3 : Ev g yX12_find cX12_find 2 (some .int) [] 2 14 [some (x_r (16 * 32 + 0)), some (x_i a)] [x_i v3, x_r (16 * 32 + 0)] (al, ro, fl (ml M [32] [S])) 0 0 (.inl (some (x_i t.1))) (al, ro, fl (ml M [32] [t.2])) := by
    refine f_puti (pc := 14) (k := 0) (u := 32) (q := 0) dX12_find_14 xf12_58 xw10_0 (sa_32_0 hs) hn rfl rfl rfl (by decide) ?_
    show Ev g _ _ _ _ _ _ 17 [some (x_r (16 * 32 + 0)), some (x_i a)] [] (al, ro, fl (ml M [32] [(x_up S 0 0 v3)])) _ _ _ _
    refine e_aloadn (pc := 17) (i := 0) dX12_find_17 rfl rfl ?_
    refine f_geti (pc := 18) (k := 0) (u := 32) (q := 0) dX12_find_18 xf12_58 (sa_32_0 hs) rfl hn rfl rfl (by decide) ?_
    show Ev g _ _ _ _ _ _ 21 [some (x_r (16 * 32 + 0)), some (x_i a)] [x_i ((x_up S 0 0 v3) 0 0)] (al, ro, fl (ml M [32] [(x_up S 0 0 v3)])) _ _ _ _
    refine e_if_le (pc := 21) (tgt := 26) dX12_find_21 (by decide) (fun hb => ?_) (fun hb => ?_)
    · rw [if_pos hb] at hG
      refine e_aloadn (pc := 26) (i := 0) dX12_find_26 rfl rfl ?_
      refine e_aloadn (pc := 27) (i := 0) dX12_find_27 rfl rfl ?_
      refine e_iloadn (pc := 28) (i := 1) dX12_find_28 rfl rfl ?_
      obtain ⟨v5, hq5, hG⟩ := x_bd1 hG
      refine e_invV (pc := 29) (K1 := 0) (S1 := 0) (K := 0) (S := 0) (dd2 := 1) (av := [x_i a]) (st := [x_r (16 * 32 + 0)]) (id := 16 * 32 + 0) dX12_find_29 xmX12_69 rfl (Or.inl ⟨10, 27, TX12, (sa_32_0 hs), rfl, by decide⟩) (f_cal (M := M) (us2 := [32]) [0] hn rfl (And.intro rfl trivial) rfl rfl rfl (c_X12_isLost hst hs   hq5)) (by decide) (Nat.le_of_ble_eq_true rfl) (Or.inl rfl) ?_
      show Ev g _ _ _ _ _ _ 32 [some (x_r (16 * 32 + 0)), some (x_i a)] [x_i v5, x_r (16 * 32 + 0)] (al, ro, fl (ml M [32] [(x_up S 0 0 v3)])) _ _ _ _
      obtain ⟨v7, hr7, hG⟩ := x_bd1 hG
      have hjhr7 : Ev g yX12_find cX12_find 2 (some .int) [] 2 40 [some (x_r (16 * 32 + 0)), some (x_i a)] [x_i v7, x_r (16 * 32 + 0)] (al, ro, fl (ml M [32] [(x_up S 0 0 v3)])) 0 0 (.inl (some (x_i t.1))) (al, ro, fl (ml M [32] [t.2])) := by
        refine f_puti (pc := 40) (k := 0) (u := 32) (q := 0) dX12_find_40 xf12_58 xw10_0 (sa_32_0 hs) hn rfl rfl rfl (by decide) ?_
        show Ev g _ _ _ _ _ _ 43 [some (x_r (16 * 32 + 0)), some (x_i a)] [] (al, ro, fl (ml M [32] [(x_up (x_up S 0 0 v3) 0 0 v7)])) _ _ _ _
        refine e_aloadn (pc := 43) (i := 0) dX12_find_43 rfl rfl ?_
        refine f_geti (pc := 44) (k := 0) (u := 32) (q := 0) dX12_find_44 xf12_58 (sa_32_0 hs) rfl hn rfl rfl (by decide) ?_
        show Ev g _ _ _ _ _ _ 47 [some (x_r (16 * 32 + 0)), some (x_i a)] [x_i ((x_up (x_up S 0 0 v3) 0 0 v7) 0 0)] (al, ro, fl (ml M [32] [(x_up (x_up S 0 0 v3) 0 0 v7)])) _ _ _ _
        obtain ⟨v9, S10, hr10, hG⟩ := x_bd2 hG
        have hjhr10 : Ev g yX12_find cX12_find 2 (some .int) [] 2 68 [some (x_r (16 * 32 + 0)), some (x_i a)] [x_i v9] (al, ro, fl (ml M [32] [S10])) 0 0 (.inl (some (x_i t.1))) (al, ro, fl (ml M [32] [t.2])) := by
          cases hG
          exact (e_ireturn rfl dX12_find_68 rfl)
        clear hG
        refine e_if_le (pc := 47) (tgt := 54) dX12_find_47 (by decide) (fun hb => ?_) (fun hb => ?_)
        · rw [if_pos hb] at hr10
          refine e_aloadn (pc := 54) (i := 0) dX12_find_54 rfl rfl ?_
          refine e_bipush (pc := 55) dX12_find_55 (by decide +kernel) (x_R rfl) ?_
          refine e_bipush (pc := 57) dX12_find_57 (by decide +kernel) (x_R rfl) ?_
          refine e_iloadn (pc := 59) (i := 1) dX12_find_59 rfl rfl ?_
          refine e_imul (pc := 60) dX12_find_60 ?_
          refine e_iadd (pc := 61) dX12_find_61 ?_
          refine e_iconst (pc := 62) dX12_find_62 (x_R rfl) ?_
          refine e_iadd (pc := 63) dX12_find_63 ?_
          refine e_iconst (pc := 64) dX12_find_64 (x_R rfl) ?_
          obtain ⟨v12, S13, hq13, hr10⟩ := x_bd2 hr10
          refine e_invV (pc := 65) (K1 := 0) (S1 := 0) (K := 0) (S := 0) (dd2 := 1) (av := [x_i (x_add (x_add 16 (x_mul 8 a)) 4), x_i 0]) (st := []) (id := 16 * 32 + 0) dX12_find_65 xmX12_314 rfl (Or.inl ⟨10, 27, TX12, (sa_32_0 hs), rfl, by decide⟩) (f_cal (M := M) (us2 := [32]) [0] hn rfl (And.intro rfl trivial) rfl rfl rfl (c_X12_sets hst hs   hq13)) (by decide) (Nat.le_of_ble_eq_true rfl) (Or.inl rfl) ?_
          show Ev g _ _ _ _ _ _ 68 [some (x_r (16 * 32 + 0)), some (x_i a)] [x_i v12] (al, ro, fl (ml M [32] [S13])) _ _ _ _
          cases hr10
          exact hjhr10
        · rw [if_neg hb] at hr10
          refine e_iconst (pc := 50) dX12_find_50 (x_R rfl) ?_
          refine e_goto (pc := 51) (tgt := 68) dX12_find_51 (by decide) ?_
          cases hr10
          exact hjhr10
      clear hG
      refine e_if_ne (pc := 32) (tgt := 39) dX12_find_32 (by decide) (fun hb => ?_) (fun hb => ?_)
      · rw [if_neg hb] at hr7
        refine e_iconst (pc := 39) dX12_find_39 (x_R rfl) ?_
        cases hr7
        exact hjhr7
      · rw [if_pos hb] at hr7
        refine e_iconst (pc := 35) dX12_find_35 (x_R rfl) ?_
        refine e_goto (pc := 36) (tgt := 40) dX12_find_36 (by decide) ?_
        cases hr7
        exact hjhr7
    · rw [if_neg hb] at hG
      refine e_iconst (pc := 24) dX12_find_24 (x_R rfl) ?_
      cases hG
      exact (e_ireturn rfl dX12_find_25 rfl)
  clear hG
  refine e_if_ne (pc := 6) (tgt := 13) dX12_find_6 (by decide) (fun hb => ?_) (fun hb => ?_)
  · rw [if_neg hb] at hr3
    refine e_iconst (pc := 13) dX12_find_13 (x_R rfl) ?_
    cases hr3
    exact hjhr3
  · rw [if_pos hb] at hr3
    refine e_iconst (pc := 9) dX12_find_9 (x_R rfl) ?_
    refine e_goto (pc := 10) (tgt := 14) dX12_find_10 (by decide) ?_
    cases hr3
    exact hjhr3
set_option maxRecDepth 100000 in
set_option maxHeartbeats 4000000 in
theorem c_X12_choir {g : xG} {al : List (Nat × Nat × Nat)} {ro : Nat → Nat → Option Nat} (hst : g.1.stackTraces = false) (hs : SH al ro) {M : Nat → xU} {S : xU}  {t : (Int × xU)} (hG : G12_choir S = some t) :
    Cal g yX12_choir cX12_choir 3 (some .int) 3 [x_r (16 * 32 + 0)] (al, ro, fl (ml M [32] [S])) 0 0 (.inl (some (x_i t.1))) (al, ro, fl (ml M [32] [t.2])) := by
  have hn : ([32] : List Nat).Nodup := by decide
  refine cal_of_ev (plainFor_of_name (by decide)) (x_c1 rfl) (Nat.le_of_ble_eq_true rfl) hst ?_
  show Ev g _ _ _ _ _ _ 0 [some (x_r (16 * 32 + 0)), none, none] [] (al, ro, fl (ml M [32] [S])) _ _ _ _
  rw [G12_choir] at hG
  refine e_aloadn (pc := 0) (i := 0) dX12_choir_0 rfl rfl ?_
  refine e_iconst (pc := 1) dX12_choir_1 (x_R rfl) ?_
  refine f_puti (pc := 2) (k := 0) (u := 32) (q := 0) dX12_choir_2 xf12_58 xw10_0 (sa_32_0 hs) hn rfl rfl rfl (by decide) ?_
  show Ev g _ _ _ _ _ _ 5 [some (x_r (16 * 32 + 0)), none, none] [] (al, ro, fl (ml M [32] [(x_up S 0 0 0)])) _ _ _ _
  refine e_iconst (pc := 5) dX12_choir_5 (x_R rfl) ?_
  refine e_istoren (pc := 6) (i := 1) dX12_choir_6 rfl (by decide) rfl ?_
  show Ev g _ _ _ _ _ _ 7 [some (x_r (16 * 32 + 0)), some (x_i 0), none] [] (al, ro, fl (ml M [32] [(x_up S 0 0 0)])) _ _ _ _
  refine e_iconst (pc := 7) dX12_choir_7 (x_R rfl) ?_
  refine e_istoren (pc := 8) (i := 2) dX12_choir_8 rfl (by decide) rfl ?_
  show Ev g _ _ _ _ _ _ 9 [some (x_r (16 * 32 + 0)), some (x_i 0), some (x_i 0)] [] (al, ro, fl (ml M [32] [(x_up S 0 0 0)])) _ _ _ _
  obtain ⟨v3, hl4, hG⟩ := x_bd1 hG
  have hk4 : ∀ q : Int, q = v3 → Ev g yX12_choir cX12_choir 3 (some .int) [] 3 43 [some (x_r (16 * 32 + 0)), some (x_i q), none] [] (al, ro, fl (ml M [32] [(x_up S 0 0 0)])) 0 0 (.inl (some (x_i t.1))) (al, ro, fl (ml M [32] [t.2])) := by
    intro q hq
    replace hq := hq.symm
    subst hq
    refine e_iloadn (pc := 43) (i := 1) dX12_choir_43 rfl rfl ?_
    cases hG
    exact (e_ireturn rfl dX12_choir_44 rfl)
  clear hG
  refine e_whl (G12_choir_L9 S) (fun z : (Int × Int) => Ev g yX12_choir cX12_choir 3 (some .int) [] 3 9 [some (x_r (16 * 32 + 0)), some (x_i z.1), some (x_i z.2)] [] (al, ro, fl (ml M [32] [(x_up S 0 0 0)])) 0 0 (.inl (some (x_i t.1))) (al, ro, fl (ml M [32] [t.2]))) (fun q => q = v3) ?_ xFU (0, 0) _ hl4 rfl
  intro z t4 hf4 hi4 hx4
  obtain ⟨v1, v2⟩ := z
  rw [G12_choir_L9] at hf4
  show Ev g _ _ _ _ _ _ 9 [some (x_r (16 * 32 + 0)), some (x_i v1), some (x_i v2)] [] (al, ro, fl (ml M [32] [(x_up S 0 0 0)])) _ _ _ _
  refine e_iloadn (pc := 9) (i := 2) dX12_choir_9 rfl rfl ?_
  refine e_aloadn (pc := 10) (i := 0) dX12_choir_10 rfl rfl ?_
  refine f_getr (pc := 11) (u := 32) (q := 0) dX12_choir_11 xf12_7 (sa_32_0 hs) rfl (sr_32_0_1 hs) ?_
  refine e_iconst (pc := 14) dX12_choir_14 (x_R rfl) ?_
  refine f_iald (pc := 15) (k := 0) (u := 32) (q := 1) (len := 772) dX12_choir_15 (sa_32_1 hs) (by decide) hn rfl rfl (by decide) ?_
  show Ev g _ _ _ _ _ _ 16 [some (x_r (16 * 32 + 0)), some (x_i v1), some (x_i v2)] [x_i ((x_up S 0 0 0) 1 3), x_i v2] (al, ro, fl (ml M [32] [(x_up S 0 0 0)])) _ _ _ _
  refine e_icmp_ge (pc := 16) (tgt := 43) dX12_choir_16 (by decide) (fun hb => ?_) (fun hb => ?_)
  · rw [if_pos hb] at hf4
    cases hf4
    refine e_drop (i := 2) ?_
    have hh := hk4 _ (hx4 _ rfl)
    try dsimp only at hh
    exact hh
  · rw [if_neg hb] at hf4
    refine e_iloadn (pc := 19) (i := 1) dX12_choir_19 rfl rfl ?_
    refine e_aloadn (pc := 20) (i := 0) dX12_choir_20 rfl rfl ?_
    refine e_iloadn (pc := 21) (i := 2) dX12_choir_21 rfl rfl ?_
    obtain ⟨v6, hq6, hf4⟩ := x_bd1 hf4
    refine e_invV (pc := 22) (K1 := 0) (S1 := 0) (K := 0) (S := 0) (dd2 := 2) (av := [x_i v2]) (st := [x_i v1]) (id := 16 * 32 + 0) dX12_choir_22 xmX12_277 rfl (Or.inl ⟨10, 27, TX12, (sa_32_0 hs), rfl, by decide⟩) (f_cal (M := M) (us2 := [32]) [0] hn rfl (And.intro rfl trivial) rfl rfl rfl (c_X12_inChoir hst hs   hq6)) (by decide) (Nat.le_of_ble_eq_true rfl) (Or.inl rfl) ?_
    show Ev g _ _ _ _ _ _ 25 [some (x_r (16 * 32 + 0)), some (x_i v1), some (x_i v2)] [x_i v6, x_i v1] (al, ro, fl (ml M [32] [(x_up S 0 0 0)])) _ _ _ _
    obtain ⟨v8, hr8, hf4⟩ := x_bd1 hf4
    have hjhr8 : Ev g yX12_choir cX12_choir 3 (some .int) [] 3 35 [some (x_r (16 * 32 + 0)), some (x_i v1), some (x_i v2)] [x_i v8, x_i v1] (al, ro, fl (ml M [32] [(x_up S 0 0 0)])) 0 0 (.inl (some (x_i t.1))) (al, ro, fl (ml M [32] [t.2])) := by
      refine e_ior (pc := 35) dX12_choir_35 ?_
      refine e_istoren (pc := 36) (i := 1) dX12_choir_36 rfl (by decide) rfl ?_
      show Ev g _ _ _ _ _ _ 37 [some (x_r (16 * 32 + 0)), some (x_i (x_or v1 v8)), some (x_i v2)] [] (al, ro, fl (ml M [32] [(x_up S 0 0 0)])) _ _ _ _
      refine e_iinc (pc := 37) dX12_choir_37 rfl (by decide) rfl ?_
      show Ev g _ _ _ _ _ _ 40 [some (x_r (16 * 32 + 0)), some (x_i (x_or v1 v8)), some (x_i (x_add v2 1))] [] (al, ro, fl (ml M [32] [(x_up S 0 0 0)])) _ _ _ _
      refine e_goto (pc := 40) (tgt := 9) dX12_choir_40 (by decide) ?_
      cases hf4
      have hh := hi4 _ rfl
      try dsimp only at hh
      exact hh
    clear hf4
    refine e_if_eq (pc := 25) (tgt := 34) dX12_choir_25 (by decide) (fun hb => ?_) (fun hb => ?_)
    · rw [if_pos hb] at hr8
      refine e_iconst (pc := 34) dX12_choir_34 (x_R rfl) ?_
      cases hr8
      exact hjhr8
    · rw [if_neg hb] at hr8
      refine e_iconst (pc := 28) dX12_choir_28 (x_R rfl) ?_
      refine e_iloadn (pc := 29) (i := 2) dX12_choir_29 rfl rfl ?_
      refine e_ishl (pc := 30) dX12_choir_30 ?_
      refine e_goto (pc := 31) (tgt := 35) dX12_choir_31 (by decide) ?_
      cases hr8
      exact hjhr8
set_option maxRecDepth 100000 in
set_option maxHeartbeats 4000000 in
theorem c_X12_firstAt {g : xG} {al : List (Nat × Nat × Nat)} {ro : Nat → Nat → Option Nat} (hst : g.1.stackTraces = false) (hs : SH al ro) {M : Nat → xU} {a : Int} {b : Int} {c : Int} {S : xU}  {t : (Int × xU)} (hG : G12_firstAt a b c S = some t) :
    Cal g yX12_firstAt cX12_firstAt 8 (some .int) 46 [x_r (16 * 32 + 0), x_i a, x_i b, x_i c] (al, ro, fl (ml M [32] [S])) 0 0 (.inl (some (x_i t.1))) (al, ro, fl (ml M [32] [t.2])) := by
  have hn : ([32] : List Nat).Nodup := by decide
  refine cal_of_ev (plainFor_of_name (by decide)) (x_c1 rfl) (Nat.le_of_ble_eq_true rfl) hst ?_
  show Ev g _ _ _ _ _ _ 0 [some (x_r (16 * 32 + 0)), some (x_i a), some (x_i b), some (x_i c), none, none, none, none] [] (al, ro, fl (ml M [32] [S])) _ _ _ _
  rw [G12_firstAt] at hG
  refine e_aloadn (pc := 0) (i := 0) dX12_firstAt_0 rfl rfl ?_
  obtain ⟨S1, hq1, hG⟩ := x_bd1 hG
  refine e_invV (pc := 1) (K1 := 0) (S1 := 0) (K := 0) (S := 0) (dd2 := 0) (av := []) (st := []) (id := 16 * 32 + 0) dX12_firstAt_1 xmX12_192 rfl (Or.inl ⟨10, 27, TX12, (sa_32_0 hs), rfl, by decide⟩) (f_cal (M := M) (us2 := [32]) [0] hn rfl (And.intro rfl trivial) rfl rfl rfl (c_X12_putsAside hst hs   hq1)) (by decide) (Nat.le_of_ble_eq_true rfl) (Or.inl rfl) ?_
  show Ev g _ _ _ _ _ _ 4 [some (x_r (16 * 32 + 0)), some (x_i a), some (x_i b), some (x_i c), none, none, none, none] [] (al, ro, fl (ml M [32] [S1])) _ _ _ _
  refine e_iconst (pc := 4) dX12_firstAt_4 (x_R rfl) ?_
  refine e_istore (pc := 5) (i := 4) dX12_firstAt_5 (by decide) rfl ?_
  show Ev g _ _ _ _ _ _ 7 [some (x_r (16 * 32 + 0)), some (x_i a), some (x_i b), some (x_i c), some (x_i (-1)), none, none, none] [] (al, ro, fl (ml M [32] [S1])) _ _ _ _
  refine e_iconst (pc := 7) dX12_firstAt_7 (x_R rfl) ?_
  refine e_istore (pc := 8) (i := 5) dX12_firstAt_8 (by decide) rfl ?_
  show Ev g _ _ _ _ _ _ 10 [some (x_r (16 * 32 + 0)), some (x_i a), some (x_i b), some (x_i c), some (x_i (-1)), some (x_i 0), none, none] [] (al, ro, fl (ml M [32] [S1])) _ _ _ _
  obtain ⟨v6, S7, hl8, hG⟩ := x_bd2 hG
  have hk8 : ∀ q : (Int × xU), q = (v6, S7) → Ev g yX12_firstAt cX12_firstAt 8 (some .int) [] 46 106 [some (x_r (16 * 32 + 0)), some (x_i a), some (x_i b), some (x_i c), some (x_i q.1), none, none, none] [] (al, ro, fl (ml M [32] [q.2])) 0 0 (.inl (some (x_i t.1))) (al, ro, fl (ml M [32] [t.2])) := by
    intro q hq
    cases hq
    refine e_aloadn (pc := 106) (i := 0) dX12_firstAt_106 rfl rfl ?_
    obtain ⟨S27, hq27, hG⟩ := x_bd1 hG
    refine e_invV (pc := 107) (K1 := 0) (S1 := 0) (K := 0) (S := 0) (dd2 := 0) (av := []) (st := []) (id := 16 * 32 + 0) dX12_firstAt_107 xmX12_201 rfl (Or.inl ⟨10, 27, TX12, (sa_32_0 hs), rfl, by decide⟩) (f_cal (M := M) (us2 := [32]) [0] hn rfl (And.intro rfl trivial) rfl rfl rfl (c_X12_comesBack hst hs   hq27)) (by decide) (Nat.le_of_ble_eq_true rfl) (Or.inl rfl) ?_
    show Ev g _ _ _ _ _ _ 110 [some (x_r (16 * 32 + 0)), some (x_i a), some (x_i b), some (x_i c), some (x_i v6), none, none, none] [] (al, ro, fl (ml M [32] [S27])) _ _ _ _
    refine e_iload (pc := 110) dX12_firstAt_110 rfl ?_
    cases hG
    exact (e_ireturn rfl dX12_firstAt_112 rfl)
  clear hG
  refine e_whl (G12_firstAt_L10 a b c) (fun z : (Int × Int × xU) => Ev g yX12_firstAt cX12_firstAt 8 (some .int) [] 46 10 [some (x_r (16 * 32 + 0)), some (x_i a), some (x_i b), some (x_i c), some (x_i z.1), some (x_i z.2.1), none, none] [] (al, ro, fl (ml M [32] [z.2.2])) 0 0 (.inl (some (x_i t.1))) (al, ro, fl (ml M [32] [t.2]))) (fun q => q = (v6, S7)) ?_ xFU ((-1), 0, S1) _ hl8 rfl
  intro z t8 hf8 hi8 hx8
  obtain ⟨v3, v4, S5⟩ := z
  rw [G12_firstAt_L10] at hf8
  show Ev g _ _ _ _ _ _ 10 [some (x_r (16 * 32 + 0)), some (x_i a), some (x_i b), some (x_i c), some (x_i v3), some (x_i v4), none, none] [] (al, ro, fl (ml M [32] [S5])) _ _ _ _
  refine e_iload (pc := 10) dX12_firstAt_10 rfl ?_
  refine e_bipush (pc := 12) dX12_firstAt_12 (by decide +kernel) (x_R rfl) ?_
  refine e_icmp_gt (pc := 14) (tgt := 106) dX12_firstAt_14 (by decide) (fun hb => ?_) (fun hb => ?_)
  · rw [if_pos hb] at hf8
    cases hf8
    refine e_drop (i := 5) ?_
    have hh := hk8 _ (hx8 _ rfl)
    try dsimp only at hh
    exact hh
  · rw [if_neg hb] at hf8
    refine e_iload (pc := 17) dX12_firstAt_17 rfl ?_
    refine e_iconst (pc := 19) dX12_firstAt_19 (x_R rfl) ?_
    refine e_icmp_ne (pc := 20) (tgt := 106) dX12_firstAt_20 (by decide) (fun hb => ?_) (fun hb => ?_)
    · rw [if_neg hb] at hf8
      cases hf8
      refine e_drop (i := 5) ?_
      have hh := hk8 _ (hx8 _ rfl)
      try dsimp only at hh
      exact hh
    · rw [if_pos hb] at hf8
      refine e_iloadn (pc := 23) (i := 2) dX12_firstAt_23 rfl rfl ?_
      refine e_iconst (pc := 24) dX12_firstAt_24 (x_R rfl) ?_
      obtain ⟨v10, hr10, hf8⟩ := x_bd1 hf8
      have hjhr10 : Ev g yX12_firstAt cX12_firstAt 8 (some .int) [] 46 74 [some (x_r (16 * 32 + 0)), some (x_i a), some (x_i b), some (x_i c), some (x_i v3), some (x_i v4), none, none] [x_i v10] (al, ro, fl (ml M [32] [S5])) 0 0 (.inl (some (x_i t.1))) (al, ro, fl (ml M [32] [t.2])) := by
        refine e_istore (pc := 74) (i := 6) dX12_firstAt_74 (by decide) rfl ?_
        show Ev g _ _ _ _ _ _ 76 [some (x_r (16 * 32 + 0)), some (x_i a), some (x_i b), some (x_i c), some (x_i v3), some (x_i v4), some (x_i v10), none] [] (al, ro, fl (ml M [32] [S5])) _ _ _ _
        refine e_iload (pc := 76) dX12_firstAt_76 rfl ?_
        obtain ⟨v20, hr20, hf8⟩ := x_bd1 hf8
        have hjhr20 : Ev g yX12_firstAt cX12_firstAt 8 (some .int) [] 46 93 [some (x_r (16 * 32 + 0)), some (x_i a), some (x_i b), some (x_i c), some (x_i v20), some (x_i v4), some (x_i v10), none] [] (al, ro, fl (ml M [32] [S5])) 0 0 (.inl (some (x_i t.1))) (al, ro, fl (ml M [32] [t.2])) := by
          refine e_aloadn (pc := 93) (i := 0) dX12_firstAt_93 rfl rfl ?_
          refine e_iconst (pc := 94) dX12_firstAt_94 (x_R rfl) ?_
          obtain ⟨v24, S25, hq25, hf8⟩ := x_bd2 hf8
          refine e_invV (pc := 95) (K1 := 0) (S1 := 0) (K := 0) (S := 0) (dd2 := 45) (av := [x_i 0]) (st := []) (id := 16 * 32 + 0) dX12_firstAt_95 xmX12_292 rfl (Or.inl ⟨10, 27, TX12, (sa_32_0 hs), rfl, by decide⟩) (f_cal (M := M) (us2 := [32]) [0] hn rfl (And.intro rfl trivial) rfl rfl rfl (c_X12_passes hst hs   hq25)) (by decide) (Nat.le_of_ble_eq_true rfl) (Or.inl rfl) ?_
          show Ev g _ _ _ _ _ _ 98 [some (x_r (16 * 32 + 0)), some (x_i a), some (x_i b), some (x_i c), some (x_i v20), some (x_i v4), some (x_i v10), none] [x_i v24] (al, ro, fl (ml M [32] [S25])) _ _ _ _
          refine e_istore (pc := 98) (i := 7) dX12_firstAt_98 (by decide) rfl ?_
          show Ev g _ _ _ _ _ _ 100 [some (x_r (16 * 32 + 0)), some (x_i a), some (x_i b), some (x_i c), some (x_i v20), some (x_i v4), some (x_i v10), some (x_i v24)] [] (al, ro, fl (ml M [32] [S25])) _ _ _ _
          refine e_iinc (pc := 100) dX12_firstAt_100 rfl (by decide) rfl ?_
          show Ev g _ _ _ _ _ _ 103 [some (x_r (16 * 32 + 0)), some (x_i a), some (x_i b), some (x_i c), some (x_i v20), some (x_i (x_add v4 1)), some (x_i v10), some (x_i v24)] [] (al, ro, fl (ml M [32] [S25])) _ _ _ _
          refine e_goto (pc := 103) (tgt := 10) dX12_firstAt_103 (by decide) ?_
          cases hf8
          refine e_drop (i := 6) ?_
          refine e_drop (i := 7) ?_
          have hh := hi8 _ rfl
          try dsimp only at hh
          exact hh
        clear hf8
        refine e_if_eq (pc := 78) (tgt := 93) dX12_firstAt_78 (by decide) (fun hb => ?_) (fun hb => ?_)
        · rw [if_pos hb] at hr20
          cases hr20
          exact hjhr20
        · rw [if_neg hb] at hr20
          refine e_aloadn (pc := 81) (i := 0) dX12_firstAt_81 rfl rfl ?_
          refine e_iloadn (pc := 82) (i := 1) dX12_firstAt_82 rfl rfl ?_
          obtain ⟨v22, hq22, hr20⟩ := x_bd1 hr20
          refine e_invV (pc := 83) (K1 := 0) (S1 := 0) (K := 0) (S := 0) (dd2 := 1) (av := [x_i a]) (st := []) (id := 16 * 32 + 0) dX12_firstAt_83 xmX12_69 rfl (Or.inl ⟨10, 27, TX12, (sa_32_0 hs), rfl, by decide⟩) (f_cal (M := M) (us2 := [32]) [0] hn rfl (And.intro rfl trivial) rfl rfl rfl (c_X12_isLost hst hs   hq22)) (by decide) (Nat.le_of_ble_eq_true rfl) (Or.inl rfl) ?_
          show Ev g _ _ _ _ _ _ 86 [some (x_r (16 * 32 + 0)), some (x_i a), some (x_i b), some (x_i c), some (x_i v3), some (x_i v4), some (x_i v10), none] [x_i v22] (al, ro, fl (ml M [32] [S5])) _ _ _ _
          refine e_if_ne (pc := 86) (tgt := 93) dX12_firstAt_86 (by decide) (fun hb => ?_) (fun hb => ?_)
          · rw [if_neg hb] at hr20
            cases hr20
            exact hjhr20
          · rw [if_pos hb] at hr20
            refine e_iload (pc := 89) dX12_firstAt_89 rfl ?_
            refine e_istore (pc := 91) (i := 4) dX12_firstAt_91 (by decide) rfl ?_
            show Ev g _ _ _ _ _ _ 93 [some (x_r (16 * 32 + 0)), some (x_i a), some (x_i b), some (x_i c), some (x_i v4), some (x_i v4), some (x_i v10), none] [] (al, ro, fl (ml M [32] [S5])) _ _ _ _
            cases hr20
            exact hjhr20
      clear hf8
      refine e_icmp_ne (pc := 25) (tgt := 59) dX12_firstAt_25 (by decide) (fun hb => ?_) (fun hb => ?_)
      · rw [if_neg hb] at hr10
        refine e_aloadn (pc := 59) (i := 0) dX12_firstAt_59 rfl rfl ?_
        refine e_iloadn (pc := 60) (i := 1) dX12_firstAt_60 rfl rfl ?_
        refine e_iconst (pc := 61) dX12_firstAt_61 (x_R rfl) ?_
        obtain ⟨v12, hq12, hr10⟩ := x_bd1 hr10
        refine e_invV (pc := 62) (K1 := 0) (S1 := 0) (K := 0) (S := 0) (dd2 := 0) (av := [x_i a, x_i 0]) (st := []) (id := 16 * 32 + 0) dX12_firstAt_62 xmX12_65 rfl (Or.inl ⟨10, 27, TX12, (sa_32_0 hs), rfl, by decide⟩) (f_cal (M := M) (us2 := [32]) [0] hn rfl (And.intro rfl trivial) rfl rfl rfl (c_X12_of hst hs   hq12)) (by decide) (Nat.le_of_ble_eq_true rfl) (Or.inl rfl) ?_
        show Ev g _ _ _ _ _ _ 65 [some (x_r (16 * 32 + 0)), some (x_i a), some (x_i b), some (x_i c), some (x_i v3), some (x_i v4), none, none] [x_i v12] (al, ro, fl (ml M [32] [S5])) _ _ _ _
        refine e_iloadn (pc := 65) (i := 2) dX12_firstAt_65 rfl rfl ?_
        refine e_icmp_ne (pc := 66) (tgt := 73) dX12_firstAt_66 (by decide) (fun hb => ?_) (fun hb => ?_)
        · rw [if_neg hb] at hr10
          refine e_iconst (pc := 73) dX12_firstAt_73 (x_R rfl) ?_
          cases hr10
          exact hjhr10
        · rw [if_pos hb] at hr10
          refine e_iconst (pc := 69) dX12_firstAt_69 (x_R rfl) ?_
          refine e_goto (pc := 70) (tgt := 74) dX12_firstAt_70 (by decide) ?_
          cases hr10
          exact hjhr10
      · rw [if_pos hb] at hr10
        refine e_aloadn (pc := 28) (i := 0) dX12_firstAt_28 rfl rfl ?_
        refine e_iloadn (pc := 29) (i := 3) dX12_firstAt_29 rfl rfl ?_
        obtain ⟨v14, hq14, hr10⟩ := x_bd1 hr10
        refine e_invV (pc := 30) (K1 := 0) (S1 := 0) (K := 0) (S := 0) (dd2 := 1) (av := [x_i c]) (st := []) (id := 16 * 32 + 0) dX12_firstAt_30 xmX12_69 rfl (Or.inl ⟨10, 27, TX12, (sa_32_0 hs), rfl, by decide⟩) (f_cal (M := M) (us2 := [32]) [0] hn rfl (And.intro rfl trivial) rfl rfl rfl (c_X12_isLost hst hs   hq14)) (by decide) (Nat.le_of_ble_eq_true rfl) (Or.inl rfl) ?_
        show Ev g _ _ _ _ _ _ 33 [some (x_r (16 * 32 + 0)), some (x_i a), some (x_i b), some (x_i c), some (x_i v3), some (x_i v4), none, none] [x_i v14] (al, ro, fl (ml M [32] [S5])) _ _ _ _
        refine e_if_ne (pc := 33) (tgt := 55) dX12_firstAt_33 (by decide) (fun hb => ?_) (fun hb => ?_)
        · rw [if_neg hb] at hr10
          refine e_iconst (pc := 55) dX12_firstAt_55 (x_R rfl) ?_
          refine e_goto (pc := 56) (tgt := 74) dX12_firstAt_56 (by decide) ?_
          cases hr10
          exact hjhr10
        · rw [if_pos hb] at hr10
          refine e_aloadn (pc := 36) (i := 0) dX12_firstAt_36 rfl rfl ?_
          refine e_iloadn (pc := 37) (i := 1) dX12_firstAt_37 rfl rfl ?_
          refine e_iconst (pc := 38) dX12_firstAt_38 (x_R rfl) ?_
          obtain ⟨v16, hq16, hr10⟩ := x_bd1 hr10
          refine e_invV (pc := 39) (K1 := 0) (S1 := 0) (K := 0) (S := 0) (dd2 := 0) (av := [x_i a, x_i 0]) (st := []) (id := 16 * 32 + 0) dX12_firstAt_39 xmX12_65 rfl (Or.inl ⟨10, 27, TX12, (sa_32_0 hs), rfl, by decide⟩) (f_cal (M := M) (us2 := [32]) [0] hn rfl (And.intro rfl trivial) rfl rfl rfl (c_X12_of hst hs   hq16)) (by decide) (Nat.le_of_ble_eq_true rfl) (Or.inl rfl) ?_
          show Ev g _ _ _ _ _ _ 42 [some (x_r (16 * 32 + 0)), some (x_i a), some (x_i b), some (x_i c), some (x_i v3), some (x_i v4), none, none] [x_i v16] (al, ro, fl (ml M [32] [S5])) _ _ _ _
          refine e_aloadn (pc := 42) (i := 0) dX12_firstAt_42 rfl rfl ?_
          refine e_iloadn (pc := 43) (i := 3) dX12_firstAt_43 rfl rfl ?_
          refine e_iconst (pc := 44) dX12_firstAt_44 (x_R rfl) ?_
          obtain ⟨v18, hq18, hr10⟩ := x_bd1 hr10
          refine e_invV (pc := 45) (K1 := 0) (S1 := 0) (K := 0) (S := 0) (dd2 := 0) (av := [x_i c, x_i 0]) (st := [x_i v16]) (id := 16 * 32 + 0) dX12_firstAt_45 xmX12_65 rfl (Or.inl ⟨10, 27, TX12, (sa_32_0 hs), rfl, by decide⟩) (f_cal (M := M) (us2 := [32]) [0] hn rfl (And.intro rfl trivial) rfl rfl rfl (c_X12_of hst hs   hq18)) (by decide) (Nat.le_of_ble_eq_true rfl) (Or.inl rfl) ?_
          show Ev g _ _ _ _ _ _ 48 [some (x_r (16 * 32 + 0)), some (x_i a), some (x_i b), some (x_i c), some (x_i v3), some (x_i v4), none, none] [x_i v18, x_i v16] (al, ro, fl (ml M [32] [S5])) _ _ _ _
          refine e_icmp_ne (pc := 48) (tgt := 55) dX12_firstAt_48 (by decide) (fun hb => ?_) (fun hb => ?_)
          · rw [if_neg hb] at hr10
            refine e_iconst (pc := 55) dX12_firstAt_55 (x_R rfl) ?_
            refine e_goto (pc := 56) (tgt := 74) dX12_firstAt_56 (by decide) ?_
            cases hr10
            exact hjhr10
          · rw [if_pos hb] at hr10
            refine e_iconst (pc := 51) dX12_firstAt_51 (x_R rfl) ?_
            refine e_goto (pc := 52) (tgt := 74) dX12_firstAt_52 (by decide) ?_
            cases hr10
            exact hjhr10
set_option maxRecDepth 100000 in
set_option maxHeartbeats 4000000 in
theorem c_X12_when {g : xG} {al : List (Nat × Nat × Nat)} {ro : Nat → Nat → Option Nat} (hst : g.1.stackTraces = false) (hs : SH al ro) {M : Nat → xU} {a : Int} {b : Int} {S : xU}  {t : (Int × xU)} (hG : G12_when a b S = some t) :
    Cal g yX12_when cX12_when 3 (some .int) 47 [x_r (16 * 32 + 0), x_i a, x_i b] (al, ro, fl (ml M [32] [S])) 0 0 (.inl (some (x_i t.1))) (al, ro, fl (ml M [32] [t.2])) := by
  have hn : ([32] : List Nat).Nodup := by decide
  refine cal_of_ev (plainFor_of_name (by decide)) (x_c1 rfl) (Nat.le_of_ble_eq_true rfl) hst ?_
  show Ev g _ _ _ _ _ _ 0 [some (x_r (16 * 32 + 0)), some (x_i a), some (x_i b)] [] (al, ro, fl (ml M [32] [S])) _ _ _ _
  rw [G12_when] at hG
  refine e_aloadn (pc := 0) (i := 0) dX12_when_0 rfl rfl ?_
  refine e_aloadn (pc := 1) (i := 0) dX12_when_1 rfl rfl ?_
  refine e_iloadn (pc := 2) (i := 1) dX12_when_2 rfl rfl ?_
  obtain ⟨v1, hq1, hG⟩ := x_bd1 hG
  refine e_invV (pc := 3) (K1 := 0) (S1 := 0) (K := 0) (S := 0) (dd2 := 1) (av := [x_i a]) (st := [x_r (16 * 32 + 0)]) (id := 16 * 32 + 0) dX12_when_3 xmX12_295 rfl (Or.inl ⟨10, 27, TX12, (sa_32_0 hs), rfl, by decide⟩) (f_cal (M := M) (us2 := [32]) [0] hn rfl (And.intro rfl trivial) rfl rfl rfl (c_X12_isMonk hst hs   hq1)) (by decide) (Nat.le_of_ble_eq_true rfl) (Or.inl rfl) ?_
  show Ev g _ _ _ _ _ _ 6 [some (x_r (16 * 32 + 0)), some (x_i a), some (x_i b)] [x_i v1, x_r (16 * 32 + 0)] (al, ro, fl (ml M [32] [S])) _ _ _ _
  obtain ⟨v3, hr3, hG⟩ := x_bd1 hG
  have hjhr3 : Ev g yX12_when cX12_when 3 (some .int) [] 47 21 [some (x_r (16 * 32 + 0)), some (x_i a), some (x_i b)] [x_i v3, x_r (16 * 32 + 0)] (al, ro, fl (ml M [32] [S])) 0 0 (.inl (some (x_i t.1))) (al, ro, fl (ml M [32] [t.2])) := by
    refine f_puti (pc := 21) (k := 0) (u := 32) (q := 0) dX12_when_21 xf12_58 xw10_0 (sa_32_0 hs) hn rfl rfl rfl (by decide) ?_
    show Ev g _ _ _ _ _ _ 24 [some (x_r (16 * 32 + 0)), some (x_i a), some (x_i b)] [] (al, ro, fl (ml M [32] [(x_up S 0 0 v3)])) _ _ _ _
    refine e_aloadn (pc := 24) (i := 0) dX12_when_24 rfl rfl ?_
    refine f_geti (pc := 25) (k := 0) (u := 32) (q := 0) dX12_when_25 xf12_58 (sa_32_0 hs) rfl hn rfl rfl (by decide) ?_
    show Ev g _ _ _ _ _ _ 28 [some (x_r (16 * 32 + 0)), some (x_i a), some (x_i b)] [x_i ((x_up S 0 0 v3) 0 0)] (al, ro, fl (ml M [32] [(x_up S 0 0 v3)])) _ _ _ _
    obtain ⟨v7, S8, hr8, hG⟩ := x_bd2 hG
    have hjhr8 : Ev g yX12_when cX12_when 3 (some .int) [] 47 42 [some (x_r (16 * 32 + 0)), some (x_i a), some (x_i b)] [x_i v7] (al, ro, fl (ml M [32] [S8])) 0 0 (.inl (some (x_i t.1))) (al, ro, fl (ml M [32] [t.2])) := by
      cases hG
      exact (e_ireturn rfl dX12_when_42 rfl)
    clear hG
    refine e_if_le (pc := 28) (tgt := 35) dX12_when_28 (by decide) (fun hb => ?_) (fun hb => ?_)
    · rw [if_pos hb] at hr8
      refine e_aloadn (pc := 35) (i := 0) dX12_when_35 rfl rfl ?_
      refine e_iloadn (pc := 36) (i := 1) dX12_when_36 rfl rfl ?_
      refine e_iloadn (pc := 37) (i := 2) dX12_when_37 rfl rfl ?_
      refine e_iloadn (pc := 38) (i := 1) dX12_when_38 rfl rfl ?_
      obtain ⟨v10, S11, hq11, hr8⟩ := x_bd2 hr8
      refine e_invV (pc := 39) (K1 := 0) (S1 := 0) (K := 0) (S := 0) (dd2 := 46) (av := [x_i a, x_i b, x_i a]) (st := []) (id := 16 * 32 + 0) dX12_when_39 xmX12_320 rfl (Or.inl ⟨10, 27, TX12, (sa_32_0 hs), rfl, by decide⟩) (f_cal (M := M) (us2 := [32]) [0] hn rfl (And.intro rfl trivial) rfl rfl rfl (c_X12_firstAt hst hs   hq11)) (by decide) (Nat.le_of_ble_eq_true rfl) (Or.inl rfl) ?_
      show Ev g _ _ _ _ _ _ 42 [some (x_r (16 * 32 + 0)), some (x_i a), some (x_i b)] [x_i v10] (al, ro, fl (ml M [32] [S11])) _ _ _ _
      cases hr8
      exact hjhr8
    · rw [if_neg hb] at hr8
      refine e_iconst (pc := 31) dX12_when_31 (x_R rfl) ?_
      refine e_goto (pc := 32) (tgt := 42) dX12_when_32 (by decide) ?_
      cases hr8
      exact hjhr8
  clear hG
  refine e_if_eq (pc := 6) (tgt := 16) dX12_when_6 (by decide) (fun hb => ?_) (fun hb => ?_)
  · rw [if_pos hb] at hr3
    refine e_iconst (pc := 16) dX12_when_16 (x_R rfl) ?_
    refine e_goto (pc := 17) (tgt := 21) dX12_when_17 (by decide) ?_
    cases hr3
    exact hjhr3
  · rw [if_neg hb] at hr3
    refine e_iloadn (pc := 9) (i := 2) dX12_when_9 rfl rfl ?_
    obtain ⟨v5, hq5, hr3⟩ := x_bd1 hr3
    refine e_invS (pc := 10) (K1 := 0) (S1 := 0) (K := 0) (S := 0) (dd2 := 1) (av := [x_i b]) (st := [x_r (16 * 32 + 0)]) dX12_when_10 xmX12_304 rfl (f_cal (M := M) (us2 := []) [] hn rfl trivial rfl rfl rfl (c_X12_isFlag hst hs   hq5)) (by decide) (Nat.le_of_ble_eq_true rfl) (Or.inl rfl) ?_
    show Ev g _ _ _ _ _ _ 13 [some (x_r (16 * 32 + 0)), some (x_i a), some (x_i b)] [x_i v5, x_r (16 * 32 + 0)] (al, ro, fl (ml M [32] [S])) _ _ _ _
    refine e_if_ne (pc := 13) (tgt := 20) dX12_when_13 (by decide) (fun hb => ?_) (fun hb => ?_)
    · rw [if_neg hb] at hr3
      refine e_iconst (pc := 20) dX12_when_20 (x_R rfl) ?_
      cases hr3
      exact hjhr3
    · rw [if_pos hb] at hr3
      refine e_iconst (pc := 16) dX12_when_16 (x_R rfl) ?_
      refine e_goto (pc := 17) (tgt := 21) dX12_when_17 (by decide) ?_
      cases hr3
      exact hjhr3
set_option maxRecDepth 100000 in
set_option maxHeartbeats 4000000 in
theorem c_X12_meet {g : xG} {al : List (Nat × Nat × Nat)} {ro : Nat → Nat → Option Nat} (hst : g.1.stackTraces = false) (hs : SH al ro) {M : Nat → xU} {a : Int} {b : Int} {S : xU}  {t : (Int × xU)} (hG : G12_meet a b S = some t) :
    Cal g yX12_meet cX12_meet 3 (some .int) 47 [x_r (16 * 32 + 0), x_i a, x_i b] (al, ro, fl (ml M [32] [S])) 0 0 (.inl (some (x_i t.1))) (al, ro, fl (ml M [32] [t.2])) := by
  have hn : ([32] : List Nat).Nodup := by decide
  refine cal_of_ev (plainFor_of_name (by decide)) (x_c1 rfl) (Nat.le_of_ble_eq_true rfl) hst ?_
  show Ev g _ _ _ _ _ _ 0 [some (x_r (16 * 32 + 0)), some (x_i a), some (x_i b)] [] (al, ro, fl (ml M [32] [S])) _ _ _ _
  rw [G12_meet] at hG
  refine e_aloadn (pc := 0) (i := 0) dX12_meet_0 rfl rfl ?_
  refine e_iloadn (pc := 1) (i := 1) dX12_meet_1 rfl rfl ?_
  refine e_iloadn (pc := 2) (i := 2) dX12_meet_2 rfl rfl ?_
  obtain ⟨S1, hq1, hG⟩ := x_bd1 hG
  refine e_invV (pc := 3) (K1 := 0) (S1 := 0) (K := 0) (S := 0) (dd2 := 2) (av := [x_i a, x_i b]) (st := []) (id := 16 * 32 + 0) dX12_meet_3 xmX12_317 rfl (Or.inl ⟨10, 27, TX12, (sa_32_0 hs), rfl, by decide⟩) (f_cal (M := M) (us2 := [32]) [0] hn rfl (And.intro rfl trivial) rfl rfl rfl (c_X12_areTwo hst hs   hq1)) (by decide) (Nat.le_of_ble_eq_true rfl) (Or.inl rfl) ?_
  show Ev g _ _ _ _ _ _ 6 [some (x_r (16 * 32 + 0)), some (x_i a), some (x_i b)] [] (al, ro, fl (ml M [32] [S1])) _ _ _ _
  refine e_aloadn (pc := 6) (i := 0) dX12_meet_6 rfl rfl ?_
  refine f_geti (pc := 7) (k := 0) (u := 32) (q := 0) dX12_meet_7 xf12_58 (sa_32_0 hs) rfl hn rfl rfl (by decide) ?_
  show Ev g _ _ _ _ _ _ 10 [some (x_r (16 * 32 + 0)), some (x_i a), some (x_i b)] [x_i (S1 0 0)] (al, ro, fl (ml M [32] [S1])) _ _ _ _
  obtain ⟨v3, S4, hr4, hG⟩ := x_bd2 hG
  have hjhr4 : Ev g yX12_meet cX12_meet 3 (some .int) [] 47 24 [some (x_r (16 * 32 + 0)), some (x_i a), some (x_i b)] [x_i v3] (al, ro, fl (ml M [32] [S4])) 0 0 (.inl (some (x_i t.1))) (al, ro, fl (ml M [32] [t.2])) := by
    cases hG
    exact (e_ireturn rfl dX12_meet_24 rfl)
  clear hG
  refine e_if_le (pc := 10) (tgt := 17) dX12_meet_10 (by decide) (fun hb => ?_) (fun hb => ?_)
  · rw [if_pos hb] at hr4
    refine e_aloadn (pc := 17) (i := 0) dX12_meet_17 rfl rfl ?_
    refine e_iloadn (pc := 18) (i := 1) dX12_meet_18 rfl rfl ?_
    refine e_iconst (pc := 19) dX12_meet_19 (x_R rfl) ?_
    refine e_iloadn (pc := 20) (i := 2) dX12_meet_20 rfl rfl ?_
    obtain ⟨v6, S7, hq7, hr4⟩ := x_bd2 hr4
    refine e_invV (pc := 21) (K1 := 0) (S1 := 0) (K := 0) (S := 0) (dd2 := 46) (av := [x_i a, x_i (-1), x_i b]) (st := []) (id := 16 * 32 + 0) dX12_meet_21 xmX12_320 rfl (Or.inl ⟨10, 27, TX12, (sa_32_0 hs), rfl, by decide⟩) (f_cal (M := M) (us2 := [32]) [0] hn rfl (And.intro rfl trivial) rfl rfl rfl (c_X12_firstAt hst hs   hq7)) (by decide) (Nat.le_of_ble_eq_true rfl) (Or.inl rfl) ?_
    show Ev g _ _ _ _ _ _ 24 [some (x_r (16 * 32 + 0)), some (x_i a), some (x_i b)] [x_i v6] (al, ro, fl (ml M [32] [S7])) _ _ _ _
    cases hr4
    exact hjhr4
  · rw [if_neg hb] at hr4
    refine e_iconst (pc := 13) dX12_meet_13 (x_R rfl) ?_
    refine e_goto (pc := 14) (tgt := 24) dX12_meet_14 (by decide) ?_
    cases hr4
    exact hjhr4
set_option maxRecDepth 100000 in
set_option maxHeartbeats 4000000 in
theorem c_X12_latesIn {g : xG} {al : List (Nat × Nat × Nat)} {ro : Nat → Nat → Option Nat} (hst : g.1.stackTraces = false) (hs : SH al ro) {M : Nat → xU} {a : Int} {S : xU}  {t : (Int × xU)} (hG : G12_latesIn a S = some t) :
    Cal g yX12_latesIn cX12_latesIn 4 (some .int) 46 [x_r (16 * 32 + 0), x_i a] (al, ro, fl (ml M [32] [S])) 0 0 (.inl (some (x_i t.1))) (al, ro, fl (ml M [32] [t.2])) := by
  have hn : ([32] : List Nat).Nodup := by decide
  refine cal_of_ev (plainFor_of_name (by decide)) (x_c1 rfl) (Nat.le_of_ble_eq_true rfl) hst ?_
  show Ev g _ _ _ _ _ _ 0 [some (x_r (16 * 32 + 0)), some (x_i a), none, none] [] (al, ro, fl (ml M [32] [S])) _ _ _ _
  rw [G12_latesIn] at hG
  refine e_iconst (pc := 0) dX12_latesIn_0 (x_R rfl) ?_
  refine e_istoren (pc := 1) (i := 2) dX12_latesIn_1 rfl (by decide) rfl ?_
  show Ev g _ _ _ _ _ _ 2 [some (x_r (16 * 32 + 0)), some (x_i a), some (x_i 0), none] [] (al, ro, fl (ml M [32] [S])) _ _ _ _
  obtain ⟨S3, hl4, hG⟩ := x_bd1 hG
  have hk4 : ∀ q : xU, q = S3 → Ev g yX12_latesIn cX12_latesIn 4 (some .int) [] 46 21 [some (x_r (16 * 32 + 0)), some (x_i a), none, none] [] (al, ro, fl (ml M [32] [q])) 0 0 (.inl (some (x_i t.1))) (al, ro, fl (ml M [32] [t.2])) := by
    intro q hq
    replace hq := hq.symm
    subst hq
    refine e_aloadn (pc := 21) (i := 0) dX12_latesIn_21 rfl rfl ?_
    obtain ⟨S6, hq6, hG⟩ := x_bd1 hG
    refine e_invV (pc := 22) (K1 := 0) (S1 := 0) (K := 0) (S := 0) (dd2 := 0) (av := []) (st := []) (id := 16 * 32 + 0) dX12_latesIn_22 xmX12_192 rfl (Or.inl ⟨10, 27, TX12, (sa_32_0 hs), rfl, by decide⟩) (f_cal (M := M) (us2 := [32]) [0] hn rfl (And.intro rfl trivial) rfl rfl rfl (c_X12_putsAside hst hs   hq6)) (by decide) (Nat.le_of_ble_eq_true rfl) (Or.inl rfl) ?_
    show Ev g _ _ _ _ _ _ 25 [some (x_r (16 * 32 + 0)), some (x_i a), none, none] [] (al, ro, fl (ml M [32] [S6])) _ _ _ _
    refine e_iconst (pc := 25) dX12_latesIn_25 (x_R rfl) ?_
    refine e_istoren (pc := 26) (i := 2) dX12_latesIn_26 rfl (by decide) rfl ?_
    show Ev g _ _ _ _ _ _ 27 [some (x_r (16 * 32 + 0)), some (x_i a), some (x_i 0), none] [] (al, ro, fl (ml M [32] [S6])) _ _ _ _
    refine e_iconst (pc := 27) dX12_latesIn_27 (x_R rfl) ?_
    refine e_istoren (pc := 28) (i := 3) dX12_latesIn_28 rfl (by decide) rfl ?_
    show Ev g _ _ _ _ _ _ 29 [some (x_r (16 * 32 + 0)), some (x_i a), some (x_i 0), some (x_i 0)] [] (al, ro, fl (ml M [32] [S6])) _ _ _ _
    obtain ⟨v11, S12, hl13, hG⟩ := x_bd2 hG
    have hk13 : ∀ q : (Int × xU), q = (v11, S12) → Ev g yX12_latesIn cX12_latesIn 4 (some .int) [] 46 64 [some (x_r (16 * 32 + 0)), some (x_i a), some (x_i q.1), none] [] (al, ro, fl (ml M [32] [q.2])) 0 0 (.inl (some (x_i t.1))) (al, ro, fl (ml M [32] [t.2])) := by
      intro q hq
      cases hq
      refine e_aloadn (pc := 64) (i := 0) dX12_latesIn_64 rfl rfl ?_
      obtain ⟨S20, hq20, hG⟩ := x_bd1 hG
      refine e_invV (pc := 65) (K1 := 0) (S1 := 0) (K := 0) (S := 0) (dd2 := 0) (av := []) (st := []) (id := 16 * 32 + 0) dX12_latesIn_65 xmX12_201 rfl (Or.inl ⟨10, 27, TX12, (sa_32_0 hs), rfl, by decide⟩) (f_cal (M := M) (us2 := [32]) [0] hn rfl (And.intro rfl trivial) rfl rfl rfl (c_X12_comesBack hst hs   hq20)) (by decide) (Nat.le_of_ble_eq_true rfl) (Or.inl rfl) ?_
      show Ev g _ _ _ _ _ _ 68 [some (x_r (16 * 32 + 0)), some (x_i a), some (x_i v11), none] [] (al, ro, fl (ml M [32] [S20])) _ _ _ _
      refine e_iloadn (pc := 68) (i := 2) dX12_latesIn_68 rfl rfl ?_
      cases hG
      exact (e_ireturn rfl dX12_latesIn_69 rfl)
    clear hG
    refine e_whl (G12_latesIn_L29 a) (fun z : (Int × Int × xU) => Ev g yX12_latesIn cX12_latesIn 4 (some .int) [] 46 29 [some (x_r (16 * 32 + 0)), some (x_i a), some (x_i z.1), some (x_i z.2.1)] [] (al, ro, fl (ml M [32] [z.2.2])) 0 0 (.inl (some (x_i t.1))) (al, ro, fl (ml M [32] [t.2]))) (fun q => q = (v11, S12)) ?_ xFU (0, 0, S6) _ hl13 rfl
    intro z t13 hf13 hi13 hx13
    obtain ⟨v8, v9, S10⟩ := z
    rw [G12_latesIn_L29] at hf13
    show Ev g _ _ _ _ _ _ 29 [some (x_r (16 * 32 + 0)), some (x_i a), some (x_i v8), some (x_i v9)] [] (al, ro, fl (ml M [32] [S10])) _ _ _ _
    refine e_iloadn (pc := 29) (i := 3) dX12_latesIn_29 rfl rfl ?_
    refine e_iloadn (pc := 30) (i := 1) dX12_latesIn_30 rfl rfl ?_
    refine e_icmp_ge (pc := 31) (tgt := 64) dX12_latesIn_31 (by decide) (fun hb => ?_) (fun hb => ?_)
    · rw [if_pos hb] at hf13
      cases hf13
      refine e_drop (i := 3) ?_
      have hh := hk13 _ (hx13 _ rfl)
      try dsimp only at hh
      exact hh
    · rw [if_neg hb] at hf13
      refine e_iloadn (pc := 34) (i := 3) dX12_latesIn_34 rfl rfl ?_
      refine e_aloadn (pc := 35) (i := 0) dX12_latesIn_35 rfl rfl ?_
      refine f_getr (pc := 36) (u := 32) (q := 0) dX12_latesIn_36 xf12_7 (sa_32_0 hs) rfl (sr_32_0_1 hs) ?_
      refine e_iconst (pc := 39) dX12_latesIn_39 (x_R rfl) ?_
      refine f_iald (pc := 40) (k := 0) (u := 32) (q := 1) (len := 772) dX12_latesIn_40 (sa_32_1 hs) (by decide) hn rfl rfl (by decide) ?_
      show Ev g _ _ _ _ _ _ 41 [some (x_r (16 * 32 + 0)), some (x_i a), some (x_i v8), some (x_i v9)] [x_i (S10 1 4), x_i v9] (al, ro, fl (ml M [32] [S10])) _ _ _ _
      refine e_iconst (pc := 41) dX12_latesIn_41 (x_R rfl) ?_
      refine e_irem (pc := 42) dX12_latesIn_42 (by decide) ?_
      obtain ⟨v15, hr15, hf13⟩ := x_bd1 hf13
      have hjhr15 : Ev g yX12_latesIn cX12_latesIn 4 (some .int) [] 46 51 [some (x_r (16 * 32 + 0)), some (x_i a), some (x_i v8), some (x_i v9)] [x_i v15, x_i v9] (al, ro, fl (ml M [32] [S10])) 0 0 (.inl (some (x_i t.1))) (al, ro, fl (ml M [32] [t.2])) := by
        refine e_iadd (pc := 51) dX12_latesIn_51 ?_
        refine e_istoren (pc := 52) (i := 3) dX12_latesIn_52 rfl (by decide) rfl ?_
        show Ev g _ _ _ _ _ _ 53 [some (x_r (16 * 32 + 0)), some (x_i a), some (x_i v8), some (x_i (x_add v9 v15))] [] (al, ro, fl (ml M [32] [S10])) _ _ _ _
        refine e_iloadn (pc := 53) (i := 2) dX12_latesIn_53 rfl rfl ?_
        refine e_aloadn (pc := 54) (i := 0) dX12_latesIn_54 rfl rfl ?_
        refine e_iconst (pc := 55) dX12_latesIn_55 (x_R rfl) ?_
        obtain ⟨v17, S18, hq18, hf13⟩ := x_bd2 hf13
        refine e_invV (pc := 56) (K1 := 0) (S1 := 0) (K := 0) (S := 0) (dd2 := 45) (av := [x_i 0]) (st := [x_i v8]) (id := 16 * 32 + 0) dX12_latesIn_56 xmX12_292 rfl (Or.inl ⟨10, 27, TX12, (sa_32_0 hs), rfl, by decide⟩) (f_cal (M := M) (us2 := [32]) [0] hn rfl (And.intro rfl trivial) rfl rfl rfl (c_X12_passes hst hs   hq18)) (by decide) (Nat.le_of_ble_eq_true rfl) (Or.inl rfl) ?_
        show Ev g _ _ _ _ _ _ 59 [some (x_r (16 * 32 + 0)), some (x_i a), some (x_i v8), some (x_i (x_add v9 v15))] [x_i v17, x_i v8] (al, ro, fl (ml M [32] [S18])) _ _ _ _
        refine e_iadd (pc := 59) dX12_latesIn_59 ?_
        refine e_istoren (pc := 60) (i := 2) dX12_latesIn_60 rfl (by decide) rfl ?_
        show Ev g _ _ _ _ _ _ 61 [some (x_r (16 * 32 + 0)), some (x_i a), some (x_i (x_add v8 v17)), some (x_i (x_add v9 v15))] [] (al, ro, fl (ml M [32] [S18])) _ _ _ _
        refine e_goto (pc := 61) (tgt := 29) dX12_latesIn_61 (by decide) ?_
        cases hf13
        have hh := hi13 _ rfl
        try dsimp only at hh
        exact hh
      clear hf13
      refine e_if_ne (pc := 43) (tgt := 50) dX12_latesIn_43 (by decide) (fun hb => ?_) (fun hb => ?_)
      · rw [if_neg hb] at hr15
        refine e_iconst (pc := 50) dX12_latesIn_50 (x_R rfl) ?_
        cases hr15
        exact hjhr15
      · rw [if_pos hb] at hr15
        refine e_iconst (pc := 46) dX12_latesIn_46 (x_R rfl) ?_
        refine e_goto (pc := 47) (tgt := 51) dX12_latesIn_47 (by decide) ?_
        cases hr15
        exact hjhr15
  clear hG
  refine e_whl G12_latesIn_L2 (fun z : (Int × xU) => Ev g yX12_latesIn cX12_latesIn 4 (some .int) [] 46 2 [some (x_r (16 * 32 + 0)), some (x_i a), some (x_i z.1), none] [] (al, ro, fl (ml M [32] [z.2])) 0 0 (.inl (some (x_i t.1))) (al, ro, fl (ml M [32] [t.2]))) (fun q => q = S3) ?_ xFU (0, S) _ hl4 rfl
  intro z t4 hf4 hi4 hx4
  obtain ⟨v1, S2⟩ := z
  rw [G12_latesIn_L2] at hf4
  show Ev g _ _ _ _ _ _ 2 [some (x_r (16 * 32 + 0)), some (x_i a), some (x_i v1), none] [] (al, ro, fl (ml M [32] [S2])) _ _ _ _
  refine e_iloadn (pc := 2) (i := 2) dX12_latesIn_2 rfl rfl ?_
  refine e_bipush (pc := 3) dX12_latesIn_3 (by decide +kernel) (x_R rfl) ?_
  refine e_icmp_ge (pc := 5) (tgt := 21) dX12_latesIn_5 (by decide) (fun hb => ?_) (fun hb => ?_)
  · rw [if_pos hb] at hf4
    cases hf4
    refine e_drop (i := 2) ?_
    have hh := hk4 _ (hx4 _ rfl)
    try dsimp only at hh
    exact hh
  · rw [if_neg hb] at hf4
    refine e_aloadn (pc := 8) (i := 0) dX12_latesIn_8 rfl rfl ?_
    refine f_getr (pc := 9) (u := 32) (q := 0) dX12_latesIn_9 xf12_32 (sa_32_0 hs) rfl (sr_32_0_19 hs) ?_
    refine e_iloadn (pc := 12) (i := 2) dX12_latesIn_12 rfl rfl ?_
    refine e_iconst (pc := 13) dX12_latesIn_13 (x_R rfl) ?_
    obtain ⟨hc0, hf4⟩ := x_gd_some hf4
    refine f_iast (pc := 14) (k := 0) (u := 32) (q := 7) (len := 7) dX12_latesIn_14 (sa_32_7 hs) hc0 hn rfl rfl rfl (by decide) ?_
    show Ev g _ _ _ _ _ _ 15 [some (x_r (16 * 32 + 0)), some (x_i a), some (x_i v1), none] [] (al, ro, fl (ml M [32] [(x_up S2 7 (v1).toNat 0)])) _ _ _ _
    refine e_iinc (pc := 15) dX12_latesIn_15 rfl (by decide) rfl ?_
    show Ev g _ _ _ _ _ _ 18 [some (x_r (16 * 32 + 0)), some (x_i a), some (x_i (x_add v1 1)), none] [] (al, ro, fl (ml M [32] [(x_up S2 7 (v1).toNat 0)])) _ _ _ _
    refine e_goto (pc := 18) (tgt := 2) dX12_latesIn_18 (by decide) ?_
    cases hf4
    have hh := hi4 _ rfl
    try dsimp only at hh
    exact hh
set_option maxRecDepth 100000 in
set_option maxHeartbeats 4000000 in
theorem c_X12_lates {g : xG} {al : List (Nat × Nat × Nat)} {ro : Nat → Nat → Option Nat} (hst : g.1.stackTraces = false) (hs : SH al ro) {M : Nat → xU} {a : Int} {S : xU}  {t : (Int × xU)} (hG : G12_lates a S = some t) :
    Cal g yX12_lates cX12_lates 2 (some .int) 47 [x_r (16 * 32 + 0), x_i a] (al, ro, fl (ml M [32] [S])) 0 0 (.inl (some (x_i t.1))) (al, ro, fl (ml M [32] [t.2])) := by
  have hn : ([32] : List Nat).Nodup := by decide
  refine cal_of_ev (plainFor_of_name (by decide)) (x_c1 rfl) (Nat.le_of_ble_eq_true rfl) hst ?_
  show Ev g _ _ _ _ _ _ 0 [some (x_r (16 * 32 + 0)), some (x_i a)] [] (al, ro, fl (ml M [32] [S])) _ _ _ _
  rw [G12_lates] at hG
  refine e_aloadn (pc := 0) (i := 0) dX12_lates_0 rfl rfl ?_
  refine e_iloadn (pc := 1) (i := 1) dX12_lates_1 rfl rfl ?_
  refine e_iconst (pc := 2) dX12_lates_2 (x_R rfl) ?_
  refine e_bipush (pc := 3) dX12_lates_3 (by decide +kernel) (x_R rfl) ?_
  obtain ⟨v1, hq1, hG⟩ := x_bd1 hG
  refine e_invS (pc := 5) (K1 := 0) (S1 := 0) (K := 0) (S := 0) (dd2 := 0) (av := [x_i a, x_i 0, x_i 9]) (st := [x_r (16 * 32 + 0)]) dX12_lates_5 xmX12_61 rfl (f_cal (M := M) (us2 := []) [] hn rfl trivial rfl rfl rfl (c_X12_isIn hst hs   hq1)) (by decide) (Nat.le_of_ble_eq_true rfl) (Or.inl rfl) ?_
  show Ev g _ _ _ _ _ _ 8 [some (x_r (16 * 32 + 0)), some (x_i a)] [x_i v1, x_r (16 * 32 + 0)] (al, ro, fl (ml M [32] [S])) _ _ _ _
  obtain ⟨v3, hr3, hG⟩ := x_bd1 hG
  have hjhr3 : Ev g yX12_lates cX12_lates 2 (some .int) [] 47 16 [some (x_r (16 * 32 + 0)), some (x_i a)] [x_i v3, x_r (16 * 32 + 0)] (al, ro, fl (ml M [32] [S])) 0 0 (.inl (some (x_i t.1))) (al, ro, fl (ml M [32] [t.2])) := by
    refine f_puti (pc := 16) (k := 0) (u := 32) (q := 0) dX12_lates_16 xf12_58 xw10_0 (sa_32_0 hs) hn rfl rfl rfl (by decide) ?_
    show Ev g _ _ _ _ _ _ 19 [some (x_r (16 * 32 + 0)), some (x_i a)] [] (al, ro, fl (ml M [32] [(x_up S 0 0 v3)])) _ _ _ _
    refine e_aloadn (pc := 19) (i := 0) dX12_lates_19 rfl rfl ?_
    refine f_geti (pc := 20) (k := 0) (u := 32) (q := 0) dX12_lates_20 xf12_58 (sa_32_0 hs) rfl hn rfl rfl (by decide) ?_
    show Ev g _ _ _ _ _ _ 23 [some (x_r (16 * 32 + 0)), some (x_i a)] [x_i ((x_up S 0 0 v3) 0 0)] (al, ro, fl (ml M [32] [(x_up S 0 0 v3)])) _ _ _ _
    obtain ⟨v5, S6, hr6, hG⟩ := x_bd2 hG
    have hjhr6 : Ev g yX12_lates cX12_lates 2 (some .int) [] 47 35 [some (x_r (16 * 32 + 0)), some (x_i a)] [x_i v5] (al, ro, fl (ml M [32] [S6])) 0 0 (.inl (some (x_i t.1))) (al, ro, fl (ml M [32] [t.2])) := by
      cases hG
      exact (e_ireturn rfl dX12_lates_35 rfl)
    clear hG
    refine e_if_le (pc := 23) (tgt := 30) dX12_lates_23 (by decide) (fun hb => ?_) (fun hb => ?_)
    · rw [if_pos hb] at hr6
      refine e_aloadn (pc := 30) (i := 0) dX12_lates_30 rfl rfl ?_
      refine e_iloadn (pc := 31) (i := 1) dX12_lates_31 rfl rfl ?_
      obtain ⟨v8, S9, hq9, hr6⟩ := x_bd2 hr6
      refine e_invV (pc := 32) (K1 := 0) (S1 := 0) (K := 0) (S := 0) (dd2 := 46) (av := [x_i a]) (st := []) (id := 16 * 32 + 0) dX12_lates_32 xmX12_324 rfl (Or.inl ⟨10, 27, TX12, (sa_32_0 hs), rfl, by decide⟩) (f_cal (M := M) (us2 := [32]) [0] hn rfl (And.intro rfl trivial) rfl rfl rfl (c_X12_latesIn hst hs   hq9)) (by decide) (Nat.le_of_ble_eq_true rfl) (Or.inl rfl) ?_
      show Ev g _ _ _ _ _ _ 35 [some (x_r (16 * 32 + 0)), some (x_i a)] [x_i v8] (al, ro, fl (ml M [32] [S9])) _ _ _ _
      cases hr6
      exact hjhr6
    · rw [if_neg hb] at hr6
      refine e_iconst (pc := 26) dX12_lates_26 (x_R rfl) ?_
      refine e_goto (pc := 27) (tgt := 35) dX12_lates_27 (by decide) ?_
      cases hr6
      exact hjhr6
  clear hG
  refine e_if_ne (pc := 8) (tgt := 15) dX12_lates_8 (by decide) (fun hb => ?_) (fun hb => ?_)
  · rw [if_neg hb] at hr3
    refine e_iconst (pc := 15) dX12_lates_15 (x_R rfl) ?_
    cases hr3
    exact hjhr3
  · rw [if_pos hb] at hr3
    refine e_iconst (pc := 11) dX12_lates_11 (x_R rfl) ?_
    refine e_goto (pc := 12) (tgt := 16) dX12_lates_12 (by decide) ?_
    cases hr3
    exact hjhr3
set_option maxRecDepth 100000 in
set_option maxHeartbeats 4000000 in
theorem c_X12_tardy {g : xG} {al : List (Nat × Nat × Nat)} {ro : Nat → Nat → Option Nat} (hst : g.1.stackTraces = false) (hs : SH al ro) {M : Nat → xU} {S : xU}  {t : (Int × xU)} (hG : G12_tardy S = some t) :
    Cal g yX12_tardy cX12_tardy 4 (some .int) 47 [x_r (16 * 32 + 0)] (al, ro, fl (ml M [32] [S])) 0 0 (.inl (some (x_i t.1))) (al, ro, fl (ml M [32] [t.2])) := by
  have hn : ([32] : List Nat).Nodup := by decide
  refine cal_of_ev (plainFor_of_name (by decide)) (x_c1 rfl) (Nat.le_of_ble_eq_true rfl) hst ?_
  show Ev g _ _ _ _ _ _ 0 [some (x_r (16 * 32 + 0)), none, none, none] [] (al, ro, fl (ml M [32] [S])) _ _ _ _
  rw [G12_tardy] at hG
  refine e_aloadn (pc := 0) (i := 0) dX12_tardy_0 rfl rfl ?_
  refine e_iconst (pc := 1) dX12_tardy_1 (x_R rfl) ?_
  refine f_puti (pc := 2) (k := 0) (u := 32) (q := 0) dX12_tardy_2 xf12_58 xw10_0 (sa_32_0 hs) hn rfl rfl rfl (by decide) ?_
  show Ev g _ _ _ _ _ _ 5 [some (x_r (16 * 32 + 0)), none, none, none] [] (al, ro, fl (ml M [32] [(x_up S 0 0 0)])) _ _ _ _
  refine e_aloadn (pc := 5) (i := 0) dX12_tardy_5 rfl rfl ?_
  refine e_bipush (pc := 6) dX12_tardy_6 (by decide +kernel) (x_R rfl) ?_
  obtain ⟨v1, S2, hq2, hG⟩ := x_bd2 hG
  refine e_invV (pc := 8) (K1 := 0) (S1 := 0) (K := 0) (S := 0) (dd2 := 46) (av := [x_i 8]) (st := []) (id := 16 * 32 + 0) dX12_tardy_8 xmX12_324 rfl (Or.inl ⟨10, 27, TX12, (sa_32_0 hs), rfl, by decide⟩) (f_cal (M := M) (us2 := [32]) [0] hn rfl (And.intro rfl trivial) rfl rfl rfl (c_X12_latesIn hst hs   hq2)) (by decide) (Nat.le_of_ble_eq_true rfl) (Or.inl rfl) ?_
  show Ev g _ _ _ _ _ _ 11 [some (x_r (16 * 32 + 0)), none, none, none] [x_i v1] (al, ro, fl (ml M [32] [S2])) _ _ _ _
  refine e_istoren (pc := 11) (i := 1) dX12_tardy_11 rfl (by decide) rfl ?_
  show Ev g _ _ _ _ _ _ 12 [some (x_r (16 * 32 + 0)), some (x_i v1), none, none] [] (al, ro, fl (ml M [32] [S2])) _ _ _ _
  refine e_iconst (pc := 12) dX12_tardy_12 (x_R rfl) ?_
  refine e_istoren (pc := 13) (i := 2) dX12_tardy_13 rfl (by decide) rfl ?_
  show Ev g _ _ _ _ _ _ 14 [some (x_r (16 * 32 + 0)), some (x_i v1), some (x_i (-1)), none] [] (al, ro, fl (ml M [32] [S2])) _ _ _ _
  refine e_iconst (pc := 14) dX12_tardy_14 (x_R rfl) ?_
  refine e_istoren (pc := 15) (i := 3) dX12_tardy_15 rfl (by decide) rfl ?_
  show Ev g _ _ _ _ _ _ 16 [some (x_r (16 * 32 + 0)), some (x_i v1), some (x_i (-1)), some (x_i 0)] [] (al, ro, fl (ml M [32] [S2])) _ _ _ _
  obtain ⟨v6, hl7, hG⟩ := x_bd1 hG
  have hk7 : ∀ q : Int, q = v6 → Ev g yX12_tardy cX12_tardy 4 (some .int) [] 47 58 [some (x_r (16 * 32 + 0)), some (x_i v1), some (x_i q), none] [] (al, ro, fl (ml M [32] [S2])) 0 0 (.inl (some (x_i t.1))) (al, ro, fl (ml M [32] [t.2])) := by
    intro q hq
    replace hq := hq.symm
    subst hq
    refine e_iloadn (pc := 58) (i := 2) dX12_tardy_58 rfl rfl ?_
    cases hG
    exact (e_ireturn rfl dX12_tardy_59 rfl)
  clear hG
  refine e_whl (G12_tardy_L16 S2) (fun z : (Int × Int) => Ev g yX12_tardy cX12_tardy 4 (some .int) [] 47 16 [some (x_r (16 * 32 + 0)), some (x_i v1), some (x_i z.1), some (x_i z.2)] [] (al, ro, fl (ml M [32] [S2])) 0 0 (.inl (some (x_i t.1))) (al, ro, fl (ml M [32] [t.2]))) (fun q => q = v6) ?_ xFU ((-1), 0) _ hl7 rfl
  intro z t7 hf7 hi7 hx7
  obtain ⟨v4, v5⟩ := z
  rw [G12_tardy_L16] at hf7
  show Ev g _ _ _ _ _ _ 16 [some (x_r (16 * 32 + 0)), some (x_i v1), some (x_i v4), some (x_i v5)] [] (al, ro, fl (ml M [32] [S2])) _ _ _ _
  refine e_iloadn (pc := 16) (i := 3) dX12_tardy_16 rfl rfl ?_
  refine e_aloadn (pc := 17) (i := 0) dX12_tardy_17 rfl rfl ?_
  refine f_getr (pc := 18) (u := 32) (q := 0) dX12_tardy_18 xf12_7 (sa_32_0 hs) rfl (sr_32_0_1 hs) ?_
  refine e_iconst (pc := 21) dX12_tardy_21 (x_R rfl) ?_
  refine f_iald (pc := 22) (k := 0) (u := 32) (q := 1) (len := 772) dX12_tardy_22 (sa_32_1 hs) (by decide) hn rfl rfl (by decide) ?_
  show Ev g _ _ _ _ _ _ 23 [some (x_r (16 * 32 + 0)), some (x_i v1), some (x_i v4), some (x_i v5)] [x_i (S2 1 3), x_i v5] (al, ro, fl (ml M [32] [S2])) _ _ _ _
  refine e_icmp_ge (pc := 23) (tgt := 58) dX12_tardy_23 (by decide) (fun hb => ?_) (fun hb => ?_)
  · rw [if_pos hb] at hf7
    cases hf7
    refine e_drop (i := 3) ?_
    have hh := hk7 _ (hx7 _ rfl)
    try dsimp only at hh
    exact hh
  · rw [if_neg hb] at hf7
    refine e_aloadn (pc := 26) (i := 0) dX12_tardy_26 rfl rfl ?_
    refine f_getr (pc := 27) (u := 32) (q := 0) dX12_tardy_27 xf12_32 (sa_32_0 hs) rfl (sr_32_0_19 hs) ?_
    refine e_iloadn (pc := 30) (i := 3) dX12_tardy_30 rfl rfl ?_
    obtain ⟨hc0, hf7⟩ := x_gd_some hf7
    refine f_iald (pc := 31) (k := 0) (u := 32) (q := 7) (len := 7) dX12_tardy_31 (sa_32_7 hs) hc0 hn rfl rfl (by decide) ?_
    show Ev g _ _ _ _ _ _ 32 [some (x_r (16 * 32 + 0)), some (x_i v1), some (x_i v4), some (x_i v5)] [x_i (S2 7 (v5).toNat)] (al, ro, fl (ml M [32] [S2])) _ _ _ _
    refine e_iloadn (pc := 32) (i := 2) dX12_tardy_32 rfl rfl ?_
    refine e_iconst (pc := 33) dX12_tardy_33 (x_R rfl) ?_
    obtain ⟨v9, hr9, hf7⟩ := x_bd1 hf7
    have hjhr9 : Ev g yX12_tardy cX12_tardy 4 (some .int) [] 47 47 [some (x_r (16 * 32 + 0)), some (x_i v1), some (x_i v4), some (x_i v5)] [x_i v9, x_i (S2 7 (v5).toNat)] (al, ro, fl (ml M [32] [S2])) 0 0 (.inl (some (x_i t.1))) (al, ro, fl (ml M [32] [t.2])) := by
      obtain ⟨v11, hr11, hf7⟩ := x_bd1 hf7
      have hjhr11 : Ev g yX12_tardy cX12_tardy 4 (some .int) [] 47 52 [some (x_r (16 * 32 + 0)), some (x_i v1), some (x_i v11), some (x_i v5)] [] (al, ro, fl (ml M [32] [S2])) 0 0 (.inl (some (x_i t.1))) (al, ro, fl (ml M [32] [t.2])) := by
        refine e_iinc (pc := 52) dX12_tardy_52 rfl (by decide) rfl ?_
        show Ev g _ _ _ _ _ _ 55 [some (x_r (16 * 32 + 0)), some (x_i v1), some (x_i v11), some (x_i (x_add v5 1))] [] (al, ro, fl (ml M [32] [S2])) _ _ _ _
        refine e_goto (pc := 55) (tgt := 16) dX12_tardy_55 (by decide) ?_
        cases hf7
        have hh := hi7 _ rfl
        try dsimp only at hh
        exact hh
      clear hf7
      refine e_icmp_le (pc := 47) (tgt := 52) dX12_tardy_47 (by decide) (fun hb => ?_) (fun hb => ?_)
      · rw [if_pos hb] at hr11
        cases hr11
        exact hjhr11
      · rw [if_neg hb] at hr11
        refine e_iloadn (pc := 50) (i := 3) dX12_tardy_50 rfl rfl ?_
        refine e_istoren (pc := 51) (i := 2) dX12_tardy_51 rfl (by decide) rfl ?_
        show Ev g _ _ _ _ _ _ 52 [some (x_r (16 * 32 + 0)), some (x_i v1), some (x_i v5), some (x_i v5)] [] (al, ro, fl (ml M [32] [S2])) _ _ _ _
        cases hr11
        exact hjhr11
    clear hf7
    refine e_icmp_ne (pc := 34) (tgt := 41) dX12_tardy_34 (by decide) (fun hb => ?_) (fun hb => ?_)
    · rw [if_neg hb] at hr9
      refine e_aloadn (pc := 41) (i := 0) dX12_tardy_41 rfl rfl ?_
      refine f_getr (pc := 42) (u := 32) (q := 0) dX12_tardy_42 xf12_32 (sa_32_0 hs) rfl (sr_32_0_19 hs) ?_
      refine e_iloadn (pc := 45) (i := 2) dX12_tardy_45 rfl rfl ?_
      obtain ⟨hc0, hr9⟩ := x_gd_some hr9
      refine f_iald (pc := 46) (k := 0) (u := 32) (q := 7) (len := 7) dX12_tardy_46 (sa_32_7 hs) hc0 hn rfl rfl (by decide) ?_
      show Ev g _ _ _ _ _ _ 47 [some (x_r (16 * 32 + 0)), some (x_i v1), some (x_i v4), some (x_i v5)] [x_i (S2 7 (v4).toNat), x_i (S2 7 (v5).toNat)] (al, ro, fl (ml M [32] [S2])) _ _ _ _
      cases hr9
      exact hjhr9
    · rw [if_pos hb] at hr9
      refine e_iconst (pc := 37) dX12_tardy_37 (x_R rfl) ?_
      refine e_goto (pc := 38) (tgt := 47) dX12_tardy_38 (by decide) ?_
      cases hr9
      exact hjhr9
