set_option maxRecDepth 100000 in
set_option maxHeartbeats 4000000 in
theorem c_X12_cloister {g : xG} {al : List (Nat × Nat × Nat)} {ro : Nat → Nat → Option Nat} (hst : g.1.stackTraces = false) (hs : SH al ro) {M : Nat → xU} {S : xU}  {t : (Int × xU)} (hG : G12_cloister S = some t) :
    Cal g yX12_cloister cX12_cloister 2 (some .int) 43 [x_r (16 * 32 + 0)] (al, ro, fl (ml M [32] [S])) 0 0 (.inl (some (x_i t.1))) (al, ro, fl (ml M [32] [t.2])) := by
  have hn : ([32] : List Nat).Nodup := by decide
  refine cal_of_ev (plainFor_of_name (by decide)) (x_c1 rfl) (Nat.le_of_ble_eq_true rfl) hst ?_
  show Ev g _ _ _ _ _ _ 0 [some (x_r (16 * 32 + 0)), none] [] (al, ro, fl (ml M [32] [S])) _ _ _ _
  rw [G12_cloister] at hG
  refine e_aloadn (pc := 0) (i := 0) dX12_cloister_0 rfl rfl ?_
  obtain ⟨S1, hq1, hG⟩ := x_bd1 hG
  refine e_invV (pc := 1) (K1 := 0) (S1 := 0) (K := 0) (S := 0) (dd2 := 0) (av := []) (st := []) (id := 16 * 32 + 0) dX12_cloister_1 xmX12_192 rfl (Or.inl ⟨10, 27, TX12, (sa_32_0 hs), rfl, by decide⟩) (f_cal (M := M) (us2 := [32]) [0] hn rfl (And.intro rfl trivial) rfl rfl rfl (c_X12_putsAside hst hs   hq1)) (by decide) (Nat.le_of_ble_eq_true rfl) (Or.inl rfl) ?_
  show Ev g _ _ _ _ _ _ 4 [some (x_r (16 * 32 + 0)), none] [] (al, ro, fl (ml M [32] [S1])) _ _ _ _
  refine e_aloadn (pc := 4) (i := 0) dX12_cloister_4 rfl rfl ?_
  obtain ⟨S3, hq3, hG⟩ := x_bd1 hG
  refine e_invV (pc := 5) (K1 := 0) (S1 := 0) (K := 0) (S := 0) (dd2 := 0) (av := []) (st := []) (id := 16 * 32 + 0) dX12_cloister_5 xmX12_195 rfl (Or.inl ⟨10, 27, TX12, (sa_32_0 hs), rfl, by decide⟩) (f_cal (M := M) (us2 := [32]) [0] hn rfl (And.intro rfl trivial) rfl rfl rfl (c_X12_begins hst hs   hq3)) (by decide) (Nat.le_of_ble_eq_true rfl) (Or.inl rfl) ?_
  show Ev g _ _ _ _ _ _ 8 [some (x_r (16 * 32 + 0)), none] [] (al, ro, fl (ml M [32] [S3])) _ _ _ _
  refine e_aloadn (pc := 8) (i := 0) dX12_cloister_8 rfl rfl ?_
  refine e_iconst (pc := 9) dX12_cloister_9 (x_R rfl) ?_
  obtain ⟨v5, S6, hq6, hG⟩ := x_bd2 hG
  refine e_invV (pc := 10) (K1 := 0) (S1 := 0) (K := 0) (S := 0) (dd2 := 42) (av := [x_i 0]) (st := []) (id := 16 * 32 + 0) dX12_cloister_10 xmX12_198 rfl (Or.inl ⟨10, 27, TX12, (sa_32_0 hs), rfl, by decide⟩) (f_cal (M := M) (us2 := [32]) [0] hn rfl (And.intro rfl trivial) rfl rfl rfl (c_X12_read hst hs   hq6)) (by decide) (Nat.le_of_ble_eq_true rfl) (Or.inl rfl) ?_
  show Ev g _ _ _ _ _ _ 13 [some (x_r (16 * 32 + 0)), none] [x_i v5] (al, ro, fl (ml M [32] [S6])) _ _ _ _
  refine e_istoren (pc := 13) (i := 1) dX12_cloister_13 rfl (by decide) rfl ?_
  show Ev g _ _ _ _ _ _ 14 [some (x_r (16 * 32 + 0)), some (x_i v5)] [] (al, ro, fl (ml M [32] [S6])) _ _ _ _
  refine e_aloadn (pc := 14) (i := 0) dX12_cloister_14 rfl rfl ?_
  refine e_aloadn (pc := 15) (i := 0) dX12_cloister_15 rfl rfl ?_
  refine f_geti (pc := 16) (k := 0) (u := 32) (q := 0) dX12_cloister_16 xf12_25 (sa_32_0 hs) rfl hn rfl rfl (by decide) ?_
  show Ev g _ _ _ _ _ _ 19 [some (x_r (16 * 32 + 0)), some (x_i v5)] [x_i (S6 0 12), x_r (16 * 32 + 0)] (al, ro, fl (ml M [32] [S6])) _ _ _ _
  refine e_iconst (pc := 19) dX12_cloister_19 (x_R rfl) ?_
  obtain ⟨v8, hr8, hG⟩ := x_bd1 hG
  have hjhr8 : Ev g yX12_cloister cX12_cloister 2 (some .int) [] 43 43 [some (x_r (16 * 32 + 0)), some (x_i v5)] [x_i v8, x_r (16 * 32 + 0)] (al, ro, fl (ml M [32] [S6])) 0 0 (.inl (some (x_i t.1))) (al, ro, fl (ml M [32] [t.2])) := by
    refine f_puti (pc := 43) (k := 0) (u := 32) (q := 0) dX12_cloister_43 xf12_58 xw10_0 (sa_32_0 hs) hn rfl rfl rfl (by decide) ?_
    show Ev g _ _ _ _ _ _ 46 [some (x_r (16 * 32 + 0)), some (x_i v5)] [] (al, ro, fl (ml M [32] [(x_up S6 0 0 v8)])) _ _ _ _
    refine e_aloadn (pc := 46) (i := 0) dX12_cloister_46 rfl rfl ?_
    refine f_geti (pc := 47) (k := 0) (u := 32) (q := 0) dX12_cloister_47 xf12_58 (sa_32_0 hs) rfl hn rfl rfl (by decide) ?_
    show Ev g _ _ _ _ _ _ 50 [some (x_r (16 * 32 + 0)), some (x_i v5)] [x_i ((x_up S6 0 0 v8) 0 0)] (al, ro, fl (ml M [32] [(x_up S6 0 0 v8)])) _ _ _ _
    refine e_if_le (pc := 50) (tgt := 59) dX12_cloister_50 (by decide) (fun hb => ?_) (fun hb => ?_)
    · rw [if_pos hb] at hG
      refine e_aloadn (pc := 59) (i := 0) dX12_cloister_59 rfl rfl ?_
      refine f_getr (pc := 60) (u := 32) (q := 0) dX12_cloister_60 xf12_7 (sa_32_0 hs) rfl (sr_32_0_1 hs) ?_
      refine e_iconst (pc := 63) dX12_cloister_63 (x_R rfl) ?_
      refine e_dup2 (pc := 64) dX12_cloister_64 rfl rfl ?_
      refine f_iald (pc := 65) (k := 0) (u := 32) (q := 1) (len := 772) dX12_cloister_65 (sa_32_1 hs) (by decide) hn rfl rfl (by decide) ?_
      show Ev g _ _ _ _ _ _ 66 [some (x_r (16 * 32 + 0)), some (x_i v5)] [x_i ((x_up S6 0 0 v8) 1 0), x_i 0, x_r (16 * 32 + 1)] (al, ro, fl (ml M [32] [(x_up S6 0 0 v8)])) _ _ _ _
      refine e_iconst (pc := 66) dX12_cloister_66 (x_R rfl) ?_
      refine e_iadd (pc := 67) dX12_cloister_67 ?_
      refine f_iast (pc := 68) (k := 0) (u := 32) (q := 1) (len := 772) dX12_cloister_68 (sa_32_1 hs) (by decide) hn rfl rfl rfl (by decide) ?_
      show Ev g _ _ _ _ _ _ 69 [some (x_r (16 * 32 + 0)), some (x_i v5)] [] (al, ro, fl (ml M [32] [(x_up (x_up S6 0 0 v8) 1 0 (x_add ((x_up S6 0 0 v8) 1 0) 1))])) _ _ _ _
      refine e_aloadn (pc := 69) (i := 0) dX12_cloister_69 rfl rfl ?_
      refine e_iconst (pc := 70) dX12_cloister_70 (x_R rfl) ?_
      refine f_puti (pc := 71) (k := 0) (u := 32) (q := 0) dX12_cloister_71 xf12_204 xw10_6 (sa_32_0 hs) hn rfl rfl rfl (by decide) ?_
      show Ev g _ _ _ _ _ _ 74 [some (x_r (16 * 32 + 0)), some (x_i v5)] [] (al, ro, fl (ml M [32] [(x_up (x_up (x_up S6 0 0 v8) 1 0 (x_add ((x_up S6 0 0 v8) 1 0) 1)) 0 6 0)])) _ _ _ _
      refine e_aloadn (pc := 74) (i := 0) dX12_cloister_74 rfl rfl ?_
      refine f_getr (pc := 75) (u := 32) (q := 0) dX12_cloister_75 xf12_7 (sa_32_0 hs) rfl (sr_32_0_1 hs) ?_
      refine e_iconst (pc := 78) dX12_cloister_78 (x_R rfl) ?_
      refine f_iald (pc := 79) (k := 0) (u := 32) (q := 1) (len := 772) dX12_cloister_79 (sa_32_1 hs) (by decide) hn rfl rfl (by decide) ?_
      show Ev g _ _ _ _ _ _ 80 [some (x_r (16 * 32 + 0)), some (x_i v5)] [x_i ((x_up (x_up (x_up S6 0 0 v8) 1 0 (x_add ((x_up S6 0 0 v8) 1 0) 1)) 0 6 0) 1 0)] (al, ro, fl (ml M [32] [(x_up (x_up (x_up S6 0 0 v8) 1 0 (x_add ((x_up S6 0 0 v8) 1 0) 1)) 0 6 0)])) _ _ _ _
      cases hG
      exact (e_ireturn rfl dX12_cloister_80 rfl)
    · rw [if_neg hb] at hG
      refine e_aloadn (pc := 53) (i := 0) dX12_cloister_53 rfl rfl ?_
      obtain ⟨S10, hq10, hG⟩ := x_bd1 hG
      refine e_invV (pc := 54) (K1 := 0) (S1 := 0) (K := 0) (S := 0) (dd2 := 0) (av := []) (st := []) (id := 16 * 32 + 0) dX12_cloister_54 xmX12_201 rfl (Or.inl ⟨10, 27, TX12, (sa_32_0 hs), rfl, by decide⟩) (f_cal (M := M) (us2 := [32]) [0] hn rfl (And.intro rfl trivial) rfl rfl rfl (c_X12_comesBack hst hs   hq10)) (by decide) (Nat.le_of_ble_eq_true rfl) (Or.inl rfl) ?_
      show Ev g _ _ _ _ _ _ 57 [some (x_r (16 * 32 + 0)), some (x_i v5)] [] (al, ro, fl (ml M [32] [S10])) _ _ _ _
      refine e_iconst (pc := 57) dX12_cloister_57 (x_R rfl) ?_
      cases hG
      exact (e_ireturn rfl dX12_cloister_58 rfl)
  clear hG
  refine e_icmp_eq (pc := 20) (tgt := 27) dX12_cloister_20 (by decide) (fun hb => ?_) (fun hb => ?_)
  · rw [if_pos hb] at hr8
    refine e_aloadn (pc := 27) (i := 0) dX12_cloister_27 rfl rfl ?_
    refine f_getr (pc := 28) (u := 32) (q := 0) dX12_cloister_28 xf12_7 (sa_32_0 hs) rfl (sr_32_0_1 hs) ?_
    refine e_iconst (pc := 31) dX12_cloister_31 (x_R rfl) ?_
    refine f_iald (pc := 32) (k := 0) (u := 32) (q := 1) (len := 772) dX12_cloister_32 (sa_32_1 hs) (by decide) hn rfl rfl (by decide) ?_
    show Ev g _ _ _ _ _ _ 33 [some (x_r (16 * 32 + 0)), some (x_i v5)] [x_i (S6 1 0), x_r (16 * 32 + 0)] (al, ro, fl (ml M [32] [S6])) _ _ _ _
    refine e_bipush (pc := 33) dX12_cloister_33 (by decide +kernel) (x_R rfl) ?_
    refine e_icmp_ne (pc := 35) (tgt := 42) dX12_cloister_35 (by decide) (fun hb => ?_) (fun hb => ?_)
    · rw [if_neg hb] at hr8
      refine e_iconst (pc := 42) dX12_cloister_42 (x_R rfl) ?_
      cases hr8
      exact hjhr8
    · rw [if_pos hb] at hr8
      refine e_iconst (pc := 38) dX12_cloister_38 (x_R rfl) ?_
      refine e_goto (pc := 39) (tgt := 43) dX12_cloister_39 (by decide) ?_
      cases hr8
      exact hjhr8
  · rw [if_neg hb] at hr8
    refine e_iconst (pc := 23) dX12_cloister_23 (x_R rfl) ?_
    refine e_goto (pc := 24) (tgt := 43) dX12_cloister_24 (by decide) ?_
    cases hr8
    exact hjhr8
set_option maxRecDepth 100000 in
set_option maxHeartbeats 4000000 in
theorem c_X12_law {g : xG} {al : List (Nat × Nat × Nat)} {ro : Nat → Nat → Option Nat} (hst : g.1.stackTraces = false) (hs : SH al ro) {M : Nat → xU} {S : xU}  {t : (Int × xU)} (hG : G12_law S = some t) :
    Cal g yX12_law cX12_law 3 (some .int) 43 [x_r (16 * 32 + 0)] (al, ro, fl (ml M [32] [S])) 0 0 (.inl (some (x_i t.1))) (al, ro, fl (ml M [32] [t.2])) := by
  have hn : ([32] : List Nat).Nodup := by decide
  refine cal_of_ev (plainFor_of_name (by decide)) (x_c1 rfl) (Nat.le_of_ble_eq_true rfl) hst ?_
  show Ev g _ _ _ _ _ _ 0 [some (x_r (16 * 32 + 0)), none, none] [] (al, ro, fl (ml M [32] [S])) _ _ _ _
  rw [G12_law] at hG
  refine e_aloadn (pc := 0) (i := 0) dX12_law_0 rfl rfl ?_
  obtain ⟨S1, hq1, hG⟩ := x_bd1 hG
  refine e_invV (pc := 1) (K1 := 0) (S1 := 0) (K := 0) (S := 0) (dd2 := 0) (av := []) (st := []) (id := 16 * 32 + 0) dX12_law_1 xmX12_195 rfl (Or.inl ⟨10, 27, TX12, (sa_32_0 hs), rfl, by decide⟩) (f_cal (M := M) (us2 := [32]) [0] hn rfl (And.intro rfl trivial) rfl rfl rfl (c_X12_begins hst hs   hq1)) (by decide) (Nat.le_of_ble_eq_true rfl) (Or.inl rfl) ?_
  show Ev g _ _ _ _ _ _ 4 [some (x_r (16 * 32 + 0)), none, none] [] (al, ro, fl (ml M [32] [S1])) _ _ _ _
  refine e_aloadn (pc := 4) (i := 0) dX12_law_4 rfl rfl ?_
  refine e_iconst (pc := 5) dX12_law_5 (x_R rfl) ?_
  obtain ⟨v3, S4, hq4, hG⟩ := x_bd2 hG
  refine e_invV (pc := 6) (K1 := 0) (S1 := 0) (K := 0) (S := 0) (dd2 := 42) (av := [x_i 1]) (st := []) (id := 16 * 32 + 0) dX12_law_6 xmX12_198 rfl (Or.inl ⟨10, 27, TX12, (sa_32_0 hs), rfl, by decide⟩) (f_cal (M := M) (us2 := [32]) [0] hn rfl (And.intro rfl trivial) rfl rfl rfl (c_X12_read hst hs   hq4)) (by decide) (Nat.le_of_ble_eq_true rfl) (Or.inl rfl) ?_
  show Ev g _ _ _ _ _ _ 9 [some (x_r (16 * 32 + 0)), none, none] [x_i v3] (al, ro, fl (ml M [32] [S4])) _ _ _ _
  refine e_istoren (pc := 9) (i := 1) dX12_law_9 rfl (by decide) rfl ?_
  show Ev g _ _ _ _ _ _ 10 [some (x_r (16 * 32 + 0)), some (x_i v3), none] [] (al, ro, fl (ml M [32] [S4])) _ _ _ _
  refine e_aloadn (pc := 10) (i := 0) dX12_law_10 rfl rfl ?_
  refine e_aloadn (pc := 11) (i := 0) dX12_law_11 rfl rfl ?_
  refine f_geti (pc := 12) (k := 0) (u := 32) (q := 0) dX12_law_12 xf12_25 (sa_32_0 hs) rfl hn rfl rfl (by decide) ?_
  show Ev g _ _ _ _ _ _ 15 [some (x_r (16 * 32 + 0)), some (x_i v3), none] [x_i (S4 0 12), x_r (16 * 32 + 0)] (al, ro, fl (ml M [32] [S4])) _ _ _ _
  refine e_iconst (pc := 15) dX12_law_15 (x_R rfl) ?_
  obtain ⟨v6, hr6, hG⟩ := x_bd1 hG
  have hjhr6 : Ev g yX12_law cX12_law 3 (some .int) [] 43 24 [some (x_r (16 * 32 + 0)), some (x_i v3), none] [x_i v6, x_r (16 * 32 + 0)] (al, ro, fl (ml M [32] [S4])) 0 0 (.inl (some (x_i t.1))) (al, ro, fl (ml M [32] [t.2])) := by
    refine f_puti (pc := 24) (k := 0) (u := 32) (q := 0) dX12_law_24 xf12_58 xw10_0 (sa_32_0 hs) hn rfl rfl rfl (by decide) ?_
    show Ev g _ _ _ _ _ _ 27 [some (x_r (16 * 32 + 0)), some (x_i v3), none] [] (al, ro, fl (ml M [32] [(x_up S4 0 0 v6)])) _ _ _ _
    refine e_aloadn (pc := 27) (i := 0) dX12_law_27 rfl rfl ?_
    refine f_geti (pc := 28) (k := 0) (u := 32) (q := 0) dX12_law_28 xf12_58 (sa_32_0 hs) rfl hn rfl rfl (by decide) ?_
    show Ev g _ _ _ _ _ _ 31 [some (x_r (16 * 32 + 0)), some (x_i v3), none] [x_i ((x_up S4 0 0 v6) 0 0)] (al, ro, fl (ml M [32] [(x_up S4 0 0 v6)])) _ _ _ _
    refine e_if_le (pc := 31) (tgt := 36) dX12_law_31 (by decide) (fun hb => ?_) (fun hb => ?_)
    · rw [if_pos hb] at hG
      refine e_aloadn (pc := 36) (i := 0) dX12_law_36 rfl rfl ?_
      refine f_getr (pc := 37) (u := 32) (q := 0) dX12_law_37 xf12_7 (sa_32_0 hs) rfl (sr_32_0_1 hs) ?_
      refine e_iconst (pc := 40) dX12_law_40 (x_R rfl) ?_
      refine e_iloadn (pc := 41) (i := 1) dX12_law_41 rfl rfl ?_
      refine f_iast (pc := 42) (k := 0) (u := 32) (q := 1) (len := 772) dX12_law_42 (sa_32_1 hs) (by decide) hn rfl rfl rfl (by decide) ?_
      show Ev g _ _ _ _ _ _ 43 [some (x_r (16 * 32 + 0)), some (x_i v3), none] [] (al, ro, fl (ml M [32] [(x_up (x_up S4 0 0 v6) 1 1 v3)])) _ _ _ _
      refine e_aloadn (pc := 43) (i := 0) dX12_law_43 rfl rfl ?_
      refine f_getr (pc := 44) (u := 32) (q := 0) dX12_law_44 xf12_7 (sa_32_0 hs) rfl (sr_32_0_1 hs) ?_
      refine e_iconst (pc := 47) dX12_law_47 (x_R rfl) ?_
      refine e_aloadn (pc := 48) (i := 0) dX12_law_48 rfl rfl ?_
      refine f_geti (pc := 49) (k := 0) (u := 32) (q := 0) dX12_law_49 xf12_85 (sa_32_0 hs) rfl hn rfl rfl (by decide) ?_
      show Ev g _ _ _ _ _ _ 52 [some (x_r (16 * 32 + 0)), some (x_i v3), none] [x_i ((x_up (x_up S4 0 0 v6) 1 1 v3) 0 10), x_i 2, x_r (16 * 32 + 1)] (al, ro, fl (ml M [32] [(x_up (x_up S4 0 0 v6) 1 1 v3)])) _ _ _ _
      refine f_iast (pc := 52) (k := 0) (u := 32) (q := 1) (len := 772) dX12_law_52 (sa_32_1 hs) (by decide) hn rfl rfl rfl (by decide) ?_
      show Ev g _ _ _ _ _ _ 53 [some (x_r (16 * 32 + 0)), some (x_i v3), none] [] (al, ro, fl (ml M [32] [(x_up (x_up (x_up S4 0 0 v6) 1 1 v3) 1 2 ((x_up (x_up S4 0 0 v6) 1 1 v3) 0 10))])) _ _ _ _
      refine e_iconst (pc := 53) dX12_law_53 (x_R rfl) ?_
      refine e_istoren (pc := 54) (i := 2) dX12_law_54 rfl (by decide) rfl ?_
      show Ev g _ _ _ _ _ _ 55 [some (x_r (16 * 32 + 0)), some (x_i v3), some (x_i 0)] [] (al, ro, fl (ml M [32] [(x_up (x_up (x_up S4 0 0 v6) 1 1 v3) 1 2 ((x_up (x_up S4 0 0 v6) 1 1 v3) 0 10))])) _ _ _ _
      obtain ⟨S10, hl11, hG⟩ := x_bd1 hG
      have hk11 : ∀ q : xU, q = S10 → Ev g yX12_law cX12_law 3 (some .int) [] 43 85 [some (x_r (16 * 32 + 0)), some (x_i v3), none] [] (al, ro, fl (ml M [32] [q])) 0 0 (.inl (some (x_i t.1))) (al, ro, fl (ml M [32] [t.2])) := by
        intro q hq
        replace hq := hq.symm
        subst hq
        refine e_aloadn (pc := 85) (i := 0) dX12_law_85 rfl rfl ?_
        refine e_iconst (pc := 86) dX12_law_86 (x_R rfl) ?_
        refine f_puti (pc := 87) (k := 0) (u := 32) (q := 0) dX12_law_87 xf12_204 xw10_6 (sa_32_0 hs) hn rfl rfl rfl (by decide) ?_
        show Ev g _ _ _ _ _ _ 90 [some (x_r (16 * 32 + 0)), some (x_i v3), none] [] (al, ro, fl (ml M [32] [(x_up S10 0 6 0)])) _ _ _ _
        refine e_iloadn (pc := 90) (i := 1) dX12_law_90 rfl rfl ?_
        cases hG
        exact (e_ireturn rfl dX12_law_91 rfl)
      clear hG
      refine e_whl G12_law_L55 (fun z : (Int × xU) => Ev g yX12_law cX12_law 3 (some .int) [] 43 55 [some (x_r (16 * 32 + 0)), some (x_i v3), some (x_i z.1)] [] (al, ro, fl (ml M [32] [z.2])) 0 0 (.inl (some (x_i t.1))) (al, ro, fl (ml M [32] [t.2]))) (fun q => q = S10) ?_ xFU (0, (x_up (x_up (x_up S4 0 0 v6) 1 1 v3) 1 2 ((x_up (x_up S4 0 0 v6) 1 1 v3) 0 10))) _ hl11 rfl
      intro z t11 hf11 hi11 hx11
      obtain ⟨v8, S9⟩ := z
      rw [G12_law_L55] at hf11
      show Ev g _ _ _ _ _ _ 55 [some (x_r (16 * 32 + 0)), some (x_i v3), some (x_i v8)] [] (al, ro, fl (ml M [32] [S9])) _ _ _ _
      refine e_iloadn (pc := 55) (i := 2) dX12_law_55 rfl rfl ?_
      refine e_aloadn (pc := 56) (i := 0) dX12_law_56 rfl rfl ?_
      refine f_geti (pc := 57) (k := 0) (u := 32) (q := 0) dX12_law_57 xf12_85 (sa_32_0 hs) rfl hn rfl rfl (by decide) ?_
      show Ev g _ _ _ _ _ _ 60 [some (x_r (16 * 32 + 0)), some (x_i v3), some (x_i v8)] [x_i (S9 0 10), x_i v8] (al, ro, fl (ml M [32] [S9])) _ _ _ _
      refine e_icmp_ge (pc := 60) (tgt := 85) dX12_law_60 (by decide) (fun hb => ?_) (fun hb => ?_)
      · rw [if_pos hb] at hf11
        cases hf11
        refine e_drop (i := 2) ?_
        have hh := hk11 _ (hx11 _ rfl)
        try dsimp only at hh
        exact hh
      · rw [if_neg hb] at hf11
        refine e_aloadn (pc := 63) (i := 0) dX12_law_63 rfl rfl ?_
        refine f_getr (pc := 64) (u := 32) (q := 0) dX12_law_64 xf12_7 (sa_32_0 hs) rfl (sr_32_0_1 hs) ?_
        refine e_sipush (pc := 67) dX12_law_67 (by decide +kernel) (x_R rfl) ?_
        refine e_iloadn (pc := 70) (i := 2) dX12_law_70 rfl rfl ?_
        refine e_iadd (pc := 71) dX12_law_71 ?_
        refine e_aloadn (pc := 72) (i := 0) dX12_law_72 rfl rfl ?_
        refine f_getr (pc := 73) (u := 32) (q := 0) dX12_law_73 xf12_22 (sa_32_0 hs) rfl (sr_32_0_7 hs) ?_
        refine e_iloadn (pc := 76) (i := 2) dX12_law_76 rfl rfl ?_
        obtain ⟨hc0, hf11⟩ := x_gd_some hf11
        refine f_iald (pc := 77) (k := 0) (u := 32) (q := 5) (len := 400) dX12_law_77 (sa_32_5 hs) hc0 hn rfl rfl (by decide) ?_
        show Ev g _ _ _ _ _ _ 78 [some (x_r (16 * 32 + 0)), some (x_i v3), some (x_i v8)] [x_i (S9 5 (v8).toNat), x_i (x_add 372 v8), x_r (16 * 32 + 1)] (al, ro, fl (ml M [32] [S9])) _ _ _ _
        obtain ⟨hc0, hf11⟩ := x_gd_some hf11
        refine f_iast (pc := 78) (k := 0) (u := 32) (q := 1) (len := 772) dX12_law_78 (sa_32_1 hs) hc0 hn rfl rfl rfl (by decide) ?_
        show Ev g _ _ _ _ _ _ 79 [some (x_r (16 * 32 + 0)), some (x_i v3), some (x_i v8)] [] (al, ro, fl (ml M [32] [(x_up S9 1 ((x_add 372 v8)).toNat (S9 5 (v8).toNat))])) _ _ _ _
        refine e_iinc (pc := 79) dX12_law_79 rfl (by decide) rfl ?_
        show Ev g _ _ _ _ _ _ 82 [some (x_r (16 * 32 + 0)), some (x_i v3), some (x_i (x_add v8 1))] [] (al, ro, fl (ml M [32] [(x_up S9 1 ((x_add 372 v8)).toNat (S9 5 (v8).toNat))])) _ _ _ _
        refine e_goto (pc := 82) (tgt := 55) dX12_law_82 (by decide) ?_
        cases hf11
        have hh := hi11 _ rfl
        try dsimp only at hh
        exact hh
    · rw [if_neg hb] at hG
      refine e_iconst (pc := 34) dX12_law_34 (x_R rfl) ?_
      cases hG
      exact (e_ireturn rfl dX12_law_35 rfl)
  clear hG
  refine e_icmp_eq (pc := 16) (tgt := 23) dX12_law_16 (by decide) (fun hb => ?_) (fun hb => ?_)
  · rw [if_pos hb] at hr6
    refine e_iconst (pc := 23) dX12_law_23 (x_R rfl) ?_
    cases hr6
    exact hjhr6
  · rw [if_neg hb] at hr6
    refine e_iconst (pc := 19) dX12_law_19 (x_R rfl) ?_
    refine e_goto (pc := 20) (tgt := 24) dX12_law_20 (by decide) ?_
    cases hr6
    exact hjhr6
set_option maxRecDepth 100000 in
set_option maxHeartbeats 4000000 in
theorem c_X12_fault {g : xG} {al : List (Nat × Nat × Nat)} {ro : Nat → Nat → Option Nat} (hst : g.1.stackTraces = false) (hs : SH al ro) {M : Nat → xU} {S : xU}  {t : (Int × xU)} (hG : G12_fault S = some t) :
    Cal g yX12_fault cX12_fault 1 (some .int) 0 [x_r (16 * 32 + 0)] (al, ro, fl (ml M [32] [S])) 0 0 (.inl (some (x_i t.1))) (al, ro, fl (ml M [32] [t.2])) := by
  have hn : ([32] : List Nat).Nodup := by decide
  refine cal_of_ev (plainFor_of_name (by decide)) (x_c1 rfl) (Nat.le_of_ble_eq_true rfl) hst ?_
  show Ev g _ _ _ _ _ _ 0 [some (x_r (16 * 32 + 0))] [] (al, ro, fl (ml M [32] [S])) _ _ _ _
  rw [G12_fault] at hG
  refine e_aloadn (pc := 0) (i := 0) dX12_fault_0 rfl rfl ?_
  refine e_iconst (pc := 1) dX12_fault_1 (x_R rfl) ?_
  refine f_puti (pc := 2) (k := 0) (u := 32) (q := 0) dX12_fault_2 xf12_58 xw10_0 (sa_32_0 hs) hn rfl rfl rfl (by decide) ?_
  show Ev g _ _ _ _ _ _ 5 [some (x_r (16 * 32 + 0))] [] (al, ro, fl (ml M [32] [(x_up S 0 0 0)])) _ _ _ _
  refine e_aloadn (pc := 5) (i := 0) dX12_fault_5 rfl rfl ?_
  refine f_geti (pc := 6) (k := 0) (u := 32) (q := 0) dX12_fault_6 xf12_25 (sa_32_0 hs) rfl hn rfl rfl (by decide) ?_
  show Ev g _ _ _ _ _ _ 9 [some (x_r (16 * 32 + 0))] [x_i ((x_up S 0 0 0) 0 12)] (al, ro, fl (ml M [32] [(x_up S 0 0 0)])) _ _ _ _
  cases hG
  exact (e_ireturn rfl dX12_fault_9 rfl)
set_option maxRecDepth 100000 in
set_option maxHeartbeats 4000000 in
theorem c_X12_strideOf {g : xG} {al : List (Nat × Nat × Nat)} {ro : Nat → Nat → Option Nat} (hst : g.1.stackTraces = false) (hs : SH al ro) {M : Nat → xU} {a : Int} {S : xU}  {t : (Int × xU)} (hG : G12_strideOf a S = some t) :
    Cal g yX12_strideOf cX12_strideOf 5 (some .int) 43 [x_r (16 * 32 + 0), x_i a] (al, ro, fl (ml M [32] [S])) 0 0 (.inl (some (x_i t.1))) (al, ro, fl (ml M [32] [t.2])) := by
  have hn : ([32] : List Nat).Nodup := by decide
  refine cal_of_ev (plainFor_of_name (by decide)) (x_c1 rfl) (Nat.le_of_ble_eq_true rfl) hst ?_
  show Ev g _ _ _ _ _ _ 0 [some (x_r (16 * 32 + 0)), some (x_i a), none, none, none] [] (al, ro, fl (ml M [32] [S])) _ _ _ _
  rw [G12_strideOf] at hG
  refine e_aloadn (pc := 0) (i := 0) dX12_strideOf_0 rfl rfl ?_
  refine e_iconst (pc := 1) dX12_strideOf_1 (x_R rfl) ?_
  refine f_putz (pc := 2) (k := 0) (u := 32) (q := 0) dX12_strideOf_2 xf12_257 xw10_17 (by decide) (sa_32_0 hs) hn rfl rfl rfl (by decide) ?_
  show Ev g _ _ _ _ _ _ 5 [some (x_r (16 * 32 + 0)), some (x_i a), none, none, none] [] (al, ro, fl (ml M [32] [(x_up S 0 17 0)])) _ _ _ _
  refine e_aloadn (pc := 5) (i := 0) dX12_strideOf_5 rfl rfl ?_
  refine e_iconst (pc := 6) dX12_strideOf_6 (x_R rfl) ?_
  refine f_puti (pc := 7) (k := 0) (u := 32) (q := 0) dX12_strideOf_7 xf12_260 xw10_18 (sa_32_0 hs) hn rfl rfl rfl (by decide) ?_
  show Ev g _ _ _ _ _ _ 10 [some (x_r (16 * 32 + 0)), some (x_i a), none, none, none] [] (al, ro, fl (ml M [32] [(x_up (x_up S 0 17 0) 0 18 0)])) _ _ _ _
  refine e_aloadn (pc := 10) (i := 0) dX12_strideOf_10 rfl rfl ?_
  refine e_aloadn (pc := 11) (i := 0) dX12_strideOf_11 rfl rfl ?_
  refine e_iloadn (pc := 12) (i := 1) dX12_strideOf_12 rfl rfl ?_
  refine e_iconst (pc := 13) dX12_strideOf_13 (x_R rfl) ?_
  obtain ⟨v1, hq1, hG⟩ := x_bd1 hG
  refine e_invV (pc := 14) (K1 := 0) (S1 := 0) (K := 0) (S := 0) (dd2 := 0) (av := [x_i a, x_i 0]) (st := [x_r (16 * 32 + 0)]) (id := 16 * 32 + 0) dX12_strideOf_14 xmX12_65 rfl (Or.inl ⟨10, 27, TX12, (sa_32_0 hs), rfl, by decide⟩) (f_cal (M := M) (us2 := [32]) [0] hn rfl (And.intro rfl trivial) rfl rfl rfl (c_X12_of hst hs   hq1)) (by decide) (Nat.le_of_ble_eq_true rfl) (Or.inl rfl) ?_
  show Ev g _ _ _ _ _ _ 17 [some (x_r (16 * 32 + 0)), some (x_i a), none, none, none] [x_i v1, x_r (16 * 32 + 0)] (al, ro, fl (ml M [32] [(x_up (x_up S 0 17 0) 0 18 0)])) _ _ _ _
  obtain ⟨v3, hq3, hG⟩ := x_bd1 hG
  refine e_invV (pc := 17) (K1 := 0) (S1 := 0) (K := 0) (S := 0) (dd2 := 0) (av := [x_i v1]) (st := []) (id := 16 * 32 + 0) dX12_strideOf_17 xmX12_263 rfl (Or.inl ⟨10, 27, TX12, (sa_32_0 hs), rfl, by decide⟩) (f_cal (M := M) (us2 := [32]) [0] hn rfl (And.intro rfl trivial) rfl rfl rfl (c_X12_seasonOf hst hs   hq3)) (by decide) (Nat.le_of_ble_eq_true rfl) (Or.inl rfl) ?_
  show Ev g _ _ _ _ _ _ 20 [some (x_r (16 * 32 + 0)), some (x_i a), none, none, none] [x_i v3] (al, ro, fl (ml M [32] [(x_up (x_up S 0 17 0) 0 18 0)])) _ _ _ _
  refine e_istoren (pc := 20) (i := 2) dX12_strideOf_20 rfl (by decide) rfl ?_
  show Ev g _ _ _ _ _ _ 21 [some (x_r (16 * 32 + 0)), some (x_i a), some (x_i v3), none, none] [] (al, ro, fl (ml M [32] [(x_up (x_up S 0 17 0) 0 18 0)])) _ _ _ _
  refine e_aloadn (pc := 21) (i := 0) dX12_strideOf_21 rfl rfl ?_
  refine f_getr (pc := 22) (u := 32) (q := 0) dX12_strideOf_22 xf12_7 (sa_32_0 hs) rfl (sr_32_0_1 hs) ?_
  refine e_iconst (pc := 25) dX12_strideOf_25 (x_R rfl) ?_
  refine f_iald (pc := 26) (k := 0) (u := 32) (q := 1) (len := 772) dX12_strideOf_26 (sa_32_1 hs) (by decide) hn rfl rfl (by decide) ?_
  show Ev g _ _ _ _ _ _ 27 [some (x_r (16 * 32 + 0)), some (x_i a), some (x_i v3), none, none] [x_i ((x_up (x_up S 0 17 0) 0 18 0) 1 1)] (al, ro, fl (ml M [32] [(x_up (x_up S 0 17 0) 0 18 0)])) _ _ _ _
  refine e_iconst (pc := 27) dX12_strideOf_27 (x_R rfl) ?_
  refine e_icmp_ne (pc := 28) (tgt := 53) dX12_strideOf_28 (by decide) (fun hb => ?_) (fun hb => ?_)
  · rw [if_neg hb] at hG
    refine e_aloadn (pc := 53) (i := 0) dX12_strideOf_53 rfl rfl ?_
    refine f_getr (pc := 54) (u := 32) (q := 0) dX12_strideOf_54 xf12_29 (sa_32_0 hs) rfl (sr_32_0_14 hs) ?_
    refine e_iconst (pc := 57) dX12_strideOf_57 (x_R rfl) ?_
    refine e_iloadn (pc := 58) (i := 1) dX12_strideOf_58 rfl rfl ?_
    refine f_iast (pc := 59) (k := 0) (u := 32) (q := 6) (len := 7) dX12_strideOf_59 (sa_32_6 hs) (by decide) hn rfl rfl rfl (by decide) ?_
    show Ev g _ _ _ _ _ _ 60 [some (x_r (16 * 32 + 0)), some (x_i a), some (x_i v3), none, none] [] (al, ro, fl (ml M [32] [(x_up (x_up (x_up S 0 17 0) 0 18 0) 6 0 a)])) _ _ _ _
    refine e_aloadn (pc := 60) (i := 0) dX12_strideOf_60 rfl rfl ?_
    refine f_getr (pc := 61) (u := 32) (q := 0) dX12_strideOf_61 xf12_29 (sa_32_0 hs) rfl (sr_32_0_14 hs) ?_
    refine e_iconst (pc := 64) dX12_strideOf_64 (x_R rfl) ?_
    refine e_aloadn (pc := 65) (i := 0) dX12_strideOf_65 rfl rfl ?_
    refine e_iloadn (pc := 66) (i := 1) dX12_strideOf_66 rfl rfl ?_
    refine e_iconst (pc := 67) dX12_strideOf_67 (x_R rfl) ?_
    obtain ⟨v5, hq5, hG⟩ := x_bd1 hG
    refine e_invV (pc := 68) (K1 := 0) (S1 := 0) (K := 0) (S := 0) (dd2 := 0) (av := [x_i a, x_i 0]) (st := [x_i 1, x_r (16 * 32 + 6)]) (id := 16 * 32 + 0) dX12_strideOf_68 xmX12_65 rfl (Or.inl ⟨10, 27, TX12, (sa_32_0 hs), rfl, by decide⟩) (f_cal (M := M) (us2 := [32]) [0] hn rfl (And.intro rfl trivial) rfl rfl rfl (c_X12_of hst hs   hq5)) (by decide) (Nat.le_of_ble_eq_true rfl) (Or.inl rfl) ?_
    show Ev g _ _ _ _ _ _ 71 [some (x_r (16 * 32 + 0)), some (x_i a), some (x_i v3), none, none] [x_i v5, x_i 1, x_r (16 * 32 + 6)] (al, ro, fl (ml M [32] [(x_up (x_up (x_up S 0 17 0) 0 18 0) 6 0 a)])) _ _ _ _
    refine f_iast (pc := 71) (k := 0) (u := 32) (q := 6) (len := 7) dX12_strideOf_71 (sa_32_6 hs) (by decide) hn rfl rfl rfl (by decide) ?_
    show Ev g _ _ _ _ _ _ 72 [some (x_r (16 * 32 + 0)), some (x_i a), some (x_i v3), none, none] [] (al, ro, fl (ml M [32] [(x_up (x_up (x_up (x_up S 0 17 0) 0 18 0) 6 0 a) 6 1 v5)])) _ _ _ _
    refine e_aloadn (pc := 72) (i := 0) dX12_strideOf_72 rfl rfl ?_
    refine f_getr (pc := 73) (u := 32) (q := 0) dX12_strideOf_73 xf12_29 (sa_32_0 hs) rfl (sr_32_0_14 hs) ?_
    refine e_iconst (pc := 76) dX12_strideOf_76 (x_R rfl) ?_
    refine e_aloadn (pc := 77) (i := 0) dX12_strideOf_77 rfl rfl ?_
    refine e_iloadn (pc := 78) (i := 1) dX12_strideOf_78 rfl rfl ?_
    refine e_iconst (pc := 79) dX12_strideOf_79 (x_R rfl) ?_
    obtain ⟨v7, hq7, hG⟩ := x_bd1 hG
    refine e_invV (pc := 80) (K1 := 0) (S1 := 0) (K := 0) (S := 0) (dd2 := 0) (av := [x_i a, x_i 1]) (st := [x_i 2, x_r (16 * 32 + 6)]) (id := 16 * 32 + 0) dX12_strideOf_80 xmX12_65 rfl (Or.inl ⟨10, 27, TX12, (sa_32_0 hs), rfl, by decide⟩) (f_cal (M := M) (us2 := [32]) [0] hn rfl (And.intro rfl trivial) rfl rfl rfl (c_X12_of hst hs   hq7)) (by decide) (Nat.le_of_ble_eq_true rfl) (Or.inl rfl) ?_
    show Ev g _ _ _ _ _ _ 83 [some (x_r (16 * 32 + 0)), some (x_i a), some (x_i v3), none, none] [x_i v7, x_i 2, x_r (16 * 32 + 6)] (al, ro, fl (ml M [32] [(x_up (x_up (x_up (x_up S 0 17 0) 0 18 0) 6 0 a) 6 1 v5)])) _ _ _ _
    refine f_iast (pc := 83) (k := 0) (u := 32) (q := 6) (len := 7) dX12_strideOf_83 (sa_32_6 hs) (by decide) hn rfl rfl rfl (by decide) ?_
    show Ev g _ _ _ _ _ _ 84 [some (x_r (16 * 32 + 0)), some (x_i a), some (x_i v3), none, none] [] (al, ro, fl (ml M [32] [(x_up (x_up (x_up (x_up (x_up S 0 17 0) 0 18 0) 6 0 a) 6 1 v5) 6 2 v7)])) _ _ _ _
    refine e_aloadn (pc := 84) (i := 0) dX12_strideOf_84 rfl rfl ?_
    refine f_getr (pc := 85) (u := 32) (q := 0) dX12_strideOf_85 xf12_29 (sa_32_0 hs) rfl (sr_32_0_14 hs) ?_
    refine e_iconst (pc := 88) dX12_strideOf_88 (x_R rfl) ?_
    refine e_iloadn (pc := 89) (i := 2) dX12_strideOf_89 rfl rfl ?_
    refine f_iast (pc := 90) (k := 0) (u := 32) (q := 6) (len := 7) dX12_strideOf_90 (sa_32_6 hs) (by decide) hn rfl rfl rfl (by decide) ?_
    show Ev g _ _ _ _ _ _ 91 [some (x_r (16 * 32 + 0)), some (x_i a), some (x_i v3), none, none] [] (al, ro, fl (ml M [32] [(x_up (x_up (x_up (x_up (x_up (x_up S 0 17 0) 0 18 0) 6 0 a) 6 1 v5) 6 2 v7) 6 3 v3)])) _ _ _ _
    refine e_aloadn (pc := 91) (i := 0) dX12_strideOf_91 rfl rfl ?_
    refine f_getr (pc := 92) (u := 32) (q := 0) dX12_strideOf_92 xf12_29 (sa_32_0 hs) rfl (sr_32_0_14 hs) ?_
    refine e_iconst (pc := 95) dX12_strideOf_95 (x_R rfl) ?_
    refine e_aloadn (pc := 96) (i := 0) dX12_strideOf_96 rfl rfl ?_
    refine e_iloadn (pc := 97) (i := 1) dX12_strideOf_97 rfl rfl ?_
    refine e_iconst (pc := 98) dX12_strideOf_98 (x_R rfl) ?_
    obtain ⟨v9, hq9, hG⟩ := x_bd1 hG
    refine e_invV (pc := 99) (K1 := 0) (S1 := 0) (K := 0) (S := 0) (dd2 := 0) (av := [x_i a, x_i 5]) (st := [x_i 4, x_r (16 * 32 + 6)]) (id := 16 * 32 + 0) dX12_strideOf_99 xmX12_65 rfl (Or.inl ⟨10, 27, TX12, (sa_32_0 hs), rfl, by decide⟩) (f_cal (M := M) (us2 := [32]) [0] hn rfl (And.intro rfl trivial) rfl rfl rfl (c_X12_of hst hs   hq9)) (by decide) (Nat.le_of_ble_eq_true rfl) (Or.inl rfl) ?_
    show Ev g _ _ _ _ _ _ 102 [some (x_r (16 * 32 + 0)), some (x_i a), some (x_i v3), none, none] [x_i v9, x_i 4, x_r (16 * 32 + 6)] (al, ro, fl (ml M [32] [(x_up (x_up (x_up (x_up (x_up (x_up S 0 17 0) 0 18 0) 6 0 a) 6 1 v5) 6 2 v7) 6 3 v3)])) _ _ _ _
    refine f_iast (pc := 102) (k := 0) (u := 32) (q := 6) (len := 7) dX12_strideOf_102 (sa_32_6 hs) (by decide) hn rfl rfl rfl (by decide) ?_
    show Ev g _ _ _ _ _ _ 103 [some (x_r (16 * 32 + 0)), some (x_i a), some (x_i v3), none, none] [] (al, ro, fl (ml M [32] [(x_up (x_up (x_up (x_up (x_up (x_up (x_up S 0 17 0) 0 18 0) 6 0 a) 6 1 v5) 6 2 v7) 6 3 v3) 6 4 v9)])) _ _ _ _
    refine e_aloadn (pc := 103) (i := 0) dX12_strideOf_103 rfl rfl ?_
    refine f_getr (pc := 104) (u := 32) (q := 0) dX12_strideOf_104 xf12_29 (sa_32_0 hs) rfl (sr_32_0_14 hs) ?_
    refine e_iconst (pc := 107) dX12_strideOf_107 (x_R rfl) ?_
    refine e_aloadn (pc := 108) (i := 0) dX12_strideOf_108 rfl rfl ?_
    refine f_getr (pc := 109) (u := 32) (q := 0) dX12_strideOf_109 xf12_7 (sa_32_0 hs) rfl (sr_32_0_1 hs) ?_
    refine e_iconst (pc := 112) dX12_strideOf_112 (x_R rfl) ?_
    refine f_iald (pc := 113) (k := 0) (u := 32) (q := 1) (len := 772) dX12_strideOf_113 (sa_32_1 hs) (by decide) hn rfl rfl (by decide) ?_
    show Ev g _ _ _ _ _ _ 114 [some (x_r (16 * 32 + 0)), some (x_i a), some (x_i v3), none, none] [x_i ((x_up (x_up (x_up (x_up (x_up (x_up (x_up S 0 17 0) 0 18 0) 6 0 a) 6 1 v5) 6 2 v7) 6 3 v3) 6 4 v9) 1 4), x_i 5, x_r (16 * 32 + 6)] (al, ro, fl (ml M [32] [(x_up (x_up (x_up (x_up (x_up (x_up (x_up S 0 17 0) 0 18 0) 6 0 a) 6 1 v5) 6 2 v7) 6 3 v3) 6 4 v9)])) _ _ _ _
    refine f_iast (pc := 114) (k := 0) (u := 32) (q := 6) (len := 7) dX12_strideOf_114 (sa_32_6 hs) (by decide) hn rfl rfl rfl (by decide) ?_
    show Ev g _ _ _ _ _ _ 115 [some (x_r (16 * 32 + 0)), some (x_i a), some (x_i v3), none, none] [] (al, ro, fl (ml M [32] [(x_up (x_up (x_up (x_up (x_up (x_up (x_up (x_up S 0 17 0) 0 18 0) 6 0 a) 6 1 v5) 6 2 v7) 6 3 v3) 6 4 v9) 6 5 ((x_up (x_up (x_up (x_up (x_up (x_up (x_up S 0 17 0) 0 18 0) 6 0 a) 6 1 v5) 6 2 v7) 6 3 v3) 6 4 v9) 1 4))])) _ _ _ _
    refine e_aloadn (pc := 115) (i := 0) dX12_strideOf_115 rfl rfl ?_
    refine f_getr (pc := 116) (u := 32) (q := 0) dX12_strideOf_116 xf12_29 (sa_32_0 hs) rfl (sr_32_0_14 hs) ?_
    refine e_bipush (pc := 119) dX12_strideOf_119 (by decide +kernel) (x_R rfl) ?_
    refine e_aloadn (pc := 121) (i := 0) dX12_strideOf_121 rfl rfl ?_
    refine e_iloadn (pc := 122) (i := 1) dX12_strideOf_122 rfl rfl ?_
    refine e_iconst (pc := 123) dX12_strideOf_123 (x_R rfl) ?_
    obtain ⟨v11, hq11, hG⟩ := x_bd1 hG
    refine e_invV (pc := 124) (K1 := 0) (S1 := 0) (K := 0) (S := 0) (dd2 := 0) (av := [x_i a, x_i 2]) (st := [x_i 6, x_r (16 * 32 + 6)]) (id := 16 * 32 + 0) dX12_strideOf_124 xmX12_65 rfl (Or.inl ⟨10, 27, TX12, (sa_32_0 hs), rfl, by decide⟩) (f_cal (M := M) (us2 := [32]) [0] hn rfl (And.intro rfl trivial) rfl rfl rfl (c_X12_of hst hs   hq11)) (by decide) (Nat.le_of_ble_eq_true rfl) (Or.inl rfl) ?_
    show Ev g _ _ _ _ _ _ 127 [some (x_r (16 * 32 + 0)), some (x_i a), some (x_i v3), none, none] [x_i v11, x_i 6, x_r (16 * 32 + 6)] (al, ro, fl (ml M [32] [(x_up (x_up (x_up (x_up (x_up (x_up (x_up (x_up S 0 17 0) 0 18 0) 6 0 a) 6 1 v5) 6 2 v7) 6 3 v3) 6 4 v9) 6 5 ((x_up (x_up (x_up (x_up (x_up (x_up (x_up S 0 17 0) 0 18 0) 6 0 a) 6 1 v5) 6 2 v7) 6 3 v3) 6 4 v9) 1 4))])) _ _ _ _
    refine f_iast (pc := 127) (k := 0) (u := 32) (q := 6) (len := 7) dX12_strideOf_127 (sa_32_6 hs) (by decide) hn rfl rfl rfl (by decide) ?_
    show Ev g _ _ _ _ _ _ 128 [some (x_r (16 * 32 + 0)), some (x_i a), some (x_i v3), none, none] [] (al, ro, fl (ml M [32] [(x_up (x_up (x_up (x_up (x_up (x_up (x_up (x_up (x_up S 0 17 0) 0 18 0) 6 0 a) 6 1 v5) 6 2 v7) 6 3 v3) 6 4 v9) 6 5 ((x_up (x_up (x_up (x_up (x_up (x_up (x_up S 0 17 0) 0 18 0) 6 0 a) 6 1 v5) 6 2 v7) 6 3 v3) 6 4 v9) 1 4)) 6 6 v11)])) _ _ _ _
    refine e_aloadn (pc := 128) (i := 0) dX12_strideOf_128 rfl rfl ?_
    refine e_aloadn (pc := 129) (i := 0) dX12_strideOf_129 rfl rfl ?_
    refine e_iloadn (pc := 130) (i := 1) dX12_strideOf_130 rfl rfl ?_
    refine e_iconst (pc := 131) dX12_strideOf_131 (x_R rfl) ?_
    obtain ⟨v13, hq13, hG⟩ := x_bd1 hG
    refine e_invV (pc := 132) (K1 := 0) (S1 := 0) (K := 0) (S := 0) (dd2 := 0) (av := [x_i a, x_i 0]) (st := [x_r (16 * 32 + 0)]) (id := 16 * 32 + 0) dX12_strideOf_132 xmX12_65 rfl (Or.inl ⟨10, 27, TX12, (sa_32_0 hs), rfl, by decide⟩) (f_cal (M := M) (us2 := [32]) [0] hn rfl (And.intro rfl trivial) rfl rfl rfl (c_X12_of hst hs   hq13)) (by decide) (Nat.le_of_ble_eq_true rfl) (Or.inl rfl) ?_
    show Ev g _ _ _ _ _ _ 135 [some (x_r (16 * 32 + 0)), some (x_i a), some (x_i v3), none, none] [x_i v13, x_r (16 * 32 + 0)] (al, ro, fl (ml M [32] [(x_up (x_up (x_up (x_up (x_up (x_up (x_up (x_up (x_up S 0 17 0) 0 18 0) 6 0 a) 6 1 v5) 6 2 v7) 6 3 v3) 6 4 v9) 6 5 ((x_up (x_up (x_up (x_up (x_up (x_up (x_up S 0 17 0) 0 18 0) 6 0 a) 6 1 v5) 6 2 v7) 6 3 v3) 6 4 v9) 1 4)) 6 6 v11)])) _ _ _ _
    refine e_iconst (pc := 135) dX12_strideOf_135 (x_R rfl) ?_
    refine e_irem (pc := 136) dX12_strideOf_136 (by decide) ?_
    obtain ⟨v15, hr15, hG⟩ := x_bd1 hG
    have hjhr15 : Ev g yX12_strideOf cX12_strideOf 5 (some .int) [] 43 145 [some (x_r (16 * 32 + 0)), some (x_i a), some (x_i v3), none, none] [x_i v15, x_r (16 * 32 + 0)] (al, ro, fl (ml M [32] [(x_up (x_up (x_up (x_up (x_up (x_up (x_up (x_up (x_up S 0 17 0) 0 18 0) 6 0 a) 6 1 v5) 6 2 v7) 6 3 v3) 6 4 v9) 6 5 ((x_up (x_up (x_up (x_up (x_up (x_up (x_up S 0 17 0) 0 18 0) 6 0 a) 6 1 v5) 6 2 v7) 6 3 v3) 6 4 v9) 1 4)) 6 6 v11)])) 0 0 (.inl (some (x_i t.1))) (al, ro, fl (ml M [32] [t.2])) := by
      obtain ⟨hc0, hG⟩ := x_gd_some hG
      refine f_putz (pc := 145) (k := 0) (u := 32) (q := 0) dX12_strideOf_145 xf12_218 xw10_15 hc0 (sa_32_0 hs) hn rfl rfl rfl (by decide) ?_
      show Ev g _ _ _ _ _ _ 148 [some (x_r (16 * 32 + 0)), some (x_i a), some (x_i v3), none, none] [] (al, ro, fl (ml M [32] [(x_up (x_up (x_up (x_up (x_up (x_up (x_up (x_up (x_up (x_up S 0 17 0) 0 18 0) 6 0 a) 6 1 v5) 6 2 v7) 6 3 v3) 6 4 v9) 6 5 ((x_up (x_up (x_up (x_up (x_up (x_up (x_up S 0 17 0) 0 18 0) 6 0 a) 6 1 v5) 6 2 v7) 6 3 v3) 6 4 v9) 1 4)) 6 6 v11) 0 15 v15)])) _ _ _ _
      refine e_aloadn (pc := 148) (i := 0) dX12_strideOf_148 rfl rfl ?_
      refine e_aloadn (pc := 149) (i := 0) dX12_strideOf_149 rfl rfl ?_
      refine e_iloadn (pc := 150) (i := 1) dX12_strideOf_150 rfl rfl ?_
      refine e_bipush (pc := 151) dX12_strideOf_151 (by decide +kernel) (x_R rfl) ?_
      obtain ⟨v17, hq17, hG⟩ := x_bd1 hG
      refine e_invV (pc := 153) (K1 := 0) (S1 := 0) (K := 0) (S := 0) (dd2 := 0) (av := [x_i a, x_i 6]) (st := [x_r (16 * 32 + 0)]) (id := 16 * 32 + 0) dX12_strideOf_153 xmX12_65 rfl (Or.inl ⟨10, 27, TX12, (sa_32_0 hs), rfl, by decide⟩) (f_cal (M := M) (us2 := [32]) [0] hn rfl (And.intro rfl trivial) rfl rfl rfl (c_X12_of hst hs   hq17)) (by decide) (Nat.le_of_ble_eq_true rfl) (Or.inl rfl) ?_
      show Ev g _ _ _ _ _ _ 156 [some (x_r (16 * 32 + 0)), some (x_i a), some (x_i v3), none, none] [x_i v17, x_r (16 * 32 + 0)] (al, ro, fl (ml M [32] [(x_up (x_up (x_up (x_up (x_up (x_up (x_up (x_up (x_up (x_up S 0 17 0) 0 18 0) 6 0 a) 6 1 v5) 6 2 v7) 6 3 v3) 6 4 v9) 6 5 ((x_up (x_up (x_up (x_up (x_up (x_up (x_up S 0 17 0) 0 18 0) 6 0 a) 6 1 v5) 6 2 v7) 6 3 v3) 6 4 v9) 1 4)) 6 6 v11) 0 15 v15)])) _ _ _ _
      obtain ⟨v19, hr19, hG⟩ := x_bd1 hG
      have hjhr19 : Ev g yX12_strideOf cX12_strideOf 5 (some .int) [] 43 164 [some (x_r (16 * 32 + 0)), some (x_i a), some (x_i v3), none, none] [x_i v19, x_r (16 * 32 + 0)] (al, ro, fl (ml M [32] [(x_up (x_up (x_up (x_up (x_up (x_up (x_up (x_up (x_up (x_up S 0 17 0) 0 18 0) 6 0 a) 6 1 v5) 6 2 v7) 6 3 v3) 6 4 v9) 6 5 ((x_up (x_up (x_up (x_up (x_up (x_up (x_up S 0 17 0) 0 18 0) 6 0 a) 6 1 v5) 6 2 v7) 6 3 v3) 6 4 v9) 1 4)) 6 6 v11) 0 15 v15)])) 0 0 (.inl (some (x_i t.1))) (al, ro, fl (ml M [32] [t.2])) := by
        obtain ⟨hc0, hG⟩ := x_gd_some hG
        refine f_putz (pc := 164) (k := 0) (u := 32) (q := 0) dX12_strideOf_164 xf12_224 xw10_16 hc0 (sa_32_0 hs) hn rfl rfl rfl (by decide) ?_
        show Ev g _ _ _ _ _ _ 167 [some (x_r (16 * 32 + 0)), some (x_i a), some (x_i v3), none, none] [] (al, ro, fl (ml M [32] [(x_up (x_up (x_up (x_up (x_up (x_up (x_up (x_up (x_up (x_up (x_up S 0 17 0) 0 18 0) 6 0 a) 6 1 v5) 6 2 v7) 6 3 v3) 6 4 v9) 6 5 ((x_up (x_up (x_up (x_up (x_up (x_up (x_up S 0 17 0) 0 18 0) 6 0 a) 6 1 v5) 6 2 v7) 6 3 v3) 6 4 v9) 1 4)) 6 6 v11) 0 15 v15) 0 16 v19)])) _ _ _ _
        refine e_aloadn (pc := 167) (i := 0) dX12_strideOf_167 rfl rfl ?_
        refine f_geti (pc := 168) (k := 0) (u := 32) (q := 0) dX12_strideOf_168 xf12_25 (sa_32_0 hs) rfl hn rfl rfl (by decide) ?_
        show Ev g _ _ _ _ _ _ 171 [some (x_r (16 * 32 + 0)), some (x_i a), some (x_i v3), none, none] [x_i ((x_up (x_up (x_up (x_up (x_up (x_up (x_up (x_up (x_up (x_up (x_up S 0 17 0) 0 18 0) 6 0 a) 6 1 v5) 6 2 v7) 6 3 v3) 6 4 v9) 6 5 ((x_up (x_up (x_up (x_up (x_up (x_up (x_up S 0 17 0) 0 18 0) 6 0 a) 6 1 v5) 6 2 v7) 6 3 v3) 6 4 v9) 1 4)) 6 6 v11) 0 15 v15) 0 16 v19) 0 12)] (al, ro, fl (ml M [32] [(x_up (x_up (x_up (x_up (x_up (x_up (x_up (x_up (x_up (x_up (x_up S 0 17 0) 0 18 0) 6 0 a) 6 1 v5) 6 2 v7) 6 3 v3) 6 4 v9) 6 5 ((x_up (x_up (x_up (x_up (x_up (x_up (x_up S 0 17 0) 0 18 0) 6 0 a) 6 1 v5) 6 2 v7) 6 3 v3) 6 4 v9) 1 4)) 6 6 v11) 0 15 v15) 0 16 v19)])) _ _ _ _
        refine e_istoren (pc := 171) (i := 3) dX12_strideOf_171 rfl (by decide) rfl ?_
        show Ev g _ _ _ _ _ _ 172 [some (x_r (16 * 32 + 0)), some (x_i a), some (x_i v3), some (x_i ((x_up (x_up (x_up (x_up (x_up (x_up (x_up (x_up (x_up (x_up (x_up S 0 17 0) 0 18 0) 6 0 a) 6 1 v5) 6 2 v7) 6 3 v3) 6 4 v9) 6 5 ((x_up (x_up (x_up (x_up (x_up (x_up (x_up S 0 17 0) 0 18 0) 6 0 a) 6 1 v5) 6 2 v7) 6 3 v3) 6 4 v9) 1 4)) 6 6 v11) 0 15 v15) 0 16 v19) 0 12)), none] [] (al, ro, fl (ml M [32] [(x_up (x_up (x_up (x_up (x_up (x_up (x_up (x_up (x_up (x_up (x_up S 0 17 0) 0 18 0) 6 0 a) 6 1 v5) 6 2 v7) 6 3 v3) 6 4 v9) 6 5 ((x_up (x_up (x_up (x_up (x_up (x_up (x_up S 0 17 0) 0 18 0) 6 0 a) 6 1 v5) 6 2 v7) 6 3 v3) 6 4 v9) 1 4)) 6 6 v11) 0 15 v15) 0 16 v19)])) _ _ _ _
        refine e_aloadn (pc := 172) (i := 0) dX12_strideOf_172 rfl rfl ?_
        refine e_iconst (pc := 173) dX12_strideOf_173 (x_R rfl) ?_
        refine f_puti (pc := 174) (k := 0) (u := 32) (q := 0) dX12_strideOf_174 xf12_25 xw10_12 (sa_32_0 hs) hn rfl rfl rfl (by decide) ?_
        show Ev g _ _ _ _ _ _ 177 [some (x_r (16 * 32 + 0)), some (x_i a), some (x_i v3), some (x_i ((x_up (x_up (x_up (x_up (x_up (x_up (x_up (x_up (x_up (x_up (x_up S 0 17 0) 0 18 0) 6 0 a) 6 1 v5) 6 2 v7) 6 3 v3) 6 4 v9) 6 5 ((x_up (x_up (x_up (x_up (x_up (x_up (x_up S 0 17 0) 0 18 0) 6 0 a) 6 1 v5) 6 2 v7) 6 3 v3) 6 4 v9) 1 4)) 6 6 v11) 0 15 v15) 0 16 v19) 0 12)), none] [] (al, ro, fl (ml M [32] [(x_up (x_up (x_up (x_up (x_up (x_up (x_up (x_up (x_up (x_up (x_up (x_up S 0 17 0) 0 18 0) 6 0 a) 6 1 v5) 6 2 v7) 6 3 v3) 6 4 v9) 6 5 ((x_up (x_up (x_up (x_up (x_up (x_up (x_up S 0 17 0) 0 18 0) 6 0 a) 6 1 v5) 6 2 v7) 6 3 v3) 6 4 v9) 1 4)) 6 6 v11) 0 15 v15) 0 16 v19) 0 12 (-1))])) _ _ _ _
        refine e_aloadn (pc := 177) (i := 0) dX12_strideOf_177 rfl rfl ?_
        refine e_sipush (pc := 178) dX12_strideOf_178 (by decide +kernel) (x_R rfl) ?_
        refine f_puti (pc := 181) (k := 0) (u := 32) (q := 0) dX12_strideOf_181 xf12_79 xw10_9 (sa_32_0 hs) hn rfl rfl rfl (by decide) ?_
        show Ev g _ _ _ _ _ _ 184 [some (x_r (16 * 32 + 0)), some (x_i a), some (x_i v3), some (x_i ((x_up (x_up (x_up (x_up (x_up (x_up (x_up (x_up (x_up (x_up (x_up S 0 17 0) 0 18 0) 6 0 a) 6 1 v5) 6 2 v7) 6 3 v3) 6 4 v9) 6 5 ((x_up (x_up (x_up (x_up (x_up (x_up (x_up S 0 17 0) 0 18 0) 6 0 a) 6 1 v5) 6 2 v7) 6 3 v3) 6 4 v9) 1 4)) 6 6 v11) 0 15 v15) 0 16 v19) 0 12)), none] [] (al, ro, fl (ml M [32] [(x_up (x_up (x_up (x_up (x_up (x_up (x_up (x_up (x_up (x_up (x_up (x_up (x_up S 0 17 0) 0 18 0) 6 0 a) 6 1 v5) 6 2 v7) 6 3 v3) 6 4 v9) 6 5 ((x_up (x_up (x_up (x_up (x_up (x_up (x_up S 0 17 0) 0 18 0) 6 0 a) 6 1 v5) 6 2 v7) 6 3 v3) 6 4 v9) 1 4)) 6 6 v11) 0 15 v15) 0 16 v19) 0 12 (-1)) 0 9 372)])) _ _ _ _
        refine e_aloadn (pc := 184) (i := 0) dX12_strideOf_184 rfl rfl ?_
        refine e_aloadn (pc := 185) (i := 0) dX12_strideOf_185 rfl rfl ?_
        refine f_getr (pc := 186) (u := 32) (q := 0) dX12_strideOf_186 xf12_7 (sa_32_0 hs) rfl (sr_32_0_1 hs) ?_
        refine e_iconst (pc := 189) dX12_strideOf_189 (x_R rfl) ?_
        refine f_iald (pc := 190) (k := 0) (u := 32) (q := 1) (len := 772) dX12_strideOf_190 (sa_32_1 hs) (by decide) hn rfl rfl (by decide) ?_
        show Ev g _ _ _ _ _ _ 191 [some (x_r (16 * 32 + 0)), some (x_i a), some (x_i v3), some (x_i ((x_up (x_up (x_up (x_up (x_up (x_up (x_up (x_up (x_up (x_up (x_up S 0 17 0) 0 18 0) 6 0 a) 6 1 v5) 6 2 v7) 6 3 v3) 6 4 v9) 6 5 ((x_up (x_up (x_up (x_up (x_up (x_up (x_up S 0 17 0) 0 18 0) 6 0 a) 6 1 v5) 6 2 v7) 6 3 v3) 6 4 v9) 1 4)) 6 6 v11) 0 15 v15) 0 16 v19) 0 12)), none] [x_i ((x_up (x_up (x_up (x_up (x_up (x_up (x_up (x_up (x_up (x_up (x_up (x_up (x_up S 0 17 0) 0 18 0) 6 0 a) 6 1 v5) 6 2 v7) 6 3 v3) 6 4 v9) 6 5 ((x_up (x_up (x_up (x_up (x_up (x_up (x_up S 0 17 0) 0 18 0) 6 0 a) 6 1 v5) 6 2 v7) 6 3 v3) 6 4 v9) 1 4)) 6 6 v11) 0 15 v15) 0 16 v19) 0 12 (-1)) 0 9 372) 1 1), x_r (16 * 32 + 0)] (al, ro, fl (ml M [32] [(x_up (x_up (x_up (x_up (x_up (x_up (x_up (x_up (x_up (x_up (x_up (x_up (x_up S 0 17 0) 0 18 0) 6 0 a) 6 1 v5) 6 2 v7) 6 3 v3) 6 4 v9) 6 5 ((x_up (x_up (x_up (x_up (x_up (x_up (x_up S 0 17 0) 0 18 0) 6 0 a) 6 1 v5) 6 2 v7) 6 3 v3) 6 4 v9) 1 4)) 6 6 v11) 0 15 v15) 0 16 v19) 0 12 (-1)) 0 9 372)])) _ _ _ _
        obtain ⟨v21, hr21, hG⟩ := x_bd1 hG
        have hjhr21 : Ev g yX12_strideOf cX12_strideOf 5 (some .int) [] 43 204 [some (x_r (16 * 32 + 0)), some (x_i a), some (x_i v3), some (x_i ((x_up (x_up (x_up (x_up (x_up (x_up (x_up (x_up (x_up (x_up (x_up S 0 17 0) 0 18 0) 6 0 a) 6 1 v5) 6 2 v7) 6 3 v3) 6 4 v9) 6 5 ((x_up (x_up (x_up (x_up (x_up (x_up (x_up S 0 17 0) 0 18 0) 6 0 a) 6 1 v5) 6 2 v7) 6 3 v3) 6 4 v9) 1 4)) 6 6 v11) 0 15 v15) 0 16 v19) 0 12)), none] [x_i v21, x_r (16 * 32 + 0)] (al, ro, fl (ml M [32] [(x_up (x_up (x_up (x_up (x_up (x_up (x_up (x_up (x_up (x_up (x_up (x_up (x_up S 0 17 0) 0 18 0) 6 0 a) 6 1 v5) 6 2 v7) 6 3 v3) 6 4 v9) 6 5 ((x_up (x_up (x_up (x_up (x_up (x_up (x_up S 0 17 0) 0 18 0) 6 0 a) 6 1 v5) 6 2 v7) 6 3 v3) 6 4 v9) 1 4)) 6 6 v11) 0 15 v15) 0 16 v19) 0 12 (-1)) 0 9 372)])) 0 0 (.inl (some (x_i t.1))) (al, ro, fl (ml M [32] [t.2])) := by
          refine f_puti (pc := 204) (k := 0) (u := 32) (q := 0) dX12_strideOf_204 xf12_85 xw10_10 (sa_32_0 hs) hn rfl rfl rfl (by decide) ?_
          show Ev g _ _ _ _ _ _ 207 [some (x_r (16 * 32 + 0)), some (x_i a), some (x_i v3), some (x_i ((x_up (x_up (x_up (x_up (x_up (x_up (x_up (x_up (x_up (x_up (x_up S 0 17 0) 0 18 0) 6 0 a) 6 1 v5) 6 2 v7) 6 3 v3) 6 4 v9) 6 5 ((x_up (x_up (x_up (x_up (x_up (x_up (x_up S 0 17 0) 0 18 0) 6 0 a) 6 1 v5) 6 2 v7) 6 3 v3) 6 4 v9) 1 4)) 6 6 v11) 0 15 v15) 0 16 v19) 0 12)), none] [] (al, ro, fl (ml M [32] [(x_up (x_up (x_up (x_up (x_up (x_up (x_up (x_up (x_up (x_up (x_up (x_up (x_up (x_up S 0 17 0) 0 18 0) 6 0 a) 6 1 v5) 6 2 v7) 6 3 v3) 6 4 v9) 6 5 ((x_up (x_up (x_up (x_up (x_up (x_up (x_up S 0 17 0) 0 18 0) 6 0 a) 6 1 v5) 6 2 v7) 6 3 v3) 6 4 v9) 1 4)) 6 6 v11) 0 15 v15) 0 16 v19) 0 12 (-1)) 0 9 372) 0 10 v21)])) _ _ _ _
          refine e_aloadn (pc := 207) (i := 0) dX12_strideOf_207 rfl rfl ?_
          refine e_iconst (pc := 208) dX12_strideOf_208 (x_R rfl) ?_
          refine f_puti (pc := 209) (k := 0) (u := 32) (q := 0) dX12_strideOf_209 xf12_82 xw10_11 (sa_32_0 hs) hn rfl rfl rfl (by decide) ?_
          show Ev g _ _ _ _ _ _ 212 [some (x_r (16 * 32 + 0)), some (x_i a), some (x_i v3), some (x_i ((x_up (x_up (x_up (x_up (x_up (x_up (x_up (x_up (x_up (x_up (x_up S 0 17 0) 0 18 0) 6 0 a) 6 1 v5) 6 2 v7) 6 3 v3) 6 4 v9) 6 5 ((x_up (x_up (x_up (x_up (x_up (x_up (x_up S 0 17 0) 0 18 0) 6 0 a) 6 1 v5) 6 2 v7) 6 3 v3) 6 4 v9) 1 4)) 6 6 v11) 0 15 v15) 0 16 v19) 0 12)), none] [] (al, ro, fl (ml M [32] [(x_up (x_up (x_up (x_up (x_up (x_up (x_up (x_up (x_up (x_up (x_up (x_up (x_up (x_up (x_up S 0 17 0) 0 18 0) 6 0 a) 6 1 v5) 6 2 v7) 6 3 v3) 6 4 v9) 6 5 ((x_up (x_up (x_up (x_up (x_up (x_up (x_up S 0 17 0) 0 18 0) 6 0 a) 6 1 v5) 6 2 v7) 6 3 v3) 6 4 v9) 1 4)) 6 6 v11) 0 15 v15) 0 16 v19) 0 12 (-1)) 0 9 372) 0 10 v21) 0 11 0)])) _ _ _ _
          refine e_aloadn (pc := 212) (i := 0) dX12_strideOf_212 rfl rfl ?_
          refine e_iconst (pc := 213) dX12_strideOf_213 (x_R rfl) ?_
          refine f_puti (pc := 214) (k := 0) (u := 32) (q := 0) dX12_strideOf_214 xf12_180 xw10_13 (sa_32_0 hs) hn rfl rfl rfl (by decide) ?_
          show Ev g _ _ _ _ _ _ 217 [some (x_r (16 * 32 + 0)), some (x_i a), some (x_i v3), some (x_i ((x_up (x_up (x_up (x_up (x_up (x_up (x_up (x_up (x_up (x_up (x_up S 0 17 0) 0 18 0) 6 0 a) 6 1 v5) 6 2 v7) 6 3 v3) 6 4 v9) 6 5 ((x_up (x_up (x_up (x_up (x_up (x_up (x_up S 0 17 0) 0 18 0) 6 0 a) 6 1 v5) 6 2 v7) 6 3 v3) 6 4 v9) 1 4)) 6 6 v11) 0 15 v15) 0 16 v19) 0 12)), none] [] (al, ro, fl (ml M [32] [(x_up (x_up (x_up (x_up (x_up (x_up (x_up (x_up (x_up (x_up (x_up (x_up (x_up (x_up (x_up (x_up S 0 17 0) 0 18 0) 6 0 a) 6 1 v5) 6 2 v7) 6 3 v3) 6 4 v9) 6 5 ((x_up (x_up (x_up (x_up (x_up (x_up (x_up S 0 17 0) 0 18 0) 6 0 a) 6 1 v5) 6 2 v7) 6 3 v3) 6 4 v9) 1 4)) 6 6 v11) 0 15 v15) 0 16 v19) 0 12 (-1)) 0 9 372) 0 10 v21) 0 11 0) 0 13 0)])) _ _ _ _
          refine e_aloadn (pc := 217) (i := 0) dX12_strideOf_217 rfl rfl ?_
          refine e_iconst (pc := 218) dX12_strideOf_218 (x_R rfl) ?_
          obtain ⟨v23, S24, hq24, hG⟩ := x_bd2 hG
          refine e_invV (pc := 219) (K1 := 0) (S1 := 0) (K := 0) (S := 0) (dd2 := 42) (av := [x_i 1]) (st := []) (id := 16 * 32 + 0) dX12_strideOf_219 xmX12_198 rfl (Or.inl ⟨10, 27, TX12, (sa_32_0 hs), rfl, by decide⟩) (f_cal (M := M) (us2 := [32]) [0] hn rfl (And.intro rfl trivial) rfl rfl rfl (c_X12_read hst hs   hq24)) (by decide) (Nat.le_of_ble_eq_true rfl) (Or.inl rfl) ?_
          show Ev g _ _ _ _ _ _ 222 [some (x_r (16 * 32 + 0)), some (x_i a), some (x_i v3), some (x_i ((x_up (x_up (x_up (x_up (x_up (x_up (x_up (x_up (x_up (x_up (x_up S 0 17 0) 0 18 0) 6 0 a) 6 1 v5) 6 2 v7) 6 3 v3) 6 4 v9) 6 5 ((x_up (x_up (x_up (x_up (x_up (x_up (x_up S 0 17 0) 0 18 0) 6 0 a) 6 1 v5) 6 2 v7) 6 3 v3) 6 4 v9) 1 4)) 6 6 v11) 0 15 v15) 0 16 v19) 0 12)), none] [x_i v23] (al, ro, fl (ml M [32] [S24])) _ _ _ _
          refine e_istore (pc := 222) (i := 4) dX12_strideOf_222 (by decide) rfl ?_
          show Ev g _ _ _ _ _ _ 224 [some (x_r (16 * 32 + 0)), some (x_i a), some (x_i v3), some (x_i ((x_up (x_up (x_up (x_up (x_up (x_up (x_up (x_up (x_up (x_up (x_up S 0 17 0) 0 18 0) 6 0 a) 6 1 v5) 6 2 v7) 6 3 v3) 6 4 v9) 6 5 ((x_up (x_up (x_up (x_up (x_up (x_up (x_up S 0 17 0) 0 18 0) 6 0 a) 6 1 v5) 6 2 v7) 6 3 v3) 6 4 v9) 1 4)) 6 6 v11) 0 15 v15) 0 16 v19) 0 12)), some (x_i v23)] [] (al, ro, fl (ml M [32] [S24])) _ _ _ _
          refine e_aloadn (pc := 224) (i := 0) dX12_strideOf_224 rfl rfl ?_
          refine e_iloadn (pc := 225) (i := 3) dX12_strideOf_225 rfl rfl ?_
          refine f_puti (pc := 226) (k := 0) (u := 32) (q := 0) dX12_strideOf_226 xf12_25 xw10_12 (sa_32_0 hs) hn rfl rfl rfl (by decide) ?_
          show Ev g _ _ _ _ _ _ 229 [some (x_r (16 * 32 + 0)), some (x_i a), some (x_i v3), some (x_i ((x_up (x_up (x_up (x_up (x_up (x_up (x_up (x_up (x_up (x_up (x_up S 0 17 0) 0 18 0) 6 0 a) 6 1 v5) 6 2 v7) 6 3 v3) 6 4 v9) 6 5 ((x_up (x_up (x_up (x_up (x_up (x_up (x_up S 0 17 0) 0 18 0) 6 0 a) 6 1 v5) 6 2 v7) 6 3 v3) 6 4 v9) 1 4)) 6 6 v11) 0 15 v15) 0 16 v19) 0 12)), some (x_i v23)] [] (al, ro, fl (ml M [32] [(x_up S24 0 12 ((x_up (x_up (x_up (x_up (x_up (x_up (x_up (x_up (x_up (x_up (x_up S 0 17 0) 0 18 0) 6 0 a) 6 1 v5) 6 2 v7) 6 3 v3) 6 4 v9) 6 5 ((x_up (x_up (x_up (x_up (x_up (x_up (x_up S 0 17 0) 0 18 0) 6 0 a) 6 1 v5) 6 2 v7) 6 3 v3) 6 4 v9) 1 4)) 6 6 v11) 0 15 v15) 0 16 v19) 0 12))])) _ _ _ _
          refine e_aloadn (pc := 229) (i := 0) dX12_strideOf_229 rfl rfl ?_
          refine f_geti (pc := 230) (k := 0) (u := 32) (q := 0) dX12_strideOf_230 xf12_257 (sa_32_0 hs) rfl hn rfl rfl (by decide) ?_
          show Ev g _ _ _ _ _ _ 233 [some (x_r (16 * 32 + 0)), some (x_i a), some (x_i v3), some (x_i ((x_up (x_up (x_up (x_up (x_up (x_up (x_up (x_up (x_up (x_up (x_up S 0 17 0) 0 18 0) 6 0 a) 6 1 v5) 6 2 v7) 6 3 v3) 6 4 v9) 6 5 ((x_up (x_up (x_up (x_up (x_up (x_up (x_up S 0 17 0) 0 18 0) 6 0 a) 6 1 v5) 6 2 v7) 6 3 v3) 6 4 v9) 1 4)) 6 6 v11) 0 15 v15) 0 16 v19) 0 12)), some (x_i v23)] [x_i ((x_up S24 0 12 ((x_up (x_up (x_up (x_up (x_up (x_up (x_up (x_up (x_up (x_up (x_up S 0 17 0) 0 18 0) 6 0 a) 6 1 v5) 6 2 v7) 6 3 v3) 6 4 v9) 6 5 ((x_up (x_up (x_up (x_up (x_up (x_up (x_up S 0 17 0) 0 18 0) 6 0 a) 6 1 v5) 6 2 v7) 6 3 v3) 6 4 v9) 1 4)) 6 6 v11) 0 15 v15) 0 16 v19) 0 12)) 0 17)] (al, ro, fl (ml M [32] [(x_up S24 0 12 ((x_up (x_up (x_up (x_up (x_up (x_up (x_up (x_up (x_up (x_up (x_up S 0 17 0) 0 18 0) 6 0 a) 6 1 v5) 6 2 v7) 6 3 v3) 6 4 v9) 6 5 ((x_up (x_up (x_up (x_up (x_up (x_up (x_up S 0 17 0) 0 18 0) 6 0 a) 6 1 v5) 6 2 v7) 6 3 v3) 6 4 v9) 1 4)) 6 6 v11) 0 15 v15) 0 16 v19) 0 12))])) _ _ _ _
          obtain ⟨v26, hr26, hG⟩ := x_bd1 hG
          have hjhr26 : Ev g yX12_strideOf cX12_strideOf 5 (some .int) [] 43 260 [some (x_r (16 * 32 + 0)), some (x_i a), some (x_i v3), some (x_i ((x_up (x_up (x_up (x_up (x_up (x_up (x_up (x_up (x_up (x_up (x_up S 0 17 0) 0 18 0) 6 0 a) 6 1 v5) 6 2 v7) 6 3 v3) 6 4 v9) 6 5 ((x_up (x_up (x_up (x_up (x_up (x_up (x_up S 0 17 0) 0 18 0) 6 0 a) 6 1 v5) 6 2 v7) 6 3 v3) 6 4 v9) 1 4)) 6 6 v11) 0 15 v15) 0 16 v19) 0 12)), some (x_i v23)] [x_i v26] (al, ro, fl (ml M [32] [(x_up S24 0 12 ((x_up (x_up (x_up (x_up (x_up (x_up (x_up (x_up (x_up (x_up (x_up S 0 17 0) 0 18 0) 6 0 a) 6 1 v5) 6 2 v7) 6 3 v3) 6 4 v9) 6 5 ((x_up (x_up (x_up (x_up (x_up (x_up (x_up S 0 17 0) 0 18 0) 6 0 a) 6 1 v5) 6 2 v7) 6 3 v3) 6 4 v9) 1 4)) 6 6 v11) 0 15 v15) 0 16 v19) 0 12))])) 0 0 (.inl (some (x_i t.1))) (al, ro, fl (ml M [32] [t.2])) := by
            cases hG
            exact (e_ireturn rfl dX12_strideOf_260 rfl)
          clear hG
          refine e_if_eq (pc := 233) (tgt := 240) dX12_strideOf_233 (by decide) (fun hb => ?_) (fun hb => ?_)
          · rw [if_pos hb] at hr26
            refine e_iconst (pc := 240) dX12_strideOf_240 (x_R rfl) ?_
            refine e_bipush (pc := 241) dX12_strideOf_241 (by decide +kernel) (x_R rfl) ?_
            refine e_aloadn (pc := 243) (i := 0) dX12_strideOf_243 rfl rfl ?_
            refine e_iloadn (pc := 244) (i := 1) dX12_strideOf_244 rfl rfl ?_
            refine e_iconst (pc := 245) dX12_strideOf_245 (x_R rfl) ?_
            obtain ⟨v28, hq28, hr26⟩ := x_bd1 hr26
            refine e_invV (pc := 246) (K1 := 0) (S1 := 0) (K := 0) (S := 0) (dd2 := 0) (av := [x_i a, x_i 1]) (st := [x_i 15, x_i 0]) (id := 16 * 32 + 0) dX12_strideOf_246 xmX12_65 rfl (Or.inl ⟨10, 27, TX12, (sa_32_0 hs), rfl, by decide⟩) (f_cal (M := M) (us2 := [32]) [0] hn rfl (And.intro rfl trivial) rfl rfl rfl (c_X12_of hst hs   hq28)) (by decide) (Nat.le_of_ble_eq_true rfl) (Or.inl rfl) ?_
            show Ev g _ _ _ _ _ _ 249 [some (x_r (16 * 32 + 0)), some (x_i a), some (x_i v3), some (x_i ((x_up (x_up (x_up (x_up (x_up (x_up (x_up (x_up (x_up (x_up (x_up S 0 17 0) 0 18 0) 6 0 a) 6 1 v5) 6 2 v7) 6 3 v3) 6 4 v9) 6 5 ((x_up (x_up (x_up (x_up (x_up (x_up (x_up S 0 17 0) 0 18 0) 6 0 a) 6 1 v5) 6 2 v7) 6 3 v3) 6 4 v9) 1 4)) 6 6 v11) 0 15 v15) 0 16 v19) 0 12)), some (x_i v23)] [x_i v28, x_i 15, x_i 0] (al, ro, fl (ml M [32] [(x_up S24 0 12 ((x_up (x_up (x_up (x_up (x_up (x_up (x_up (x_up (x_up (x_up (x_up S 0 17 0) 0 18 0) 6 0 a) 6 1 v5) 6 2 v7) 6 3 v3) 6 4 v9) 6 5 ((x_up (x_up (x_up (x_up (x_up (x_up (x_up S 0 17 0) 0 18 0) 6 0 a) 6 1 v5) 6 2 v7) 6 3 v3) 6 4 v9) 1 4)) 6 6 v11) 0 15 v15) 0 16 v19) 0 12))])) _ _ _ _
            refine e_aloadn (pc := 249) (i := 0) dX12_strideOf_249 rfl rfl ?_
            refine f_geti (pc := 250) (k := 0) (u := 32) (q := 0) dX12_strideOf_250 xf12_260 (sa_32_0 hs) rfl hn rfl rfl (by decide) ?_
            show Ev g _ _ _ _ _ _ 253 [some (x_r (16 * 32 + 0)), some (x_i a), some (x_i v3), some (x_i ((x_up (x_up (x_up (x_up (x_up (x_up (x_up (x_up (x_up (x_up (x_up S 0 17 0) 0 18 0) 6 0 a) 6 1 v5) 6 2 v7) 6 3 v3) 6 4 v9) 6 5 ((x_up (x_up (x_up (x_up (x_up (x_up (x_up S 0 17 0) 0 18 0) 6 0 a) 6 1 v5) 6 2 v7) 6 3 v3) 6 4 v9) 1 4)) 6 6 v11) 0 15 v15) 0 16 v19) 0 12)), some (x_i v23)] [x_i ((x_up S24 0 12 ((x_up (x_up (x_up (x_up (x_up (x_up (x_up (x_up (x_up (x_up (x_up S 0 17 0) 0 18 0) 6 0 a) 6 1 v5) 6 2 v7) 6 3 v3) 6 4 v9) 6 5 ((x_up (x_up (x_up (x_up (x_up (x_up (x_up S 0 17 0) 0 18 0) 6 0 a) 6 1 v5) 6 2 v7) 6 3 v3) 6 4 v9) 1 4)) 6 6 v11) 0 15 v15) 0 16 v19) 0 12)) 0 18), x_i v28, x_i 15, x_i 0] (al, ro, fl (ml M [32] [(x_up S24 0 12 ((x_up (x_up (x_up (x_up (x_up (x_up (x_up (x_up (x_up (x_up (x_up S 0 17 0) 0 18 0) 6 0 a) 6 1 v5) 6 2 v7) 6 3 v3) 6 4 v9) 6 5 ((x_up (x_up (x_up (x_up (x_up (x_up (x_up S 0 17 0) 0 18 0) 6 0 a) 6 1 v5) 6 2 v7) 6 3 v3) 6 4 v9) 1 4)) 6 6 v11) 0 15 v15) 0 16 v19) 0 12))])) _ _ _ _
            refine e_iadd (pc := 253) dX12_strideOf_253 ?_
            obtain ⟨v30, hq30, hr26⟩ := x_bd1 hr26
            refine e_invS (pc := 254) (K1 := 0) (S1 := 0) (K := 0) (S := 0) (dd2 := 0) (av := [x_i 15, x_i (x_add v28 ((x_up S24 0 12 ((x_up (x_up (x_up (x_up (x_up (x_up (x_up (x_up (x_up (x_up (x_up S 0 17 0) 0 18 0) 6 0 a) 6 1 v5) 6 2 v7) 6 3 v3) 6 4 v9) 6 5 ((x_up (x_up (x_up (x_up (x_up (x_up (x_up S 0 17 0) 0 18 0) 6 0 a) 6 1 v5) 6 2 v7) 6 3 v3) 6 4 v9) 1 4)) 6 6 v11) 0 15 v15) 0 16 v19) 0 12)) 0 18))]) (st := [x_i 0]) dX12_strideOf_254 xmX12_73 rfl (f_cal (M := M) (us2 := []) [] hn rfl trivial rfl rfl rfl (c_X12_lesser hst hs   hq30)) (by decide) (Nat.le_of_ble_eq_true rfl) (Or.inl rfl) ?_
            show Ev g _ _ _ _ _ _ 257 [some (x_r (16 * 32 + 0)), some (x_i a), some (x_i v3), some (x_i ((x_up (x_up (x_up (x_up (x_up (x_up (x_up (x_up (x_up (x_up (x_up S 0 17 0) 0 18 0) 6 0 a) 6 1 v5) 6 2 v7) 6 3 v3) 6 4 v9) 6 5 ((x_up (x_up (x_up (x_up (x_up (x_up (x_up S 0 17 0) 0 18 0) 6 0 a) 6 1 v5) 6 2 v7) 6 3 v3) 6 4 v9) 1 4)) 6 6 v11) 0 15 v15) 0 16 v19) 0 12)), some (x_i v23)] [x_i v30, x_i 0] (al, ro, fl (ml M [32] [(x_up S24 0 12 ((x_up (x_up (x_up (x_up (x_up (x_up (x_up (x_up (x_up (x_up (x_up S 0 17 0) 0 18 0) 6 0 a) 6 1 v5) 6 2 v7) 6 3 v3) 6 4 v9) 6 5 ((x_up (x_up (x_up (x_up (x_up (x_up (x_up S 0 17 0) 0 18 0) 6 0 a) 6 1 v5) 6 2 v7) 6 3 v3) 6 4 v9) 1 4)) 6 6 v11) 0 15 v15) 0 16 v19) 0 12))])) _ _ _ _
            obtain ⟨v32, hq32, hr26⟩ := x_bd1 hr26
            refine e_invS (pc := 257) (K1 := 0) (S1 := 0) (K := 0) (S := 0) (dd2 := 0) (av := [x_i 0, x_i v30]) (st := []) dX12_strideOf_257 xmX12_266 rfl (f_cal (M := M) (us2 := []) [] hn rfl trivial rfl rfl rfl (c_X12_greater hst hs   hq32)) (by decide) (Nat.le_of_ble_eq_true rfl) (Or.inl rfl) ?_
            show Ev g _ _ _ _ _ _ 260 [some (x_r (16 * 32 + 0)), some (x_i a), some (x_i v3), some (x_i ((x_up (x_up (x_up (x_up (x_up (x_up (x_up (x_up (x_up (x_up (x_up S 0 17 0) 0 18 0) 6 0 a) 6 1 v5) 6 2 v7) 6 3 v3) 6 4 v9) 6 5 ((x_up (x_up (x_up (x_up (x_up (x_up (x_up S 0 17 0) 0 18 0) 6 0 a) 6 1 v5) 6 2 v7) 6 3 v3) 6 4 v9) 1 4)) 6 6 v11) 0 15 v15) 0 16 v19) 0 12)), some (x_i v23)] [x_i v32] (al, ro, fl (ml M [32] [(x_up S24 0 12 ((x_up (x_up (x_up (x_up (x_up (x_up (x_up (x_up (x_up (x_up (x_up S 0 17 0) 0 18 0) 6 0 a) 6 1 v5) 6 2 v7) 6 3 v3) 6 4 v9) 6 5 ((x_up (x_up (x_up (x_up (x_up (x_up (x_up S 0 17 0) 0 18 0) 6 0 a) 6 1 v5) 6 2 v7) 6 3 v3) 6 4 v9) 1 4)) 6 6 v11) 0 15 v15) 0 16 v19) 0 12))])) _ _ _ _
            cases hr26
            exact hjhr26
          · rw [if_neg hb] at hr26
            refine e_iconst (pc := 236) dX12_strideOf_236 (x_R rfl) ?_
            refine e_goto (pc := 237) (tgt := 260) dX12_strideOf_237 (by decide) ?_
            cases hr26
            exact hjhr26
        clear hG
        refine e_if_ne (pc := 191) (tgt := 198) dX12_strideOf_191 (by decide) (fun hb => ?_) (fun hb => ?_)
        · rw [if_neg hb] at hr21
          refine e_aloadn (pc := 198) (i := 0) dX12_strideOf_198 rfl rfl ?_
          refine f_getr (pc := 199) (u := 32) (q := 0) dX12_strideOf_199 xf12_7 (sa_32_0 hs) rfl (sr_32_0_1 hs) ?_
          refine e_iconst (pc := 202) dX12_strideOf_202 (x_R rfl) ?_
          refine f_iald (pc := 203) (k := 0) (u := 32) (q := 1) (len := 772) dX12_strideOf_203 (sa_32_1 hs) (by decide) hn rfl rfl (by decide) ?_
          show Ev g _ _ _ _ _ _ 204 [some (x_r (16 * 32 + 0)), some (x_i a), some (x_i v3), some (x_i ((x_up (x_up (x_up (x_up (x_up (x_up (x_up (x_up (x_up (x_up (x_up S 0 17 0) 0 18 0) 6 0 a) 6 1 v5) 6 2 v7) 6 3 v3) 6 4 v9) 6 5 ((x_up (x_up (x_up (x_up (x_up (x_up (x_up S 0 17 0) 0 18 0) 6 0 a) 6 1 v5) 6 2 v7) 6 3 v3) 6 4 v9) 1 4)) 6 6 v11) 0 15 v15) 0 16 v19) 0 12)), none] [x_i ((x_up (x_up (x_up (x_up (x_up (x_up (x_up (x_up (x_up (x_up (x_up (x_up (x_up S 0 17 0) 0 18 0) 6 0 a) 6 1 v5) 6 2 v7) 6 3 v3) 6 4 v9) 6 5 ((x_up (x_up (x_up (x_up (x_up (x_up (x_up S 0 17 0) 0 18 0) 6 0 a) 6 1 v5) 6 2 v7) 6 3 v3) 6 4 v9) 1 4)) 6 6 v11) 0 15 v15) 0 16 v19) 0 12 (-1)) 0 9 372) 1 2), x_r (16 * 32 + 0)] (al, ro, fl (ml M [32] [(x_up (x_up (x_up (x_up (x_up (x_up (x_up (x_up (x_up (x_up (x_up (x_up (x_up S 0 17 0) 0 18 0) 6 0 a) 6 1 v5) 6 2 v7) 6 3 v3) 6 4 v9) 6 5 ((x_up (x_up (x_up (x_up (x_up (x_up (x_up S 0 17 0) 0 18 0) 6 0 a) 6 1 v5) 6 2 v7) 6 3 v3) 6 4 v9) 1 4)) 6 6 v11) 0 15 v15) 0 16 v19) 0 12 (-1)) 0 9 372)])) _ _ _ _
          cases hr21
          exact hjhr21
        · rw [if_pos hb] at hr21
          refine e_iconst (pc := 194) dX12_strideOf_194 (x_R rfl) ?_
          refine e_goto (pc := 195) (tgt := 204) dX12_strideOf_195 (by decide) ?_
          cases hr21
          exact hjhr21
      clear hG
      refine e_if_le (pc := 156) (tgt := 163) dX12_strideOf_156 (by decide) (fun hb => ?_) (fun hb => ?_)
      · rw [if_pos hb] at hr19
        refine e_iconst (pc := 163) dX12_strideOf_163 (x_R rfl) ?_
        cases hr19
        exact hjhr19
      · rw [if_neg hb] at hr19
        refine e_iconst (pc := 159) dX12_strideOf_159 (x_R rfl) ?_
        refine e_goto (pc := 160) (tgt := 164) dX12_strideOf_160 (by decide) ?_
        cases hr19
        exact hjhr19
    clear hG
    refine e_if_ne (pc := 137) (tgt := 144) dX12_strideOf_137 (by decide) (fun hb => ?_) (fun hb => ?_)
    · rw [if_neg hb] at hr15
      refine e_iconst (pc := 144) dX12_strideOf_144 (x_R rfl) ?_
      cases hr15
      exact hjhr15
    · rw [if_pos hb] at hr15
      refine e_iconst (pc := 140) dX12_strideOf_140 (x_R rfl) ?_
      refine e_goto (pc := 141) (tgt := 145) dX12_strideOf_141 (by decide) ?_
      cases hr15
      exact hjhr15
  · rw [if_pos hb] at hG
    refine e_iconst (pc := 31) dX12_strideOf_31 (x_R rfl) ?_
    refine e_aloadn (pc := 32) (i := 0) dX12_strideOf_32 rfl rfl ?_
    refine e_iloadn (pc := 33) (i := 1) dX12_strideOf_33 rfl rfl ?_
    refine e_iconst (pc := 34) dX12_strideOf_34 (x_R rfl) ?_
    obtain ⟨v34, hq34, hG⟩ := x_bd1 hG
    refine e_invV (pc := 35) (K1 := 0) (S1 := 0) (K := 0) (S := 0) (dd2 := 0) (av := [x_i a, x_i 1]) (st := [x_i 0]) (id := 16 * 32 + 0) dX12_strideOf_35 xmX12_65 rfl (Or.inl ⟨10, 27, TX12, (sa_32_0 hs), rfl, by decide⟩) (f_cal (M := M) (us2 := [32]) [0] hn rfl (And.intro rfl trivial) rfl rfl rfl (c_X12_of hst hs   hq34)) (by decide) (Nat.le_of_ble_eq_true rfl) (Or.inl rfl) ?_
    show Ev g _ _ _ _ _ _ 38 [some (x_r (16 * 32 + 0)), some (x_i a), some (x_i v3), none, none] [x_i v34, x_i 0] (al, ro, fl (ml M [32] [(x_up (x_up S 0 17 0) 0 18 0)])) _ _ _ _
    refine e_iloadn (pc := 38) (i := 2) dX12_strideOf_38 rfl rfl ?_
    refine e_iconst (pc := 39) dX12_strideOf_39 (x_R rfl) ?_
    obtain ⟨v36, hr36, hG⟩ := x_bd1 hG
    have hjhr36 : Ev g yX12_strideOf cX12_strideOf 5 (some .int) [] 43 48 [some (x_r (16 * 32 + 0)), some (x_i a), some (x_i v3), none, none] [x_i v36, x_i v34, x_i 0] (al, ro, fl (ml M [32] [(x_up (x_up S 0 17 0) 0 18 0)])) 0 0 (.inl (some (x_i t.1))) (al, ro, fl (ml M [32] [t.2])) := by
      refine e_isub (pc := 48) dX12_strideOf_48 ?_
      obtain ⟨v38, hq38, hG⟩ := x_bd1 hG
      refine e_invS (pc := 49) (K1 := 0) (S1 := 0) (K := 0) (S := 0) (dd2 := 0) (av := [x_i 0, x_i (x_sub v34 v36)]) (st := []) dX12_strideOf_49 xmX12_266 rfl (f_cal (M := M) (us2 := []) [] hn rfl trivial rfl rfl rfl (c_X12_greater hst hs   hq38)) (by decide) (Nat.le_of_ble_eq_true rfl) (Or.inl rfl) ?_
      show Ev g _ _ _ _ _ _ 52 [some (x_r (16 * 32 + 0)), some (x_i a), some (x_i v3), none, none] [x_i v38] (al, ro, fl (ml M [32] [(x_up (x_up S 0 17 0) 0 18 0)])) _ _ _ _
      cases hG
      exact (e_ireturn rfl dX12_strideOf_52 rfl)
    clear hG
    refine e_icmp_ne (pc := 40) (tgt := 47) dX12_strideOf_40 (by decide) (fun hb => ?_) (fun hb => ?_)
    · rw [if_neg hb] at hr36
      refine e_iconst (pc := 47) dX12_strideOf_47 (x_R rfl) ?_
      cases hr36
      exact hjhr36
    · rw [if_pos hb] at hr36
      refine e_iconst (pc := 43) dX12_strideOf_43 (x_R rfl) ?_
      refine e_goto (pc := 44) (tgt := 48) dX12_strideOf_44 (by decide) ?_
      cases hr36
      exact hjhr36
set_option maxRecDepth 100000 in
set_option maxHeartbeats 4000000 in
theorem c_X12_draw {g : xG} {al : List (Nat × Nat × Nat)} {ro : Nat → Nat → Option Nat} (hst : g.1.stackTraces = false) (hs : SH al ro) {M : Nat → xU} {a : Int} {S : xU}  {t : (Int × xU)} (hG : G12_draw a S = some t) :
    Cal g yX12_draw cX12_draw 2 (some .int) 0 [x_r (16 * 32 + 0), x_i a] (al, ro, fl (ml M [32] [S])) 0 0 (.inl (some (x_i t.1))) (al, ro, fl (ml M [32] [t.2])) := by
  have hn : ([32] : List Nat).Nodup := by decide
  refine cal_of_ev (plainFor_of_name (by decide)) (x_c1 rfl) (Nat.le_of_ble_eq_true rfl) hst ?_
  show Ev g _ _ _ _ _ _ 0 [some (x_r (16 * 32 + 0)), some (x_i a)] [] (al, ro, fl (ml M [32] [S])) _ _ _ _
  rw [G12_draw] at hG
  refine e_aloadn (pc := 0) (i := 0) dX12_draw_0 rfl rfl ?_
  refine f_getr (pc := 1) (u := 32) (q := 0) dX12_draw_1 xf12_7 (sa_32_0 hs) rfl (sr_32_0_1 hs) ?_
  refine e_bipush (pc := 4) dX12_draw_4 (by decide +kernel) (x_R rfl) ?_
  refine e_ldcw (pc := 6) dX12_draw_6 xkX12_269 (x_R rfl) ?_
  refine e_aloadn (pc := 9) (i := 0) dX12_draw_9 rfl rfl ?_
  refine f_getr (pc := 10) (u := 32) (q := 0) dX12_draw_10 xf12_7 (sa_32_0 hs) rfl (sr_32_0_1 hs) ?_
  refine e_bipush (pc := 13) dX12_draw_13 (by decide +kernel) (x_R rfl) ?_
  refine f_iald (pc := 15) (k := 0) (u := 32) (q := 1) (len := 772) dX12_draw_15 (sa_32_1 hs) (by decide) hn rfl rfl (by decide) ?_
  show Ev g _ _ _ _ _ _ 16 [some (x_r (16 * 32 + 0)), some (x_i a)] [x_i (S 1 11), x_i 1103515245, x_i 11, x_r (16 * 32 + 1)] (al, ro, fl (ml M [32] [S])) _ _ _ _
  refine e_imul (pc := 16) dX12_draw_16 ?_
  refine e_sipush (pc := 17) dX12_draw_17 (by decide +kernel) (x_R rfl) ?_
  refine e_iadd (pc := 20) dX12_draw_20 ?_
  refine f_iast (pc := 21) (k := 0) (u := 32) (q := 1) (len := 772) dX12_draw_21 (sa_32_1 hs) (by decide) hn rfl rfl rfl (by decide) ?_
  show Ev g _ _ _ _ _ _ 22 [some (x_r (16 * 32 + 0)), some (x_i a)] [] (al, ro, fl (ml M [32] [(x_up S 1 11 (x_add (x_mul 1103515245 (S 1 11)) 12345))])) _ _ _ _
  refine e_aloadn (pc := 22) (i := 0) dX12_draw_22 rfl rfl ?_
  refine f_getr (pc := 23) (u := 32) (q := 0) dX12_draw_23 xf12_7 (sa_32_0 hs) rfl (sr_32_0_1 hs) ?_
  refine e_bipush (pc := 26) dX12_draw_26 (by decide +kernel) (x_R rfl) ?_
  refine f_iald (pc := 28) (k := 0) (u := 32) (q := 1) (len := 772) dX12_draw_28 (sa_32_1 hs) (by decide) hn rfl rfl (by decide) ?_
  show Ev g _ _ _ _ _ _ 29 [some (x_r (16 * 32 + 0)), some (x_i a)] [x_i ((x_up S 1 11 (x_add (x_mul 1103515245 (S 1 11)) 12345)) 1 11)] (al, ro, fl (ml M [32] [(x_up S 1 11 (x_add (x_mul 1103515245 (S 1 11)) 12345))])) _ _ _ _
  refine e_bipush (pc := 29) dX12_draw_29 (by decide +kernel) (x_R rfl) ?_
  refine e_iushr (pc := 31) dX12_draw_31 ?_
  refine e_sipush (pc := 32) dX12_draw_32 (by decide +kernel) (x_R rfl) ?_
  refine e_iand (pc := 35) dX12_draw_35 ?_
  refine e_iloadn (pc := 36) (i := 1) dX12_draw_36 rfl rfl ?_
  obtain ⟨hc0, hG⟩ := x_gd_some hG
  refine e_irem (pc := 37) dX12_draw_37 hc0 ?_
  cases hG
  exact (e_ireturn rfl dX12_draw_38 rfl)
