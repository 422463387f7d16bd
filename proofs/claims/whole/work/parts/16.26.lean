set_option maxRecDepth 100000 in
set_option maxHeartbeats 4000000 in
theorem c_X12_logs {g : xG} {al : List (Nat × Nat × Nat)} {ro : Nat → Nat → Option Nat} (hst : g.1.stackTraces = false) (hs : SH al ro) {M : Nat → xU} {a : Int} {b : Int} {S : xU}  {t : xU} (hG : G12_logs a b S = some t) :
    Cal g yX12_logs cX12_logs 4 none 1 [x_r (16 * 32 + 0), x_i a, x_i b] (al, ro, fl (ml M [32] [S])) 0 0 (.inl none) (al, ro, fl (ml M [32] [t])) := by
  have hn : ([32] : List Nat).Nodup := by decide
  refine cal_of_ev (plainFor_of_name (by decide)) (x_c1 rfl) (Nat.le_of_ble_eq_true rfl) hst ?_
  show Ev g _ _ _ _ _ _ 0 [some (x_r (16 * 32 + 0)), some (x_i a), some (x_i b), none] [] (al, ro, fl (ml M [32] [S])) _ _ _ _
  rw [G12_logs] at hG
  refine e_sipush (pc := 0) dX12_logs_0 (by decide +kernel) (x_R rfl) ?_
  refine e_istoren (pc := 3) (i := 3) dX12_logs_3 rfl (by decide) rfl ?_
  show Ev g _ _ _ _ _ _ 4 [some (x_r (16 * 32 + 0)), some (x_i a), some (x_i b), some (x_i 299)] [] (al, ro, fl (ml M [32] [S])) _ _ _ _
  obtain ⟨S3, hl4, hG⟩ := x_bd1 hG
  have hk4 : ∀ q : xU, q = S3 → Ev g yX12_logs cX12_logs 4 none [] 1 35 [some (x_r (16 * 32 + 0)), some (x_i a), some (x_i b), none] [] (al, ro, fl (ml M [32] [q])) 0 0 (.inl none) (al, ro, fl (ml M [32] [t])) := by
    intro q hq
    replace hq := hq.symm
    subst hq
    refine e_aloadn (pc := 35) (i := 0) dX12_logs_35 rfl rfl ?_
    refine f_getr (pc := 36) (u := 32) (q := 0) dX12_logs_36 xf12_7 (sa_32_0 hs) rfl (sr_32_0_1 hs) ?_
    refine e_bipush (pc := 39) dX12_logs_39 (by decide +kernel) (x_R rfl) ?_
    refine e_aloadn (pc := 41) (i := 0) dX12_logs_41 rfl rfl ?_
    refine f_getr (pc := 42) (u := 32) (q := 0) dX12_logs_42 xf12_7 (sa_32_0 hs) rfl (sr_32_0_1 hs) ?_
    refine e_iconst (pc := 45) dX12_logs_45 (x_R rfl) ?_
    refine f_iald (pc := 46) (k := 0) (u := 32) (q := 1) (len := 772) dX12_logs_46 (sa_32_1 hs) (by decide) hn rfl rfl (by decide) ?_
    show Ev g _ _ _ _ _ _ 47 [some (x_r (16 * 32 + 0)), some (x_i a), some (x_i b), none] [x_i (S3 1 5), x_i 72, x_r (16 * 32 + 1)] (al, ro, fl (ml M [32] [S3])) _ _ _ _
    refine f_iast (pc := 47) (k := 0) (u := 32) (q := 1) (len := 772) dX12_logs_47 (sa_32_1 hs) (by decide) hn rfl rfl rfl (by decide) ?_
    show Ev g _ _ _ _ _ _ 48 [some (x_r (16 * 32 + 0)), some (x_i a), some (x_i b), none] [] (al, ro, fl (ml M [32] [(x_up S3 1 72 (S3 1 5))])) _ _ _ _
    refine e_aloadn (pc := 48) (i := 0) dX12_logs_48 rfl rfl ?_
    refine f_getr (pc := 49) (u := 32) (q := 0) dX12_logs_49 xf12_7 (sa_32_0 hs) rfl (sr_32_0_1 hs) ?_
    refine e_bipush (pc := 52) dX12_logs_52 (by decide +kernel) (x_R rfl) ?_
    refine e_aloadn (pc := 54) (i := 0) dX12_logs_54 rfl rfl ?_
    refine f_getr (pc := 55) (u := 32) (q := 0) dX12_logs_55 xf12_7 (sa_32_0 hs) rfl (sr_32_0_1 hs) ?_
    refine e_iconst (pc := 58) dX12_logs_58 (x_R rfl) ?_
    refine f_iald (pc := 59) (k := 0) (u := 32) (q := 1) (len := 772) dX12_logs_59 (sa_32_1 hs) (by decide) hn rfl rfl (by decide) ?_
    show Ev g _ _ _ _ _ _ 60 [some (x_r (16 * 32 + 0)), some (x_i a), some (x_i b), none] [x_i ((x_up S3 1 72 (S3 1 5)) 1 4), x_i 73, x_r (16 * 32 + 1)] (al, ro, fl (ml M [32] [(x_up S3 1 72 (S3 1 5))])) _ _ _ _
    refine f_iast (pc := 60) (k := 0) (u := 32) (q := 1) (len := 772) dX12_logs_60 (sa_32_1 hs) (by decide) hn rfl rfl rfl (by decide) ?_
    show Ev g _ _ _ _ _ _ 61 [some (x_r (16 * 32 + 0)), some (x_i a), some (x_i b), none] [] (al, ro, fl (ml M [32] [(x_up (x_up S3 1 72 (S3 1 5)) 1 73 ((x_up S3 1 72 (S3 1 5)) 1 4))])) _ _ _ _
    refine e_aloadn (pc := 61) (i := 0) dX12_logs_61 rfl rfl ?_
    refine f_getr (pc := 62) (u := 32) (q := 0) dX12_logs_62 xf12_7 (sa_32_0 hs) rfl (sr_32_0_1 hs) ?_
    refine e_bipush (pc := 65) dX12_logs_65 (by decide +kernel) (x_R rfl) ?_
    refine e_iloadn (pc := 67) (i := 1) dX12_logs_67 rfl rfl ?_
    refine f_iast (pc := 68) (k := 0) (u := 32) (q := 1) (len := 772) dX12_logs_68 (sa_32_1 hs) (by decide) hn rfl rfl rfl (by decide) ?_
    show Ev g _ _ _ _ _ _ 69 [some (x_r (16 * 32 + 0)), some (x_i a), some (x_i b), none] [] (al, ro, fl (ml M [32] [(x_up (x_up (x_up S3 1 72 (S3 1 5)) 1 73 ((x_up S3 1 72 (S3 1 5)) 1 4)) 1 74 a)])) _ _ _ _
    refine e_aloadn (pc := 69) (i := 0) dX12_logs_69 rfl rfl ?_
    refine f_getr (pc := 70) (u := 32) (q := 0) dX12_logs_70 xf12_7 (sa_32_0 hs) rfl (sr_32_0_1 hs) ?_
    refine e_bipush (pc := 73) dX12_logs_73 (by decide +kernel) (x_R rfl) ?_
    refine e_iloadn (pc := 75) (i := 2) dX12_logs_75 rfl rfl ?_
    refine f_iast (pc := 76) (k := 0) (u := 32) (q := 1) (len := 772) dX12_logs_76 (sa_32_1 hs) (by decide) hn rfl rfl rfl (by decide) ?_
    show Ev g _ _ _ _ _ _ 77 [some (x_r (16 * 32 + 0)), some (x_i a), some (x_i b), none] [] (al, ro, fl (ml M [32] [(x_up (x_up (x_up (x_up S3 1 72 (S3 1 5)) 1 73 ((x_up S3 1 72 (S3 1 5)) 1 4)) 1 74 a) 1 75 b)])) _ _ _ _
    refine e_aloadn (pc := 77) (i := 0) dX12_logs_77 rfl rfl ?_
    refine f_getr (pc := 78) (u := 32) (q := 0) dX12_logs_78 xf12_7 (sa_32_0 hs) rfl (sr_32_0_1 hs) ?_
    refine e_bipush (pc := 81) dX12_logs_81 (by decide +kernel) (x_R rfl) ?_
    refine e_aloadn (pc := 83) (i := 0) dX12_logs_83 rfl rfl ?_
    refine e_iloadn (pc := 84) (i := 2) dX12_logs_84 rfl rfl ?_
    refine e_iconst (pc := 85) dX12_logs_85 (x_R rfl) ?_
    obtain ⟨v6, hq6, hG⟩ := x_bd1 hG
    refine e_invV (pc := 86) (K1 := 0) (S1 := 0) (K := 0) (S := 0) (dd2 := 0) (av := [x_i b, x_i 0]) (st := [x_i 76, x_r (16 * 32 + 1)]) (id := 16 * 32 + 0) dX12_logs_86 xmX12_65 rfl (Or.inl ⟨10, 27, TX12, (sa_32_0 hs), rfl, by decide⟩) (f_cal (M := M) (us2 := [32]) [0] hn rfl (And.intro rfl trivial) rfl rfl rfl (c_X12_of hst hs   hq6)) (by decide) (Nat.le_of_ble_eq_true rfl) (Or.inl rfl) ?_
    show Ev g _ _ _ _ _ _ 89 [some (x_r (16 * 32 + 0)), some (x_i a), some (x_i b), none] [x_i v6, x_i 76, x_r (16 * 32 + 1)] (al, ro, fl (ml M [32] [(x_up (x_up (x_up (x_up S3 1 72 (S3 1 5)) 1 73 ((x_up S3 1 72 (S3 1 5)) 1 4)) 1 74 a) 1 75 b)])) _ _ _ _
    refine f_iast (pc := 89) (k := 0) (u := 32) (q := 1) (len := 772) dX12_logs_89 (sa_32_1 hs) (by decide) hn rfl rfl rfl (by decide) ?_
    show Ev g _ _ _ _ _ _ 90 [some (x_r (16 * 32 + 0)), some (x_i a), some (x_i b), none] [] (al, ro, fl (ml M [32] [(x_up (x_up (x_up (x_up (x_up S3 1 72 (S3 1 5)) 1 73 ((x_up S3 1 72 (S3 1 5)) 1 4)) 1 74 a) 1 75 b) 1 76 v6)])) _ _ _ _
    refine e_aloadn (pc := 90) (i := 0) dX12_logs_90 rfl rfl ?_
    refine f_getr (pc := 91) (u := 32) (q := 0) dX12_logs_91 xf12_7 (sa_32_0 hs) rfl (sr_32_0_1 hs) ?_
    refine e_bipush (pc := 94) dX12_logs_94 (by decide +kernel) (x_R rfl) ?_
    refine e_bipush (pc := 96) dX12_logs_96 (by decide +kernel) (x_R rfl) ?_
    refine e_aloadn (pc := 98) (i := 0) dX12_logs_98 rfl rfl ?_
    refine f_getr (pc := 99) (u := 32) (q := 0) dX12_logs_99 xf12_7 (sa_32_0 hs) rfl (sr_32_0_1 hs) ?_
    refine e_bipush (pc := 102) dX12_logs_102 (by decide +kernel) (x_R rfl) ?_
    refine f_iald (pc := 104) (k := 0) (u := 32) (q := 1) (len := 772) dX12_logs_104 (sa_32_1 hs) (by decide) hn rfl rfl (by decide) ?_
    show Ev g _ _ _ _ _ _ 105 [some (x_r (16 * 32 + 0)), some (x_i a), some (x_i b), none] [x_i ((x_up (x_up (x_up (x_up (x_up S3 1 72 (S3 1 5)) 1 73 ((x_up S3 1 72 (S3 1 5)) 1 4)) 1 74 a) 1 75 b) 1 76 v6) 1 10), x_i 60, x_i 10, x_r (16 * 32 + 1)] (al, ro, fl (ml M [32] [(x_up (x_up (x_up (x_up (x_up S3 1 72 (S3 1 5)) 1 73 ((x_up S3 1 72 (S3 1 5)) 1 4)) 1 74 a) 1 75 b) 1 76 v6)])) _ _ _ _
    refine e_iconst (pc := 105) dX12_logs_105 (x_R rfl) ?_
    refine e_iadd (pc := 106) dX12_logs_106 ?_
    obtain ⟨v8, hq8, hG⟩ := x_bd1 hG
    refine e_invS (pc := 107) (K1 := 0) (S1 := 0) (K := 0) (S := 0) (dd2 := 0) (av := [x_i 60, x_i (x_add ((x_up (x_up (x_up (x_up (x_up S3 1 72 (S3 1 5)) 1 73 ((x_up S3 1 72 (S3 1 5)) 1 4)) 1 74 a) 1 75 b) 1 76 v6) 1 10) 1)]) (st := [x_i 10, x_r (16 * 32 + 1)]) dX12_logs_107 xmX12_73 rfl (f_cal (M := M) (us2 := []) [] hn rfl trivial rfl rfl rfl (c_X12_lesser hst hs   hq8)) (by decide) (Nat.le_of_ble_eq_true rfl) (Or.inl rfl) ?_
    show Ev g _ _ _ _ _ _ 110 [some (x_r (16 * 32 + 0)), some (x_i a), some (x_i b), none] [x_i v8, x_i 10, x_r (16 * 32 + 1)] (al, ro, fl (ml M [32] [(x_up (x_up (x_up (x_up (x_up S3 1 72 (S3 1 5)) 1 73 ((x_up S3 1 72 (S3 1 5)) 1 4)) 1 74 a) 1 75 b) 1 76 v6)])) _ _ _ _
    refine f_iast (pc := 110) (k := 0) (u := 32) (q := 1) (len := 772) dX12_logs_110 (sa_32_1 hs) (by decide) hn rfl rfl rfl (by decide) ?_
    show Ev g _ _ _ _ _ _ 111 [some (x_r (16 * 32 + 0)), some (x_i a), some (x_i b), none] [] (al, ro, fl (ml M [32] [(x_up (x_up (x_up (x_up (x_up (x_up S3 1 72 (S3 1 5)) 1 73 ((x_up S3 1 72 (S3 1 5)) 1 4)) 1 74 a) 1 75 b) 1 76 v6) 1 10 v8)])) _ _ _ _
    cases hG
    exact (e_return rfl dX12_logs_111)
  clear hG
  refine e_whl G12_logs_L4 (fun z : (Int × xU) => Ev g yX12_logs cX12_logs 4 none [] 1 4 [some (x_r (16 * 32 + 0)), some (x_i a), some (x_i b), some (x_i z.1)] [] (al, ro, fl (ml M [32] [z.2])) 0 0 (.inl none) (al, ro, fl (ml M [32] [t]))) (fun q => q = S3) ?_ xFU (299, S) _ hl4 rfl
  intro z t4 hf4 hi4 hx4
  obtain ⟨v1, S2⟩ := z
  rw [G12_logs_L4] at hf4
  show Ev g _ _ _ _ _ _ 4 [some (x_r (16 * 32 + 0)), some (x_i a), some (x_i b), some (x_i v1)] [] (al, ro, fl (ml M [32] [S2])) _ _ _ _
  refine e_iloadn (pc := 4) (i := 3) dX12_logs_4 rfl rfl ?_
  refine e_iconst (pc := 5) dX12_logs_5 (x_R rfl) ?_
  refine e_icmp_lt (pc := 6) (tgt := 35) dX12_logs_6 (by decide) (fun hb => ?_) (fun hb => ?_)
  · rw [if_pos hb] at hf4
    cases hf4
    refine e_drop (i := 3) ?_
    have hh := hk4 _ (hx4 _ rfl)
    try dsimp only at hh
    exact hh
  · rw [if_neg hb] at hf4
    refine e_aloadn (pc := 9) (i := 0) dX12_logs_9 rfl rfl ?_
    refine f_getr (pc := 10) (u := 32) (q := 0) dX12_logs_10 xf12_7 (sa_32_0 hs) rfl (sr_32_0_1 hs) ?_
    refine e_bipush (pc := 13) dX12_logs_13 (by decide +kernel) (x_R rfl) ?_
    refine e_iloadn (pc := 15) (i := 3) dX12_logs_15 rfl rfl ?_
    refine e_iadd (pc := 16) dX12_logs_16 ?_
    refine e_aloadn (pc := 17) (i := 0) dX12_logs_17 rfl rfl ?_
    refine f_getr (pc := 18) (u := 32) (q := 0) dX12_logs_18 xf12_7 (sa_32_0 hs) rfl (sr_32_0_1 hs) ?_
    refine e_bipush (pc := 21) dX12_logs_21 (by decide +kernel) (x_R rfl) ?_
    refine e_iloadn (pc := 23) (i := 3) dX12_logs_23 rfl rfl ?_
    refine e_iadd (pc := 24) dX12_logs_24 ?_
    refine e_iconst (pc := 25) dX12_logs_25 (x_R rfl) ?_
    refine e_isub (pc := 26) dX12_logs_26 ?_
    obtain ⟨hc0, hf4⟩ := x_gd_some hf4
    refine f_iald (pc := 27) (k := 0) (u := 32) (q := 1) (len := 772) dX12_logs_27 (sa_32_1 hs) hc0 hn rfl rfl (by decide) ?_
    show Ev g _ _ _ _ _ _ 28 [some (x_r (16 * 32 + 0)), some (x_i a), some (x_i b), some (x_i v1)] [x_i (S2 1 ((x_sub (x_add 72 v1) 5)).toNat), x_i (x_add 72 v1), x_r (16 * 32 + 1)] (al, ro, fl (ml M [32] [S2])) _ _ _ _
    obtain ⟨hc0, hf4⟩ := x_gd_some hf4
    refine f_iast (pc := 28) (k := 0) (u := 32) (q := 1) (len := 772) dX12_logs_28 (sa_32_1 hs) hc0 hn rfl rfl rfl (by decide) ?_
    show Ev g _ _ _ _ _ _ 29 [some (x_r (16 * 32 + 0)), some (x_i a), some (x_i b), some (x_i v1)] [] (al, ro, fl (ml M [32] [(x_up S2 1 ((x_add 72 v1)).toNat (S2 1 ((x_sub (x_add 72 v1) 5)).toNat))])) _ _ _ _
    refine e_iinc (pc := 29) dX12_logs_29 rfl (by decide) rfl ?_
    show Ev g _ _ _ _ _ _ 32 [some (x_r (16 * 32 + 0)), some (x_i a), some (x_i b), some (x_i (x_add v1 (-1)))] [] (al, ro, fl (ml M [32] [(x_up S2 1 ((x_add 72 v1)).toNat (S2 1 ((x_sub (x_add 72 v1) 5)).toNat))])) _ _ _ _
    refine e_goto (pc := 32) (tgt := 4) dX12_logs_32 (by decide) ?_
    cases hf4
    have hh := hi4 _ rfl
    try dsimp only at hh
    exact hh
set_option maxRecDepth 100000 in
set_option maxHeartbeats 4000000 in
theorem c_X12_walks {g : xG} {al : List (Nat × Nat × Nat)} {ro : Nat → Nat → Option Nat} (hst : g.1.stackTraces = false) (hs : SH al ro) {M : Nat → xU} {a : Int} {S : xU}  {t : xU} (hG : G12_walks a S = some t) :
    Cal g yX12_walks cX12_walks 3 none 44 [x_r (16 * 32 + 0), x_i a] (al, ro, fl (ml M [32] [S])) 0 0 (.inl none) (al, ro, fl (ml M [32] [t])) := by
  have hn : ([32] : List Nat).Nodup := by decide
  refine cal_of_ev (plainFor_of_name (by decide)) (x_c1 rfl) (Nat.le_of_ble_eq_true rfl) hst ?_
  show Ev g _ _ _ _ _ _ 0 [some (x_r (16 * 32 + 0)), some (x_i a), none] [] (al, ro, fl (ml M [32] [S])) _ _ _ _
  rw [G12_walks] at hG
  refine e_aloadn (pc := 0) (i := 0) dX12_walks_0 rfl rfl ?_
  refine e_iloadn (pc := 1) (i := 1) dX12_walks_1 rfl rfl ?_
  obtain ⟨v1, hq1, hG⟩ := x_bd1 hG
  refine e_invV (pc := 2) (K1 := 0) (S1 := 0) (K := 0) (S := 0) (dd2 := 1) (av := [x_i a]) (st := []) (id := 16 * 32 + 0) dX12_walks_2 xmX12_69 rfl (Or.inl ⟨10, 27, TX12, (sa_32_0 hs), rfl, by decide⟩) (f_cal (M := M) (us2 := [32]) [0] hn rfl (And.intro rfl trivial) rfl rfl rfl (c_X12_isLost hst hs   hq1)) (by decide) (Nat.le_of_ble_eq_true rfl) (Or.inl rfl) ?_
  show Ev g _ _ _ _ _ _ 5 [some (x_r (16 * 32 + 0)), some (x_i a), none] [x_i v1] (al, ro, fl (ml M [32] [S])) _ _ _ _
  refine e_if_eq (pc := 5) (tgt := 23) dX12_walks_5 (by decide) (fun hb => ?_) (fun hb => ?_)
  · rw [if_pos hb] at hG
    refine e_aloadn (pc := 23) (i := 0) dX12_walks_23 rfl rfl ?_
    refine e_iloadn (pc := 24) (i := 1) dX12_walks_24 rfl rfl ?_
    refine e_iconst (pc := 25) dX12_walks_25 (x_R rfl) ?_
    obtain ⟨v3, hq3, hG⟩ := x_bd1 hG
    refine e_invV (pc := 26) (K1 := 0) (S1 := 0) (K := 0) (S := 0) (dd2 := 0) (av := [x_i a, x_i 0]) (st := []) (id := 16 * 32 + 0) dX12_walks_26 xmX12_65 rfl (Or.inl ⟨10, 27, TX12, (sa_32_0 hs), rfl, by decide⟩) (f_cal (M := M) (us2 := [32]) [0] hn rfl (And.intro rfl trivial) rfl rfl rfl (c_X12_of hst hs   hq3)) (by decide) (Nat.le_of_ble_eq_true rfl) (Or.inl rfl) ?_
    show Ev g _ _ _ _ _ _ 29 [some (x_r (16 * 32 + 0)), some (x_i a), none] [x_i v3] (al, ro, fl (ml M [32] [S])) _ _ _ _
    refine e_aloadn (pc := 29) (i := 0) dX12_walks_29 rfl rfl ?_
    refine e_iloadn (pc := 30) (i := 1) dX12_walks_30 rfl rfl ?_
    obtain ⟨v5, S6, hq6, hG⟩ := x_bd2 hG
    refine e_invV (pc := 31) (K1 := 0) (S1 := 0) (K := 0) (S := 0) (dd2 := 43) (av := [x_i a]) (st := [x_i v3]) (id := 16 * 32 + 0) dX12_walks_31 xmX12_270 rfl (Or.inl ⟨10, 27, TX12, (sa_32_0 hs), rfl, by decide⟩) (f_cal (M := M) (us2 := [32]) [0] hn rfl (And.intro rfl trivial) rfl rfl rfl (c_X12_strideOf hst hs   hq6)) (by decide) (Nat.le_of_ble_eq_true rfl) (Or.inl rfl) ?_
    show Ev g _ _ _ _ _ _ 34 [some (x_r (16 * 32 + 0)), some (x_i a), none] [x_i v5, x_i v3] (al, ro, fl (ml M [32] [S6])) _ _ _ _
    refine e_iadd (pc := 34) dX12_walks_34 ?_
    refine e_istoren (pc := 35) (i := 2) dX12_walks_35 rfl (by decide) rfl ?_
    show Ev g _ _ _ _ _ _ 36 [some (x_r (16 * 32 + 0)), some (x_i a), some (x_i (x_add v3 v5))] [] (al, ro, fl (ml M [32] [S6])) _ _ _ _
    refine e_aloadn (pc := 36) (i := 0) dX12_walks_36 rfl rfl ?_
    refine e_iloadn (pc := 37) (i := 1) dX12_walks_37 rfl rfl ?_
    refine e_iconst (pc := 38) dX12_walks_38 (x_R rfl) ?_
    refine e_iloadn (pc := 39) (i := 2) dX12_walks_39 rfl rfl ?_
    refine e_bipush (pc := 40) dX12_walks_40 (by decide +kernel) (x_R rfl) ?_
    refine e_irem (pc := 42) dX12_walks_42 (by decide) ?_
    obtain ⟨S8, hq8, hG⟩ := x_bd1 hG
    refine e_invV (pc := 43) (K1 := 0) (S1 := 0) (K := 0) (S := 0) (dd2 := 0) (av := [x_i a, x_i 0, x_i (x_rem (x_add v3 v5) 16)]) (st := []) (id := 16 * 32 + 0) dX12_walks_43 xmX12_140 rfl (Or.inl ⟨10, 27, TX12, (sa_32_0 hs), rfl, by decide⟩) (f_cal (M := M) (us2 := [32]) [0] hn rfl (And.intro rfl trivial) rfl rfl rfl (c_X12_lays hst hs   hq8)) (by decide) (Nat.le_of_ble_eq_true rfl) (Or.inl rfl) ?_
    show Ev g _ _ _ _ _ _ 46 [some (x_r (16 * 32 + 0)), some (x_i a), some (x_i (x_add v3 v5))] [] (al, ro, fl (ml M [32] [S8])) _ _ _ _
    refine e_iloadn (pc := 46) (i := 2) dX12_walks_46 rfl rfl ?_
    refine e_bipush (pc := 47) dX12_walks_47 (by decide +kernel) (x_R rfl) ?_
    refine e_icmp_ge (pc := 49) (tgt := 53) dX12_walks_49 (by decide) (fun hb => ?_) (fun hb => ?_)
    · rw [if_pos hb] at hG
      refine e_aloadn (pc := 53) (i := 0) dX12_walks_53 rfl rfl ?_
      refine e_iloadn (pc := 54) (i := 1) dX12_walks_54 rfl rfl ?_
      refine e_bipush (pc := 55) dX12_walks_55 (by decide +kernel) (x_R rfl) ?_
      refine e_sipush (pc := 57) dX12_walks_57 (by decide +kernel) (x_R rfl) ?_
      refine e_aloadn (pc := 60) (i := 0) dX12_walks_60 rfl rfl ?_
      refine e_iloadn (pc := 61) (i := 1) dX12_walks_61 rfl rfl ?_
      refine e_bipush (pc := 62) dX12_walks_62 (by decide +kernel) (x_R rfl) ?_
      obtain ⟨v10, hq10, hG⟩ := x_bd1 hG
      refine e_invV (pc := 64) (K1 := 0) (S1 := 0) (K := 0) (S := 0) (dd2 := 0) (av := [x_i a, x_i 7]) (st := [x_i 999, x_i 7, x_i a, x_r (16 * 32 + 0)]) (id := 16 * 32 + 0) dX12_walks_64 xmX12_65 rfl (Or.inl ⟨10, 27, TX12, (sa_32_0 hs), rfl, by decide⟩) (f_cal (M := M) (us2 := [32]) [0] hn rfl (And.intro rfl trivial) rfl rfl rfl (c_X12_of hst hs   hq10)) (by decide) (Nat.le_of_ble_eq_true rfl) (Or.inl rfl) ?_
      show Ev g _ _ _ _ _ _ 67 [some (x_r (16 * 32 + 0)), some (x_i a), some (x_i (x_add v3 v5))] [x_i v10, x_i 999, x_i 7, x_i a, x_r (16 * 32 + 0)] (al, ro, fl (ml M [32] [S8])) _ _ _ _
      refine e_iconst (pc := 67) dX12_walks_67 (x_R rfl) ?_
      refine e_iadd (pc := 68) dX12_walks_68 ?_
      obtain ⟨v12, hq12, hG⟩ := x_bd1 hG
      refine e_invS (pc := 69) (K1 := 0) (S1 := 0) (K := 0) (S := 0) (dd2 := 0) (av := [x_i 999, x_i (x_add v10 1)]) (st := [x_i 7, x_i a, x_r (16 * 32 + 0)]) dX12_walks_69 xmX12_73 rfl (f_cal (M := M) (us2 := []) [] hn rfl trivial rfl rfl rfl (c_X12_lesser hst hs   hq12)) (by decide) (Nat.le_of_ble_eq_true rfl) (Or.inl rfl) ?_
      show Ev g _ _ _ _ _ _ 72 [some (x_r (16 * 32 + 0)), some (x_i a), some (x_i (x_add v3 v5))] [x_i v12, x_i 7, x_i a, x_r (16 * 32 + 0)] (al, ro, fl (ml M [32] [S8])) _ _ _ _
      obtain ⟨S14, hq14, hG⟩ := x_bd1 hG
      refine e_invV (pc := 72) (K1 := 0) (S1 := 0) (K := 0) (S := 0) (dd2 := 0) (av := [x_i a, x_i 7, x_i v12]) (st := []) (id := 16 * 32 + 0) dX12_walks_72 xmX12_140 rfl (Or.inl ⟨10, 27, TX12, (sa_32_0 hs), rfl, by decide⟩) (f_cal (M := M) (us2 := [32]) [0] hn rfl (And.intro rfl trivial) rfl rfl rfl (c_X12_lays hst hs   hq14)) (by decide) (Nat.le_of_ble_eq_true rfl) (Or.inl rfl) ?_
      show Ev g _ _ _ _ _ _ 75 [some (x_r (16 * 32 + 0)), some (x_i a), some (x_i (x_add v3 v5))] [] (al, ro, fl (ml M [32] [S14])) _ _ _ _
      refine e_aloadn (pc := 75) (i := 0) dX12_walks_75 rfl rfl ?_
      refine e_iconst (pc := 76) dX12_walks_76 (x_R rfl) ?_
      refine e_iloadn (pc := 77) (i := 1) dX12_walks_77 rfl rfl ?_
      obtain ⟨S16, hq16, hG⟩ := x_bd1 hG
      refine e_invV (pc := 78) (K1 := 0) (S1 := 0) (K := 0) (S := 0) (dd2 := 1) (av := [x_i 1, x_i a]) (st := []) (id := 16 * 32 + 0) dX12_walks_78 xmX12_273 rfl (Or.inl ⟨10, 27, TX12, (sa_32_0 hs), rfl, by decide⟩) (f_cal (M := M) (us2 := [32]) [0] hn rfl (And.intro rfl trivial) rfl rfl rfl (c_X12_logs hst hs   hq16)) (by decide) (Nat.le_of_ble_eq_true rfl) (Or.inl rfl) ?_
      show Ev g _ _ _ _ _ _ 81 [some (x_r (16 * 32 + 0)), some (x_i a), some (x_i (x_add v3 v5))] [] (al, ro, fl (ml M [32] [S16])) _ _ _ _
      cases hG
      exact (e_return rfl dX12_walks_81)
    · rw [if_neg hb] at hG
      cases hG
      exact (e_return rfl dX12_walks_52)
  · rw [if_neg hb] at hG
    refine e_aloadn (pc := 8) (i := 0) dX12_walks_8 rfl rfl ?_
    refine e_iloadn (pc := 9) (i := 1) dX12_walks_9 rfl rfl ?_
    refine e_iconst (pc := 10) dX12_walks_10 (x_R rfl) ?_
    refine e_aloadn (pc := 11) (i := 0) dX12_walks_11 rfl rfl ?_
    refine e_iloadn (pc := 12) (i := 1) dX12_walks_12 rfl rfl ?_
    refine e_iconst (pc := 13) dX12_walks_13 (x_R rfl) ?_
    obtain ⟨v18, hq18, hG⟩ := x_bd1 hG
    refine e_invV (pc := 14) (K1 := 0) (S1 := 0) (K := 0) (S := 0) (dd2 := 0) (av := [x_i a, x_i 4]) (st := [x_i 4, x_i a, x_r (16 * 32 + 0)]) (id := 16 * 32 + 0) dX12_walks_14 xmX12_65 rfl (Or.inl ⟨10, 27, TX12, (sa_32_0 hs), rfl, by decide⟩) (f_cal (M := M) (us2 := [32]) [0] hn rfl (And.intro rfl trivial) rfl rfl rfl (c_X12_of hst hs   hq18)) (by decide) (Nat.le_of_ble_eq_true rfl) (Or.inl rfl) ?_
    show Ev g _ _ _ _ _ _ 17 [some (x_r (16 * 32 + 0)), some (x_i a), none] [x_i v18, x_i 4, x_i a, x_r (16 * 32 + 0)] (al, ro, fl (ml M [32] [S])) _ _ _ _
    refine e_iconst (pc := 17) dX12_walks_17 (x_R rfl) ?_
    refine e_isub (pc := 18) dX12_walks_18 ?_
    obtain ⟨S20, hq20, hG⟩ := x_bd1 hG
    refine e_invV (pc := 19) (K1 := 0) (S1 := 0) (K := 0) (S := 0) (dd2 := 0) (av := [x_i a, x_i 4, x_i (x_sub v18 1)]) (st := []) (id := 16 * 32 + 0) dX12_walks_19 xmX12_140 rfl (Or.inl ⟨10, 27, TX12, (sa_32_0 hs), rfl, by decide⟩) (f_cal (M := M) (us2 := [32]) [0] hn rfl (And.intro rfl trivial) rfl rfl rfl (c_X12_lays hst hs   hq20)) (by decide) (Nat.le_of_ble_eq_true rfl) (Or.inl rfl) ?_
    show Ev g _ _ _ _ _ _ 22 [some (x_r (16 * 32 + 0)), some (x_i a), none] [] (al, ro, fl (ml M [32] [S20])) _ _ _ _
    cases hG
    exact (e_return rfl dX12_walks_22)
set_option maxRecDepth 100000 in
set_option maxHeartbeats 4000000 in
theorem c_X12_eats {g : xG} {al : List (Nat × Nat × Nat)} {ro : Nat → Nat → Option Nat} (hst : g.1.stackTraces = false) (hs : SH al ro) {M : Nat → xU} {a : Int} {S : xU}  {t : xU} (hG : G12_eats a S = some t) :
    Cal g yX12_eats cX12_eats 3 none 2 [x_r (16 * 32 + 0), x_i a] (al, ro, fl (ml M [32] [S])) 0 0 (.inl none) (al, ro, fl (ml M [32] [t])) := by
  have hn : ([32] : List Nat).Nodup := by decide
  refine cal_of_ev (plainFor_of_name (by decide)) (x_c1 rfl) (Nat.le_of_ble_eq_true rfl) hst ?_
  show Ev g _ _ _ _ _ _ 0 [some (x_r (16 * 32 + 0)), some (x_i a), none] [] (al, ro, fl (ml M [32] [S])) _ _ _ _
  rw [G12_eats] at hG
  refine e_aloadn (pc := 0) (i := 0) dX12_eats_0 rfl rfl ?_
  refine e_iloadn (pc := 1) (i := 1) dX12_eats_1 rfl rfl ?_
  obtain ⟨v1, hq1, hG⟩ := x_bd1 hG
  refine e_invV (pc := 2) (K1 := 0) (S1 := 0) (K := 0) (S := 0) (dd2 := 1) (av := [x_i a]) (st := []) (id := 16 * 32 + 0) dX12_eats_2 xmX12_69 rfl (Or.inl ⟨10, 27, TX12, (sa_32_0 hs), rfl, by decide⟩) (f_cal (M := M) (us2 := [32]) [0] hn rfl (And.intro rfl trivial) rfl rfl rfl (c_X12_isLost hst hs   hq1)) (by decide) (Nat.le_of_ble_eq_true rfl) (Or.inl rfl) ?_
  show Ev g _ _ _ _ _ _ 5 [some (x_r (16 * 32 + 0)), some (x_i a), none] [x_i v1] (al, ro, fl (ml M [32] [S])) _ _ _ _
  refine e_if_eq (pc := 5) (tgt := 9) dX12_eats_5 (by decide) (fun hb => ?_) (fun hb => ?_)
  · rw [if_pos hb] at hG
    refine e_bipush (pc := 9) dX12_eats_9 (by decide +kernel) (x_R rfl) ?_
    refine e_aloadn (pc := 11) (i := 0) dX12_eats_11 rfl rfl ?_
    refine e_iloadn (pc := 12) (i := 1) dX12_eats_12 rfl rfl ?_
    refine e_iconst (pc := 13) dX12_eats_13 (x_R rfl) ?_
    obtain ⟨v3, hq3, hG⟩ := x_bd1 hG
    refine e_invV (pc := 14) (K1 := 0) (S1 := 0) (K := 0) (S := 0) (dd2 := 0) (av := [x_i a, x_i 0]) (st := [x_i 12]) (id := 16 * 32 + 0) dX12_eats_14 xmX12_65 rfl (Or.inl ⟨10, 27, TX12, (sa_32_0 hs), rfl, by decide⟩) (f_cal (M := M) (us2 := [32]) [0] hn rfl (And.intro rfl trivial) rfl rfl rfl (c_X12_of hst hs   hq3)) (by decide) (Nat.le_of_ble_eq_true rfl) (Or.inl rfl) ?_
    show Ev g _ _ _ _ _ _ 17 [some (x_r (16 * 32 + 0)), some (x_i a), none] [x_i v3, x_i 12] (al, ro, fl (ml M [32] [S])) _ _ _ _
    refine e_iconst (pc := 17) dX12_eats_17 (x_R rfl) ?_
    refine e_idiv (pc := 18) dX12_eats_18 (by decide) ?_
    refine e_iadd (pc := 19) dX12_eats_19 ?_
    refine e_istoren (pc := 20) (i := 2) dX12_eats_20 rfl (by decide) rfl ?_
    show Ev g _ _ _ _ _ _ 21 [some (x_r (16 * 32 + 0)), some (x_i a), some (x_i (x_add 12 (x_div v3 4)))] [] (al, ro, fl (ml M [32] [S])) _ _ _ _
    refine e_aloadn (pc := 21) (i := 0) dX12_eats_21 rfl rfl ?_
    refine e_iloadn (pc := 22) (i := 1) dX12_eats_22 rfl rfl ?_
    refine e_bipush (pc := 23) dX12_eats_23 (by decide +kernel) (x_R rfl) ?_
    refine e_aloadn (pc := 25) (i := 0) dX12_eats_25 rfl rfl ?_
    refine f_getr (pc := 26) (u := 32) (q := 0) dX12_eats_26 xf12_7 (sa_32_0 hs) rfl (sr_32_0_1 hs) ?_
    refine e_iloadn (pc := 29) (i := 2) dX12_eats_29 rfl rfl ?_
    obtain ⟨hc0, hG⟩ := x_gd_some hG
    refine f_iald (pc := 30) (k := 0) (u := 32) (q := 1) (len := 772) dX12_eats_30 (sa_32_1 hs) hc0 hn rfl rfl (by decide) ?_
    show Ev g _ _ _ _ _ _ 31 [some (x_r (16 * 32 + 0)), some (x_i a), some (x_i (x_add 12 (x_div v3 4)))] [x_i (S 1 ((x_add 12 (x_div v3 4))).toNat), x_i 6, x_i a, x_r (16 * 32 + 0)] (al, ro, fl (ml M [32] [S])) _ _ _ _
    obtain ⟨v5, hr5, hG⟩ := x_bd1 hG
    have hjhr5 : Ev g yX12_eats cX12_eats 3 none [] 2 52 [some (x_r (16 * 32 + 0)), some (x_i a), some (x_i (x_add 12 (x_div v3 4)))] [x_i v5, x_i 6, x_i a, x_r (16 * 32 + 0)] (al, ro, fl (ml M [32] [S])) 0 0 (.inl none) (al, ro, fl (ml M [32] [t])) := by
      obtain ⟨S11, hq11, hG⟩ := x_bd1 hG
      refine e_invV (pc := 52) (K1 := 0) (S1 := 0) (K := 0) (S := 0) (dd2 := 0) (av := [x_i a, x_i 6, x_i v5]) (st := []) (id := 16 * 32 + 0) dX12_eats_52 xmX12_140 rfl (Or.inl ⟨10, 27, TX12, (sa_32_0 hs), rfl, by decide⟩) (f_cal (M := M) (us2 := [32]) [0] hn rfl (And.intro rfl trivial) rfl rfl rfl (c_X12_lays hst hs   hq11)) (by decide) (Nat.le_of_ble_eq_true rfl) (Or.inl rfl) ?_
      show Ev g _ _ _ _ _ _ 55 [some (x_r (16 * 32 + 0)), some (x_i a), some (x_i (x_add 12 (x_div v3 4)))] [] (al, ro, fl (ml M [32] [S11])) _ _ _ _
      refine e_aloadn (pc := 55) (i := 0) dX12_eats_55 rfl rfl ?_
      refine f_getr (pc := 56) (u := 32) (q := 0) dX12_eats_56 xf12_7 (sa_32_0 hs) rfl (sr_32_0_1 hs) ?_
      refine e_iloadn (pc := 59) (i := 2) dX12_eats_59 rfl rfl ?_
      refine e_iconst (pc := 60) dX12_eats_60 (x_R rfl) ?_
      refine e_aloadn (pc := 61) (i := 0) dX12_eats_61 rfl rfl ?_
      refine f_getr (pc := 62) (u := 32) (q := 0) dX12_eats_62 xf12_7 (sa_32_0 hs) rfl (sr_32_0_1 hs) ?_
      refine e_iloadn (pc := 65) (i := 2) dX12_eats_65 rfl rfl ?_
      obtain ⟨hc0, hG⟩ := x_gd_some hG
      refine f_iald (pc := 66) (k := 0) (u := 32) (q := 1) (len := 772) dX12_eats_66 (sa_32_1 hs) hc0 hn rfl rfl (by decide) ?_
      show Ev g _ _ _ _ _ _ 67 [some (x_r (16 * 32 + 0)), some (x_i a), some (x_i (x_add 12 (x_div v3 4)))] [x_i (S11 1 ((x_add 12 (x_div v3 4))).toNat), x_i 0, x_i (x_add 12 (x_div v3 4)), x_r (16 * 32 + 1)] (al, ro, fl (ml M [32] [S11])) _ _ _ _
      refine e_iconst (pc := 67) dX12_eats_67 (x_R rfl) ?_
      refine e_isub (pc := 68) dX12_eats_68 ?_
      obtain ⟨v13, hq13, hG⟩ := x_bd1 hG
      refine e_invS (pc := 69) (K1 := 0) (S1 := 0) (K := 0) (S := 0) (dd2 := 0) (av := [x_i 0, x_i (x_sub (S11 1 ((x_add 12 (x_div v3 4))).toNat) 1)]) (st := [x_i (x_add 12 (x_div v3 4)), x_r (16 * 32 + 1)]) dX12_eats_69 xmX12_266 rfl (f_cal (M := M) (us2 := []) [] hn rfl trivial rfl rfl rfl (c_X12_greater hst hs   hq13)) (by decide) (Nat.le_of_ble_eq_true rfl) (Or.inl rfl) ?_
      show Ev g _ _ _ _ _ _ 72 [some (x_r (16 * 32 + 0)), some (x_i a), some (x_i (x_add 12 (x_div v3 4)))] [x_i v13, x_i (x_add 12 (x_div v3 4)), x_r (16 * 32 + 1)] (al, ro, fl (ml M [32] [S11])) _ _ _ _
      obtain ⟨hc0, hG⟩ := x_gd_some hG
      refine f_iast (pc := 72) (k := 0) (u := 32) (q := 1) (len := 772) dX12_eats_72 (sa_32_1 hs) hc0 hn rfl rfl rfl (by decide) ?_
      show Ev g _ _ _ _ _ _ 73 [some (x_r (16 * 32 + 0)), some (x_i a), some (x_i (x_add 12 (x_div v3 4)))] [] (al, ro, fl (ml M [32] [(x_up S11 1 ((x_add 12 (x_div v3 4))).toNat v13)])) _ _ _ _
      cases hG
      exact (e_return rfl dX12_eats_73)
    clear hG
    refine e_if_le (pc := 31) (tgt := 38) dX12_eats_31 (by decide) (fun hb => ?_) (fun hb => ?_)
    · rw [if_pos hb] at hr5
      refine e_bipush (pc := 38) dX12_eats_38 (by decide +kernel) (x_R rfl) ?_
      refine e_aloadn (pc := 40) (i := 0) dX12_eats_40 rfl rfl ?_
      refine e_iloadn (pc := 41) (i := 1) dX12_eats_41 rfl rfl ?_
      refine e_bipush (pc := 42) dX12_eats_42 (by decide +kernel) (x_R rfl) ?_
      obtain ⟨v7, hq7, hr5⟩ := x_bd1 hr5
      refine e_invV (pc := 44) (K1 := 0) (S1 := 0) (K := 0) (S := 0) (dd2 := 0) (av := [x_i a, x_i 6]) (st := [x_i 99, x_i 6, x_i a, x_r (16 * 32 + 0)]) (id := 16 * 32 + 0) dX12_eats_44 xmX12_65 rfl (Or.inl ⟨10, 27, TX12, (sa_32_0 hs), rfl, by decide⟩) (f_cal (M := M) (us2 := [32]) [0] hn rfl (And.intro rfl trivial) rfl rfl rfl (c_X12_of hst hs   hq7)) (by decide) (Nat.le_of_ble_eq_true rfl) (Or.inl rfl) ?_
      show Ev g _ _ _ _ _ _ 47 [some (x_r (16 * 32 + 0)), some (x_i a), some (x_i (x_add 12 (x_div v3 4)))] [x_i v7, x_i 99, x_i 6, x_i a, x_r (16 * 32 + 0)] (al, ro, fl (ml M [32] [S])) _ _ _ _
      refine e_iconst (pc := 47) dX12_eats_47 (x_R rfl) ?_
      refine e_iadd (pc := 48) dX12_eats_48 ?_
      obtain ⟨v9, hq9, hr5⟩ := x_bd1 hr5
      refine e_invS (pc := 49) (K1 := 0) (S1 := 0) (K := 0) (S := 0) (dd2 := 0) (av := [x_i 99, x_i (x_add v7 1)]) (st := [x_i 6, x_i a, x_r (16 * 32 + 0)]) dX12_eats_49 xmX12_73 rfl (f_cal (M := M) (us2 := []) [] hn rfl trivial rfl rfl rfl (c_X12_lesser hst hs   hq9)) (by decide) (Nat.le_of_ble_eq_true rfl) (Or.inl rfl) ?_
      show Ev g _ _ _ _ _ _ 52 [some (x_r (16 * 32 + 0)), some (x_i a), some (x_i (x_add 12 (x_div v3 4)))] [x_i v9, x_i 6, x_i a, x_r (16 * 32 + 0)] (al, ro, fl (ml M [32] [S])) _ _ _ _
      cases hr5
      exact hjhr5
    · rw [if_neg hb] at hr5
      refine e_iconst (pc := 34) dX12_eats_34 (x_R rfl) ?_
      refine e_goto (pc := 35) (tgt := 52) dX12_eats_35 (by decide) ?_
      cases hr5
      exact hjhr5
  · rw [if_neg hb] at hG
    cases hG
    exact (e_return rfl dX12_eats_8)
set_option maxRecDepth 100000 in
set_option maxHeartbeats 4000000 in
theorem c_X12_office {g : xG} {al : List (Nat × Nat × Nat)} {ro : Nat → Nat → Option Nat} (hst : g.1.stackTraces = false) (hs : SH al ro) {M : Nat → xU} {S : xU}  {t : (Int × xU)} (hG : G12_office S = some t) :
    Cal g yX12_office cX12_office 3 (some .int) 3 [x_r (16 * 32 + 0)] (al, ro, fl (ml M [32] [S])) 0 0 (.inl (some (x_i t.1))) (al, ro, fl (ml M [32] [t.2])) := by
  have hn : ([32] : List Nat).Nodup := by decide
  refine cal_of_ev (plainFor_of_name (by decide)) (x_c1 rfl) (Nat.le_of_ble_eq_true rfl) hst ?_
  show Ev g _ _ _ _ _ _ 0 [some (x_r (16 * 32 + 0)), none, none] [] (al, ro, fl (ml M [32] [S])) _ _ _ _
  rw [G12_office] at hG
  refine e_iconst (pc := 0) dX12_office_0 (x_R rfl) ?_
  refine e_istoren (pc := 1) (i := 1) dX12_office_1 rfl (by decide) rfl ?_
  show Ev g _ _ _ _ _ _ 2 [some (x_r (16 * 32 + 0)), some (x_i 0), none] [] (al, ro, fl (ml M [32] [S])) _ _ _ _
  refine e_iconst (pc := 2) dX12_office_2 (x_R rfl) ?_
  refine e_istoren (pc := 3) (i := 2) dX12_office_3 rfl (by decide) rfl ?_
  show Ev g _ _ _ _ _ _ 4 [some (x_r (16 * 32 + 0)), some (x_i 0), some (x_i 0)] [] (al, ro, fl (ml M [32] [S])) _ _ _ _
  obtain ⟨v4, S5, hl6, hG⟩ := x_bd2 hG
  have hk6 : ∀ q : (Int × xU), q = (v4, S5) → Ev g yX12_office cX12_office 3 (some .int) [] 3 70 [some (x_r (16 * 32 + 0)), some (x_i q.1), none] [] (al, ro, fl (ml M [32] [q.2])) 0 0 (.inl (some (x_i t.1))) (al, ro, fl (ml M [32] [t.2])) := by
    intro q hq
    cases hq
    refine e_iloadn (pc := 70) (i := 1) dX12_office_70 rfl rfl ?_
    cases hG
    exact (e_ireturn rfl dX12_office_71 rfl)
  clear hG
  refine e_whl G12_office_L4 (fun z : (Int × Int × xU) => Ev g yX12_office cX12_office 3 (some .int) [] 3 4 [some (x_r (16 * 32 + 0)), some (x_i z.1), some (x_i z.2.1)] [] (al, ro, fl (ml M [32] [z.2.2])) 0 0 (.inl (some (x_i t.1))) (al, ro, fl (ml M [32] [t.2]))) (fun q => q = (v4, S5)) ?_ xFU (0, 0, S) _ hl6 rfl
  intro z t6 hf6 hi6 hx6
  obtain ⟨v1, v2, S3⟩ := z
  rw [G12_office_L4] at hf6
  show Ev g _ _ _ _ _ _ 4 [some (x_r (16 * 32 + 0)), some (x_i v1), some (x_i v2)] [] (al, ro, fl (ml M [32] [S3])) _ _ _ _
  refine e_iloadn (pc := 4) (i := 2) dX12_office_4 rfl rfl ?_
  refine e_aloadn (pc := 5) (i := 0) dX12_office_5 rfl rfl ?_
  refine f_getr (pc := 6) (u := 32) (q := 0) dX12_office_6 xf12_7 (sa_32_0 hs) rfl (sr_32_0_1 hs) ?_
  refine e_iconst (pc := 9) dX12_office_9 (x_R rfl) ?_
  refine f_iald (pc := 10) (k := 0) (u := 32) (q := 1) (len := 772) dX12_office_10 (sa_32_1 hs) (by decide) hn rfl rfl (by decide) ?_
  show Ev g _ _ _ _ _ _ 11 [some (x_r (16 * 32 + 0)), some (x_i v1), some (x_i v2)] [x_i (S3 1 3), x_i v2] (al, ro, fl (ml M [32] [S3])) _ _ _ _
  refine e_icmp_ge (pc := 11) (tgt := 70) dX12_office_11 (by decide) (fun hb => ?_) (fun hb => ?_)
  · rw [if_pos hb] at hf6
    cases hf6
    refine e_drop (i := 2) ?_
    have hh := hk6 _ (hx6 _ rfl)
    try dsimp only at hh
    exact hh
  · rw [if_neg hb] at hf6
    refine e_aloadn (pc := 14) (i := 0) dX12_office_14 rfl rfl ?_
    refine e_iloadn (pc := 15) (i := 2) dX12_office_15 rfl rfl ?_
    obtain ⟨v8, hq8, hf6⟩ := x_bd1 hf6
    refine e_invV (pc := 16) (K1 := 0) (S1 := 0) (K := 0) (S := 0) (dd2 := 2) (av := [x_i v2]) (st := []) (id := 16 * 32 + 0) dX12_office_16 xmX12_277 rfl (Or.inl ⟨10, 27, TX12, (sa_32_0 hs), rfl, by decide⟩) (f_cal (M := M) (us2 := [32]) [0] hn rfl (And.intro rfl trivial) rfl rfl rfl (c_X12_inChoir hst hs   hq8)) (by decide) (Nat.le_of_ble_eq_true rfl) (Or.inl rfl) ?_
    show Ev g _ _ _ _ _ _ 19 [some (x_r (16 * 32 + 0)), some (x_i v1), some (x_i v2)] [x_i v8] (al, ro, fl (ml M [32] [S3])) _ _ _ _
    obtain ⟨v10, S11, hr11, hf6⟩ := x_bd2 hf6
    have hjhr11 : Ev g yX12_office cX12_office 3 (some .int) [] 3 64 [some (x_r (16 * 32 + 0)), some (x_i v10), some (x_i v2)] [] (al, ro, fl (ml M [32] [S11])) 0 0 (.inl (some (x_i t.1))) (al, ro, fl (ml M [32] [t.2])) := by
      refine e_iinc (pc := 64) dX12_office_64 rfl (by decide) rfl ?_
      show Ev g _ _ _ _ _ _ 67 [some (x_r (16 * 32 + 0)), some (x_i v10), some (x_i (x_add v2 1))] [] (al, ro, fl (ml M [32] [S11])) _ _ _ _
      refine e_goto (pc := 67) (tgt := 4) dX12_office_67 (by decide) ?_
      cases hf6
      have hh := hi6 _ rfl
      try dsimp only at hh
      exact hh
    clear hf6
    refine e_if_eq (pc := 19) (tgt := 25) dX12_office_19 (by decide) (fun hb => ?_) (fun hb => ?_)
    · rw [if_pos hb] at hr11
      refine e_aloadn (pc := 25) (i := 0) dX12_office_25 rfl rfl ?_
      refine e_iloadn (pc := 26) (i := 2) dX12_office_26 rfl rfl ?_
      refine e_iconst (pc := 27) dX12_office_27 (x_R rfl) ?_
      refine e_sipush (pc := 28) dX12_office_28 (by decide +kernel) (x_R rfl) ?_
      refine e_aloadn (pc := 31) (i := 0) dX12_office_31 rfl rfl ?_
      refine e_iloadn (pc := 32) (i := 2) dX12_office_32 rfl rfl ?_
      refine e_iconst (pc := 33) dX12_office_33 (x_R rfl) ?_
      obtain ⟨v13, hq13, hr11⟩ := x_bd1 hr11
      refine e_invV (pc := 34) (K1 := 0) (S1 := 0) (K := 0) (S := 0) (dd2 := 0) (av := [x_i v2, x_i 5]) (st := [x_i 999, x_i 5, x_i v2, x_r (16 * 32 + 0)]) (id := 16 * 32 + 0) dX12_office_34 xmX12_65 rfl (Or.inl ⟨10, 27, TX12, (sa_32_0 hs), rfl, by decide⟩) (f_cal (M := M) (us2 := [32]) [0] hn rfl (And.intro rfl trivial) rfl rfl rfl (c_X12_of hst hs   hq13)) (by decide) (Nat.le_of_ble_eq_true rfl) (Or.inl rfl) ?_
      show Ev g _ _ _ _ _ _ 37 [some (x_r (16 * 32 + 0)), some (x_i v1), some (x_i v2)] [x_i v13, x_i 999, x_i 5, x_i v2, x_r (16 * 32 + 0)] (al, ro, fl (ml M [32] [S3])) _ _ _ _
      refine e_iconst (pc := 37) dX12_office_37 (x_R rfl) ?_
      refine e_iadd (pc := 38) dX12_office_38 ?_
      obtain ⟨v15, hq15, hr11⟩ := x_bd1 hr11
      refine e_invS (pc := 39) (K1 := 0) (S1 := 0) (K := 0) (S := 0) (dd2 := 0) (av := [x_i 999, x_i (x_add v13 1)]) (st := [x_i 5, x_i v2, x_r (16 * 32 + 0)]) dX12_office_39 xmX12_73 rfl (f_cal (M := M) (us2 := []) [] hn rfl trivial rfl rfl rfl (c_X12_lesser hst hs   hq15)) (by decide) (Nat.le_of_ble_eq_true rfl) (Or.inl rfl) ?_
      show Ev g _ _ _ _ _ _ 42 [some (x_r (16 * 32 + 0)), some (x_i v1), some (x_i v2)] [x_i v15, x_i 5, x_i v2, x_r (16 * 32 + 0)] (al, ro, fl (ml M [32] [S3])) _ _ _ _
      obtain ⟨S17, hq17, hr11⟩ := x_bd1 hr11
      refine e_invV (pc := 42) (K1 := 0) (S1 := 0) (K := 0) (S := 0) (dd2 := 0) (av := [x_i v2, x_i 5, x_i v15]) (st := []) (id := 16 * 32 + 0) dX12_office_42 xmX12_140 rfl (Or.inl ⟨10, 27, TX12, (sa_32_0 hs), rfl, by decide⟩) (f_cal (M := M) (us2 := [32]) [0] hn rfl (And.intro rfl trivial) rfl rfl rfl (c_X12_lays hst hs   hq17)) (by decide) (Nat.le_of_ble_eq_true rfl) (Or.inl rfl) ?_
      show Ev g _ _ _ _ _ _ 45 [some (x_r (16 * 32 + 0)), some (x_i v1), some (x_i v2)] [] (al, ro, fl (ml M [32] [S17])) _ _ _ _
      refine e_aloadn (pc := 45) (i := 0) dX12_office_45 rfl rfl ?_
      refine f_getr (pc := 46) (u := 32) (q := 0) dX12_office_46 xf12_32 (sa_32_0 hs) rfl (sr_32_0_19 hs) ?_
      refine e_iloadn (pc := 49) (i := 2) dX12_office_49 rfl rfl ?_
      refine e_dup2 (pc := 50) dX12_office_50 rfl rfl ?_
      obtain ⟨hc0, hr11⟩ := x_gd_some hr11
      refine f_iald (pc := 51) (k := 0) (u := 32) (q := 7) (len := 7) dX12_office_51 (sa_32_7 hs) hc0 hn rfl rfl (by decide) ?_
      show Ev g _ _ _ _ _ _ 52 [some (x_r (16 * 32 + 0)), some (x_i v1), some (x_i v2)] [x_i (S17 7 (v2).toNat), x_i v2, x_r (16 * 32 + 7)] (al, ro, fl (ml M [32] [S17])) _ _ _ _
      refine e_iconst (pc := 52) dX12_office_52 (x_R rfl) ?_
      refine e_iadd (pc := 53) dX12_office_53 ?_
      obtain ⟨hc0, hr11⟩ := x_gd_some hr11
      refine f_iast (pc := 54) (k := 0) (u := 32) (q := 7) (len := 7) dX12_office_54 (sa_32_7 hs) hc0 hn rfl rfl rfl (by decide) ?_
      show Ev g _ _ _ _ _ _ 55 [some (x_r (16 * 32 + 0)), some (x_i v1), some (x_i v2)] [] (al, ro, fl (ml M [32] [(x_up S17 7 (v2).toNat (x_add (S17 7 (v2).toNat) 1))])) _ _ _ _
      refine e_aloadn (pc := 55) (i := 0) dX12_office_55 rfl rfl ?_
      refine e_iconst (pc := 56) dX12_office_56 (x_R rfl) ?_
      refine e_iloadn (pc := 57) (i := 2) dX12_office_57 rfl rfl ?_
      obtain ⟨S19, hq19, hr11⟩ := x_bd1 hr11
      refine e_invV (pc := 58) (K1 := 0) (S1 := 0) (K := 0) (S := 0) (dd2 := 1) (av := [x_i 0, x_i v2]) (st := []) (id := 16 * 32 + 0) dX12_office_58 xmX12_273 rfl (Or.inl ⟨10, 27, TX12, (sa_32_0 hs), rfl, by decide⟩) (f_cal (M := M) (us2 := [32]) [0] hn rfl (And.intro rfl trivial) rfl rfl rfl (c_X12_logs hst hs   hq19)) (by decide) (Nat.le_of_ble_eq_true rfl) (Or.inl rfl) ?_
      show Ev g _ _ _ _ _ _ 61 [some (x_r (16 * 32 + 0)), some (x_i v1), some (x_i v2)] [] (al, ro, fl (ml M [32] [S19])) _ _ _ _
      refine e_iinc (pc := 61) dX12_office_61 rfl (by decide) rfl ?_
      show Ev g _ _ _ _ _ _ 64 [some (x_r (16 * 32 + 0)), some (x_i (x_add v1 1)), some (x_i v2)] [] (al, ro, fl (ml M [32] [S19])) _ _ _ _
      cases hr11
      exact hjhr11
    · rw [if_neg hb] at hr11
      refine e_goto (pc := 22) (tgt := 64) dX12_office_22 (by decide) ?_
      cases hr11
      exact hjhr11
set_option maxRecDepth 100000 in
set_option maxHeartbeats 4000000 in
theorem c_X12_passes {g : xG} {al : List (Nat × Nat × Nat)} {ro : Nat → Nat → Option Nat} (hst : g.1.stackTraces = false) (hs : SH al ro) {M : Nat → xU} {a : Int} {S : xU}  {t : (Int × xU)} (hG : G12_passes a S = some t) :
    Cal g yX12_passes cX12_passes 4 (some .int) 45 [x_r (16 * 32 + 0), x_i a] (al, ro, fl (ml M [32] [S])) 0 0 (.inl (some (x_i t.1))) (al, ro, fl (ml M [32] [t.2])) := by
  have hn : ([32] : List Nat).Nodup := by decide
  refine cal_of_ev (plainFor_of_name (by decide)) (x_c1 rfl) (Nat.le_of_ble_eq_true rfl) hst ?_
  show Ev g _ _ _ _ _ _ 0 [some (x_r (16 * 32 + 0)), some (x_i a), none, none] [] (al, ro, fl (ml M [32] [S])) _ _ _ _
  rw [G12_passes] at hG
  refine e_iconst (pc := 0) dX12_passes_0 (x_R rfl) ?_
  refine e_istoren (pc := 1) (i := 2) dX12_passes_1 rfl (by decide) rfl ?_
  show Ev g _ _ _ _ _ _ 2 [some (x_r (16 * 32 + 0)), some (x_i a), some (x_i 0), none] [] (al, ro, fl (ml M [32] [S])) _ _ _ _
  obtain ⟨S3, hl4, hG⟩ := x_bd1 hG
  have hk4 : ∀ q : xU, q = S3 → Ev g yX12_passes cX12_passes 4 (some .int) [] 45 23 [some (x_r (16 * 32 + 0)), some (x_i a), none, none] [] (al, ro, fl (ml M [32] [q])) 0 0 (.inl (some (x_i t.1))) (al, ro, fl (ml M [32] [t.2])) := by
    intro q hq
    replace hq := hq.symm
    subst hq
    refine e_iconst (pc := 23) dX12_passes_23 (x_R rfl) ?_
    refine e_istoren (pc := 24) (i := 2) dX12_passes_24 rfl (by decide) rfl ?_
    show Ev g _ _ _ _ _ _ 25 [some (x_r (16 * 32 + 0)), some (x_i a), some (x_i 0), none] [] (al, ro, fl (ml M [32] [S3])) _ _ _ _
    obtain ⟨S10, hl11, hG⟩ := x_bd1 hG
    have hk11 : ∀ q : xU, q = S10 → Ev g yX12_passes cX12_passes 4 (some .int) [] 45 46 [some (x_r (16 * 32 + 0)), some (x_i a), none, none] [] (al, ro, fl (ml M [32] [q])) 0 0 (.inl (some (x_i t.1))) (al, ro, fl (ml M [32] [t.2])) := by
      intro q hq
      replace hq := hq.symm
      subst hq
      refine e_aloadn (pc := 46) (i := 0) dX12_passes_46 rfl rfl ?_
      refine f_getr (pc := 47) (u := 32) (q := 0) dX12_passes_47 xf12_7 (sa_32_0 hs) rfl (sr_32_0_1 hs) ?_
      refine e_iconst (pc := 50) dX12_passes_50 (x_R rfl) ?_
      refine f_iald (pc := 51) (k := 0) (u := 32) (q := 1) (len := 772) dX12_passes_51 (sa_32_1 hs) (by decide) hn rfl rfl (by decide) ?_
      show Ev g _ _ _ _ _ _ 52 [some (x_r (16 * 32 + 0)), some (x_i a), none, none] [x_i (S10 1 4)] (al, ro, fl (ml M [32] [S10])) _ _ _ _
      refine e_iconst (pc := 52) dX12_passes_52 (x_R rfl) ?_
      refine e_irem (pc := 53) dX12_passes_53 (by decide) ?_
      obtain ⟨v15, S16, hr16, hG⟩ := x_bd2 hG
      have hjhr16 : Ev g yX12_passes cX12_passes 4 (some .int) [] 45 65 [some (x_r (16 * 32 + 0)), some (x_i a), none, none] [x_i v15] (al, ro, fl (ml M [32] [S16])) 0 0 (.inl (some (x_i t.1))) (al, ro, fl (ml M [32] [t.2])) := by
        refine e_istoren (pc := 65) (i := 2) dX12_passes_65 rfl (by decide) rfl ?_
        show Ev g _ _ _ _ _ _ 66 [some (x_r (16 * 32 + 0)), some (x_i a), some (x_i v15), none] [] (al, ro, fl (ml M [32] [S16])) _ _ _ _
        refine e_iloadn (pc := 66) (i := 1) dX12_passes_66 rfl rfl ?_
        obtain ⟨S21, hr21, hG⟩ := x_bd1 hG
        have hjhr21 : Ev g yX12_passes cX12_passes 4 (some .int) [] 45 98 [some (x_r (16 * 32 + 0)), some (x_i a), some (x_i v15), none] [] (al, ro, fl (ml M [32] [S21])) 0 0 (.inl (some (x_i t.1))) (al, ro, fl (ml M [32] [t.2])) := by
          refine e_iconst (pc := 98) dX12_passes_98 (x_R rfl) ?_
          refine e_istoren (pc := 99) (i := 3) dX12_passes_99 rfl (by decide) rfl ?_
          show Ev g _ _ _ _ _ _ 100 [some (x_r (16 * 32 + 0)), some (x_i a), some (x_i v15), some (x_i 0)] [] (al, ro, fl (ml M [32] [S21])) _ _ _ _
          obtain ⟨S31, hl32, hG⟩ := x_bd1 hG
          have hk32 : ∀ q : xU, q = S31 → Ev g yX12_passes cX12_passes 4 (some .int) [] 45 148 [some (x_r (16 * 32 + 0)), some (x_i a), some (x_i v15), none] [] (al, ro, fl (ml M [32] [q])) 0 0 (.inl (some (x_i t.1))) (al, ro, fl (ml M [32] [t.2])) := by
            intro q hq
            replace hq := hq.symm
            subst hq
            refine e_aloadn (pc := 148) (i := 0) dX12_passes_148 rfl rfl ?_
            refine f_getr (pc := 149) (u := 32) (q := 0) dX12_passes_149 xf12_7 (sa_32_0 hs) rfl (sr_32_0_1 hs) ?_
            refine e_iconst (pc := 152) dX12_passes_152 (x_R rfl) ?_
            refine e_dup2 (pc := 153) dX12_passes_153 rfl rfl ?_
            refine f_iald (pc := 154) (k := 0) (u := 32) (q := 1) (len := 772) dX12_passes_154 (sa_32_1 hs) (by decide) hn rfl rfl (by decide) ?_
            show Ev g _ _ _ _ _ _ 155 [some (x_r (16 * 32 + 0)), some (x_i a), some (x_i v15), none] [x_i (S31 1 4), x_i 4, x_r (16 * 32 + 1)] (al, ro, fl (ml M [32] [S31])) _ _ _ _
            refine e_iconst (pc := 155) dX12_passes_155 (x_R rfl) ?_
            refine e_iadd (pc := 156) dX12_passes_156 ?_
            refine f_iast (pc := 157) (k := 0) (u := 32) (q := 1) (len := 772) dX12_passes_157 (sa_32_1 hs) (by decide) hn rfl rfl rfl (by decide) ?_
            show Ev g _ _ _ _ _ _ 158 [some (x_r (16 * 32 + 0)), some (x_i a), some (x_i v15), none] [] (al, ro, fl (ml M [32] [(x_up S31 1 4 (x_add (S31 1 4) 1))])) _ _ _ _
            refine e_aloadn (pc := 158) (i := 0) dX12_passes_158 rfl rfl ?_
            refine f_getr (pc := 159) (u := 32) (q := 0) dX12_passes_159 xf12_7 (sa_32_0 hs) rfl (sr_32_0_1 hs) ?_
            refine e_iconst (pc := 162) dX12_passes_162 (x_R rfl) ?_
            refine f_iald (pc := 163) (k := 0) (u := 32) (q := 1) (len := 772) dX12_passes_163 (sa_32_1 hs) (by decide) hn rfl rfl (by decide) ?_
            show Ev g _ _ _ _ _ _ 164 [some (x_r (16 * 32 + 0)), some (x_i a), some (x_i v15), none] [x_i ((x_up S31 1 4 (x_add (S31 1 4) 1)) 1 4)] (al, ro, fl (ml M [32] [(x_up S31 1 4 (x_add (S31 1 4) 1))])) _ _ _ _
            refine e_bipush (pc := 164) dX12_passes_164 (by decide +kernel) (x_R rfl) ?_
            obtain ⟨S40, hr40, hG⟩ := x_bd1 hG
            have hjhr40 : Ev g yX12_passes cX12_passes 4 (some .int) [] 45 196 [some (x_r (16 * 32 + 0)), some (x_i a), some (x_i v15), none] [] (al, ro, fl (ml M [32] [S40])) 0 0 (.inl (some (x_i t.1))) (al, ro, fl (ml M [32] [t.2])) := by
              refine e_iloadn (pc := 196) (i := 2) dX12_passes_196 rfl rfl ?_
              cases hG
              exact (e_ireturn rfl dX12_passes_197 rfl)
            clear hG
            refine e_icmp_ne (pc := 166) (tgt := 196) dX12_passes_166 (by decide) (fun hb => ?_) (fun hb => ?_)
            · rw [if_neg hb] at hr40
              cases hr40
              exact hjhr40
            · rw [if_pos hb] at hr40
              refine e_aloadn (pc := 169) (i := 0) dX12_passes_169 rfl rfl ?_
              refine f_getr (pc := 170) (u := 32) (q := 0) dX12_passes_170 xf12_7 (sa_32_0 hs) rfl (sr_32_0_1 hs) ?_
              refine e_iconst (pc := 173) dX12_passes_173 (x_R rfl) ?_
              refine e_iconst (pc := 174) dX12_passes_174 (x_R rfl) ?_
              refine f_iast (pc := 175) (k := 0) (u := 32) (q := 1) (len := 772) dX12_passes_175 (sa_32_1 hs) (by decide) hn rfl rfl rfl (by decide) ?_
              show Ev g _ _ _ _ _ _ 176 [some (x_r (16 * 32 + 0)), some (x_i a), some (x_i v15), none] [] (al, ro, fl (ml M [32] [(x_up (x_up S31 1 4 (x_add (S31 1 4) 1)) 1 4 0)])) _ _ _ _
              refine e_aloadn (pc := 176) (i := 0) dX12_passes_176 rfl rfl ?_
              refine f_getr (pc := 177) (u := 32) (q := 0) dX12_passes_177 xf12_7 (sa_32_0 hs) rfl (sr_32_0_1 hs) ?_
              refine e_iconst (pc := 180) dX12_passes_180 (x_R rfl) ?_
              refine e_sipush (pc := 181) dX12_passes_181 (by decide +kernel) (x_R rfl) ?_
              refine e_aloadn (pc := 184) (i := 0) dX12_passes_184 rfl rfl ?_
              refine f_getr (pc := 185) (u := 32) (q := 0) dX12_passes_185 xf12_7 (sa_32_0 hs) rfl (sr_32_0_1 hs) ?_
              refine e_iconst (pc := 188) dX12_passes_188 (x_R rfl) ?_
              refine f_iald (pc := 189) (k := 0) (u := 32) (q := 1) (len := 772) dX12_passes_189 (sa_32_1 hs) (by decide) hn rfl rfl (by decide) ?_
              show Ev g _ _ _ _ _ _ 190 [some (x_r (16 * 32 + 0)), some (x_i a), some (x_i v15), none] [x_i ((x_up (x_up S31 1 4 (x_add (S31 1 4) 1)) 1 4 0) 1 5), x_i 9999, x_i 5, x_r (16 * 32 + 1)] (al, ro, fl (ml M [32] [(x_up (x_up S31 1 4 (x_add (S31 1 4) 1)) 1 4 0)])) _ _ _ _
              refine e_iconst (pc := 190) dX12_passes_190 (x_R rfl) ?_
              refine e_iadd (pc := 191) dX12_passes_191 ?_
              obtain ⟨v42, hq42, hr40⟩ := x_bd1 hr40
              refine e_invS (pc := 192) (K1 := 0) (S1 := 0) (K := 0) (S := 0) (dd2 := 0) (av := [x_i 9999, x_i (x_add ((x_up (x_up S31 1 4 (x_add (S31 1 4) 1)) 1 4 0) 1 5) 1)]) (st := [x_i 5, x_r (16 * 32 + 1)]) dX12_passes_192 xmX12_73 rfl (f_cal (M := M) (us2 := []) [] hn rfl trivial rfl rfl rfl (c_X12_lesser hst hs   hq42)) (by decide) (Nat.le_of_ble_eq_true rfl) (Or.inl rfl) ?_
              show Ev g _ _ _ _ _ _ 195 [some (x_r (16 * 32 + 0)), some (x_i a), some (x_i v15), none] [x_i v42, x_i 5, x_r (16 * 32 + 1)] (al, ro, fl (ml M [32] [(x_up (x_up S31 1 4 (x_add (S31 1 4) 1)) 1 4 0)])) _ _ _ _
              refine f_iast (pc := 195) (k := 0) (u := 32) (q := 1) (len := 772) dX12_passes_195 (sa_32_1 hs) (by decide) hn rfl rfl rfl (by decide) ?_
              show Ev g _ _ _ _ _ _ 196 [some (x_r (16 * 32 + 0)), some (x_i a), some (x_i v15), none] [] (al, ro, fl (ml M [32] [(x_up (x_up (x_up S31 1 4 (x_add (S31 1 4) 1)) 1 4 0) 1 5 v42)])) _ _ _ _
              cases hr40
              exact hjhr40
          clear hG
          refine e_whl G12_passes_L100 (fun z : (Int × xU) => Ev g yX12_passes cX12_passes 4 (some .int) [] 45 100 [some (x_r (16 * 32 + 0)), some (x_i a), some (x_i v15), some (x_i z.1)] [] (al, ro, fl (ml M [32] [z.2])) 0 0 (.inl (some (x_i t.1))) (al, ro, fl (ml M [32] [t.2]))) (fun q => q = S31) ?_ xFU (0, S21) _ hl32 rfl
          intro z t32 hf32 hi32 hx32
          obtain ⟨v29, S30⟩ := z
          rw [G12_passes_L100] at hf32
          show Ev g _ _ _ _ _ _ 100 [some (x_r (16 * 32 + 0)), some (x_i a), some (x_i v15), some (x_i v29)] [] (al, ro, fl (ml M [32] [S30])) _ _ _ _
          refine e_iloadn (pc := 100) (i := 3) dX12_passes_100 rfl rfl ?_
          refine e_iconst (pc := 101) dX12_passes_101 (x_R rfl) ?_
          refine e_icmp_ge (pc := 102) (tgt := 148) dX12_passes_102 (by decide) (fun hb => ?_) (fun hb => ?_)
          · rw [if_pos hb] at hf32
            cases hf32
            refine e_drop (i := 3) ?_
            have hh := hk32 _ (hx32 _ rfl)
            try dsimp only at hh
            exact hh
          · rw [if_neg hb] at hf32
            refine e_aloadn (pc := 105) (i := 0) dX12_passes_105 rfl rfl ?_
            refine e_iconst (pc := 106) dX12_passes_106 (x_R rfl) ?_
            refine e_iloadn (pc := 107) (i := 3) dX12_passes_107 rfl rfl ?_
            refine e_imul (pc := 108) dX12_passes_108 ?_
            obtain ⟨v34, hq34, hf32⟩ := x_bd1 hf32
            refine e_invV (pc := 109) (K1 := 0) (S1 := 0) (K := 0) (S := 0) (dd2 := 0) (av := [x_i (x_mul 4 v29)]) (st := []) (id := 16 * 32 + 0) dX12_passes_109 xmX12_263 rfl (Or.inl ⟨10, 27, TX12, (sa_32_0 hs), rfl, by decide⟩) (f_cal (M := M) (us2 := [32]) [0] hn rfl (And.intro rfl trivial) rfl rfl rfl (c_X12_seasonOf hst hs   hq34)) (by decide) (Nat.le_of_ble_eq_true rfl) (Or.inl rfl) ?_
            show Ev g _ _ _ _ _ _ 112 [some (x_r (16 * 32 + 0)), some (x_i a), some (x_i v15), some (x_i v29)] [x_i v34] (al, ro, fl (ml M [32] [S30])) _ _ _ _
            refine e_iconst (pc := 112) dX12_passes_112 (x_R rfl) ?_
            obtain ⟨S36, hr36, hf32⟩ := x_bd1 hf32
            have hjhr36 : Ev g yX12_passes cX12_passes 4 (some .int) [] 45 142 [some (x_r (16 * 32 + 0)), some (x_i a), some (x_i v15), some (x_i v29)] [] (al, ro, fl (ml M [32] [S36])) 0 0 (.inl (some (x_i t.1))) (al, ro, fl (ml M [32] [t.2])) := by
              refine e_iinc (pc := 142) dX12_passes_142 rfl (by decide) rfl ?_
              show Ev g _ _ _ _ _ _ 145 [some (x_r (16 * 32 + 0)), some (x_i a), some (x_i v15), some (x_i (x_add v29 1))] [] (al, ro, fl (ml M [32] [S36])) _ _ _ _
              refine e_goto (pc := 145) (tgt := 100) dX12_passes_145 (by decide) ?_
              cases hf32
              have hh := hi32 _ rfl
              try dsimp only at hh
              exact hh
            clear hf32
            refine e_icmp_ne (pc := 113) (tgt := 142) dX12_passes_113 (by decide) (fun hb => ?_) (fun hb => ?_)
            · rw [if_neg hb] at hr36
              cases hr36
              exact hjhr36
            · rw [if_pos hb] at hr36
              refine e_aloadn (pc := 116) (i := 0) dX12_passes_116 rfl rfl ?_
              refine f_getr (pc := 117) (u := 32) (q := 0) dX12_passes_117 xf12_7 (sa_32_0 hs) rfl (sr_32_0_1 hs) ?_
              refine e_bipush (pc := 120) dX12_passes_120 (by decide +kernel) (x_R rfl) ?_
              refine e_iloadn (pc := 122) (i := 3) dX12_passes_122 rfl rfl ?_
              refine e_iadd (pc := 123) dX12_passes_123 ?_
              refine e_sipush (pc := 124) dX12_passes_124 (by decide +kernel) (x_R rfl) ?_
              refine e_aloadn (pc := 127) (i := 0) dX12_passes_127 rfl rfl ?_
              refine f_getr (pc := 128) (u := 32) (q := 0) dX12_passes_128 xf12_7 (sa_32_0 hs) rfl (sr_32_0_1 hs) ?_
              refine e_bipush (pc := 131) dX12_passes_131 (by decide +kernel) (x_R rfl) ?_
              refine e_iloadn (pc := 133) (i := 3) dX12_passes_133 rfl rfl ?_
              refine e_iadd (pc := 134) dX12_passes_134 ?_
              obtain ⟨hc0, hr36⟩ := x_gd_some hr36
              refine f_iald (pc := 135) (k := 0) (u := 32) (q := 1) (len := 772) dX12_passes_135 (sa_32_1 hs) hc0 hn rfl rfl (by decide) ?_
              show Ev g _ _ _ _ _ _ 136 [some (x_r (16 * 32 + 0)), some (x_i a), some (x_i v15), some (x_i v29)] [x_i (S30 1 ((x_add 12 v29)).toNat), x_i 999, x_i (x_add 12 v29), x_r (16 * 32 + 1)] (al, ro, fl (ml M [32] [S30])) _ _ _ _
              refine e_iconst (pc := 136) dX12_passes_136 (x_R rfl) ?_
              refine e_iadd (pc := 137) dX12_passes_137 ?_
              obtain ⟨v38, hq38, hr36⟩ := x_bd1 hr36
              refine e_invS (pc := 138) (K1 := 0) (S1 := 0) (K := 0) (S := 0) (dd2 := 0) (av := [x_i 999, x_i (x_add (S30 1 ((x_add 12 v29)).toNat) 2)]) (st := [x_i (x_add 12 v29), x_r (16 * 32 + 1)]) dX12_passes_138 xmX12_73 rfl (f_cal (M := M) (us2 := []) [] hn rfl trivial rfl rfl rfl (c_X12_lesser hst hs   hq38)) (by decide) (Nat.le_of_ble_eq_true rfl) (Or.inl rfl) ?_
              show Ev g _ _ _ _ _ _ 141 [some (x_r (16 * 32 + 0)), some (x_i a), some (x_i v15), some (x_i v29)] [x_i v38, x_i (x_add 12 v29), x_r (16 * 32 + 1)] (al, ro, fl (ml M [32] [S30])) _ _ _ _
              obtain ⟨hc0, hr36⟩ := x_gd_some hr36
              refine f_iast (pc := 141) (k := 0) (u := 32) (q := 1) (len := 772) dX12_passes_141 (sa_32_1 hs) hc0 hn rfl rfl rfl (by decide) ?_
              show Ev g _ _ _ _ _ _ 142 [some (x_r (16 * 32 + 0)), some (x_i a), some (x_i v15), some (x_i v29)] [] (al, ro, fl (ml M [32] [(x_up S30 1 ((x_add 12 v29)).toNat v38)])) _ _ _ _
              cases hr36
              exact hjhr36
        clear hG
        refine e_if_eq (pc := 67) (tgt := 98) dX12_passes_67 (by decide) (fun hb => ?_) (fun hb => ?_)
        · rw [if_pos hb] at hr21
          cases hr21
          exact hjhr21
        · rw [if_neg hb] at hr21
          refine e_aloadn (pc := 70) (i := 0) dX12_passes_70 rfl rfl ?_
          refine e_bipush (pc := 71) dX12_passes_71 (by decide +kernel) (x_R rfl) ?_
          obtain ⟨v23, S24, hq24, hr21⟩ := x_bd2 hr21
          refine e_invV (pc := 73) (K1 := 0) (S1 := 0) (K := 0) (S := 0) (dd2 := 0) (av := [x_i 100]) (st := []) (id := 16 * 32 + 0) dX12_passes_73 xmX12_289 rfl (Or.inl ⟨10, 27, TX12, (sa_32_0 hs), rfl, by decide⟩) (f_cal (M := M) (us2 := [32]) [0] hn rfl (And.intro rfl trivial) rfl rfl rfl (c_X12_draw hst hs   hq24)) (by decide) (Nat.le_of_ble_eq_true rfl) (Or.inl rfl) ?_
          show Ev g _ _ _ _ _ _ 76 [some (x_r (16 * 32 + 0)), some (x_i a), some (x_i v15), none] [x_i v23] (al, ro, fl (ml M [32] [S24])) _ _ _ _
          refine e_aloadn (pc := 76) (i := 0) dX12_passes_76 rfl rfl ?_
          refine f_getr (pc := 77) (u := 32) (q := 0) dX12_passes_77 xf12_7 (sa_32_0 hs) rfl (sr_32_0_1 hs) ?_
          refine e_bipush (pc := 80) dX12_passes_80 (by decide +kernel) (x_R rfl) ?_
          refine f_iald (pc := 82) (k := 0) (u := 32) (q := 1) (len := 772) dX12_passes_82 (sa_32_1 hs) (by decide) hn rfl rfl (by decide) ?_
          show Ev g _ _ _ _ _ _ 83 [some (x_r (16 * 32 + 0)), some (x_i a), some (x_i v15), none] [x_i (S24 1 8), x_i v23] (al, ro, fl (ml M [32] [S24])) _ _ _ _
          refine e_icmp_ge (pc := 83) (tgt := 98) dX12_passes_83 (by decide) (fun hb => ?_) (fun hb => ?_)
          · rw [if_pos hb] at hr21
            cases hr21
            exact hjhr21
          · rw [if_neg hb] at hr21
            refine e_aloadn (pc := 86) (i := 0) dX12_passes_86 rfl rfl ?_
            refine f_getr (pc := 87) (u := 32) (q := 0) dX12_passes_87 xf12_7 (sa_32_0 hs) rfl (sr_32_0_1 hs) ?_
            refine e_bipush (pc := 90) dX12_passes_90 (by decide +kernel) (x_R rfl) ?_
            refine e_aloadn (pc := 92) (i := 0) dX12_passes_92 rfl rfl ?_
            refine e_iconst (pc := 93) dX12_passes_93 (x_R rfl) ?_
            obtain ⟨v26, S27, hq27, hr21⟩ := x_bd2 hr21
            refine e_invV (pc := 94) (K1 := 0) (S1 := 0) (K := 0) (S := 0) (dd2 := 0) (av := [x_i 5]) (st := [x_i 7, x_r (16 * 32 + 1)]) (id := 16 * 32 + 0) dX12_passes_94 xmX12_289 rfl (Or.inl ⟨10, 27, TX12, (sa_32_0 hs), rfl, by decide⟩) (f_cal (M := M) (us2 := [32]) [0] hn rfl (And.intro rfl trivial) rfl rfl rfl (c_X12_draw hst hs   hq27)) (by decide) (Nat.le_of_ble_eq_true rfl) (Or.inl rfl) ?_
            show Ev g _ _ _ _ _ _ 97 [some (x_r (16 * 32 + 0)), some (x_i a), some (x_i v15), none] [x_i v26, x_i 7, x_r (16 * 32 + 1)] (al, ro, fl (ml M [32] [S27])) _ _ _ _
            refine f_iast (pc := 97) (k := 0) (u := 32) (q := 1) (len := 772) dX12_passes_97 (sa_32_1 hs) (by decide) hn rfl rfl rfl (by decide) ?_
            show Ev g _ _ _ _ _ _ 98 [some (x_r (16 * 32 + 0)), some (x_i a), some (x_i v15), none] [] (al, ro, fl (ml M [32] [(x_up S27 1 7 v26)])) _ _ _ _
            cases hr21
            exact hjhr21
      clear hG
      refine e_if_ne (pc := 54) (tgt := 64) dX12_passes_54 (by decide) (fun hb => ?_) (fun hb => ?_)
      · rw [if_neg hb] at hr16
        refine e_iconst (pc := 64) dX12_passes_64 (x_R rfl) ?_
        cases hr16
        exact hjhr16
      · rw [if_pos hb] at hr16
        refine e_aloadn (pc := 57) (i := 0) dX12_passes_57 rfl rfl ?_
        obtain ⟨v18, S19, hq19, hr16⟩ := x_bd2 hr16
        refine e_invV (pc := 58) (K1 := 0) (S1 := 0) (K := 0) (S := 0) (dd2 := 3) (av := []) (st := []) (id := 16 * 32 + 0) dX12_passes_58 xmX12_286 rfl (Or.inl ⟨10, 27, TX12, (sa_32_0 hs), rfl, by decide⟩) (f_cal (M := M) (us2 := [32]) [0] hn rfl (And.intro rfl trivial) rfl rfl rfl (c_X12_office hst hs   hq19)) (by decide) (Nat.le_of_ble_eq_true rfl) (Or.inl rfl) ?_
        show Ev g _ _ _ _ _ _ 61 [some (x_r (16 * 32 + 0)), some (x_i a), none, none] [x_i v18] (al, ro, fl (ml M [32] [S19])) _ _ _ _
        refine e_goto (pc := 61) (tgt := 65) dX12_passes_61 (by decide) ?_
        cases hr16
        exact hjhr16
    clear hG
    refine e_whl G12_passes_L25 (fun z : (Int × xU) => Ev g yX12_passes cX12_passes 4 (some .int) [] 45 25 [some (x_r (16 * 32 + 0)), some (x_i a), some (x_i z.1), none] [] (al, ro, fl (ml M [32] [z.2])) 0 0 (.inl (some (x_i t.1))) (al, ro, fl (ml M [32] [t.2]))) (fun q => q = S10) ?_ xFU (0, S3) _ hl11 rfl
    intro z t11 hf11 hi11 hx11
    obtain ⟨v8, S9⟩ := z
    rw [G12_passes_L25] at hf11
    show Ev g _ _ _ _ _ _ 25 [some (x_r (16 * 32 + 0)), some (x_i a), some (x_i v8), none] [] (al, ro, fl (ml M [32] [S9])) _ _ _ _
    refine e_iloadn (pc := 25) (i := 2) dX12_passes_25 rfl rfl ?_
    refine e_aloadn (pc := 26) (i := 0) dX12_passes_26 rfl rfl ?_
    refine f_getr (pc := 27) (u := 32) (q := 0) dX12_passes_27 xf12_7 (sa_32_0 hs) rfl (sr_32_0_1 hs) ?_
    refine e_iconst (pc := 30) dX12_passes_30 (x_R rfl) ?_
    refine f_iald (pc := 31) (k := 0) (u := 32) (q := 1) (len := 772) dX12_passes_31 (sa_32_1 hs) (by decide) hn rfl rfl (by decide) ?_
    show Ev g _ _ _ _ _ _ 32 [some (x_r (16 * 32 + 0)), some (x_i a), some (x_i v8), none] [x_i (S9 1 3), x_i v8] (al, ro, fl (ml M [32] [S9])) _ _ _ _
    refine e_icmp_ge (pc := 32) (tgt := 46) dX12_passes_32 (by decide) (fun hb => ?_) (fun hb => ?_)
    · rw [if_pos hb] at hf11
      cases hf11
      refine e_drop (i := 2) ?_
      have hh := hk11 _ (hx11 _ rfl)
      try dsimp only at hh
      exact hh
    · rw [if_neg hb] at hf11
      refine e_aloadn (pc := 35) (i := 0) dX12_passes_35 rfl rfl ?_
      refine e_iloadn (pc := 36) (i := 2) dX12_passes_36 rfl rfl ?_
      obtain ⟨S13, hq13, hf11⟩ := x_bd1 hf11
      refine e_invV (pc := 37) (K1 := 0) (S1 := 0) (K := 0) (S := 0) (dd2 := 2) (av := [x_i v8]) (st := []) (id := 16 * 32 + 0) dX12_passes_37 xmX12_283 rfl (Or.inl ⟨10, 27, TX12, (sa_32_0 hs), rfl, by decide⟩) (f_cal (M := M) (us2 := [32]) [0] hn rfl (And.intro rfl trivial) rfl rfl rfl (c_X12_eats hst hs   hq13)) (by decide) (Nat.le_of_ble_eq_true rfl) (Or.inl rfl) ?_
      show Ev g _ _ _ _ _ _ 40 [some (x_r (16 * 32 + 0)), some (x_i a), some (x_i v8), none] [] (al, ro, fl (ml M [32] [S13])) _ _ _ _
      refine e_iinc (pc := 40) dX12_passes_40 rfl (by decide) rfl ?_
      show Ev g _ _ _ _ _ _ 43 [some (x_r (16 * 32 + 0)), some (x_i a), some (x_i (x_add v8 1)), none] [] (al, ro, fl (ml M [32] [S13])) _ _ _ _
      refine e_goto (pc := 43) (tgt := 25) dX12_passes_43 (by decide) ?_
      cases hf11
      have hh := hi11 _ rfl
      try dsimp only at hh
      exact hh
  clear hG
  refine e_whl G12_passes_L2 (fun z : (Int × xU) => Ev g yX12_passes cX12_passes 4 (some .int) [] 45 2 [some (x_r (16 * 32 + 0)), some (x_i a), some (x_i z.1), none] [] (al, ro, fl (ml M [32] [z.2])) 0 0 (.inl (some (x_i t.1))) (al, ro, fl (ml M [32] [t.2]))) (fun q => q = S3) ?_ xFU (0, S) _ hl4 rfl
  intro z t4 hf4 hi4 hx4
  obtain ⟨v1, S2⟩ := z
  rw [G12_passes_L2] at hf4
  show Ev g _ _ _ _ _ _ 2 [some (x_r (16 * 32 + 0)), some (x_i a), some (x_i v1), none] [] (al, ro, fl (ml M [32] [S2])) _ _ _ _
  refine e_iloadn (pc := 2) (i := 2) dX12_passes_2 rfl rfl ?_
  refine e_aloadn (pc := 3) (i := 0) dX12_passes_3 rfl rfl ?_
  refine f_getr (pc := 4) (u := 32) (q := 0) dX12_passes_4 xf12_7 (sa_32_0 hs) rfl (sr_32_0_1 hs) ?_
  refine e_iconst (pc := 7) dX12_passes_7 (x_R rfl) ?_
  refine f_iald (pc := 8) (k := 0) (u := 32) (q := 1) (len := 772) dX12_passes_8 (sa_32_1 hs) (by decide) hn rfl rfl (by decide) ?_
  show Ev g _ _ _ _ _ _ 9 [some (x_r (16 * 32 + 0)), some (x_i a), some (x_i v1), none] [x_i (S2 1 3), x_i v1] (al, ro, fl (ml M [32] [S2])) _ _ _ _
  refine e_icmp_ge (pc := 9) (tgt := 23) dX12_passes_9 (by decide) (fun hb => ?_) (fun hb => ?_)
  · rw [if_pos hb] at hf4
    cases hf4
    refine e_drop (i := 2) ?_
    have hh := hk4 _ (hx4 _ rfl)
    try dsimp only at hh
    exact hh
  · rw [if_neg hb] at hf4
    refine e_aloadn (pc := 12) (i := 0) dX12_passes_12 rfl rfl ?_
    refine e_iloadn (pc := 13) (i := 2) dX12_passes_13 rfl rfl ?_
    obtain ⟨S6, hq6, hf4⟩ := x_bd1 hf4
    refine e_invV (pc := 14) (K1 := 0) (S1 := 0) (K := 0) (S := 0) (dd2 := 44) (av := [x_i v1]) (st := []) (id := 16 * 32 + 0) dX12_passes_14 xmX12_280 rfl (Or.inl ⟨10, 27, TX12, (sa_32_0 hs), rfl, by decide⟩) (f_cal (M := M) (us2 := [32]) [0] hn rfl (And.intro rfl trivial) rfl rfl rfl (c_X12_walks hst hs   hq6)) (by decide) (Nat.le_of_ble_eq_true rfl) (Or.inl rfl) ?_
    show Ev g _ _ _ _ _ _ 17 [some (x_r (16 * 32 + 0)), some (x_i a), some (x_i v1), none] [] (al, ro, fl (ml M [32] [S6])) _ _ _ _
    refine e_iinc (pc := 17) dX12_passes_17 rfl (by decide) rfl ?_
    show Ev g _ _ _ _ _ _ 20 [some (x_r (16 * 32 + 0)), some (x_i a), some (x_i (x_add v1 1)), none] [] (al, ro, fl (ml M [32] [S6])) _ _ _ _
    refine e_goto (pc := 20) (tgt := 2) dX12_passes_20 (by decide) ?_
    cases hf4
    have hh := hi4 _ rfl
    try dsimp only at hh
    exact hh
set_option maxRecDepth 100000 in
set_option maxHeartbeats 4000000 in
theorem c_X12_goes {g : xG} {al : List (Nat × Nat × Nat)} {ro : Nat → Nat → Option Nat} (hst : g.1.stackTraces = false) (hs : SH al ro) {M : Nat → xU} {a : Int} {b : Int} {S : xU}  {t : (Int × xU)} (hG : G12_goes a b S = some t) :
    Cal g yX12_goes cX12_goes 5 (some .int) 46 [x_r (16 * 32 + 0), x_i a, x_i b] (al, ro, fl (ml M [32] [S])) 0 0 (.inl (some (x_i t.1))) (al, ro, fl (ml M [32] [t.2])) := by
  have hn : ([32] : List Nat).Nodup := by decide
  refine cal_of_ev (plainFor_of_name (by decide)) (x_c1 rfl) (Nat.le_of_ble_eq_true rfl) hst ?_
  show Ev g _ _ _ _ _ _ 0 [some (x_r (16 * 32 + 0)), some (x_i a), some (x_i b), none, none] [] (al, ro, fl (ml M [32] [S])) _ _ _ _
  rw [G12_goes] at hG
  refine e_iconst (pc := 0) dX12_goes_0 (x_R rfl) ?_
  refine e_istoren (pc := 1) (i := 3) dX12_goes_1 rfl (by decide) rfl ?_
  show Ev g _ _ _ _ _ _ 2 [some (x_r (16 * 32 + 0)), some (x_i a), some (x_i b), some (x_i 0), none] [] (al, ro, fl (ml M [32] [S])) _ _ _ _
  refine e_iconst (pc := 2) dX12_goes_2 (x_R rfl) ?_
  refine e_istore (pc := 3) (i := 4) dX12_goes_3 (by decide) rfl ?_
  show Ev g _ _ _ _ _ _ 5 [some (x_r (16 * 32 + 0)), some (x_i a), some (x_i b), some (x_i 0), some (x_i 0)] [] (al, ro, fl (ml M [32] [S])) _ _ _ _
  obtain ⟨v4, S5, hl6, hG⟩ := x_bd2 hG
  have hk6 : ∀ q : (Int × xU), q = (v4, S5) → Ev g yX12_goes cX12_goes 5 (some .int) [] 46 25 [some (x_r (16 * 32 + 0)), some (x_i a), some (x_i b), some (x_i q.1), none] [] (al, ro, fl (ml M [32] [q.2])) 0 0 (.inl (some (x_i t.1))) (al, ro, fl (ml M [32] [t.2])) := by
    intro q hq
    cases hq
    refine e_iloadn (pc := 25) (i := 3) dX12_goes_25 rfl rfl ?_
    cases hG
    exact (e_ireturn rfl dX12_goes_26 rfl)
  clear hG
  refine e_whl (G12_goes_L5 a b) (fun z : (Int × Int × xU) => Ev g yX12_goes cX12_goes 5 (some .int) [] 46 5 [some (x_r (16 * 32 + 0)), some (x_i a), some (x_i b), some (x_i z.1), some (x_i z.2.1)] [] (al, ro, fl (ml M [32] [z.2.2])) 0 0 (.inl (some (x_i t.1))) (al, ro, fl (ml M [32] [t.2]))) (fun q => q = (v4, S5)) ?_ xFU (0, 0, S) _ hl6 rfl
  intro z t6 hf6 hi6 hx6
  obtain ⟨v1, v2, S3⟩ := z
  rw [G12_goes_L5] at hf6
  show Ev g _ _ _ _ _ _ 5 [some (x_r (16 * 32 + 0)), some (x_i a), some (x_i b), some (x_i v1), some (x_i v2)] [] (al, ro, fl (ml M [32] [S3])) _ _ _ _
  refine e_iload (pc := 5) dX12_goes_5 rfl ?_
  refine e_iloadn (pc := 7) (i := 1) dX12_goes_7 rfl rfl ?_
  refine e_icmp_ge (pc := 8) (tgt := 25) dX12_goes_8 (by decide) (fun hb => ?_) (fun hb => ?_)
  · rw [if_pos hb] at hf6
    cases hf6
    refine e_drop (i := 4) ?_
    have hh := hk6 _ (hx6 _ rfl)
    try dsimp only at hh
    exact hh
  · rw [if_neg hb] at hf6
    refine e_iloadn (pc := 11) (i := 3) dX12_goes_11 rfl rfl ?_
    refine e_aloadn (pc := 12) (i := 0) dX12_goes_12 rfl rfl ?_
    refine e_iloadn (pc := 13) (i := 2) dX12_goes_13 rfl rfl ?_
    obtain ⟨v8, S9, hq9, hf6⟩ := x_bd2 hf6
    refine e_invV (pc := 14) (K1 := 0) (S1 := 0) (K := 0) (S := 0) (dd2 := 45) (av := [x_i b]) (st := [x_i v1]) (id := 16 * 32 + 0) dX12_goes_14 xmX12_292 rfl (Or.inl ⟨10, 27, TX12, (sa_32_0 hs), rfl, by decide⟩) (f_cal (M := M) (us2 := [32]) [0] hn rfl (And.intro rfl trivial) rfl rfl rfl (c_X12_passes hst hs   hq9)) (by decide) (Nat.le_of_ble_eq_true rfl) (Or.inl rfl) ?_
    show Ev g _ _ _ _ _ _ 17 [some (x_r (16 * 32 + 0)), some (x_i a), some (x_i b), some (x_i v1), some (x_i v2)] [x_i v8, x_i v1] (al, ro, fl (ml M [32] [S9])) _ _ _ _
    refine e_iadd (pc := 17) dX12_goes_17 ?_
    refine e_istoren (pc := 18) (i := 3) dX12_goes_18 rfl (by decide) rfl ?_
    show Ev g _ _ _ _ _ _ 19 [some (x_r (16 * 32 + 0)), some (x_i a), some (x_i b), some (x_i (x_add v1 v8)), some (x_i v2)] [] (al, ro, fl (ml M [32] [S9])) _ _ _ _
    refine e_iinc (pc := 19) dX12_goes_19 rfl (by decide) rfl ?_
    show Ev g _ _ _ _ _ _ 22 [some (x_r (16 * 32 + 0)), some (x_i a), some (x_i b), some (x_i (x_add v1 v8)), some (x_i (x_add v2 1))] [] (al, ro, fl (ml M [32] [S9])) _ _ _ _
    refine e_goto (pc := 22) (tgt := 5) dX12_goes_22 (by decide) ?_
    cases hf6
    have hh := hi6 _ rfl
    try dsimp only at hh
    exact hh
