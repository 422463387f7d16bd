set_option maxRecDepth 100000 in
set_option maxHeartbeats 4000000 in
theorem c_X12_feed {g : xG} {al : List (Nat × Nat × Nat)} {ro : Nat → Nat → Option Nat} (hst : g.1.stackTraces = false) (hs : SH al ro) {M : Nat → xU} {a : Int} {b : Int} {c : Int} {d : Int} {e : Int} {S : xU}  {t : (Int × xU)} (hG : G12_feed a b c d e S = some t) :
    Cal g yX12_feed cX12_feed 8 (some .int) 0 [x_r (16 * 32 + 0), x_i a, x_i b, x_i c, x_i d, x_i e] (al, ro, fl (ml M [32] [S])) 0 0 (.inl (some (x_i t.1))) (al, ro, fl (ml M [32] [t.2])) := by
  have hn : ([32] : List Nat).Nodup := by decide
  refine cal_of_ev (plainFor_of_name (by decide)) (x_c1 rfl) (Nat.le_of_ble_eq_true rfl) hst ?_
  show Ev g _ _ _ _ _ _ 0 [some (x_r (16 * 32 + 0)), some (x_i a), some (x_i b), some (x_i c), some (x_i d), some (x_i e), none, none] [] (al, ro, fl (ml M [32] [S])) _ _ _ _
  rw [G12_feed] at hG
  refine e_aloadn (pc := 0) (i := 0) dX12_feed_0 rfl rfl ?_
  refine e_iconst (pc := 1) dX12_feed_1 (x_R rfl) ?_
  refine f_puti (pc := 2) (k := 0) (u := 32) (q := 0) dX12_feed_2 xf12_58 xw10_0 (sa_32_0 hs) hn rfl rfl rfl (by decide) ?_
  show Ev g _ _ _ _ _ _ 5 [some (x_r (16 * 32 + 0)), some (x_i a), some (x_i b), some (x_i c), some (x_i d), some (x_i e), none, none] [] (al, ro, fl (ml M [32] [(x_up S 0 0 0)])) _ _ _ _
  refine e_aloadn (pc := 5) (i := 0) dX12_feed_5 rfl rfl ?_
  refine f_geti (pc := 6) (k := 0) (u := 32) (q := 0) dX12_feed_6 xf12_76 (sa_32_0 hs) rfl hn rfl rfl (by decide) ?_
  show Ev g _ _ _ _ _ _ 9 [some (x_r (16 * 32 + 0)), some (x_i a), some (x_i b), some (x_i c), some (x_i d), some (x_i e), none, none] [x_i ((x_up S 0 0 0) 0 8)] (al, ro, fl (ml M [32] [(x_up S 0 0 0)])) _ _ _ _
  refine e_bipush (pc := 9) dX12_feed_9 (by decide +kernel) (x_R rfl) ?_
  refine e_iadd (pc := 11) dX12_feed_11 ?_
  refine e_sipush (pc := 12) dX12_feed_12 (by decide +kernel) (x_R rfl) ?_
  refine e_icmp_le (pc := 15) (tgt := 20) dX12_feed_15 (by decide) (fun hb => ?_) (fun hb => ?_)
  · rw [if_pos hb] at hG
    refine e_iconst (pc := 20) dX12_feed_20 (x_R rfl) ?_
    refine e_istore (pc := 21) (i := 6) dX12_feed_21 (by decide) rfl ?_
    show Ev g _ _ _ _ _ _ 23 [some (x_r (16 * 32 + 0)), some (x_i a), some (x_i b), some (x_i c), some (x_i d), some (x_i e), some (x_i 0), none] [] (al, ro, fl (ml M [32] [(x_up S 0 0 0)])) _ _ _ _
    obtain ⟨S3, hl4, hG⟩ := x_bd1 hG
    have hk4 : ∀ q : xU, q = S3 → Ev g yX12_feed cX12_feed 8 (some .int) [] 0 120 [some (x_r (16 * 32 + 0)), some (x_i a), some (x_i b), some (x_i c), some (x_i d), some (x_i e), none, none] [] (al, ro, fl (ml M [32] [q])) 0 0 (.inl (some (x_i t.1))) (al, ro, fl (ml M [32] [t.2])) := by
      intro q hq
      replace hq := hq.symm
      subst hq
      refine e_aloadn (pc := 120) (i := 0) dX12_feed_120 rfl rfl ?_
      refine f_geti (pc := 121) (k := 0) (u := 32) (q := 0) dX12_feed_121 xf12_76 (sa_32_0 hs) rfl hn rfl rfl (by decide) ?_
      show Ev g _ _ _ _ _ _ 124 [some (x_r (16 * 32 + 0)), some (x_i a), some (x_i b), some (x_i c), some (x_i d), some (x_i e), none, none] [x_i (S3 0 8)] (al, ro, fl (ml M [32] [S3])) _ _ _ _
      cases hG
      exact (e_ireturn rfl dX12_feed_124 rfl)
    clear hG
    refine e_whl (G12_feed_L23 a b c d e) (fun z : (Int × xU) => Ev g yX12_feed cX12_feed 8 (some .int) [] 0 23 [some (x_r (16 * 32 + 0)), some (x_i a), some (x_i b), some (x_i c), some (x_i d), some (x_i e), some (x_i z.1), none] [] (al, ro, fl (ml M [32] [z.2])) 0 0 (.inl (some (x_i t.1))) (al, ro, fl (ml M [32] [t.2]))) (fun q => q = S3) ?_ xFU (0, (x_up S 0 0 0)) _ hl4 rfl
    intro z t4 hf4 hi4 hx4
    obtain ⟨v1, S2⟩ := z
    rw [G12_feed_L23] at hf4
    show Ev g _ _ _ _ _ _ 23 [some (x_r (16 * 32 + 0)), some (x_i a), some (x_i b), some (x_i c), some (x_i d), some (x_i e), some (x_i v1), none] [] (al, ro, fl (ml M [32] [S2])) _ _ _ _
    refine e_iload (pc := 23) dX12_feed_23 rfl ?_
    refine e_bipush (pc := 25) dX12_feed_25 (by decide +kernel) (x_R rfl) ?_
    refine e_icmp_ge (pc := 27) (tgt := 120) dX12_feed_27 (by decide) (fun hb => ?_) (fun hb => ?_)
    · rw [if_pos hb] at hf4
      cases hf4
      refine e_drop (i := 6) ?_
      have hh := hk4 _ (hx4 _ rfl)
      try dsimp only at hh
      exact hh
    · rw [if_neg hb] at hf4
      refine e_iload (pc := 30) dX12_feed_30 rfl ?_
      refine e_iconst (pc := 32) dX12_feed_32 (x_R rfl) ?_
      obtain ⟨v6, hr6, hf4⟩ := x_bd1 hf4
      have hjhr6 : Ev g yX12_feed cX12_feed 8 (some .int) [] 0 76 [some (x_r (16 * 32 + 0)), some (x_i a), some (x_i b), some (x_i c), some (x_i d), some (x_i e), some (x_i v1), none] [x_i v6] (al, ro, fl (ml M [32] [S2])) 0 0 (.inl (some (x_i t.1))) (al, ro, fl (ml M [32] [t.2])) := by
        refine e_istore (pc := 76) (i := 7) dX12_feed_76 (by decide) rfl ?_
        show Ev g _ _ _ _ _ _ 78 [some (x_r (16 * 32 + 0)), some (x_i a), some (x_i b), some (x_i c), some (x_i d), some (x_i e), some (x_i v1), some (x_i v6)] [] (al, ro, fl (ml M [32] [S2])) _ _ _ _
        refine e_aloadn (pc := 78) (i := 0) dX12_feed_78 rfl rfl ?_
        refine f_getr (pc := 79) (u := 32) (q := 0) dX12_feed_79 xf12_22 (sa_32_0 hs) rfl (sr_32_0_7 hs) ?_
        refine e_aloadn (pc := 82) (i := 0) dX12_feed_82 rfl rfl ?_
        refine f_geti (pc := 83) (k := 0) (u := 32) (q := 0) dX12_feed_83 xf12_76 (sa_32_0 hs) rfl hn rfl rfl (by decide) ?_
        show Ev g _ _ _ _ _ _ 86 [some (x_r (16 * 32 + 0)), some (x_i a), some (x_i b), some (x_i c), some (x_i d), some (x_i e), some (x_i v1), some (x_i v6)] [x_i (S2 0 8), x_r (16 * 32 + 5)] (al, ro, fl (ml M [32] [S2])) _ _ _ _
        refine e_iload (pc := 86) dX12_feed_86 rfl ?_
        refine e_bipush (pc := 88) dX12_feed_88 (by decide +kernel) (x_R rfl) ?_
        refine e_bipush (pc := 90) dX12_feed_90 (by decide +kernel) (x_R rfl) ?_
        refine e_iload (pc := 92) dX12_feed_92 rfl ?_
        refine e_iconst (pc := 94) dX12_feed_94 (x_R rfl) ?_
        refine e_irem (pc := 95) dX12_feed_95 (by decide) ?_
        refine e_imul (pc := 96) dX12_feed_96 ?_
        refine e_isub (pc := 97) dX12_feed_97 ?_
        refine e_iushr (pc := 98) dX12_feed_98 ?_
        refine e_sipush (pc := 99) dX12_feed_99 (by decide +kernel) (x_R rfl) ?_
        refine e_iand (pc := 102) dX12_feed_102 ?_
        obtain ⟨hc0, hf4⟩ := x_gd_some hf4
        refine f_iast (pc := 103) (k := 0) (u := 32) (q := 5) (len := 400) dX12_feed_103 (sa_32_5 hs) hc0 hn rfl rfl rfl (by decide) ?_
        show Ev g _ _ _ _ _ _ 104 [some (x_r (16 * 32 + 0)), some (x_i a), some (x_i b), some (x_i c), some (x_i d), some (x_i e), some (x_i v1), some (x_i v6)] [] (al, ro, fl (ml M [32] [(x_up S2 5 ((S2 0 8)).toNat (x_and (x_ush v6 (x_sub 24 (x_mul 8 (x_rem v1 4)))) 255))])) _ _ _ _
        refine e_aloadn (pc := 104) (i := 0) dX12_feed_104 rfl rfl ?_
        refine e_dup (pc := 105) dX12_feed_105 rfl ?_
        refine f_geti (pc := 106) (k := 0) (u := 32) (q := 0) dX12_feed_106 xf12_76 (sa_32_0 hs) rfl hn rfl rfl (by decide) ?_
        show Ev g _ _ _ _ _ _ 109 [some (x_r (16 * 32 + 0)), some (x_i a), some (x_i b), some (x_i c), some (x_i d), some (x_i e), some (x_i v1), some (x_i v6)] [x_i ((x_up S2 5 ((S2 0 8)).toNat (x_and (x_ush v6 (x_sub 24 (x_mul 8 (x_rem v1 4)))) 255)) 0 8), x_r (16 * 32 + 0)] (al, ro, fl (ml M [32] [(x_up S2 5 ((S2 0 8)).toNat (x_and (x_ush v6 (x_sub 24 (x_mul 8 (x_rem v1 4)))) 255))])) _ _ _ _
        refine e_iconst (pc := 109) dX12_feed_109 (x_R rfl) ?_
        refine e_iadd (pc := 110) dX12_feed_110 ?_
        refine f_puti (pc := 111) (k := 0) (u := 32) (q := 0) dX12_feed_111 xf12_76 xw10_8 (sa_32_0 hs) hn rfl rfl rfl (by decide) ?_
        show Ev g _ _ _ _ _ _ 114 [some (x_r (16 * 32 + 0)), some (x_i a), some (x_i b), some (x_i c), some (x_i d), some (x_i e), some (x_i v1), some (x_i v6)] [] (al, ro, fl (ml M [32] [(x_up (x_up S2 5 ((S2 0 8)).toNat (x_and (x_ush v6 (x_sub 24 (x_mul 8 (x_rem v1 4)))) 255)) 0 8 (x_add ((x_up S2 5 ((S2 0 8)).toNat (x_and (x_ush v6 (x_sub 24 (x_mul 8 (x_rem v1 4)))) 255)) 0 8) 1))])) _ _ _ _
        refine e_iinc (pc := 114) dX12_feed_114 rfl (by decide) rfl ?_
        show Ev g _ _ _ _ _ _ 117 [some (x_r (16 * 32 + 0)), some (x_i a), some (x_i b), some (x_i c), some (x_i d), some (x_i e), some (x_i (x_add v1 1)), some (x_i v6)] [] (al, ro, fl (ml M [32] [(x_up (x_up S2 5 ((S2 0 8)).toNat (x_and (x_ush v6 (x_sub 24 (x_mul 8 (x_rem v1 4)))) 255)) 0 8 (x_add ((x_up S2 5 ((S2 0 8)).toNat (x_and (x_ush v6 (x_sub 24 (x_mul 8 (x_rem v1 4)))) 255)) 0 8) 1))])) _ _ _ _
        refine e_goto (pc := 117) (tgt := 23) dX12_feed_117 (by decide) ?_
        cases hf4
        refine e_drop (i := 7) ?_
        have hh := hi4 _ rfl
        try dsimp only at hh
        exact hh
      clear hf4
      refine e_icmp_ge (pc := 33) (tgt := 40) dX12_feed_33 (by decide) (fun hb => ?_) (fun hb => ?_)
      · rw [if_pos hb] at hr6
        refine e_iload (pc := 40) dX12_feed_40 rfl ?_
        refine e_bipush (pc := 42) dX12_feed_42 (by decide +kernel) (x_R rfl) ?_
        refine e_icmp_ge (pc := 44) (tgt := 51) dX12_feed_44 (by decide) (fun hb => ?_) (fun hb => ?_)
        · rw [if_pos hb] at hr6
          refine e_iload (pc := 51) dX12_feed_51 rfl ?_
          refine e_bipush (pc := 53) dX12_feed_53 (by decide +kernel) (x_R rfl) ?_
          refine e_icmp_ge (pc := 55) (tgt := 62) dX12_feed_55 (by decide) (fun hb => ?_) (fun hb => ?_)
          · rw [if_pos hb] at hr6
            refine e_iload (pc := 62) dX12_feed_62 rfl ?_
            refine e_bipush (pc := 64) dX12_feed_64 (by decide +kernel) (x_R rfl) ?_
            refine e_icmp_ge (pc := 66) (tgt := 74) dX12_feed_66 (by decide) (fun hb => ?_) (fun hb => ?_)
            · rw [if_pos hb] at hr6
              refine e_iload (pc := 74) dX12_feed_74 rfl ?_
              cases hr6
              exact hjhr6
            · rw [if_neg hb] at hr6
              refine e_iload (pc := 69) dX12_feed_69 rfl ?_
              refine e_goto (pc := 71) (tgt := 76) dX12_feed_71 (by decide) ?_
              cases hr6
              exact hjhr6
          · rw [if_neg hb] at hr6
            refine e_iloadn (pc := 58) (i := 3) dX12_feed_58 rfl rfl ?_
            refine e_goto (pc := 59) (tgt := 76) dX12_feed_59 (by decide) ?_
            cases hr6
            exact hjhr6
        · rw [if_neg hb] at hr6
          refine e_iloadn (pc := 47) (i := 2) dX12_feed_47 rfl rfl ?_
          refine e_goto (pc := 48) (tgt := 76) dX12_feed_48 (by decide) ?_
          cases hr6
          exact hjhr6
      · rw [if_neg hb] at hr6
        refine e_iloadn (pc := 36) (i := 1) dX12_feed_36 rfl rfl ?_
        refine e_goto (pc := 37) (tgt := 76) dX12_feed_37 (by decide) ?_
        cases hr6
        exact hjhr6
  · rw [if_neg hb] at hG
    refine e_iconst (pc := 18) dX12_feed_18 (x_R rfl) ?_
    cases hG
    exact (e_ireturn rfl dX12_feed_19 rfl)
set_option maxRecDepth 100000 in
set_option maxHeartbeats 4000000 in
theorem c_X12_end {g : xG} {al : List (Nat × Nat × Nat)} {ro : Nat → Nat → Option Nat} (hst : g.1.stackTraces = false) (hs : SH al ro) {M : Nat → xU} {a : Int} {S : xU}  {t : (Int × xU)} (hG : G12_end a S = some t) :
    Cal g yX12_end cX12_end 2 (some .boolean) 1 [x_r (16 * 32 + 0), x_i a] (al, ro, fl (ml M [32] [S])) 0 0 (.inl (some (x_i t.1))) (al, ro, fl (ml M [32] [t.2])) := by
  have hn : ([32] : List Nat).Nodup := by decide
  refine cal_of_ev (plainFor_of_name (by decide)) (x_c1 rfl) (Nat.le_of_ble_eq_true rfl) hst ?_
  show Ev g _ _ _ _ _ _ 0 [some (x_r (16 * 32 + 0)), some (x_i a)] [] (al, ro, fl (ml M [32] [S])) _ _ _ _
  rw [G12_end] at hG
  refine e_aloadn (pc := 0) (i := 0) dX12_end_0 rfl rfl ?_
  refine e_iconst (pc := 1) dX12_end_1 (x_R rfl) ?_
  refine f_puti (pc := 2) (k := 0) (u := 32) (q := 0) dX12_end_2 xf12_58 xw10_0 (sa_32_0 hs) hn rfl rfl rfl (by decide) ?_
  show Ev g _ _ _ _ _ _ 5 [some (x_r (16 * 32 + 0)), some (x_i a)] [] (al, ro, fl (ml M [32] [(x_up S 0 0 0)])) _ _ _ _
  refine e_iloadn (pc := 5) (i := 1) dX12_end_5 rfl rfl ?_
  refine e_iconst (pc := 6) dX12_end_6 (x_R rfl) ?_
  refine e_aloadn (pc := 7) (i := 0) dX12_end_7 rfl rfl ?_
  refine f_geti (pc := 8) (k := 0) (u := 32) (q := 0) dX12_end_8 xf12_76 (sa_32_0 hs) rfl hn rfl rfl (by decide) ?_
  show Ev g _ _ _ _ _ _ 11 [some (x_r (16 * 32 + 0)), some (x_i a)] [x_i ((x_up S 0 0 0) 0 8), x_i 0, x_i a] (al, ro, fl (ml M [32] [(x_up S 0 0 0)])) _ _ _ _
  obtain ⟨v1, hq1, hG⟩ := x_bd1 hG
  refine e_invS (pc := 11) (K1 := 0) (S1 := 0) (K := 0) (S := 0) (dd2 := 0) (av := [x_i a, x_i 0, x_i ((x_up S 0 0 0) 0 8)]) (st := []) dX12_end_11 xmX12_61 rfl (f_cal (M := M) (us2 := []) [] hn rfl trivial rfl rfl rfl (c_X12_isIn hst hs   hq1)) (by decide) (Nat.le_of_ble_eq_true rfl) (Or.inl rfl) ?_
  show Ev g _ _ _ _ _ _ 14 [some (x_r (16 * 32 + 0)), some (x_i a)] [x_i v1] (al, ro, fl (ml M [32] [(x_up S 0 0 0)])) _ _ _ _
  refine e_if_ne (pc := 14) (tgt := 19) dX12_end_14 (by decide) (fun hb => ?_) (fun hb => ?_)
  · rw [if_neg hb] at hG
    refine e_aloadn (pc := 19) (i := 0) dX12_end_19 rfl rfl ?_
    refine e_iloadn (pc := 20) (i := 1) dX12_end_20 rfl rfl ?_
    refine f_puti (pc := 21) (k := 0) (u := 32) (q := 0) dX12_end_21 xf12_76 xw10_8 (sa_32_0 hs) hn rfl rfl rfl (by decide) ?_
    show Ev g _ _ _ _ _ _ 24 [some (x_r (16 * 32 + 0)), some (x_i a)] [] (al, ro, fl (ml M [32] [(x_up (x_up S 0 0 0) 0 8 a)])) _ _ _ _
    refine e_iconst (pc := 24) dX12_end_24 (x_R rfl) ?_
    cases hG
    exact (e_ireturn rfl dX12_end_25 (x_bool (by decide)).1)
  · rw [if_pos hb] at hG
    refine e_iconst (pc := 17) dX12_end_17 (x_R rfl) ?_
    cases hG
    exact (e_ireturn rfl dX12_end_18 (x_bool (by decide)).1)
set_option maxRecDepth 100000 in
set_option maxHeartbeats 4000000 in
theorem c_X12_after {g : xG} {al : List (Nat × Nat × Nat)} {ro : Nat → Nat → Option Nat} (hst : g.1.stackTraces = false) (hs : SH al ro) {M : Nat → xU} {w : Nat} {a : Int} {b : Int} {S : xU} (hw : w < x_nS)  {t : (Int × xU)} (hG : G12_after w a b S = some t) :
    Cal g yX12_after cX12_after 4 (some .int) 7 [x_r (16 * 32 + 0), x_r (x_s0 + w), x_i a, x_i b] (al, ro, fl (ml M [32] [S])) 0 0 (.inl (some (x_i t.1))) (al, ro, fl (ml M [32] [t.2])) := by
  have hn : ([32] : List Nat).Nodup := by decide
  refine cal_of_ev (plainFor_of_name (by decide)) (x_c1 rfl) (Nat.le_of_ble_eq_true rfl) hst ?_
  show Ev g _ _ _ _ _ _ 0 [some (x_r (16 * 32 + 0)), some (x_r (x_s0 + w)), some (x_i a), some (x_i b)] [] (al, ro, fl (ml M [32] [S])) _ _ _ _
  rw [G12_after] at hG
  refine e_aloadn (pc := 0) (i := 0) dX12_after_0 rfl rfl ?_
  refine f_geti (pc := 1) (k := 0) (u := 32) (q := 0) dX12_after_1 xf12_25 (sa_32_0 hs) rfl hn rfl rfl (by decide) ?_
  show Ev g _ _ _ _ _ _ 4 [some (x_r (16 * 32 + 0)), some (x_r (x_s0 + w)), some (x_i a), some (x_i b)] [x_i (S 0 12)] (al, ro, fl (ml M [32] [S])) _ _ _ _
  refine e_iconst (pc := 4) dX12_after_4 (x_R rfl) ?_
  obtain ⟨S1, hr1, hG⟩ := x_bd1 hG
  have hjhr1 : Ev g yX12_after cX12_after 4 (some .int) [] 7 24 [some (x_r (16 * 32 + 0)), some (x_r (x_s0 + w)), some (x_i a), some (x_i b)] [] (al, ro, fl (ml M [32] [S1])) 0 0 (.inl (some (x_i t.1))) (al, ro, fl (ml M [32] [t.2])) := by
    refine e_aloadn (pc := 24) (i := 0) dX12_after_24 rfl rfl ?_
    refine e_iloadn (pc := 25) (i := 2) dX12_after_25 rfl rfl ?_
    refine e_iloadn (pc := 26) (i := 3) dX12_after_26 rfl rfl ?_
    obtain ⟨v8, S9, hq9, hG⟩ := x_bd2 hG
    refine e_invV (pc := 27) (K1 := 0) (S1 := 0) (K := 0) (S := 0) (dd2 := 3) (av := [x_i a, x_i b]) (st := []) (id := 16 * 32 + 0) dX12_after_27 xmX12_116 rfl (Or.inl ⟨10, 27, TX12, (sa_32_0 hs), rfl, by decide⟩) (f_cal (M := M) (us2 := [32]) [0] hn rfl (And.intro rfl trivial) rfl rfl rfl (c_X12_figures hst hs   hq9)) (by decide) (Nat.le_of_ble_eq_true rfl) (Or.inl rfl) ?_
    show Ev g _ _ _ _ _ _ 30 [some (x_r (16 * 32 + 0)), some (x_r (x_s0 + w)), some (x_i a), some (x_i b)] [x_i v8] (al, ro, fl (ml M [32] [S9])) _ _ _ _
    cases hG
    exact (e_ireturn rfl dX12_after_30 rfl)
  clear hG
  refine e_icmp_ne (pc := 5) (tgt := 24) dX12_after_5 (by decide) (fun hb => ?_) (fun hb => ?_)
  · rw [if_neg hb] at hr1
    cases hr1
    exact hjhr1
  · rw [if_pos hb] at hr1
    refine e_aloadn (pc := 8) (i := 0) dX12_after_8 rfl rfl ?_
    refine e_aloadn (pc := 9) (i := 1) dX12_after_9 rfl rfl ?_
    obtain ⟨v3, S4, hq4, hr1⟩ := x_bd2 hr1
    refine e_invV (pc := 10) (K1 := 0) (S1 := 0) (K := 0) (S := 0) (dd2 := 6) (av := [x_r (x_s0 + w)]) (st := []) (id := 16 * 32 + 0) dX12_after_10 xmX12_112 rfl (Or.inl ⟨10, 27, TX12, (sa_32_0 hs), rfl, by decide⟩) (f_cal (M := M) (us2 := [32]) [0] hn rfl (And.intro rfl trivial) rfl rfl rfl (c_X12_has hst hs  hw hq4)) (by decide) (Nat.le_of_ble_eq_true rfl) (Or.inl rfl) ?_
    show Ev g _ _ _ _ _ _ 13 [some (x_r (16 * 32 + 0)), some (x_r (x_s0 + w)), some (x_i a), some (x_i b)] [x_i v3] (al, ro, fl (ml M [32] [S4])) _ _ _ _
    refine e_if_ne (pc := 13) (tgt := 24) dX12_after_13 (by decide) (fun hb => ?_) (fun hb => ?_)
    · rw [if_neg hb] at hr1
      cases hr1
      exact hjhr1
    · rw [if_pos hb] at hr1
      refine e_aloadn (pc := 16) (i := 0) dX12_after_16 rfl rfl ?_
      refine e_aloadn (pc := 17) (i := 0) dX12_after_17 rfl rfl ?_
      refine f_geti (pc := 18) (k := 0) (u := 32) (q := 0) dX12_after_18 xf12_82 (sa_32_0 hs) rfl hn rfl rfl (by decide) ?_
      show Ev g _ _ _ _ _ _ 21 [some (x_r (16 * 32 + 0)), some (x_r (x_s0 + w)), some (x_i a), some (x_i b)] [x_i (S4 0 11), x_r (16 * 32 + 0)] (al, ro, fl (ml M [32] [S4])) _ _ _ _
      obtain ⟨S6, hq6, hr1⟩ := x_bd1 hr1
      refine e_invV (pc := 21) (K1 := 0) (S1 := 0) (K := 0) (S := 0) (dd2 := 0) (av := [x_i (S4 0 11)]) (st := []) (id := 16 * 32 + 0) dX12_after_21 xmX12_108 rfl (Or.inl ⟨10, 27, TX12, (sa_32_0 hs), rfl, by decide⟩) (f_cal (M := M) (us2 := [32]) [0] hn rfl (And.intro rfl trivial) rfl rfl rfl (c_X12_wrong hst hs   hq6)) (by decide) (Nat.le_of_ble_eq_true rfl) (Or.inl rfl) ?_
      show Ev g _ _ _ _ _ _ 24 [some (x_r (16 * 32 + 0)), some (x_r (x_s0 + w)), some (x_i a), some (x_i b)] [] (al, ro, fl (ml M [32] [S6])) _ _ _ _
      cases hr1
      exact hjhr1
set_option maxRecDepth 100000 in
set_option maxHeartbeats 4000000 in
theorem c_X12_isStall {g : xG} {al : List (Nat × Nat × Nat)} {ro : Nat → Nat → Option Nat} (hst : g.1.stackTraces = false) (hs : SH al ro) {M : Nat → xU} {a : Int} {S : xU}  {t : Int} (hG : G12_isStall a S = some t) :
    Cal g yX12_isStall cX12_isStall 4 (some .boolean) 1 [x_r (16 * 32 + 0), x_i a] (al, ro, fl (ml M [32] [S])) 0 0 (.inl (some (x_i t))) (al, ro, fl (ml M [32] [S])) := by
  have hn : ([32] : List Nat).Nodup := by decide
  refine cal_of_ev (plainFor_of_name (by decide)) (x_c1 rfl) (Nat.le_of_ble_eq_true rfl) hst ?_
  show Ev g _ _ _ _ _ _ 0 [some (x_r (16 * 32 + 0)), some (x_i a), none, none] [] (al, ro, fl (ml M [32] [S])) _ _ _ _
  rw [G12_isStall] at hG
  refine e_iconst (pc := 0) dX12_isStall_0 (x_R rfl) ?_
  refine e_istoren (pc := 1) (i := 2) dX12_isStall_1 rfl (by decide) rfl ?_
  show Ev g _ _ _ _ _ _ 2 [some (x_r (16 * 32 + 0)), some (x_i a), some (x_i 0), none] [] (al, ro, fl (ml M [32] [S])) _ _ _ _
  refine e_iconst (pc := 2) dX12_isStall_2 (x_R rfl) ?_
  refine e_istoren (pc := 3) (i := 3) dX12_isStall_3 rfl (by decide) rfl ?_
  show Ev g _ _ _ _ _ _ 4 [some (x_r (16 * 32 + 0)), some (x_i a), some (x_i 0), some (x_i 0)] [] (al, ro, fl (ml M [32] [S])) _ _ _ _
  obtain ⟨v3, hl4, hG⟩ := x_bd1 hG
  have hk4 : ∀ q : Int, q = v3 → Ev g yX12_isStall cX12_isStall 4 (some .boolean) [] 1 40 [some (x_r (16 * 32 + 0)), some (x_i a), some (x_i q), none] [] (al, ro, fl (ml M [32] [S])) 0 0 (.inl (some (x_i t))) (al, ro, fl (ml M [32] [S])) := by
    intro q hq
    replace hq := hq.symm
    subst hq
    refine e_iloadn (pc := 40) (i := 2) dX12_isStall_40 rfl rfl ?_
    obtain ⟨hc0, hG⟩ := x_gd_some hG
    cases hG
    exact (e_ireturn rfl dX12_isStall_41 (x_bool hc0).1)
  clear hG
  refine e_whl (G12_isStall_L4 a S) (fun z : (Int × Int) => Ev g yX12_isStall cX12_isStall 4 (some .boolean) [] 1 4 [some (x_r (16 * 32 + 0)), some (x_i a), some (x_i z.1), some (x_i z.2)] [] (al, ro, fl (ml M [32] [S])) 0 0 (.inl (some (x_i t))) (al, ro, fl (ml M [32] [S]))) (fun q => q = v3) ?_ xFU (0, 0) _ hl4 rfl
  intro z t4 hf4 hi4 hx4
  obtain ⟨v1, v2⟩ := z
  rw [G12_isStall_L4] at hf4
  show Ev g _ _ _ _ _ _ 4 [some (x_r (16 * 32 + 0)), some (x_i a), some (x_i v1), some (x_i v2)] [] (al, ro, fl (ml M [32] [S])) _ _ _ _
  refine e_iloadn (pc := 4) (i := 3) dX12_isStall_4 rfl rfl ?_
  refine e_aloadn (pc := 5) (i := 0) dX12_isStall_5 rfl rfl ?_
  refine f_getr (pc := 6) (u := 32) (q := 0) dX12_isStall_6 xf12_7 (sa_32_0 hs) rfl (sr_32_0_1 hs) ?_
  refine e_iconst (pc := 9) dX12_isStall_9 (x_R rfl) ?_
  refine f_iald (pc := 10) (k := 0) (u := 32) (q := 1) (len := 772) dX12_isStall_10 (sa_32_1 hs) (by decide) hn rfl rfl (by decide) ?_
  show Ev g _ _ _ _ _ _ 11 [some (x_r (16 * 32 + 0)), some (x_i a), some (x_i v1), some (x_i v2)] [x_i (S 1 3), x_i v2] (al, ro, fl (ml M [32] [S])) _ _ _ _
  refine e_icmp_ge (pc := 11) (tgt := 40) dX12_isStall_11 (by decide) (fun hb => ?_) (fun hb => ?_)
  · rw [if_pos hb] at hf4
    cases hf4
    refine e_drop (i := 3) ?_
    have hh := hk4 _ (hx4 _ rfl)
    try dsimp only at hh
    exact hh
  · rw [if_neg hb] at hf4
    refine e_iloadn (pc := 14) (i := 2) dX12_isStall_14 rfl rfl ?_
    obtain ⟨v6, hr6, hf4⟩ := x_bd1 hf4
    have hjhr6 : Ev g yX12_isStall cX12_isStall 4 (some .boolean) [] 1 33 [some (x_r (16 * 32 + 0)), some (x_i a), some (x_i v1), some (x_i v2)] [x_i v6] (al, ro, fl (ml M [32] [S])) 0 0 (.inl (some (x_i t))) (al, ro, fl (ml M [32] [S])) := by
      refine e_istoren (pc := 33) (i := 2) dX12_isStall_33 rfl (by decide) rfl ?_
      show Ev g _ _ _ _ _ _ 34 [some (x_r (16 * 32 + 0)), some (x_i a), some (x_i v6), some (x_i v2)] [] (al, ro, fl (ml M [32] [S])) _ _ _ _
      refine e_iinc (pc := 34) dX12_isStall_34 rfl (by decide) rfl ?_
      show Ev g _ _ _ _ _ _ 37 [some (x_r (16 * 32 + 0)), some (x_i a), some (x_i v6), some (x_i (x_add v2 1))] [] (al, ro, fl (ml M [32] [S])) _ _ _ _
      refine e_goto (pc := 37) (tgt := 4) dX12_isStall_37 (by decide) ?_
      cases hf4
      have hh := hi4 _ rfl
      try dsimp only at hh
      exact hh
    clear hf4
    refine e_if_ne (pc := 15) (tgt := 28) dX12_isStall_15 (by decide) (fun hb => ?_) (fun hb => ?_)
    · rw [if_neg hb] at hr6
      refine e_iconst (pc := 28) dX12_isStall_28 (x_R rfl) ?_
      refine e_goto (pc := 29) (tgt := 33) dX12_isStall_29 (by decide) ?_
      cases hr6
      exact hjhr6
    · rw [if_pos hb] at hr6
      refine e_aloadn (pc := 18) (i := 0) dX12_isStall_18 rfl rfl ?_
      refine e_iloadn (pc := 19) (i := 3) dX12_isStall_19 rfl rfl ?_
      refine e_iconst (pc := 20) dX12_isStall_20 (x_R rfl) ?_
      obtain ⟨v8, hq8, hr6⟩ := x_bd1 hr6
      refine e_invV (pc := 21) (K1 := 0) (S1 := 0) (K := 0) (S := 0) (dd2 := 0) (av := [x_i v2, x_i 2]) (st := []) (id := 16 * 32 + 0) dX12_isStall_21 xmX12_65 rfl (Or.inl ⟨10, 27, TX12, (sa_32_0 hs), rfl, by decide⟩) (f_cal (M := M) (us2 := [32]) [0] hn rfl (And.intro rfl trivial) rfl rfl rfl (c_X12_of hst hs   hq8)) (by decide) (Nat.le_of_ble_eq_true rfl) (Or.inl rfl) ?_
      show Ev g _ _ _ _ _ _ 24 [some (x_r (16 * 32 + 0)), some (x_i a), some (x_i v1), some (x_i v2)] [x_i v8] (al, ro, fl (ml M [32] [S])) _ _ _ _
      refine e_iloadn (pc := 24) (i := 1) dX12_isStall_24 rfl rfl ?_
      refine e_icmp_ne (pc := 25) (tgt := 32) dX12_isStall_25 (by decide) (fun hb => ?_) (fun hb => ?_)
      · rw [if_neg hb] at hr6
        refine e_iconst (pc := 32) dX12_isStall_32 (x_R rfl) ?_
        cases hr6
        exact hjhr6
      · rw [if_pos hb] at hr6
        refine e_iconst (pc := 28) dX12_isStall_28 (x_R rfl) ?_
        refine e_goto (pc := 29) (tgt := 33) dX12_isStall_29 (by decide) ?_
        cases hr6
        exact hjhr6
set_option maxRecDepth 100000 in
set_option maxHeartbeats 4000000 in
theorem c_X12_months {g : xG} {al : List (Nat × Nat × Nat)} {ro : Nat → Nat → Option Nat} (hst : g.1.stackTraces = false) (hs : SH al ro) {M : Nat → xU} {S : xU}  {t : (Int × xU)} (hG : G12_months S = some t) :
    Cal g yX12_months cX12_months 6 (some .int) 3 [x_r (16 * 32 + 0)] (al, ro, fl (ml M [32] [S])) 0 0 (.inl (some (x_i t.1))) (al, ro, fl (ml M [32] [t.2])) := by
  have hn : ([32] : List Nat).Nodup := by decide
  refine cal_of_ev (plainFor_of_name (by decide)) (x_c1 rfl) (Nat.le_of_ble_eq_true rfl) hst ?_
  show Ev g _ _ _ _ _ _ 0 [some (x_r (16 * 32 + 0)), none, none, none, none, none] [] (al, ro, fl (ml M [32] [S])) _ _ _ _
  rw [G12_months] at hG
  refine e_aloadn (pc := 0) (i := 0) dX12_months_0 rfl rfl ?_
  refine f_geti (pc := 1) (k := 0) (u := 32) (q := 0) dX12_months_1 xf12_25 (sa_32_0 hs) rfl hn rfl rfl (by decide) ?_
  show Ev g _ _ _ _ _ _ 4 [some (x_r (16 * 32 + 0)), none, none, none, none, none] [x_i (S 0 12)] (al, ro, fl (ml M [32] [S])) _ _ _ _
  refine e_iconst (pc := 4) dX12_months_4 (x_R rfl) ?_
  refine e_icmp_eq (pc := 5) (tgt := 10) dX12_months_5 (by decide) (fun hb => ?_) (fun hb => ?_)
  · rw [if_pos hb] at hG
    refine e_aloadn (pc := 10) (i := 0) dX12_months_10 rfl rfl ?_
    obtain ⟨v1, S2, hq2, hG⟩ := x_bd2 hG
    refine e_invV (pc := 11) (K1 := 0) (S1 := 0) (K := 0) (S := 0) (dd2 := 2) (av := []) (st := []) (id := 16 * 32 + 0) dX12_months_11 xmX12_105 rfl (Or.inl ⟨10, 27, TX12, (sa_32_0 hs), rfl, by decide⟩) (f_cal (M := M) (us2 := [32]) [0] hn rfl (And.intro rfl trivial) rfl rfl rfl (c_X12_here hst hs   hq2)) (by decide) (Nat.le_of_ble_eq_true rfl) (Or.inl rfl) ?_
    show Ev g _ _ _ _ _ _ 14 [some (x_r (16 * 32 + 0)), none, none, none, none, none] [x_i v1] (al, ro, fl (ml M [32] [S2])) _ _ _ _
    refine e_istoren (pc := 14) (i := 1) dX12_months_14 rfl (by decide) rfl ?_
    show Ev g _ _ _ _ _ _ 15 [some (x_r (16 * 32 + 0)), some (x_i v1), none, none, none, none] [] (al, ro, fl (ml M [32] [S2])) _ _ _ _
    refine e_iconst (pc := 15) dX12_months_15 (x_R rfl) ?_
    refine e_istoren (pc := 16) (i := 2) dX12_months_16 rfl (by decide) rfl ?_
    show Ev g _ _ _ _ _ _ 17 [some (x_r (16 * 32 + 0)), some (x_i v1), some (x_i 0), none, none, none] [] (al, ro, fl (ml M [32] [S2])) _ _ _ _
    refine e_iconst (pc := 17) dX12_months_17 (x_R rfl) ?_
    refine e_istoren (pc := 18) (i := 3) dX12_months_18 rfl (by decide) rfl ?_
    show Ev g _ _ _ _ _ _ 19 [some (x_r (16 * 32 + 0)), some (x_i v1), some (x_i 0), some (x_i 1), none, none] [] (al, ro, fl (ml M [32] [S2])) _ _ _ _
    refine e_iloadn (pc := 19) (i := 1) dX12_months_19 rfl rfl ?_
    refine e_istore (pc := 20) (i := 4) dX12_months_20 (by decide) rfl ?_
    show Ev g _ _ _ _ _ _ 22 [some (x_r (16 * 32 + 0)), some (x_i v1), some (x_i 0), some (x_i 1), some (x_i v1), none] [] (al, ro, fl (ml M [32] [S2])) _ _ _ _
    obtain ⟨v7, v8, v9, hl10, hG⟩ := x_bd3 hG
    have hk10 : ∀ q : (Int × Int × Int), q = (v7, v8, v9) → Ev g yX12_months cX12_months 6 (some .int) [] 3 108 [some (x_r (16 * 32 + 0)), some (x_i v1), some (x_i q.1), some (x_i q.2.1), some (x_i q.2.2), none] [] (al, ro, fl (ml M [32] [S2])) 0 0 (.inl (some (x_i t.1))) (al, ro, fl (ml M [32] [t.2])) := by
      intro q hq
      cases hq
      refine e_iloadn (pc := 108) (i := 3) dX12_months_108 rfl rfl ?_
      obtain ⟨S24, hr24, hG⟩ := x_bd1 hG
      have hjhr24 : Ev g yX12_months cX12_months 6 (some .int) [] 3 130 [some (x_r (16 * 32 + 0)), some (x_i v1), some (x_i v7), some (x_i v8), some (x_i v9), none] [] (al, ro, fl (ml M [32] [S24])) 0 0 (.inl (some (x_i t.1))) (al, ro, fl (ml M [32] [t.2])) := by
        refine e_iloadn (pc := 130) (i := 2) dX12_months_130 rfl rfl ?_
        cases hG
        exact (e_ireturn rfl dX12_months_131 rfl)
      clear hG
      refine e_if_eq (pc := 109) (tgt := 116) dX12_months_109 (by decide) (fun hb => ?_) (fun hb => ?_)
      · rw [if_pos hb] at hr24
        refine e_aloadn (pc := 116) (i := 0) dX12_months_116 rfl rfl ?_
        refine e_iloadn (pc := 117) (i := 1) dX12_months_117 rfl rfl ?_
        obtain ⟨S26, hq26, hr24⟩ := x_bd1 hr24
        refine e_invV (pc := 118) (K1 := 0) (S1 := 0) (K := 0) (S := 0) (dd2 := 0) (av := [x_i v1]) (st := []) (id := 16 * 32 + 0) dX12_months_118 xmX12_108 rfl (Or.inl ⟨10, 27, TX12, (sa_32_0 hs), rfl, by decide⟩) (f_cal (M := M) (us2 := [32]) [0] hn rfl (And.intro rfl trivial) rfl rfl rfl (c_X12_wrong hst hs   hq26)) (by decide) (Nat.le_of_ble_eq_true rfl) (Or.inl rfl) ?_
        show Ev g _ _ _ _ _ _ 121 [some (x_r (16 * 32 + 0)), some (x_i v1), some (x_i v7), some (x_i v8), some (x_i v9), none] [] (al, ro, fl (ml M [32] [S26])) _ _ _ _
        refine e_goto (pc := 121) (tgt := 130) dX12_months_121 (by decide) ?_
        cases hr24
        exact hjhr24
      · rw [if_neg hb] at hr24
        refine e_iloadn (pc := 112) (i := 2) dX12_months_112 rfl rfl ?_
        refine e_if_ne (pc := 113) (tgt := 124) dX12_months_113 (by decide) (fun hb => ?_) (fun hb => ?_)
        · rw [if_neg hb] at hr24
          refine e_aloadn (pc := 124) (i := 0) dX12_months_124 rfl rfl ?_
          refine e_iload (pc := 125) dX12_months_125 rfl ?_
          refine f_puti (pc := 127) (k := 0) (u := 32) (q := 0) dX12_months_127 xf12_82 xw10_11 (sa_32_0 hs) hn rfl rfl rfl (by decide) ?_
          show Ev g _ _ _ _ _ _ 130 [some (x_r (16 * 32 + 0)), some (x_i v1), some (x_i v7), some (x_i v8), some (x_i v9), none] [] (al, ro, fl (ml M [32] [(x_up S2 0 11 v9)])) _ _ _ _
          cases hr24
          exact hjhr24
        · rw [if_pos hb] at hr24
          refine e_aloadn (pc := 116) (i := 0) dX12_months_116 rfl rfl ?_
          refine e_iloadn (pc := 117) (i := 1) dX12_months_117 rfl rfl ?_
          obtain ⟨S28, hq28, hr24⟩ := x_bd1 hr24
          refine e_invV (pc := 118) (K1 := 0) (S1 := 0) (K := 0) (S := 0) (dd2 := 0) (av := [x_i v1]) (st := []) (id := 16 * 32 + 0) dX12_months_118 xmX12_108 rfl (Or.inl ⟨10, 27, TX12, (sa_32_0 hs), rfl, by decide⟩) (f_cal (M := M) (us2 := [32]) [0] hn rfl (And.intro rfl trivial) rfl rfl rfl (c_X12_wrong hst hs   hq28)) (by decide) (Nat.le_of_ble_eq_true rfl) (Or.inl rfl) ?_
          show Ev g _ _ _ _ _ _ 121 [some (x_r (16 * 32 + 0)), some (x_i v1), some (x_i v7), some (x_i v8), some (x_i v9), none] [] (al, ro, fl (ml M [32] [S28])) _ _ _ _
          refine e_goto (pc := 121) (tgt := 130) dX12_months_121 (by decide) ?_
          cases hr24
          exact hjhr24
    clear hG
    refine e_whl (G12_months_L22 S2) (fun z : (Int × Int × Int) => Ev g yX12_months cX12_months 6 (some .int) [] 3 22 [some (x_r (16 * 32 + 0)), some (x_i v1), some (x_i z.1), some (x_i z.2.1), some (x_i z.2.2), none] [] (al, ro, fl (ml M [32] [S2])) 0 0 (.inl (some (x_i t.1))) (al, ro, fl (ml M [32] [t.2]))) (fun q => q = (v7, v8, v9)) ?_ xFU (0, 1, v1) _ hl10 rfl
    intro z t10 hf10 hi10 hx10
    obtain ⟨v4, v5, v6⟩ := z
    rw [G12_months_L22] at hf10
    show Ev g _ _ _ _ _ _ 22 [some (x_r (16 * 32 + 0)), some (x_i v1), some (x_i v4), some (x_i v5), some (x_i v6), none] [] (al, ro, fl (ml M [32] [S2])) _ _ _ _
    refine e_iload (pc := 22) dX12_months_22 rfl ?_
    refine e_aloadn (pc := 24) (i := 0) dX12_months_24 rfl rfl ?_
    refine f_geti (pc := 25) (k := 0) (u := 32) (q := 0) dX12_months_25 xf12_85 (sa_32_0 hs) rfl hn rfl rfl (by decide) ?_
    show Ev g _ _ _ _ _ _ 28 [some (x_r (16 * 32 + 0)), some (x_i v1), some (x_i v4), some (x_i v5), some (x_i v6), none] [x_i (S2 0 10), x_i v6] (al, ro, fl (ml M [32] [S2])) _ _ _ _
    refine e_icmp_ge (pc := 28) (tgt := 108) dX12_months_28 (by decide) (fun hb => ?_) (fun hb => ?_)
    · rw [if_pos hb] at hf10
      cases hf10
      have hh := hk10 _ (hx10 _ rfl)
      try dsimp only at hh
      exact hh
    · rw [if_neg hb] at hf10
      refine e_aloadn (pc := 31) (i := 0) dX12_months_31 rfl rfl ?_
      refine e_iload (pc := 32) dX12_months_32 rfl ?_
      obtain ⟨v12, hq12, hf10⟩ := x_bd1 hf10
      refine e_invV (pc := 34) (K1 := 0) (S1 := 0) (K := 0) (S := 0) (dd2 := 0) (av := [x_i v6]) (st := []) (id := 16 * 32 + 0) dX12_months_34 xmX12_88 rfl (Or.inl ⟨10, 27, TX12, (sa_32_0 hs), rfl, by decide⟩) (f_cal (M := M) (us2 := [32]) [0] hn rfl (And.intro rfl trivial) rfl rfl rfl (c_X12_letter hst hs   hq12)) (by decide) (Nat.le_of_ble_eq_true rfl) (Or.inl rfl) ?_
      show Ev g _ _ _ _ _ _ 37 [some (x_r (16 * 32 + 0)), some (x_i v1), some (x_i v4), some (x_i v5), some (x_i v6), none] [x_i v12] (al, ro, fl (ml M [32] [S2])) _ _ _ _
      refine e_bipush (pc := 37) dX12_months_37 (by decide +kernel) (x_R rfl) ?_
      refine e_bipush (pc := 39) dX12_months_39 (by decide +kernel) (x_R rfl) ?_
      obtain ⟨v14, hq14, hf10⟩ := x_bd1 hf10
      refine e_invS (pc := 41) (K1 := 0) (S1 := 0) (K := 0) (S := 0) (dd2 := 0) (av := [x_i v12, x_i 97, x_i 122]) (st := []) dX12_months_41 xmX12_61 rfl (f_cal (M := M) (us2 := []) [] hn rfl trivial rfl rfl rfl (c_X12_isIn hst hs   hq14)) (by decide) (Nat.le_of_ble_eq_true rfl) (Or.inl rfl) ?_
      show Ev g _ _ _ _ _ _ 44 [some (x_r (16 * 32 + 0)), some (x_i v1), some (x_i v4), some (x_i v5), some (x_i v6), none] [x_i v14] (al, ro, fl (ml M [32] [S2])) _ _ _ _
      refine e_if_eq (pc := 44) (tgt := 108) dX12_months_44 (by decide) (fun hb => ?_) (fun hb => ?_)
      · rw [if_pos hb] at hf10
        cases hf10
        have hh := hk10 _ (hx10 _ rfl)
        try dsimp only at hh
        exact hh
      · rw [if_neg hb] at hf10
        refine e_aloadn (pc := 47) (i := 0) dX12_months_47 rfl rfl ?_
        refine e_iload (pc := 48) dX12_months_48 rfl ?_
        obtain ⟨v16, hq16, hf10⟩ := x_bd1 hf10
        refine e_invV (pc := 50) (K1 := 0) (S1 := 0) (K := 0) (S := 0) (dd2 := 0) (av := [x_i v6]) (st := []) (id := 16 * 32 + 0) dX12_months_50 xmX12_88 rfl (Or.inl ⟨10, 27, TX12, (sa_32_0 hs), rfl, by decide⟩) (f_cal (M := M) (us2 := [32]) [0] hn rfl (And.intro rfl trivial) rfl rfl rfl (c_X12_letter hst hs   hq16)) (by decide) (Nat.le_of_ble_eq_true rfl) (Or.inl rfl) ?_
        show Ev g _ _ _ _ _ _ 53 [some (x_r (16 * 32 + 0)), some (x_i v1), some (x_i v4), some (x_i v5), some (x_i v6), none] [x_i v16] (al, ro, fl (ml M [32] [S2])) _ _ _ _
        refine e_bipush (pc := 53) dX12_months_53 (by decide +kernel) (x_R rfl) ?_
        refine e_isub (pc := 55) dX12_months_55 ?_
        refine e_istore (pc := 56) (i := 5) dX12_months_56 (by decide) rfl ?_
        show Ev g _ _ _ _ _ _ 58 [some (x_r (16 * 32 + 0)), some (x_i v1), some (x_i v4), some (x_i v5), some (x_i v6), some (x_i (x_sub v16 97))] [] (al, ro, fl (ml M [32] [S2])) _ _ _ _
        refine e_iloadn (pc := 58) (i := 3) dX12_months_58 rfl rfl ?_
        obtain ⟨v18, hr18, hf10⟩ := x_bd1 hf10
        have hjhr18 : Ev g yX12_months cX12_months 6 (some .int) [] 3 83 [some (x_r (16 * 32 + 0)), some (x_i v1), some (x_i v4), some (x_i v5), some (x_i v6), some (x_i (x_sub v16 97))] [x_i v18] (al, ro, fl (ml M [32] [S2])) 0 0 (.inl (some (x_i t.1))) (al, ro, fl (ml M [32] [t.2])) := by
          refine e_istoren (pc := 83) (i := 3) dX12_months_83 rfl (by decide) rfl ?_
          show Ev g _ _ _ _ _ _ 84 [some (x_r (16 * 32 + 0)), some (x_i v1), some (x_i v4), some (x_i v18), some (x_i v6), some (x_i (x_sub v16 97))] [] (al, ro, fl (ml M [32] [S2])) _ _ _ _
          refine e_iloadn (pc := 84) (i := 2) dX12_months_84 rfl rfl ?_
          refine e_iload (pc := 85) dX12_months_85 rfl ?_
          refine e_bipush (pc := 87) dX12_months_87 (by decide +kernel) (x_R rfl) ?_
          obtain ⟨v22, hr22, hf10⟩ := x_bd1 hf10
          have hjhr22 : Ev g yX12_months cX12_months 6 (some .int) [] 3 100 [some (x_r (16 * 32 + 0)), some (x_i v1), some (x_i v4), some (x_i v18), some (x_i v6), some (x_i (x_sub v16 97))] [x_i v22, x_i v4] (al, ro, fl (ml M [32] [S2])) 0 0 (.inl (some (x_i t.1))) (al, ro, fl (ml M [32] [t.2])) := by
            refine e_ior (pc := 100) dX12_months_100 ?_
            refine e_istoren (pc := 101) (i := 2) dX12_months_101 rfl (by decide) rfl ?_
            show Ev g _ _ _ _ _ _ 102 [some (x_r (16 * 32 + 0)), some (x_i v1), some (x_i (x_or v4 v22)), some (x_i v18), some (x_i v6), some (x_i (x_sub v16 97))] [] (al, ro, fl (ml M [32] [S2])) _ _ _ _
            refine e_iinc (pc := 102) dX12_months_102 rfl (by decide) rfl ?_
            show Ev g _ _ _ _ _ _ 105 [some (x_r (16 * 32 + 0)), some (x_i v1), some (x_i (x_or v4 v22)), some (x_i v18), some (x_i (x_add v6 1)), some (x_i (x_sub v16 97))] [] (al, ro, fl (ml M [32] [S2])) _ _ _ _
            refine e_goto (pc := 105) (tgt := 22) dX12_months_105 (by decide) ?_
            cases hf10
            refine e_drop (i := 5) ?_
            have hh := hi10 _ rfl
            try dsimp only at hh
            exact hh
          clear hf10
          refine e_icmp_ge (pc := 89) (tgt := 99) dX12_months_89 (by decide) (fun hb => ?_) (fun hb => ?_)
          · rw [if_pos hb] at hr22
            refine e_iconst (pc := 99) dX12_months_99 (x_R rfl) ?_
            cases hr22
            exact hjhr22
          · rw [if_neg hb] at hr22
            refine e_iconst (pc := 92) dX12_months_92 (x_R rfl) ?_
            refine e_iload (pc := 93) dX12_months_93 rfl ?_
            refine e_ishl (pc := 95) dX12_months_95 ?_
            refine e_goto (pc := 96) (tgt := 100) dX12_months_96 (by decide) ?_
            cases hr22
            exact hjhr22
        clear hf10
        refine e_if_eq (pc := 59) (tgt := 82) dX12_months_59 (by decide) (fun hb => ?_) (fun hb => ?_)
        · rw [if_pos hb] at hr18
          refine e_iconst (pc := 82) dX12_months_82 (x_R rfl) ?_
          cases hr18
          exact hjhr18
        · rw [if_neg hb] at hr18
          refine e_iload (pc := 62) dX12_months_62 rfl ?_
          refine e_bipush (pc := 64) dX12_months_64 (by decide +kernel) (x_R rfl) ?_
          refine e_icmp_ge (pc := 66) (tgt := 82) dX12_months_66 (by decide) (fun hb => ?_) (fun hb => ?_)
          · rw [if_pos hb] at hr18
            refine e_iconst (pc := 82) dX12_months_82 (x_R rfl) ?_
            cases hr18
            exact hjhr18
          · rw [if_neg hb] at hr18
            refine e_iloadn (pc := 69) (i := 2) dX12_months_69 rfl rfl ?_
            refine e_iload (pc := 70) dX12_months_70 rfl ?_
            obtain ⟨v20, hq20, hr18⟩ := x_bd1 hr18
            refine e_invS (pc := 72) (K1 := 0) (S1 := 0) (K := 0) (S := 0) (dd2 := 0) (av := [x_i v4, x_i (x_sub v16 97)]) (st := []) dX12_months_72 xmX12_119 rfl (f_cal (M := M) (us2 := []) [] hn rfl trivial rfl rfl rfl (c_X12_isOf hst hs   hq20)) (by decide) (Nat.le_of_ble_eq_true rfl) (Or.inl rfl) ?_
            show Ev g _ _ _ _ _ _ 75 [some (x_r (16 * 32 + 0)), some (x_i v1), some (x_i v4), some (x_i v5), some (x_i v6), some (x_i (x_sub v16 97))] [x_i v20] (al, ro, fl (ml M [32] [S2])) _ _ _ _
            refine e_if_ne (pc := 75) (tgt := 82) dX12_months_75 (by decide) (fun hb => ?_) (fun hb => ?_)
            · rw [if_neg hb] at hr18
              refine e_iconst (pc := 82) dX12_months_82 (x_R rfl) ?_
              cases hr18
              exact hjhr18
            · rw [if_pos hb] at hr18
              refine e_iconst (pc := 78) dX12_months_78 (x_R rfl) ?_
              refine e_goto (pc := 79) (tgt := 83) dX12_months_79 (by decide) ?_
              cases hr18
              exact hjhr18
  · rw [if_neg hb] at hG
    refine e_iconst (pc := 8) dX12_months_8 (x_R rfl) ?_
    cases hG
    exact (e_ireturn rfl dX12_months_9 rfl)
