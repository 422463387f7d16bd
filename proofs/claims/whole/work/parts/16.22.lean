set_option maxRecDepth 100000 in
set_option maxHeartbeats 4000000 in
theorem c_X12_months {g : xG} {al : List (Nat × Nat × Nat)} {ro : Nat → Nat → Option Nat} (hst : g.1.stackTraces = false) (hs : SH al ro) {M : Nat → xU} {S : xU}  {t : (Int × xU)} (hG : G12_months S = some t) :
    Cal g yX12_months cX12_months 6 (some .int) 3 [x_r (16 * 32 + 0)] (al, ro, fl (ml M [32] [S])) 0 0 (.inl (some (x_i t.1))) (al, ro, fl (ml M [32] [t.2])) := by
  have hn : ([32] : List Nat).Nodup := by decide
  refine cal_of_ev (plainFor_of_name (by decide)) (x_c1 rfl) (Nat.le_of_ble_eq_true rfl) hst ?_
  show Ev g _ _ _ _ _ _ 0 [some (x_r (16 * 32 + 0)), none, none, none, none, none] [] (al, ro, fl (ml M [32] [S])) _ _ _ _
  rw [G12_months] at hG
  refine e_aloadn (pc := 0) (i := 0) dX12_months_0 rfl rfl ?_
  refine f_geti (pc := 1) (k := 0) (u := 32) (q := 0) dX12_months_1 xf12_25 (sa_32_0 hs) rfl hn rfl rfl (by decide) ?_
  show Ev g _ _ _ _ _ _ 4 [some (x_r (16 * 32 + 0)), none, none, none, none, none] [x_i (S 0 12)] (al, ro, fl (ml M [32] [S])) _ _ _ _
  refine e_iconst (pc := 4) dX12_months_4 (x_R rfl) ?_
  refine e_icmp_eq (pc := 5) (tgt := 10) dX12_months_5 (by decide) (fun hb => ?_) (fun hb => ?_)
  · rw [if_pos hb] at hG
    refine e_aloadn (pc := 10) (i := 0) dX12_months_10 rfl rfl ?_
    obtain ⟨v1, S2, hq2, hG⟩ := x_bd2 hG
    refine e_invV (pc := 11) (K1 := 0) (S1 := 0) (K := 0) (S := 0) (dd2 := 2) (av := []) (st := []) (id := 16 * 32 + 0) dX12_months_11 xmX12_105 rfl (Or.inl ⟨10, 27, TX12, (sa_32_0 hs), rfl, by decide⟩) (f_cal (M := M) (us2 := [32]) [0] hn rfl (And.intro rfl trivial) rfl rfl rfl (c_X12_here hst hs   hq2)) (by decide) (Nat.le_of_ble_eq_true rfl) (Or.inl rfl) ?_
    show Ev g _ _ _ _ _ _ 14 [some (x_r (16 * 32 + 0)), none, none, none, none, none] [x_i v1] (al, ro, fl (ml M [32] [S2])) _ _ _ _
    refine e_istoren (pc := 14) (i := 1) dX12_months_14 rfl (by decide) rfl ?_
    show Ev g _ _ _ _ _ _ 15 [some (x_r (16 * 32 + 0)), some (x_i v1), none, none, none, none] [] (al, ro, fl (ml M [32] [S2])) _ _ _ _
    refine e_iconst (pc := 15) dX12_months_15 (x_R rfl) ?_
    refine e_istoren (pc := 16) (i := 2) dX12_months_16 rfl (by decide) rfl ?_
    show Ev g _ _ _ _ _ _ 17 [some (x_r (16 * 32 + 0)), some (x_i v1), some (x_i 0), none, none, none] [] (al, ro, fl (ml M [32] [S2])) _ _ _ _
    refine e_iconst (pc := 17) dX12_months_17 (x_R rfl) ?_
    refine e_istoren (pc := 18) (i := 3) dX12_months_18 rfl (by decide) rfl ?_
    show Ev g _ _ _ _ _ _ 19 [some (x_r (16 * 32 + 0)), some (x_i v1), some (x_i 0), some (x_i 1), none, none] [] (al, ro, fl (ml M [32] [S2])) _ _ _ _
    refine e_iloadn (pc := 19) (i := 1) dX12_months_19 rfl rfl ?_
    refine e_istore (pc := 20) (i := 4) dX12_months_20 (by decide) rfl ?_
    show Ev g _ _ _ _ _ _ 22 [some (x_r (16 * 32 + 0)), some (x_i v1), some (x_i 0), some (x_i 1), some (x_i v1), none] [] (al, ro, fl (ml M [32] [S2])) _ _ _ _
    obtain ⟨v7, v8, v9, hl10, hG⟩ := x_bd3 hG
    have hk10 : ∀ q : (Int × Int × Int), q = (v7, v8, v9) → Ev g yX12_months cX12_months 6 (some .int) [] 3 108 [some (x_r (16 * 32 + 0)), some (x_i v1), some (x_i q.1), some (x_i q.2.1), some (x_i q.2.2), none] [] (al, ro, fl (ml M [32] [S2])) 0 0 (.inl (some (x_i t.1))) (al, ro, fl (ml M [32] [t.2])) := by
      intro q hq
      cases hq
      refine e_iloadn (pc := 108) (i := 3) dX12_months_108 rfl rfl ?_
      obtain ⟨S24, hr24, hG⟩ := x_bd1 hG
      have hjhr24 : Ev g yX12_months cX12_months 6 (some .int) [] 3 130 [some (x_r (16 * 32 + 0)), some (x_i v1), some (x_i v7), some (x_i v8), some (x_i v9), none] [] (al, ro, fl (ml M [32] [S24])) 0 0 (.inl (some (x_i t.1))) (al, ro, fl (ml M [32] [t.2])) := by
        refine e_iloadn (pc := 130) (i := 2) dX12_months_130 rfl rfl ?_
        cases hG
        exact (e_ireturn rfl dX12_months_131 rfl)
      clear hG
      refine e_if_eq (pc := 109) (tgt := 116) dX12_months_109 (by decide) (fun hb => ?_) (fun hb => ?_)
      · rw [if_pos hb] at hr24
        refine e_aloadn (pc := 116) (i := 0) dX12_months_116 rfl rfl ?_
        refine e_iloadn (pc := 117) (i := 1) dX12_months_117 rfl rfl ?_
        obtain ⟨S26, hq26, hr24⟩ := x_bd1 hr24
        refine e_invV (pc := 118) (K1 := 0) (S1 := 0) (K := 0) (S := 0) (dd2 := 0) (av := [x_i v1]) (st := []) (id := 16 * 32 + 0) dX12_months_118 xmX12_108 rfl (Or.inl ⟨10, 27, TX12, (sa_32_0 hs), rfl, by decide⟩) (f_cal (M := M) (us2 := [32]) [0] hn rfl (And.intro rfl trivial) rfl rfl rfl (c_X12_wrong hst hs   hq26)) (by decide) (Nat.le_of_ble_eq_true rfl) (Or.inl rfl) ?_
        show Ev g _ _ _ _ _ _ 121 [some (x_r (16 * 32 + 0)), some (x_i v1), some (x_i v7), some (x_i v8), some (x_i v9), none] [] (al, ro, fl (ml M [32] [S26])) _ _ _ _
        refine e_goto (pc := 121) (tgt := 130) dX12_months_121 (by decide) ?_
        cases hr24
        exact hjhr24
      · rw [if_neg hb] at hr24
        refine e_iloadn (pc := 112) (i := 2) dX12_months_112 rfl rfl ?_
        refine e_if_ne (pc := 113) (tgt := 124) dX12_months_113 (by decide) (fun hb => ?_) (fun hb => ?_)
        · rw [if_neg hb] at hr24
          refine e_aloadn (pc := 124) (i := 0) dX12_months_124 rfl rfl ?_
          refine e_iload (pc := 125) dX12_months_125 rfl ?_
          refine f_puti (pc := 127) (k := 0) (u := 32) (q := 0) dX12_months_127 xf12_82 xw10_11 (sa_32_0 hs) hn rfl rfl rfl (by decide) ?_
          show Ev g _ _ _ _ _ _ 130 [some (x_r (16 * 32 + 0)), some (x_i v1), some (x_i v7), some (x_i v8), some (x_i v9), none] [] (al, ro, fl (ml M [32] [(x_up S2 0 11 v9)])) _ _ _ _
          cases hr24
          exact hjhr24
        · rw [if_pos hb] at hr24
          refine e_aloadn (pc := 116) (i := 0) dX12_months_116 rfl rfl ?_
          refine e_iloadn (pc := 117) (i := 1) dX12_months_117 rfl rfl ?_
          obtain ⟨S28, hq28, hr24⟩ := x_bd1 hr24
          refine e_invV (pc := 118) (K1 := 0) (S1 := 0) (K := 0) (S := 0) (dd2 := 0) (av := [x_i v1]) (st := []) (id := 16 * 32 + 0) dX12_months_118 xmX12_108 rfl (Or.inl ⟨10, 27, TX12, (sa_32_0 hs), rfl, by decide⟩) (f_cal (M := M) (us2 := [32]) [0] hn rfl (And.intro rfl trivial) rfl rfl rfl (c_X12_wrong hst hs   hq28)) (by decide) (Nat.le_of_ble_eq_true rfl) (Or.inl rfl) ?_
          show Ev g _ _ _ _ _ _ 121 [some (x_r (16 * 32 + 0)), some (x_i v1), some (x_i v7), some (x_i v8), some (x_i v9), none] [] (al, ro, fl (ml M [32] [S28])) _ _ _ _
          refine e_goto (pc := 121) (tgt := 130) dX12_months_121 (by decide) ?_
          cases hr24
          exact hjhr24
    clear hG
    refine e_whl (G12_months_L22 S2) (fun z : (Int × Int × Int) => Ev g yX12_months cX12_months 6 (some .int) [] 3 22 [some (x_r (16 * 32 + 0)), some (x_i v1), some (x_i z.1), some (x_i z.2.1), some (x_i z.2.2), none] [] (al, ro, fl (ml M [32] [S2])) 0 0 (.inl (some (x_i t.1))) (al, ro, fl (ml M [32] [t.2]))) (fun q => q = (v7, v8, v9)) ?_ xFU (0, 1, v1) _ hl10 rfl
    intro z t10 hf10 hi10 hx10
    obtain ⟨v4, v5, v6⟩ := z
    rw [G12_months_L22] at hf10
    show Ev g _ _ _ _ _ _ 22 [some (x_r (16 * 32 + 0)), some (x_i v1), some (x_i v4), some (x_i v5), some (x_i v6), none] [] (al, ro, fl (ml M [32] [S2])) _ _ _ _
    refine e_iload (pc := 22) dX12_months_22 rfl ?_
    refine e_aloadn (pc := 24) (i := 0) dX12_months_24 rfl rfl ?_
    refine f_geti (pc := 25) (k := 0) (u := 32) (q := 0) dX12_months_25 xf12_85 (sa_32_0 hs) rfl hn rfl rfl (by decide) ?_
    show Ev g _ _ _ _ _ _ 28 [some (x_r (16 * 32 + 0)), some (x_i v1), some (x_i v4), some (x_i v5), some (x_i v6), none] [x_i (S2 0 10), x_i v6] (al, ro, fl (ml M [32] [S2])) _ _ _ _
    refine e_icmp_ge (pc := 28) (tgt := 108) dX12_months_28 (by decide) (fun hb => ?_) (fun hb => ?_)
    · rw [if_pos hb] at hf10
      cases hf10
      exact hk10 _ (hx10 _ rfl)
    · rw [if_neg hb] at hf10
      refine e_aloadn (pc := 31) (i := 0) dX12_months_31 rfl rfl ?_
      refine e_iload (pc := 32) dX12_months_32 rfl ?_
      obtain ⟨v12, hq12, hf10⟩ := x_bd1 hf10
      refine e_invV (pc := 34) (K1 := 0) (S1 := 0) (K := 0) (S := 0) (dd2 := 0) (av := [x_i v6]) (st := []) (id := 16 * 32 + 0) dX12_months_34 xmX12_88 rfl (Or.inl ⟨10, 27, TX12, (sa_32_0 hs), rfl, by decide⟩) (f_cal (M := M) (us2 := [32]) [0] hn rfl (And.intro rfl trivial) rfl rfl rfl (c_X12_letter hst hs   hq12)) (by decide) (Nat.le_of_ble_eq_true rfl) (Or.inl rfl) ?_
      show Ev g _ _ _ _ _ _ 37 [some (x_r (16 * 32 + 0)), some (x_i v1), some (x_i v4), some (x_i v5), some (x_i v6), none] [x_i v12] (al, ro, fl (ml M [32] [S2])) _ _ _ _
      refine e_bipush (pc := 37) dX12_months_37 (by decide +kernel) (x_R rfl) ?_
      refine e_bipush (pc := 39) dX12_months_39 (by decide +kernel) (x_R rfl) ?_
      obtain ⟨v14, hq14, hf10⟩ := x_bd1 hf10
      refine e_invS (pc := 41) (K1 := 0) (S1 := 0) (K := 0) (S := 0) (dd2 := 0) (av := [x_i v12, x_i 97, x_i 122]) (st := []) dX12_months_41 xmX12_61 rfl (f_cal (M := M) (us2 := []) [] hn rfl trivial rfl rfl rfl (c_X12_isIn hst hs   hq14)) (by decide) (Nat.le_of_ble_eq_true rfl) (Or.inl rfl) ?_
      show Ev g _ _ _ _ _ _ 44 [some (x_r (16 * 32 + 0)), some (x_i v1), some (x_i v4), some (x_i v5), some (x_i v6), none] [x_i v14] (al, ro, fl (ml M [32] [S2])) _ _ _ _
      refine e_if_eq (pc := 44) (tgt := 108) dX12_months_44 (by decide) (fun hb => ?_) (fun hb => ?_)
      · rw [if_pos hb] at hf10
        cases hf10
        exact hk10 _ (hx10 _ rfl)
      · rw [if_neg hb] at hf10
        refine e_aloadn (pc := 47) (i := 0) dX12_months_47 rfl rfl ?_
        refine e_iload (pc := 48) dX12_months_48 rfl ?_
        obtain ⟨v16, hq16, hf10⟩ := x_bd1 hf10
        refine e_invV (pc := 50) (K1 := 0) (S1 := 0) (K := 0) (S := 0) (dd2 := 0) (av := [x_i v6]) (st := []) (id := 16 * 32 + 0) dX12_months_50 xmX12_88 rfl (Or.inl ⟨10, 27, TX12, (sa_32_0 hs), rfl, by decide⟩) (f_cal (M := M) (us2 := [32]) [0] hn rfl (And.intro rfl trivial) rfl rfl rfl (c_X12_letter hst hs   hq16)) (by decide) (Nat.le_of_ble_eq_true rfl) (Or.inl rfl) ?_
        show Ev g _ _ _ _ _ _ 53 [some (x_r (16 * 32 + 0)), some (x_i v1), some (x_i v4), some (x_i v5), some (x_i v6), none] [x_i v16] (al, ro, fl (ml M [32] [S2])) _ _ _ _
        refine e_bipush (pc := 53) dX12_months_53 (by decide +kernel) (x_R rfl) ?_
        refine e_isub (pc := 55) dX12_months_55 ?_
        refine e_istore (pc := 56) (i := 5) dX12_months_56 (by decide) rfl ?_
        show Ev g _ _ _ _ _ _ 58 [some (x_r (16 * 32 + 0)), some (x_i v1), some (x_i v4), some (x_i v5), some (x_i v6), some (x_i (x_sub v16 97))] [] (al, ro, fl (ml M [32] [S2])) _ _ _ _
        refine e_iloadn (pc := 58) (i := 3) dX12_months_58 rfl rfl ?_
        obtain ⟨v18, hr18, hf10⟩ := x_bd1 hf10
        have hjhr18 : Ev g yX12_months cX12_months 6 (some .int) [] 3 83 [some (x_r (16 * 32 + 0)), some (x_i v1), some (x_i v4), some (x_i v5), some (x_i v6), some (x_i (x_sub v16 97))] [x_i v18] (al, ro, fl (ml M [32] [S2])) 0 0 (.inl (some (x_i t.1))) (al, ro, fl (ml M [32] [t.2])) := by
          refine e_istoren (pc := 83) (i := 3) dX12_months_83 rfl (by decide) rfl ?_
          show Ev g _ _ _ _ _ _ 84 [some (x_r (16 * 32 + 0)), some (x_i v1), some (x_i v4), some (x_i v18), some (x_i v6), some (x_i (x_sub v16 97))] [] (al, ro, fl (ml M [32] [S2])) _ _ _ _
          refine e_iloadn (pc := 84) (i := 2) dX12_months_84 rfl rfl ?_
          refine e_iload (pc := 85) dX12_months_85 rfl ?_
          refine e_bipush (pc := 87) dX12_months_87 (by decide +kernel) (x_R rfl) ?_
          obtain ⟨v22, hr22, hf10⟩ := x_bd1 hf10
          have hjhr22 : Ev g yX12_months cX12_months 6 (some .int) [] 3 100 [some (x_r (16 * 32 + 0)), some (x_i v1), some (x_i v4), some (x_i v18), some (x_i v6), some (x_i (x_sub v16 97))] [x_i v22, x_i v4] (al, ro, fl (ml M [32] [S2])) 0 0 (.inl (some (x_i t.1))) (al, ro, fl (ml M [32] [t.2])) := by
            refine e_ior (pc := 100) dX12_months_100 ?_
            refine e_istoren (pc := 101) (i := 2) dX12_months_101 rfl (by decide) rfl ?_
            show Ev g _ _ _ _ _ _ 102 [some (x_r (16 * 32 + 0)), some (x_i v1), some (x_i (x_or v4 v22)), some (x_i v18), some (x_i v6), some (x_i (x_sub v16 97))] [] (al, ro, fl (ml M [32] [S2])) _ _ _ _
            refine e_iinc (pc := 102) dX12_months_102 rfl (by decide) rfl ?_
            show Ev g _ _ _ _ _ _ 105 [some (x_r (16 * 32 + 0)), some (x_i v1), some (x_i (x_or v4 v22)), some (x_i v18), some (x_i (x_add v6 1)), some (x_i (x_sub v16 97))] [] (al, ro, fl (ml M [32] [S2])) _ _ _ _
            refine e_goto (pc := 105) (tgt := 22) dX12_months_105 (by decide) ?_
            cases hf10
            refine e_drop (i := 5) ?_
            exact hi10 _ rfl
          clear hf10
          refine e_icmp_ge (pc := 89) (tgt := 99) dX12_months_89 (by decide) (fun hb => ?_) (fun hb => ?_)
          · rw [if_pos hb] at hr22
            refine e_iconst (pc := 99) dX12_months_99 (x_R rfl) ?_
            cases hr22
            exact hjhr22
          · rw [if_neg hb] at hr22
            refine e_iconst (pc := 92) dX12_months_92 (x_R rfl) ?_
            refine e_iload (pc := 93) dX12_months_93 rfl ?_
            refine e_ishl (pc := 95) dX12_months_95 ?_
            refine e_goto (pc := 96) (tgt := 100) dX12_months_96 (by decide) ?_
            cases hr22
            exact hjhr22
        clear hf10
        refine e_if_eq (pc := 59) (tgt := 82) dX12_months_59 (by decide) (fun hb => ?_) (fun hb => ?_)
        · rw [if_pos hb] at hr18
          refine e_iconst (pc := 82) dX12_months_82 (x_R rfl) ?_
          cases hr18
          exact hjhr18
        · rw [if_neg hb] at hr18
          refine e_iload (pc := 62) dX12_months_62 rfl ?_
          refine e_bipush (pc := 64) dX12_months_64 (by decide +kernel) (x_R rfl) ?_
          refine e_icmp_ge (pc := 66) (tgt := 82) dX12_months_66 (by decide) (fun hb => ?_) (fun hb => ?_)
          · rw [if_pos hb] at hr18
            refine e_iconst (pc := 82) dX12_months_82 (x_R rfl) ?_
            cases hr18
            exact hjhr18
          · rw [if_neg hb] at hr18
            refine e_iloadn (pc := 69) (i := 2) dX12_months_69 rfl rfl ?_
            refine e_iload (pc := 70) dX12_months_70 rfl ?_
            obtain ⟨v20, hq20, hr18⟩ := x_bd1 hr18
            refine e_invS (pc := 72) (K1 := 0) (S1 := 0) (K := 0) (S := 0) (dd2 := 0) (av := [x_i v4, x_i (x_sub v16 97)]) (st := []) dX12_months_72 xmX12_119 rfl (f_cal (M := M) (us2 := []) [] hn rfl trivial rfl rfl rfl (c_X12_isOf hst hs   hq20)) (by decide) (Nat.le_of_ble_eq_true rfl) (Or.inl rfl) ?_
            show Ev g _ _ _ _ _ _ 75 [some (x_r (16 * 32 + 0)), some (x_i v1), some (x_i v4), some (x_i v5), some (x_i v6), some (x_i (x_sub v16 97))] [x_i v20] (al, ro, fl (ml M [32] [S2])) _ _ _ _
            refine e_if_ne (pc := 75) (tgt := 82) dX12_months_75 (by decide) (fun hb => ?_) (fun hb => ?_)
            · rw [if_neg hb] at hr18
              refine e_iconst (pc := 82) dX12_months_82 (x_R rfl) ?_
              cases hr18
              exact hjhr18
            · rw [if_pos hb] at hr18
              refine e_iconst (pc := 78) dX12_months_78 (x_R rfl) ?_
              refine e_goto (pc := 79) (tgt := 83) dX12_months_79 (by decide) ?_
              cases hr18
              exact hjhr18
  · rw [if_neg hb] at hG
    refine e_iconst (pc := 8) dX12_months_8 (x_R rfl) ?_
    cases hG
    exact (e_ireturn rfl dX12_months_9 rfl)
set_option maxRecDepth 100000 in
set_option maxHeartbeats 4000000 in
theorem c_X12_monkLine {g : xG} {al : List (Nat × Nat × Nat)} {ro : Nat → Nat → Option Nat} (hst : g.1.stackTraces = false) (hs : SH al ro) {M : Nat → xU} {a : Int} {S : xU}  {t : xU} (hG : G12_monkLine a S = some t) :
    Cal g yX12_monkLine cX12_monkLine 10 none 8 [x_r (16 * 32 + 0), x_i a] (al, ro, fl (ml M [32] [S])) 0 0 (.inl none) (al, ro, fl (ml M [32] [t])) := by
  have hn : ([32] : List Nat).Nodup := by decide
  refine cal_of_ev (plainFor_of_name (by decide)) (x_c1 rfl) (Nat.le_of_ble_eq_true rfl) hst ?_
  show Ev g _ _ _ _ _ _ 0 [some (x_r (16 * 32 + 0)), some (x_i a), none, none, none, none, none, none, none, none] [] (al, ro, fl (ml M [32] [S])) _ _ _ _
  rw [G12_monkLine] at hG
  refine e_aloadn (pc := 0) (i := 0) dX12_monkLine_0 rfl rfl ?_
  refine f_getr (pc := 1) (u := 32) (q := 0) dX12_monkLine_1 xf12_7 (sa_32_0 hs) rfl (sr_32_0_1 hs) ?_
  refine e_iconst (pc := 4) dX12_monkLine_4 (x_R rfl) ?_
  refine f_iald (pc := 5) (k := 0) (u := 32) (q := 1) (len := 772) dX12_monkLine_5 (sa_32_1 hs) (by decide) hn rfl rfl (by decide) ?_
  show Ev g _ _ _ _ _ _ 6 [some (x_r (16 * 32 + 0)), some (x_i a), none, none, none, none, none, none, none, none] [x_i (S 1 3)] (al, ro, fl (ml M [32] [S])) _ _ _ _
  refine e_bipush (pc := 6) dX12_monkLine_6 (by decide +kernel) (x_R rfl) ?_
  obtain ⟨S1, hr1, hG⟩ := x_bd1 hG
  have hjhr1 : Ev g yX12_monkLine cX12_monkLine 10 none [] 8 16 [some (x_r (16 * 32 + 0)), some (x_i a), none, none, none, none, none, none, none, none] [] (al, ro, fl (ml M [32] [S1])) 0 0 (.inl none) (al, ro, fl (ml M [32] [t])) := by
    refine e_aloadn (pc := 16) (i := 0) dX12_monkLine_16 rfl rfl ?_
    refine e_ldcS (pc := 17) (i := 1) dX12_monkLine_17 (by decide +kernel) (by decide) ?_
    refine e_iconst (pc := 19) dX12_monkLine_19 (x_R rfl) ?_
    refine e_bipush (pc := 20) dX12_monkLine_20 (by decide +kernel) (x_R rfl) ?_
    obtain ⟨v5, S6, hq6, hG⟩ := x_bd2 hG
    refine e_invV (pc := 22) (K1 := 0) (S1 := 0) (K := 0) (S := 0) (dd2 := 7) (av := [x_r (x_s0 + 1), x_i 0, x_i 15]) (st := []) (id := 16 * 32 + 0) dX12_monkLine_22 xmX12_124 rfl (Or.inl ⟨10, 27, TX12, (sa_32_0 hs), rfl, by decide⟩) (f_cal (M := M) (us2 := [32]) [0] hn rfl (And.intro rfl trivial) rfl rfl rfl (c_X12_after hst hs  (by decide) hq6)) (by decide) (Nat.le_of_ble_eq_true rfl) (Or.inl rfl) ?_
    show Ev g _ _ _ _ _ _ 25 [some (x_r (16 * 32 + 0)), some (x_i a), none, none, none, none, none, none, none, none] [x_i v5] (al, ro, fl (ml M [32] [S6])) _ _ _ _
    refine e_istoren (pc := 25) (i := 2) dX12_monkLine_25 rfl (by decide) rfl ?_
    show Ev g _ _ _ _ _ _ 26 [some (x_r (16 * 32 + 0)), some (x_i a), some (x_i v5), none, none, none, none, none, none, none] [] (al, ro, fl (ml M [32] [S6])) _ _ _ _
    refine e_aloadn (pc := 26) (i := 0) dX12_monkLine_26 rfl rfl ?_
    refine f_geti (pc := 27) (k := 0) (u := 32) (q := 0) dX12_monkLine_27 xf12_25 (sa_32_0 hs) rfl hn rfl rfl (by decide) ?_
    show Ev g _ _ _ _ _ _ 30 [some (x_r (16 * 32 + 0)), some (x_i a), some (x_i v5), none, none, none, none, none, none, none] [x_i (S6 0 12)] (al, ro, fl (ml M [32] [S6])) _ _ _ _
    refine e_iconst (pc := 30) dX12_monkLine_30 (x_R rfl) ?_
    obtain ⟨v8, S9, hr9, hG⟩ := x_bd2 hG
    have hjhr9 : Ev g yX12_monkLine cX12_monkLine 10 none [] 8 48 [some (x_r (16 * 32 + 0)), some (x_i a), some (x_i v5), none, none, none, none, none, none, none] [x_i v8] (al, ro, fl (ml M [32] [S9])) 0 0 (.inl none) (al, ro, fl (ml M [32] [t])) := by
      refine e_istoren (pc := 48) (i := 3) dX12_monkLine_48 rfl (by decide) rfl ?_
      show Ev g _ _ _ _ _ _ 49 [some (x_r (16 * 32 + 0)), some (x_i a), some (x_i v5), some (x_i v8), none, none, none, none, none, none] [] (al, ro, fl (ml M [32] [S9])) _ _ _ _
      refine e_aloadn (pc := 49) (i := 0) dX12_monkLine_49 rfl rfl ?_
      refine f_geti (pc := 50) (k := 0) (u := 32) (q := 0) dX12_monkLine_50 xf12_25 (sa_32_0 hs) rfl hn rfl rfl (by decide) ?_
      show Ev g _ _ _ _ _ _ 53 [some (x_r (16 * 32 + 0)), some (x_i a), some (x_i v5), some (x_i v8), none, none, none, none, none, none] [x_i (S9 0 12)] (al, ro, fl (ml M [32] [S9])) _ _ _ _
      refine e_iconst (pc := 53) dX12_monkLine_53 (x_R rfl) ?_
      obtain ⟨S14, hr14, hG⟩ := x_bd1 hG
      have hjhr14 : Ev g yX12_monkLine cX12_monkLine 10 none [] 8 69 [some (x_r (16 * 32 + 0)), some (x_i a), some (x_i v5), some (x_i v8), none, none, none, none, none, none] [] (al, ro, fl (ml M [32] [S14])) 0 0 (.inl none) (al, ro, fl (ml M [32] [t])) := by
        refine e_iloadn (pc := 69) (i := 3) dX12_monkLine_69 rfl rfl ?_
        obtain ⟨v18, S19, hr19, hG⟩ := x_bd2 hG
        have hjhr19 : Ev g yX12_monkLine cX12_monkLine 10 none [] 8 84 [some (x_r (16 * 32 + 0)), some (x_i a), some (x_i v5), some (x_i v8), none, none, none, none, none, none] [x_i v18] (al, ro, fl (ml M [32] [S19])) 0 0 (.inl none) (al, ro, fl (ml M [32] [t])) := by
          refine e_istore (pc := 84) (i := 4) dX12_monkLine_84 (by decide) rfl ?_
          show Ev g _ _ _ _ _ _ 86 [some (x_r (16 * 32 + 0)), some (x_i a), some (x_i v5), some (x_i v8), some (x_i v18), none, none, none, none, none] [] (al, ro, fl (ml M [32] [S19])) _ _ _ _
          refine e_iloadn (pc := 86) (i := 3) dX12_monkLine_86 rfl rfl ?_
          obtain ⟨v24, S25, hr25, hG⟩ := x_bd2 hG
          have hjhr25 : Ev g yX12_monkLine cX12_monkLine 10 none [] 8 101 [some (x_r (16 * 32 + 0)), some (x_i a), some (x_i v5), some (x_i v8), some (x_i v18), none, none, none, none, none] [x_i v24] (al, ro, fl (ml M [32] [S25])) 0 0 (.inl none) (al, ro, fl (ml M [32] [t])) := by
            refine e_istore (pc := 101) (i := 5) dX12_monkLine_101 (by decide) rfl ?_
            show Ev g _ _ _ _ _ _ 103 [some (x_r (16 * 32 + 0)), some (x_i a), some (x_i v5), some (x_i v8), some (x_i v18), some (x_i v24), none, none, none, none] [] (al, ro, fl (ml M [32] [S25])) _ _ _ _
            refine e_aloadn (pc := 103) (i := 0) dX12_monkLine_103 rfl rfl ?_
            refine f_geti (pc := 104) (k := 0) (u := 32) (q := 0) dX12_monkLine_104 xf12_25 (sa_32_0 hs) rfl hn rfl rfl (by decide) ?_
            show Ev g _ _ _ _ _ _ 107 [some (x_r (16 * 32 + 0)), some (x_i a), some (x_i v5), some (x_i v8), some (x_i v18), some (x_i v24), none, none, none, none] [x_i (S25 0 12)] (al, ro, fl (ml M [32] [S25])) _ _ _ _
            refine e_iconst (pc := 107) dX12_monkLine_107 (x_R rfl) ?_
            obtain ⟨S30, hr30, hG⟩ := x_bd1 hG
            have hjhr30 : Ev g yX12_monkLine cX12_monkLine 10 none [] 8 126 [some (x_r (16 * 32 + 0)), some (x_i a), some (x_i v5), some (x_i v8), some (x_i v18), some (x_i v24), none, none, none, none] [] (al, ro, fl (ml M [32] [S30])) 0 0 (.inl none) (al, ro, fl (ml M [32] [t])) := by
              refine e_aloadn (pc := 126) (i := 0) dX12_monkLine_126 rfl rfl ?_
              refine f_geti (pc := 127) (k := 0) (u := 32) (q := 0) dX12_monkLine_127 xf12_25 (sa_32_0 hs) rfl hn rfl rfl (by decide) ?_
              show Ev g _ _ _ _ _ _ 130 [some (x_r (16 * 32 + 0)), some (x_i a), some (x_i v5), some (x_i v8), some (x_i v18), some (x_i v24), none, none, none, none] [x_i (S30 0 12)] (al, ro, fl (ml M [32] [S30])) _ _ _ _
              refine e_iconst (pc := 130) dX12_monkLine_130 (x_R rfl) ?_
              obtain ⟨v36, S37, hr37, hG⟩ := x_bd2 hG
              have hjhr37 : Ev g yX12_monkLine cX12_monkLine 10 none [] 8 154 [some (x_r (16 * 32 + 0)), some (x_i a), some (x_i v5), some (x_i v8), some (x_i v18), some (x_i v24), none, none, none, none] [x_i v36] (al, ro, fl (ml M [32] [S37])) 0 0 (.inl none) (al, ro, fl (ml M [32] [t])) := by
                refine e_istore (pc := 154) (i := 6) dX12_monkLine_154 (by decide) rfl ?_
                show Ev g _ _ _ _ _ _ 156 [some (x_r (16 * 32 + 0)), some (x_i a), some (x_i v5), some (x_i v8), some (x_i v18), some (x_i v24), some (x_i v36), none, none, none] [] (al, ro, fl (ml M [32] [S37])) _ _ _ _
                refine e_aloadn (pc := 156) (i := 0) dX12_monkLine_156 rfl rfl ?_
                refine f_geti (pc := 157) (k := 0) (u := 32) (q := 0) dX12_monkLine_157 xf12_25 (sa_32_0 hs) rfl hn rfl rfl (by decide) ?_
                show Ev g _ _ _ _ _ _ 160 [some (x_r (16 * 32 + 0)), some (x_i a), some (x_i v5), some (x_i v8), some (x_i v18), some (x_i v24), some (x_i v36), none, none, none] [x_i (S37 0 12)] (al, ro, fl (ml M [32] [S37])) _ _ _ _
                refine e_iconst (pc := 160) dX12_monkLine_160 (x_R rfl) ?_
                obtain ⟨v45, S46, hr46, hG⟩ := x_bd2 hG
                have hjhr46 : Ev g yX12_monkLine cX12_monkLine 10 none [] 8 181 [some (x_r (16 * 32 + 0)), some (x_i a), some (x_i v5), some (x_i v8), some (x_i v18), some (x_i v24), some (x_i v36), none, none, none] [x_i v45] (al, ro, fl (ml M [32] [S46])) 0 0 (.inl none) (al, ro, fl (ml M [32] [t])) := by
                  refine e_istore (pc := 181) (i := 7) dX12_monkLine_181 (by decide) rfl ?_
                  show Ev g _ _ _ _ _ _ 183 [some (x_r (16 * 32 + 0)), some (x_i a), some (x_i v5), some (x_i v8), some (x_i v18), some (x_i v24), some (x_i v36), some (x_i v45), none, none] [] (al, ro, fl (ml M [32] [S46])) _ _ _ _
                  refine e_aloadn (pc := 183) (i := 0) dX12_monkLine_183 rfl rfl ?_
                  refine f_geti (pc := 184) (k := 0) (u := 32) (q := 0) dX12_monkLine_184 xf12_25 (sa_32_0 hs) rfl hn rfl rfl (by decide) ?_
                  show Ev g _ _ _ _ _ _ 187 [some (x_r (16 * 32 + 0)), some (x_i a), some (x_i v5), some (x_i v8), some (x_i v18), some (x_i v24), some (x_i v36), some (x_i v45), none, none] [x_i (S46 0 12)] (al, ro, fl (ml M [32] [S46])) _ _ _ _
                  refine e_iconst (pc := 187) dX12_monkLine_187 (x_R rfl) ?_
                  refine e_icmp_eq (pc := 188) (tgt := 192) dX12_monkLine_188 (by decide) (fun hb => ?_) (fun hb => ?_)
                  · rw [if_pos hb] at hG
                    refine e_aloadn (pc := 192) (i := 0) dX12_monkLine_192 rfl rfl ?_
                    refine f_getr (pc := 193) (u := 32) (q := 0) dX12_monkLine_193 xf12_7 (sa_32_0 hs) rfl (sr_32_0_1 hs) ?_
                    refine e_iconst (pc := 196) dX12_monkLine_196 (x_R rfl) ?_
                    refine f_iald (pc := 197) (k := 0) (u := 32) (q := 1) (len := 772) dX12_monkLine_197 (sa_32_1 hs) (by decide) hn rfl rfl (by decide) ?_
                    show Ev g _ _ _ _ _ _ 198 [some (x_r (16 * 32 + 0)), some (x_i a), some (x_i v5), some (x_i v8), some (x_i v18), some (x_i v24), some (x_i v36), some (x_i v45), none, none] [x_i (S46 1 3)] (al, ro, fl (ml M [32] [S46])) _ _ _ _
                    refine e_istore (pc := 198) (i := 8) dX12_monkLine_198 (by decide) rfl ?_
                    show Ev g _ _ _ _ _ _ 200 [some (x_r (16 * 32 + 0)), some (x_i a), some (x_i v5), some (x_i v8), some (x_i v18), some (x_i v24), some (x_i v36), some (x_i v45), some (x_i (S46 1 3)), none] [] (al, ro, fl (ml M [32] [S46])) _ _ _ _
                    refine e_iconst (pc := 200) dX12_monkLine_200 (x_R rfl) ?_
                    refine e_istore (pc := 201) (i := 9) dX12_monkLine_201 (by decide) rfl ?_
                    show Ev g _ _ _ _ _ _ 203 [some (x_r (16 * 32 + 0)), some (x_i a), some (x_i v5), some (x_i v8), some (x_i v18), some (x_i v24), some (x_i v36), some (x_i v45), some (x_i (S46 1 3)), some (x_i 0)] [] (al, ro, fl (ml M [32] [S46])) _ _ _ _
                    obtain ⟨S56, hl57, hG⟩ := x_bd1 hG
                    have hk57 : ∀ q : xU, q = S56 → Ev g yX12_monkLine cX12_monkLine 10 none [] 8 225 [some (x_r (16 * 32 + 0)), some (x_i a), some (x_i v5), some (x_i v8), some (x_i v18), some (x_i v24), some (x_i v36), some (x_i v45), some (x_i (S46 1 3)), none] [] (al, ro, fl (ml M [32] [q])) 0 0 (.inl none) (al, ro, fl (ml M [32] [t])) := by
                      intro q hq
                      replace hq := hq.symm
                      subst hq
                      refine e_aloadn (pc := 225) (i := 0) dX12_monkLine_225 rfl rfl ?_
                      refine e_iload (pc := 226) dX12_monkLine_226 rfl ?_
                      refine e_iconst (pc := 228) dX12_monkLine_228 (x_R rfl) ?_
                      refine e_iloadn (pc := 229) (i := 2) dX12_monkLine_229 rfl rfl ?_
                      obtain ⟨S61, hq61, hG⟩ := x_bd1 hG
                      refine e_invV (pc := 230) (K1 := 0) (S1 := 0) (K := 0) (S := 0) (dd2 := 0) (av := [x_i (S46 1 3), x_i 0, x_i v5]) (st := []) (id := 16 * 32 + 0) dX12_monkLine_230 xmX12_140 rfl (Or.inl ⟨10, 27, TX12, (sa_32_0 hs), rfl, by decide⟩) (f_cal (M := M) (us2 := [32]) [0] hn rfl (And.intro rfl trivial) rfl rfl rfl (c_X12_lays hst hs   hq61)) (by decide) (Nat.le_of_ble_eq_true rfl) (Or.inl rfl) ?_
                      show Ev g _ _ _ _ _ _ 233 [some (x_r (16 * 32 + 0)), some (x_i a), some (x_i v5), some (x_i v8), some (x_i v18), some (x_i v24), some (x_i v36), some (x_i v45), some (x_i (S46 1 3)), none] [] (al, ro, fl (ml M [32] [S61])) _ _ _ _
                      refine e_aloadn (pc := 233) (i := 0) dX12_monkLine_233 rfl rfl ?_
                      refine e_iload (pc := 234) dX12_monkLine_234 rfl ?_
                      refine e_iconst (pc := 236) dX12_monkLine_236 (x_R rfl) ?_
                      refine e_iload (pc := 237) dX12_monkLine_237 rfl ?_
                      obtain ⟨S63, hq63, hG⟩ := x_bd1 hG
                      refine e_invV (pc := 239) (K1 := 0) (S1 := 0) (K := 0) (S := 0) (dd2 := 0) (av := [x_i (S46 1 3), x_i 2, x_i v24]) (st := []) (id := 16 * 32 + 0) dX12_monkLine_239 xmX12_140 rfl (Or.inl ⟨10, 27, TX12, (sa_32_0 hs), rfl, by decide⟩) (f_cal (M := M) (us2 := [32]) [0] hn rfl (And.intro rfl trivial) rfl rfl rfl (c_X12_lays hst hs   hq63)) (by decide) (Nat.le_of_ble_eq_true rfl) (Or.inl rfl) ?_
                      show Ev g _ _ _ _ _ _ 242 [some (x_r (16 * 32 + 0)), some (x_i a), some (x_i v5), some (x_i v8), some (x_i v18), some (x_i v24), some (x_i v36), some (x_i v45), some (x_i (S46 1 3)), none] [] (al, ro, fl (ml M [32] [S63])) _ _ _ _
                      refine e_aloadn (pc := 242) (i := 0) dX12_monkLine_242 rfl rfl ?_
                      refine e_iload (pc := 243) dX12_monkLine_243 rfl ?_
                      refine e_iconst (pc := 245) dX12_monkLine_245 (x_R rfl) ?_
                      refine e_iload (pc := 246) dX12_monkLine_246 rfl ?_
                      obtain ⟨S65, hq65, hG⟩ := x_bd1 hG
                      refine e_invV (pc := 248) (K1 := 0) (S1 := 0) (K := 0) (S := 0) (dd2 := 0) (av := [x_i (S46 1 3), x_i 1, x_i v36]) (st := []) (id := 16 * 32 + 0) dX12_monkLine_248 xmX12_140 rfl (Or.inl ⟨10, 27, TX12, (sa_32_0 hs), rfl, by decide⟩) (f_cal (M := M) (us2 := [32]) [0] hn rfl (And.intro rfl trivial) rfl rfl rfl (c_X12_lays hst hs   hq65)) (by decide) (Nat.le_of_ble_eq_true rfl) (Or.inl rfl) ?_
                      show Ev g _ _ _ _ _ _ 251 [some (x_r (16 * 32 + 0)), some (x_i a), some (x_i v5), some (x_i v8), some (x_i v18), some (x_i v24), some (x_i v36), some (x_i v45), some (x_i (S46 1 3)), none] [] (al, ro, fl (ml M [32] [S65])) _ _ _ _
                      refine e_aloadn (pc := 251) (i := 0) dX12_monkLine_251 rfl rfl ?_
                      refine e_iload (pc := 252) dX12_monkLine_252 rfl ?_
                      refine e_iconst (pc := 254) dX12_monkLine_254 (x_R rfl) ?_
                      refine e_iload (pc := 255) dX12_monkLine_255 rfl ?_
                      obtain ⟨S67, hq67, hG⟩ := x_bd1 hG
                      refine e_invV (pc := 257) (K1 := 0) (S1 := 0) (K := 0) (S := 0) (dd2 := 0) (av := [x_i (S46 1 3), x_i 3, x_i v45]) (st := []) (id := 16 * 32 + 0) dX12_monkLine_257 xmX12_140 rfl (Or.inl ⟨10, 27, TX12, (sa_32_0 hs), rfl, by decide⟩) (f_cal (M := M) (us2 := [32]) [0] hn rfl (And.intro rfl trivial) rfl rfl rfl (c_X12_lays hst hs   hq67)) (by decide) (Nat.le_of_ble_eq_true rfl) (Or.inl rfl) ?_
                      show Ev g _ _ _ _ _ _ 260 [some (x_r (16 * 32 + 0)), some (x_i a), some (x_i v5), some (x_i v8), some (x_i v18), some (x_i v24), some (x_i v36), some (x_i v45), some (x_i (S46 1 3)), none] [] (al, ro, fl (ml M [32] [S67])) _ _ _ _
                      refine e_aloadn (pc := 260) (i := 0) dX12_monkLine_260 rfl rfl ?_
                      refine f_getr (pc := 261) (u := 32) (q := 0) dX12_monkLine_261 xf12_7 (sa_32_0 hs) rfl (sr_32_0_1 hs) ?_
                      refine e_iconst (pc := 264) dX12_monkLine_264 (x_R rfl) ?_
                      refine e_dup2 (pc := 265) dX12_monkLine_265 rfl rfl ?_
                      refine f_iald (pc := 266) (k := 0) (u := 32) (q := 1) (len := 772) dX12_monkLine_266 (sa_32_1 hs) (by decide) hn rfl rfl (by decide) ?_
                      show Ev g _ _ _ _ _ _ 267 [some (x_r (16 * 32 + 0)), some (x_i a), some (x_i v5), some (x_i v8), some (x_i v18), some (x_i v24), some (x_i v36), some (x_i v45), some (x_i (S46 1 3)), none] [x_i (S67 1 3), x_i 3, x_r (16 * 32 + 1)] (al, ro, fl (ml M [32] [S67])) _ _ _ _
                      refine e_iconst (pc := 267) dX12_monkLine_267 (x_R rfl) ?_
                      refine e_iadd (pc := 268) dX12_monkLine_268 ?_
                      refine f_iast (pc := 269) (k := 0) (u := 32) (q := 1) (len := 772) dX12_monkLine_269 (sa_32_1 hs) (by decide) hn rfl rfl rfl (by decide) ?_
                      show Ev g _ _ _ _ _ _ 270 [some (x_r (16 * 32 + 0)), some (x_i a), some (x_i v5), some (x_i v8), some (x_i v18), some (x_i v24), some (x_i v36), some (x_i v45), some (x_i (S46 1 3)), none] [] (al, ro, fl (ml M [32] [(x_up S67 1 3 (x_add (S67 1 3) 1))])) _ _ _ _
                      cases hG
                      exact (e_return rfl dX12_monkLine_270)
                    clear hG
                    refine e_whl (G12_monkLine_L203 S46) (fun z : (Int × xU) => Ev g yX12_monkLine cX12_monkLine 10 none [] 8 203 [some (x_r (16 * 32 + 0)), some (x_i a), some (x_i v5), some (x_i v8), some (x_i v18), some (x_i v24), some (x_i v36), some (x_i v45), some (x_i (S46 1 3)), some (x_i z.1)] [] (al, ro, fl (ml M [32] [z.2])) 0 0 (.inl none) (al, ro, fl (ml M [32] [t]))) (fun q => q = S56) ?_ xFU (0, S46) _ hl57 rfl
                    intro z t57 hf57 hi57 hx57
                    obtain ⟨v54, S55⟩ := z
                    rw [G12_monkLine_L203] at hf57
                    show Ev g _ _ _ _ _ _ 203 [some (x_r (16 * 32 + 0)), some (x_i a), some (x_i v5), some (x_i v8), some (x_i v18), some (x_i v24), some (x_i v36), some (x_i v45), some (x_i (S46 1 3)), some (x_i v54)] [] (al, ro, fl (ml M [32] [S55])) _ _ _ _
                    refine e_iload (pc := 203) dX12_monkLine_203 rfl ?_
                    refine e_bipush (pc := 205) dX12_monkLine_205 (by decide +kernel) (x_R rfl) ?_
                    refine e_icmp_ge (pc := 207) (tgt := 225) dX12_monkLine_207 (by decide) (fun hb => ?_) (fun hb => ?_)
                    · rw [if_pos hb] at hf57
                      cases hf57
                      refine e_drop (i := 9) ?_
                      exact hk57 _ (hx57 _ rfl)
                    · rw [if_neg hb] at hf57
                      refine e_aloadn (pc := 210) (i := 0) dX12_monkLine_210 rfl rfl ?_
                      refine e_iload (pc := 211) dX12_monkLine_211 rfl ?_
                      refine e_iload (pc := 213) dX12_monkLine_213 rfl ?_
                      refine e_iconst (pc := 215) dX12_monkLine_215 (x_R rfl) ?_
                      obtain ⟨S59, hq59, hf57⟩ := x_bd1 hf57
                      refine e_invV (pc := 216) (K1 := 0) (S1 := 0) (K := 0) (S := 0) (dd2 := 0) (av := [x_i (S46 1 3), x_i v54, x_i 0]) (st := []) (id := 16 * 32 + 0) dX12_monkLine_216 xmX12_140 rfl (Or.inl ⟨10, 27, TX12, (sa_32_0 hs), rfl, by decide⟩) (f_cal (M := M) (us2 := [32]) [0] hn rfl (And.intro rfl trivial) rfl rfl rfl (c_X12_lays hst hs   hq59)) (by decide) (Nat.le_of_ble_eq_true rfl) (Or.inl rfl) ?_
                      show Ev g _ _ _ _ _ _ 219 [some (x_r (16 * 32 + 0)), some (x_i a), some (x_i v5), some (x_i v8), some (x_i v18), some (x_i v24), some (x_i v36), some (x_i v45), some (x_i (S46 1 3)), some (x_i v54)] [] (al, ro, fl (ml M [32] [S59])) _ _ _ _
                      refine e_iinc (pc := 219) dX12_monkLine_219 rfl (by decide) rfl ?_
                      show Ev g _ _ _ _ _ _ 222 [some (x_r (16 * 32 + 0)), some (x_i a), some (x_i v5), some (x_i v8), some (x_i v18), some (x_i v24), some (x_i v36), some (x_i v45), some (x_i (S46 1 3)), some (x_i (x_add v54 1))] [] (al, ro, fl (ml M [32] [S59])) _ _ _ _
                      refine e_goto (pc := 222) (tgt := 203) dX12_monkLine_222 (by decide) ?_
                      cases hf57
                      exact hi57 _ rfl
                  · rw [if_neg hb] at hG
                    cases hG
                    exact (e_return rfl dX12_monkLine_191)
                clear hG
                refine e_icmp_ne (pc := 161) (tgt := 180) dX12_monkLine_161 (by decide) (fun hb => ?_) (fun hb => ?_)
                · rw [if_neg hb] at hr46
                  refine e_iconst (pc := 180) dX12_monkLine_180 (x_R rfl) ?_
                  cases hr46
                  exact hjhr46
                · rw [if_pos hb] at hr46
                  refine e_aloadn (pc := 164) (i := 0) dX12_monkLine_164 rfl rfl ?_
                  refine e_ldcS (pc := 165) (i := 4) dX12_monkLine_165 (by decide +kernel) (by decide) ?_
                  obtain ⟨v48, S49, hq49, hr46⟩ := x_bd2 hr46
                  refine e_invV (pc := 167) (K1 := 0) (S1 := 0) (K := 0) (S := 0) (dd2 := 6) (av := [x_r (x_s0 + 4)]) (st := []) (id := 16 * 32 + 0) dX12_monkLine_167 xmX12_112 rfl (Or.inl ⟨10, 27, TX12, (sa_32_0 hs), rfl, by decide⟩) (f_cal (M := M) (us2 := [32]) [0] hn rfl (And.intro rfl trivial) rfl rfl rfl (c_X12_has hst hs  (by decide) hq49)) (by decide) (Nat.le_of_ble_eq_true rfl) (Or.inl rfl) ?_
                  show Ev g _ _ _ _ _ _ 170 [some (x_r (16 * 32 + 0)), some (x_i a), some (x_i v5), some (x_i v8), some (x_i v18), some (x_i v24), some (x_i v36), none, none, none] [x_i v48] (al, ro, fl (ml M [32] [S49])) _ _ _ _
                  refine e_if_eq (pc := 170) (tgt := 180) dX12_monkLine_170 (by decide) (fun hb => ?_) (fun hb => ?_)
                  · rw [if_pos hb] at hr46
                    refine e_iconst (pc := 180) dX12_monkLine_180 (x_R rfl) ?_
                    cases hr46
                    exact hjhr46
                  · rw [if_neg hb] at hr46
                    refine e_aloadn (pc := 173) (i := 0) dX12_monkLine_173 rfl rfl ?_
                    obtain ⟨v51, S52, hq52, hr46⟩ := x_bd2 hr46
                    refine e_invV (pc := 174) (K1 := 0) (S1 := 0) (K := 0) (S := 0) (dd2 := 3) (av := []) (st := []) (id := 16 * 32 + 0) dX12_monkLine_174 xmX12_137 rfl (Or.inl ⟨10, 27, TX12, (sa_32_0 hs), rfl, by decide⟩) (f_cal (M := M) (us2 := [32]) [0] hn rfl (And.intro rfl trivial) rfl rfl rfl (c_X12_months hst hs   hq52)) (by decide) (Nat.le_of_ble_eq_true rfl) (Or.inl rfl) ?_
                    show Ev g _ _ _ _ _ _ 177 [some (x_r (16 * 32 + 0)), some (x_i a), some (x_i v5), some (x_i v8), some (x_i v18), some (x_i v24), some (x_i v36), none, none, none] [x_i v51] (al, ro, fl (ml M [32] [S52])) _ _ _ _
                    refine e_goto (pc := 177) (tgt := 181) dX12_monkLine_177 (by decide) ?_
                    cases hr46
                    exact hjhr46
              clear hG
              refine e_icmp_ne (pc := 131) (tgt := 153) dX12_monkLine_131 (by decide) (fun hb => ?_) (fun hb => ?_)
              · rw [if_neg hb] at hr37
                refine e_iconst (pc := 153) dX12_monkLine_153 (x_R rfl) ?_
                cases hr37
                exact hjhr37
              · rw [if_pos hb] at hr37
                refine e_aloadn (pc := 134) (i := 0) dX12_monkLine_134 rfl rfl ?_
                refine e_ldcS (pc := 135) (i := 3) dX12_monkLine_135 (by decide +kernel) (by decide) ?_
                obtain ⟨v39, S40, hq40, hr37⟩ := x_bd2 hr37
                refine e_invV (pc := 137) (K1 := 0) (S1 := 0) (K := 0) (S := 0) (dd2 := 6) (av := [x_r (x_s0 + 3)]) (st := []) (id := 16 * 32 + 0) dX12_monkLine_137 xmX12_112 rfl (Or.inl ⟨10, 27, TX12, (sa_32_0 hs), rfl, by decide⟩) (f_cal (M := M) (us2 := [32]) [0] hn rfl (And.intro rfl trivial) rfl rfl rfl (c_X12_has hst hs  (by decide) hq40)) (by decide) (Nat.le_of_ble_eq_true rfl) (Or.inl rfl) ?_
                show Ev g _ _ _ _ _ _ 140 [some (x_r (16 * 32 + 0)), some (x_i a), some (x_i v5), some (x_i v8), some (x_i v18), some (x_i v24), none, none, none, none] [x_i v39] (al, ro, fl (ml M [32] [S40])) _ _ _ _
                refine e_if_eq (pc := 140) (tgt := 153) dX12_monkLine_140 (by decide) (fun hb => ?_) (fun hb => ?_)
                · rw [if_pos hb] at hr37
                  refine e_iconst (pc := 153) dX12_monkLine_153 (x_R rfl) ?_
                  cases hr37
                  exact hjhr37
                · rw [if_neg hb] at hr37
                  refine e_aloadn (pc := 143) (i := 0) dX12_monkLine_143 rfl rfl ?_
                  refine e_iconst (pc := 144) dX12_monkLine_144 (x_R rfl) ?_
                  refine e_bipush (pc := 145) dX12_monkLine_145 (by decide +kernel) (x_R rfl) ?_
                  obtain ⟨v42, S43, hq43, hr37⟩ := x_bd2 hr37
                  refine e_invV (pc := 147) (K1 := 0) (S1 := 0) (K := 0) (S := 0) (dd2 := 3) (av := [x_i 0, x_i 8]) (st := []) (id := 16 * 32 + 0) dX12_monkLine_147 xmX12_116 rfl (Or.inl ⟨10, 27, TX12, (sa_32_0 hs), rfl, by decide⟩) (f_cal (M := M) (us2 := [32]) [0] hn rfl (And.intro rfl trivial) rfl rfl rfl (c_X12_figures hst hs   hq43)) (by decide) (Nat.le_of_ble_eq_true rfl) (Or.inl rfl) ?_
                  show Ev g _ _ _ _ _ _ 150 [some (x_r (16 * 32 + 0)), some (x_i a), some (x_i v5), some (x_i v8), some (x_i v18), some (x_i v24), none, none, none, none] [x_i v42] (al, ro, fl (ml M [32] [S43])) _ _ _ _
                  refine e_goto (pc := 150) (tgt := 154) dX12_monkLine_150 (by decide) ?_
                  cases hr37
                  exact hjhr37
            clear hG
            refine e_icmp_ne (pc := 108) (tgt := 126) dX12_monkLine_108 (by decide) (fun hb => ?_) (fun hb => ?_)
            · rw [if_neg hb] at hr30
              cases hr30
              exact hjhr30
            · rw [if_pos hb] at hr30
              refine e_aloadn (pc := 111) (i := 0) dX12_monkLine_111 rfl rfl ?_
              refine e_iload (pc := 112) dX12_monkLine_112 rfl ?_
              obtain ⟨v32, hq32, hr30⟩ := x_bd1 hr30
              refine e_invV (pc := 114) (K1 := 0) (S1 := 0) (K := 0) (S := 0) (dd2 := 1) (av := [x_i v24]) (st := []) (id := 16 * 32 + 0) dX12_monkLine_114 xmX12_130 rfl (Or.inl ⟨10, 27, TX12, (sa_32_0 hs), rfl, by decide⟩) (f_cal (M := M) (us2 := [32]) [0] hn rfl (And.intro rfl trivial) rfl rfl rfl (c_X12_isStall hst hs   hq32)) (by decide) (Nat.le_of_ble_eq_true rfl) (Or.inl rfl) ?_
              show Ev g _ _ _ _ _ _ 117 [some (x_r (16 * 32 + 0)), some (x_i a), some (x_i v5), some (x_i v8), some (x_i v18), some (x_i v24), none, none, none, none] [x_i v32] (al, ro, fl (ml M [32] [S25])) _ _ _ _
              refine e_if_eq (pc := 117) (tgt := 126) dX12_monkLine_117 (by decide) (fun hb => ?_) (fun hb => ?_)
              · rw [if_pos hb] at hr30
                cases hr30
                exact hjhr30
              · rw [if_neg hb] at hr30
                refine e_aloadn (pc := 120) (i := 0) dX12_monkLine_120 rfl rfl ?_
                refine e_iload (pc := 121) dX12_monkLine_121 rfl ?_
                obtain ⟨S34, hq34, hr30⟩ := x_bd1 hr30
                refine e_invV (pc := 123) (K1 := 0) (S1 := 0) (K := 0) (S := 0) (dd2 := 0) (av := [x_i v18]) (st := []) (id := 16 * 32 + 0) dX12_monkLine_123 xmX12_108 rfl (Or.inl ⟨10, 27, TX12, (sa_32_0 hs), rfl, by decide⟩) (f_cal (M := M) (us2 := [32]) [0] hn rfl (And.intro rfl trivial) rfl rfl rfl (c_X12_wrong hst hs   hq34)) (by decide) (Nat.le_of_ble_eq_true rfl) (Or.inl rfl) ?_
                show Ev g _ _ _ _ _ _ 126 [some (x_r (16 * 32 + 0)), some (x_i a), some (x_i v5), some (x_i v8), some (x_i v18), some (x_i v24), none, none, none, none] [] (al, ro, fl (ml M [32] [S34])) _ _ _ _
                cases hr30
                exact hjhr30
          clear hG
          refine e_if_eq (pc := 87) (tgt := 100) dX12_monkLine_87 (by decide) (fun hb => ?_) (fun hb => ?_)
          · rw [if_pos hb] at hr25
            refine e_iconst (pc := 100) dX12_monkLine_100 (x_R rfl) ?_
            cases hr25
            exact hjhr25
          · rw [if_neg hb] at hr25
            refine e_aloadn (pc := 90) (i := 0) dX12_monkLine_90 rfl rfl ?_
            refine e_iconst (pc := 91) dX12_monkLine_91 (x_R rfl) ?_
            refine e_bipush (pc := 92) dX12_monkLine_92 (by decide +kernel) (x_R rfl) ?_
            obtain ⟨v27, S28, hq28, hr25⟩ := x_bd2 hr25
            refine e_invV (pc := 94) (K1 := 0) (S1 := 0) (K := 0) (S := 0) (dd2 := 3) (av := [x_i 0, x_i 11]) (st := []) (id := 16 * 32 + 0) dX12_monkLine_94 xmX12_116 rfl (Or.inl ⟨10, 27, TX12, (sa_32_0 hs), rfl, by decide⟩) (f_cal (M := M) (us2 := [32]) [0] hn rfl (And.intro rfl trivial) rfl rfl rfl (c_X12_figures hst hs   hq28)) (by decide) (Nat.le_of_ble_eq_true rfl) (Or.inl rfl) ?_
            show Ev g _ _ _ _ _ _ 97 [some (x_r (16 * 32 + 0)), some (x_i a), some (x_i v5), some (x_i v8), some (x_i v18), none, none, none, none, none] [x_i v27] (al, ro, fl (ml M [32] [S28])) _ _ _ _
            refine e_goto (pc := 97) (tgt := 101) dX12_monkLine_97 (by decide) ?_
            cases hr25
            exact hjhr25
        clear hG
        refine e_if_eq (pc := 70) (tgt := 80) dX12_monkLine_70 (by decide) (fun hb => ?_) (fun hb => ?_)
        · rw [if_pos hb] at hr19
          refine e_aloadn (pc := 80) (i := 0) dX12_monkLine_80 rfl rfl ?_
          refine f_geti (pc := 81) (k := 0) (u := 32) (q := 0) dX12_monkLine_81 xf12_82 (sa_32_0 hs) rfl hn rfl rfl (by decide) ?_
          show Ev g _ _ _ _ _ _ 84 [some (x_r (16 * 32 + 0)), some (x_i a), some (x_i v5), some (x_i v8), none, none, none, none, none, none] [x_i (S14 0 11)] (al, ro, fl (ml M [32] [S14])) _ _ _ _
          cases hr19
          exact hjhr19
        · rw [if_neg hb] at hr19
          refine e_aloadn (pc := 73) (i := 0) dX12_monkLine_73 rfl rfl ?_
          obtain ⟨v21, S22, hq22, hr19⟩ := x_bd2 hr19
          refine e_invV (pc := 74) (K1 := 0) (S1 := 0) (K := 0) (S := 0) (dd2 := 2) (av := []) (st := []) (id := 16 * 32 + 0) dX12_monkLine_74 xmX12_105 rfl (Or.inl ⟨10, 27, TX12, (sa_32_0 hs), rfl, by decide⟩) (f_cal (M := M) (us2 := [32]) [0] hn rfl (And.intro rfl trivial) rfl rfl rfl (c_X12_here hst hs   hq22)) (by decide) (Nat.le_of_ble_eq_true rfl) (Or.inl rfl) ?_
          show Ev g _ _ _ _ _ _ 77 [some (x_r (16 * 32 + 0)), some (x_i a), some (x_i v5), some (x_i v8), none, none, none, none, none, none] [x_i v21] (al, ro, fl (ml M [32] [S22])) _ _ _ _
          refine e_goto (pc := 77) (tgt := 84) dX12_monkLine_77 (by decide) ?_
          cases hr19
          exact hjhr19
      clear hG
      refine e_icmp_ne (pc := 54) (tgt := 69) dX12_monkLine_54 (by decide) (fun hb => ?_) (fun hb => ?_)
      · rw [if_neg hb] at hr14
        cases hr14
        exact hjhr14
      · rw [if_pos hb] at hr14
        refine e_iloadn (pc := 57) (i := 3) dX12_monkLine_57 rfl rfl ?_
        refine e_if_ne (pc := 58) (tgt := 69) dX12_monkLine_58 (by decide) (fun hb => ?_) (fun hb => ?_)
        · rw [if_neg hb] at hr14
          cases hr14
          exact hjhr14
        · rw [if_pos hb] at hr14
          refine e_aloadn (pc := 61) (i := 0) dX12_monkLine_61 rfl rfl ?_
          refine e_aloadn (pc := 62) (i := 0) dX12_monkLine_62 rfl rfl ?_
          refine f_geti (pc := 63) (k := 0) (u := 32) (q := 0) dX12_monkLine_63 xf12_82 (sa_32_0 hs) rfl hn rfl rfl (by decide) ?_
          show Ev g _ _ _ _ _ _ 66 [some (x_r (16 * 32 + 0)), some (x_i a), some (x_i v5), some (x_i v8), none, none, none, none, none, none] [x_i (S9 0 11), x_r (16 * 32 + 0)] (al, ro, fl (ml M [32] [S9])) _ _ _ _
          obtain ⟨S16, hq16, hr14⟩ := x_bd1 hr14
          refine e_invV (pc := 66) (K1 := 0) (S1 := 0) (K := 0) (S := 0) (dd2 := 0) (av := [x_i (S9 0 11)]) (st := []) (id := 16 * 32 + 0) dX12_monkLine_66 xmX12_108 rfl (Or.inl ⟨10, 27, TX12, (sa_32_0 hs), rfl, by decide⟩) (f_cal (M := M) (us2 := [32]) [0] hn rfl (And.intro rfl trivial) rfl rfl rfl (c_X12_wrong hst hs   hq16)) (by decide) (Nat.le_of_ble_eq_true rfl) (Or.inl rfl) ?_
          show Ev g _ _ _ _ _ _ 69 [some (x_r (16 * 32 + 0)), some (x_i a), some (x_i v5), some (x_i v8), none, none, none, none, none, none] [] (al, ro, fl (ml M [32] [S16])) _ _ _ _
          cases hr14
          exact hjhr14
    clear hG
    refine e_icmp_ne (pc := 31) (tgt := 47) dX12_monkLine_31 (by decide) (fun hb => ?_) (fun hb => ?_)
    · rw [if_neg hb] at hr9
      refine e_iconst (pc := 47) dX12_monkLine_47 (x_R rfl) ?_
      cases hr9
      exact hjhr9
    · rw [if_pos hb] at hr9
      refine e_aloadn (pc := 34) (i := 0) dX12_monkLine_34 rfl rfl ?_
      refine e_ldcS (pc := 35) (i := 2) dX12_monkLine_35 (by decide +kernel) (by decide) ?_
      obtain ⟨v11, S12, hq12, hr9⟩ := x_bd2 hr9
      refine e_invV (pc := 37) (K1 := 0) (S1 := 0) (K := 0) (S := 0) (dd2 := 6) (av := [x_r (x_s0 + 2)]) (st := []) (id := 16 * 32 + 0) dX12_monkLine_37 xmX12_112 rfl (Or.inl ⟨10, 27, TX12, (sa_32_0 hs), rfl, by decide⟩) (f_cal (M := M) (us2 := [32]) [0] hn rfl (And.intro rfl trivial) rfl rfl rfl (c_X12_has hst hs  (by decide) hq12)) (by decide) (Nat.le_of_ble_eq_true rfl) (Or.inl rfl) ?_
      show Ev g _ _ _ _ _ _ 40 [some (x_r (16 * 32 + 0)), some (x_i a), some (x_i v5), none, none, none, none, none, none, none] [x_i v11] (al, ro, fl (ml M [32] [S12])) _ _ _ _
      refine e_if_eq (pc := 40) (tgt := 47) dX12_monkLine_40 (by decide) (fun hb => ?_) (fun hb => ?_)
      · rw [if_pos hb] at hr9
        refine e_iconst (pc := 47) dX12_monkLine_47 (x_R rfl) ?_
        cases hr9
        exact hjhr9
      · rw [if_neg hb] at hr9
        refine e_iconst (pc := 43) dX12_monkLine_43 (x_R rfl) ?_
        refine e_goto (pc := 44) (tgt := 48) dX12_monkLine_44 (by decide) ?_
        cases hr9
        exact hjhr9
  clear hG
  refine e_icmp_ne (pc := 8) (tgt := 16) dX12_monkLine_8 (by decide) (fun hb => ?_) (fun hb => ?_)
  · rw [if_neg hb] at hr1
    cases hr1
    exact hjhr1
  · rw [if_pos hb] at hr1
    refine e_aloadn (pc := 11) (i := 0) dX12_monkLine_11 rfl rfl ?_
    refine e_iloadn (pc := 12) (i := 1) dX12_monkLine_12 rfl rfl ?_
    obtain ⟨S3, hq3, hr1⟩ := x_bd1 hr1
    refine e_invV (pc := 13) (K1 := 0) (S1 := 0) (K := 0) (S := 0) (dd2 := 0) (av := [x_i a]) (st := []) (id := 16 * 32 + 0) dX12_monkLine_13 xmX12_108 rfl (Or.inl ⟨10, 27, TX12, (sa_32_0 hs), rfl, by decide⟩) (f_cal (M := M) (us2 := [32]) [0] hn rfl (And.intro rfl trivial) rfl rfl rfl (c_X12_wrong hst hs   hq3)) (by decide) (Nat.le_of_ble_eq_true rfl) (Or.inl rfl) ?_
    show Ev g _ _ _ _ _ _ 16 [some (x_r (16 * 32 + 0)), some (x_i a), none, none, none, none, none, none, none, none] [] (al, ro, fl (ml M [32] [S3])) _ _ _ _
    cases hr1
    exact hjhr1
set_option maxRecDepth 100000 in
set_option maxHeartbeats 4000000 in
theorem c_X12_seasonName {g : xG} {al : List (Nat × Nat × Nat)} {ro : Nat → Nat → Option Nat} (hst : g.1.stackTraces = false) (hs : SH al ro) {M : Nat → xU} {a : Int} {S : xU}  {t : (Int × xU)} (hG : G12_seasonName a S = some t) :
    Cal g yX12_seasonName cX12_seasonName 3 (some .int) 7 [x_r (16 * 32 + 0), x_i a] (al, ro, fl (ml M [32] [S])) 0 0 (.inl (some (x_i t.1))) (al, ro, fl (ml M [32] [t.2])) := by
  have hn : ([32] : List Nat).Nodup := by decide
  refine cal_of_ev (plainFor_of_name (by decide)) (x_c1 rfl) (Nat.le_of_ble_eq_true rfl) hst ?_
  show Ev g _ _ _ _ _ _ 0 [some (x_r (16 * 32 + 0)), some (x_i a), none] [] (al, ro, fl (ml M [32] [S])) _ _ _ _
  rw [G12_seasonName] at hG
  refine e_aloadn (pc := 0) (i := 0) dX12_seasonName_0 rfl rfl ?_
  refine f_geti (pc := 1) (k := 0) (u := 32) (q := 0) dX12_seasonName_1 xf12_25 (sa_32_0 hs) rfl hn rfl rfl (by decide) ?_
  show Ev g _ _ _ _ _ _ 4 [some (x_r (16 * 32 + 0)), some (x_i a), none] [x_i (S 0 12)] (al, ro, fl (ml M [32] [S])) _ _ _ _
  refine e_iconst (pc := 4) dX12_seasonName_4 (x_R rfl) ?_
  refine e_icmp_eq (pc := 5) (tgt := 10) dX12_seasonName_5 (by decide) (fun hb => ?_) (fun hb => ?_)
  · rw [if_pos hb] at hG
    refine e_aloadn (pc := 10) (i := 0) dX12_seasonName_10 rfl rfl ?_
    refine e_ldcS (pc := 11) (i := 8) dX12_seasonName_11 (by decide +kernel) (by decide) ?_
    obtain ⟨v1, S2, hq2, hG⟩ := x_bd2 hG
    refine e_invV (pc := 13) (K1 := 0) (S1 := 0) (K := 0) (S := 0) (dd2 := 6) (av := [x_r (x_s0 + 8)]) (st := []) (id := 16 * 32 + 0) dX12_seasonName_13 xmX12_112 rfl (Or.inl ⟨10, 27, TX12, (sa_32_0 hs), rfl, by decide⟩) (f_cal (M := M) (us2 := [32]) [0] hn rfl (And.intro rfl trivial) rfl rfl rfl (c_X12_has hst hs  (by decide) hq2)) (by decide) (Nat.le_of_ble_eq_true rfl) (Or.inl rfl) ?_
    show Ev g _ _ _ _ _ _ 16 [some (x_r (16 * 32 + 0)), some (x_i a), none] [x_i v1] (al, ro, fl (ml M [32] [S2])) _ _ _ _
    obtain ⟨v4, S5, hr5, hG⟩ := x_bd2 hG
    have hjhr5 : Ev g yX12_seasonName cX12_seasonName 3 (some .int) [] 7 80 [some (x_r (16 * 32 + 0)), some (x_i a), none] [x_i v4] (al, ro, fl (ml M [32] [S5])) 0 0 (.inl (some (x_i t.1))) (al, ro, fl (ml M [32] [t.2])) := by
      refine e_istoren (pc := 80) (i := 2) dX12_seasonName_80 rfl (by decide) rfl ?_
      show Ev g _ _ _ _ _ _ 81 [some (x_r (16 * 32 + 0)), some (x_i a), some (x_i v4)] [] (al, ro, fl (ml M [32] [S5])) _ _ _ _
      refine e_iloadn (pc := 81) (i := 2) dX12_seasonName_81 rfl rfl ?_
      refine e_iconst (pc := 82) dX12_seasonName_82 (x_R rfl) ?_
      obtain ⟨S19, hr19, hG⟩ := x_bd1 hG
      have hjhr19 : Ev g yX12_seasonName cX12_seasonName 3 (some .int) [] 7 94 [some (x_r (16 * 32 + 0)), some (x_i a), some (x_i v4)] [] (al, ro, fl (ml M [32] [S19])) 0 0 (.inl (some (x_i t.1))) (al, ro, fl (ml M [32] [t.2])) := by
        refine e_iloadn (pc := 94) (i := 2) dX12_seasonName_94 rfl rfl ?_
        refine e_iconst (pc := 95) dX12_seasonName_95 (x_R rfl) ?_
        obtain ⟨v26, hr26, hG⟩ := x_bd1 hG
        have hjhr26 : Ev g yX12_seasonName cX12_seasonName 3 (some .int) [] 7 104 [some (x_r (16 * 32 + 0)), some (x_i a), some (x_i v4)] [x_i v26] (al, ro, fl (ml M [32] [S19])) 0 0 (.inl (some (x_i t.1))) (al, ro, fl (ml M [32] [t.2])) := by
          cases hG
          exact (e_ireturn rfl dX12_seasonName_104 rfl)
        clear hG
        refine e_icmp_ne (pc := 96) (tgt := 103) dX12_seasonName_96 (by decide) (fun hb => ?_) (fun hb => ?_)
        · rw [if_neg hb] at hr26
          refine e_iloadn (pc := 103) (i := 2) dX12_seasonName_103 rfl rfl ?_
          cases hr26
          exact hjhr26
        · rw [if_pos hb] at hr26
          refine e_iconst (pc := 99) dX12_seasonName_99 (x_R rfl) ?_
          refine e_goto (pc := 100) (tgt := 104) dX12_seasonName_100 (by decide) ?_
          cases hr26
          exact hjhr26
      clear hG
      refine e_icmp_ne (pc := 83) (tgt := 94) dX12_seasonName_83 (by decide) (fun hb => ?_) (fun hb => ?_)
      · rw [if_neg hb] at hr19
        cases hr19
        exact hjhr19
      · rw [if_pos hb] at hr19
        refine e_aloadn (pc := 86) (i := 0) dX12_seasonName_86 rfl rfl ?_
        refine e_aloadn (pc := 87) (i := 0) dX12_seasonName_87 rfl rfl ?_
        obtain ⟨v21, S22, hq22, hr19⟩ := x_bd2 hr19
        refine e_invV (pc := 88) (K1 := 0) (S1 := 0) (K := 0) (S := 0) (dd2 := 2) (av := []) (st := [x_r (16 * 32 + 0)]) (id := 16 * 32 + 0) dX12_seasonName_88 xmX12_105 rfl (Or.inl ⟨10, 27, TX12, (sa_32_0 hs), rfl, by decide⟩) (f_cal (M := M) (us2 := [32]) [0] hn rfl (And.intro rfl trivial) rfl rfl rfl (c_X12_here hst hs   hq22)) (by decide) (Nat.le_of_ble_eq_true rfl) (Or.inl rfl) ?_
        show Ev g _ _ _ _ _ _ 91 [some (x_r (16 * 32 + 0)), some (x_i a), some (x_i v4)] [x_i v21, x_r (16 * 32 + 0)] (al, ro, fl (ml M [32] [S22])) _ _ _ _
        obtain ⟨S24, hq24, hr19⟩ := x_bd1 hr19
        refine e_invV (pc := 91) (K1 := 0) (S1 := 0) (K := 0) (S := 0) (dd2 := 0) (av := [x_i v21]) (st := []) (id := 16 * 32 + 0) dX12_seasonName_91 xmX12_108 rfl (Or.inl ⟨10, 27, TX12, (sa_32_0 hs), rfl, by decide⟩) (f_cal (M := M) (us2 := [32]) [0] hn rfl (And.intro rfl trivial) rfl rfl rfl (c_X12_wrong hst hs   hq24)) (by decide) (Nat.le_of_ble_eq_true rfl) (Or.inl rfl) ?_
        show Ev g _ _ _ _ _ _ 94 [some (x_r (16 * 32 + 0)), some (x_i a), some (x_i v4)] [] (al, ro, fl (ml M [32] [S24])) _ _ _ _
        cases hr19
        exact hjhr19
    clear hG
    refine e_if_eq (pc := 16) (tgt := 23) dX12_seasonName_16 (by decide) (fun hb => ?_) (fun hb => ?_)
    · rw [if_pos hb] at hr5
      refine e_aloadn (pc := 23) (i := 0) dX12_seasonName_23 rfl rfl ?_
      refine e_ldcS (pc := 24) (i := 9) dX12_seasonName_24 (by decide +kernel) (by decide) ?_
      obtain ⟨v7, S8, hq8, hr5⟩ := x_bd2 hr5
      refine e_invV (pc := 26) (K1 := 0) (S1 := 0) (K := 0) (S := 0) (dd2 := 6) (av := [x_r (x_s0 + 9)]) (st := []) (id := 16 * 32 + 0) dX12_seasonName_26 xmX12_112 rfl (Or.inl ⟨10, 27, TX12, (sa_32_0 hs), rfl, by decide⟩) (f_cal (M := M) (us2 := [32]) [0] hn rfl (And.intro rfl trivial) rfl rfl rfl (c_X12_has hst hs  (by decide) hq8)) (by decide) (Nat.le_of_ble_eq_true rfl) (Or.inl rfl) ?_
      show Ev g _ _ _ _ _ _ 29 [some (x_r (16 * 32 + 0)), some (x_i a), none] [x_i v7] (al, ro, fl (ml M [32] [S8])) _ _ _ _
      refine e_if_eq (pc := 29) (tgt := 36) dX12_seasonName_29 (by decide) (fun hb => ?_) (fun hb => ?_)
      · rw [if_pos hb] at hr5
        refine e_aloadn (pc := 36) (i := 0) dX12_seasonName_36 rfl rfl ?_
        refine e_ldcS (pc := 37) (i := 10) dX12_seasonName_37 (by decide +kernel) (by decide) ?_
        obtain ⟨v10, S11, hq11, hr5⟩ := x_bd2 hr5
        refine e_invV (pc := 39) (K1 := 0) (S1 := 0) (K := 0) (S := 0) (dd2 := 6) (av := [x_r (x_s0 + 10)]) (st := []) (id := 16 * 32 + 0) dX12_seasonName_39 xmX12_112 rfl (Or.inl ⟨10, 27, TX12, (sa_32_0 hs), rfl, by decide⟩) (f_cal (M := M) (us2 := [32]) [0] hn rfl (And.intro rfl trivial) rfl rfl rfl (c_X12_has hst hs  (by decide) hq11)) (by decide) (Nat.le_of_ble_eq_true rfl) (Or.inl rfl) ?_
        show Ev g _ _ _ _ _ _ 42 [some (x_r (16 * 32 + 0)), some (x_i a), none] [x_i v10] (al, ro, fl (ml M [32] [S11])) _ _ _ _
        refine e_if_eq (pc := 42) (tgt := 49) dX12_seasonName_42 (by decide) (fun hb => ?_) (fun hb => ?_)
        · rw [if_pos hb] at hr5
          refine e_aloadn (pc := 49) (i := 0) dX12_seasonName_49 rfl rfl ?_
          refine e_ldcS (pc := 50) (i := 11) dX12_seasonName_50 (by decide +kernel) (by decide) ?_
          obtain ⟨v13, S14, hq14, hr5⟩ := x_bd2 hr5
          refine e_invV (pc := 52) (K1 := 0) (S1 := 0) (K := 0) (S := 0) (dd2 := 6) (av := [x_r (x_s0 + 11)]) (st := []) (id := 16 * 32 + 0) dX12_seasonName_52 xmX12_112 rfl (Or.inl ⟨10, 27, TX12, (sa_32_0 hs), rfl, by decide⟩) (f_cal (M := M) (us2 := [32]) [0] hn rfl (And.intro rfl trivial) rfl rfl rfl (c_X12_has hst hs  (by decide) hq14)) (by decide) (Nat.le_of_ble_eq_true rfl) (Or.inl rfl) ?_
          show Ev g _ _ _ _ _ _ 55 [some (x_r (16 * 32 + 0)), some (x_i a), none] [x_i v13] (al, ro, fl (ml M [32] [S14])) _ _ _ _
          refine e_if_eq (pc := 55) (tgt := 62) dX12_seasonName_55 (by decide) (fun hb => ?_) (fun hb => ?_)
          · rw [if_pos hb] at hr5
            refine e_iloadn (pc := 62) (i := 1) dX12_seasonName_62 rfl rfl ?_
            refine e_if_eq (pc := 63) (tgt := 79) dX12_seasonName_63 (by decide) (fun hb => ?_) (fun hb => ?_)
            · rw [if_pos hb] at hr5
              refine e_iconst (pc := 79) dX12_seasonName_79 (x_R rfl) ?_
              cases hr5
              exact hjhr5
            · rw [if_neg hb] at hr5
              refine e_aloadn (pc := 66) (i := 0) dX12_seasonName_66 rfl rfl ?_
              refine e_ldcS (pc := 67) (i := 7) dX12_seasonName_67 (by decide +kernel) (by decide) ?_
              obtain ⟨v16, S17, hq17, hr5⟩ := x_bd2 hr5
              refine e_invV (pc := 69) (K1 := 0) (S1 := 0) (K := 0) (S := 0) (dd2 := 6) (av := [x_r (x_s0 + 7)]) (st := []) (id := 16 * 32 + 0) dX12_seasonName_69 xmX12_112 rfl (Or.inl ⟨10, 27, TX12, (sa_32_0 hs), rfl, by decide⟩) (f_cal (M := M) (us2 := [32]) [0] hn rfl (And.intro rfl trivial) rfl rfl rfl (c_X12_has hst hs  (by decide) hq17)) (by decide) (Nat.le_of_ble_eq_true rfl) (Or.inl rfl) ?_
              show Ev g _ _ _ _ _ _ 72 [some (x_r (16 * 32 + 0)), some (x_i a), none] [x_i v16] (al, ro, fl (ml M [32] [S17])) _ _ _ _
              refine e_if_eq (pc := 72) (tgt := 79) dX12_seasonName_72 (by decide) (fun hb => ?_) (fun hb => ?_)
              · rw [if_pos hb] at hr5
                refine e_iconst (pc := 79) dX12_seasonName_79 (x_R rfl) ?_
                cases hr5
                exact hjhr5
              · rw [if_neg hb] at hr5
                refine e_iconst (pc := 75) dX12_seasonName_75 (x_R rfl) ?_
                refine e_goto (pc := 76) (tgt := 80) dX12_seasonName_76 (by decide) ?_
                cases hr5
                exact hjhr5
          · rw [if_neg hb] at hr5
            refine e_iconst (pc := 58) dX12_seasonName_58 (x_R rfl) ?_
            refine e_goto (pc := 59) (tgt := 80) dX12_seasonName_59 (by decide) ?_
            cases hr5
            exact hjhr5
        · rw [if_neg hb] at hr5
          refine e_iconst (pc := 45) dX12_seasonName_45 (x_R rfl) ?_
          refine e_goto (pc := 46) (tgt := 80) dX12_seasonName_46 (by decide) ?_
          cases hr5
          exact hjhr5
      · rw [if_neg hb] at hr5
        refine e_iconst (pc := 32) dX12_seasonName_32 (x_R rfl) ?_
        refine e_goto (pc := 33) (tgt := 80) dX12_seasonName_33 (by decide) ?_
        cases hr5
        exact hjhr5
    · rw [if_neg hb] at hr5
      refine e_iconst (pc := 19) dX12_seasonName_19 (x_R rfl) ?_
      refine e_goto (pc := 20) (tgt := 80) dX12_seasonName_20 (by decide) ?_
      cases hr5
      exact hjhr5
  · rw [if_neg hb] at hG
    refine e_iconst (pc := 8) dX12_seasonName_8 (x_R rfl) ?_
    cases hG
    exact (e_ireturn rfl dX12_seasonName_9 rfl)
set_option maxRecDepth 100000 in
set_option maxHeartbeats 4000000 in
theorem c_X12_says {g : xG} {al : List (Nat × Nat × Nat)} {ro : Nat → Nat → Option Nat} (hst : g.1.stackTraces = false) (hs : SH al ro) {M : Nat → xU} {a : Int} {b : Int} {c : Int} {S : xU}  {t : xU} (hG : G12_says a b c S = some t) :
    Cal g yX12_says cX12_says 5 none 4 [x_r (16 * 32 + 0), x_i a, x_i b, x_i c] (al, ro, fl (ml M [32] [S])) 0 0 (.inl none) (al, ro, fl (ml M [32] [t])) := by
  have hn : ([32] : List Nat).Nodup := by decide
  refine cal_of_ev (plainFor_of_name (by decide)) (x_c1 rfl) (Nat.le_of_ble_eq_true rfl) hst ?_
  show Ev g _ _ _ _ _ _ 0 [some (x_r (16 * 32 + 0)), some (x_i a), some (x_i b), some (x_i c), none] [] (al, ro, fl (ml M [32] [S])) _ _ _ _
  rw [G12_says] at hG
  refine e_aloadn (pc := 0) (i := 0) dX12_says_0 rfl rfl ?_
  refine e_iloadn (pc := 1) (i := 2) dX12_says_1 rfl rfl ?_
  refine e_iloadn (pc := 2) (i := 3) dX12_says_2 rfl rfl ?_
  obtain ⟨v1, S2, hq2, hG⟩ := x_bd2 hG
  refine e_invV (pc := 3) (K1 := 0) (S1 := 0) (K := 0) (S := 0) (dd2 := 3) (av := [x_i b, x_i c]) (st := []) (id := 16 * 32 + 0) dX12_says_3 xmX12_116 rfl (Or.inl ⟨10, 27, TX12, (sa_32_0 hs), rfl, by decide⟩) (f_cal (M := M) (us2 := [32]) [0] hn rfl (And.intro rfl trivial) rfl rfl rfl (c_X12_figures hst hs   hq2)) (by decide) (Nat.le_of_ble_eq_true rfl) (Or.inl rfl) ?_
  show Ev g _ _ _ _ _ _ 6 [some (x_r (16 * 32 + 0)), some (x_i a), some (x_i b), some (x_i c), none] [x_i v1] (al, ro, fl (ml M [32] [S2])) _ _ _ _
  refine e_istore (pc := 6) (i := 4) dX12_says_6 (by decide) rfl ?_
  show Ev g _ _ _ _ _ _ 8 [some (x_r (16 * 32 + 0)), some (x_i a), some (x_i b), some (x_i c), some (x_i v1)] [] (al, ro, fl (ml M [32] [S2])) _ _ _ _
  refine e_aloadn (pc := 8) (i := 0) dX12_says_8 rfl rfl ?_
  refine f_geti (pc := 9) (k := 0) (u := 32) (q := 0) dX12_says_9 xf12_25 (sa_32_0 hs) rfl hn rfl rfl (by decide) ?_
  show Ev g _ _ _ _ _ _ 12 [some (x_r (16 * 32 + 0)), some (x_i a), some (x_i b), some (x_i c), some (x_i v1)] [x_i (S2 0 12)] (al, ro, fl (ml M [32] [S2])) _ _ _ _
  refine e_iconst (pc := 12) dX12_says_12 (x_R rfl) ?_
  obtain ⟨S4, hr4, hG⟩ := x_bd1 hG
  have hjhr4 : Ev g yX12_says cX12_says 5 none [] 4 24 [some (x_r (16 * 32 + 0)), some (x_i a), some (x_i b), some (x_i c), some (x_i v1)] [] (al, ro, fl (ml M [32] [S4])) 0 0 (.inl none) (al, ro, fl (ml M [32] [t])) := by
    cases hG
    exact (e_return rfl dX12_says_24)
  clear hG
  refine e_icmp_ne (pc := 13) (tgt := 24) dX12_says_13 (by decide) (fun hb => ?_) (fun hb => ?_)
  · rw [if_neg hb] at hr4
    cases hr4
    exact hjhr4
  · rw [if_pos hb] at hr4
    refine e_aloadn (pc := 16) (i := 0) dX12_says_16 rfl rfl ?_
    refine f_getr (pc := 17) (u := 32) (q := 0) dX12_says_17 xf12_7 (sa_32_0 hs) rfl (sr_32_0_1 hs) ?_
    refine e_iloadn (pc := 20) (i := 1) dX12_says_20 rfl rfl ?_
    refine e_iload (pc := 21) dX12_says_21 rfl ?_
    obtain ⟨hc0, hr4⟩ := x_gd_some hr4
    refine f_iast (pc := 23) (k := 0) (u := 32) (q := 1) (len := 772) dX12_says_23 (sa_32_1 hs) hc0 hn rfl rfl rfl (by decide) ?_
    show Ev g _ _ _ _ _ _ 24 [some (x_r (16 * 32 + 0)), some (x_i a), some (x_i b), some (x_i c), some (x_i v1)] [] (al, ro, fl (ml M [32] [(x_up S2 1 (a).toNat v1)])) _ _ _ _
    cases hr4
    exact hjhr4
