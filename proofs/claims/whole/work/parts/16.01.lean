set_option maxRecDepth 100000 in
set_option maxHeartbeats 4000000 in
theorem c_X12_figures {g : xG} {al : List (Nat × Nat × Nat)} {ro : Nat → Nat → Option Nat} (hst : g.1.stackTraces = false) (hs : SH al ro) {M : Nat → xU} {a : Int} {b : Int} {S : xU}  {t : (Int × xU)} (hG : G12_figures a b S = some t) :
    Cal g yX12_figures cX12_figures 5 (some .int) 3 [x_r (16 * 32 + 0), x_i a, x_i b] (al, ro, fl (ml M [32] [S])) 0 0 (.inl (some (x_i t.1))) (al, ro, fl (ml M [32] [t.2])) := by
  have hn : ([32] : List Nat).Nodup := by decide
  refine cal_of_ev (plainFor_of_name (by decide)) (x_c1 rfl) (Nat.le_of_ble_eq_true rfl) hst ?_
  show Ev g _ _ _ _ _ _ 0 [some (x_r (16 * 32 + 0)), some (x_i a), some (x_i b), none, none] [] (al, ro, fl (ml M [32] [S])) _ _ _ _
  rw [G12_figures] at hG
  refine e_aloadn (pc := 0) (i := 0) dX12_figures_0 rfl rfl ?_
  refine f_geti (pc := 1) (k := 0) (u := 32) (q := 0) dX12_figures_1 xf12_25 (sa_32_0 hs) rfl hn rfl rfl (by decide) ?_
  show Ev g _ _ _ _ _ _ 4 [some (x_r (16 * 32 + 0)), some (x_i a), some (x_i b), none, none] [x_i (S 0 12)] (al, ro, fl (ml M [32] [S])) _ _ _ _
  refine e_iconst (pc := 4) dX12_figures_4 (x_R rfl) ?_
  refine e_icmp_eq (pc := 5) (tgt := 10) dX12_figures_5 (by decide) (fun hb => ?_) (fun hb => ?_)
  · rw [if_pos hb] at hG
    refine e_aloadn (pc := 10) (i := 0) dX12_figures_10 rfl rfl ?_
    obtain ⟨v1, S2, hq2, hG⟩ := x_bd2 hG
    refine e_invV (pc := 11) (K1 := 0) (S1 := 0) (K := 0) (S := 0) (dd2 := 2) (av := []) (st := []) (id := 16 * 32 + 0) dX12_figures_11 xmX12_105 rfl (Or.inl ⟨10, 27, TX12, (sa_32_0 hs), rfl, by decide⟩) (f_cal (M := M) (us2 := [32]) [0] hn rfl (And.intro rfl trivial) rfl rfl rfl (c_X12_here hst hs   hq2)) (by decide) (Nat.le_of_ble_eq_true rfl) (Or.inl rfl) ?_
    show Ev g _ _ _ _ _ _ 14 [some (x_r (16 * 32 + 0)), some (x_i a), some (x_i b), none, none] [x_i v1] (al, ro, fl (ml M [32] [S2])) _ _ _ _
    refine e_istoren (pc := 14) (i := 3) dX12_figures_14 rfl (by decide) rfl ?_
    show Ev g _ _ _ _ _ _ 15 [some (x_r (16 * 32 + 0)), some (x_i a), some (x_i b), some (x_i v1), none] [] (al, ro, fl (ml M [32] [S2])) _ _ _ _
    refine e_iconst (pc := 15) dX12_figures_15 (x_R rfl) ?_
    refine e_istore (pc := 16) (i := 4) dX12_figures_16 (by decide) rfl ?_
    show Ev g _ _ _ _ _ _ 18 [some (x_r (16 * 32 + 0)), some (x_i a), some (x_i b), some (x_i v1), some (x_i 0)] [] (al, ro, fl (ml M [32] [S2])) _ _ _ _
    obtain ⟨v6, S7, hl8, hG⟩ := x_bd2 hG
    have hk8 : ∀ q : (Int × xU), q = (v6, S7) → Ev g yX12_figures cX12_figures 5 (some .int) [] 3 89 [some (x_r (16 * 32 + 0)), some (x_i a), some (x_i b), some (x_i v1), some (x_i q.1)] [] (al, ro, fl (ml M [32] [q.2])) 0 0 (.inl (some (x_i t.1))) (al, ro, fl (ml M [32] [t.2])) := by
      intro q hq
      cases hq
      refine e_aloadn (pc := 89) (i := 0) dX12_figures_89 rfl rfl ?_
      refine f_geti (pc := 90) (k := 0) (u := 32) (q := 0) dX12_figures_90 xf12_82 (sa_32_0 hs) rfl hn rfl rfl (by decide) ?_
      show Ev g _ _ _ _ _ _ 93 [some (x_r (16 * 32 + 0)), some (x_i a), some (x_i b), some (x_i v1), some (x_i v6)] [x_i (S7 0 11)] (al, ro, fl (ml M [32] [S7])) _ _ _ _
      refine e_iloadn (pc := 93) (i := 3) dX12_figures_93 rfl rfl ?_
      obtain ⟨S16, hr16, hG⟩ := x_bd1 hG
      have hjhr16 : Ev g yX12_figures cX12_figures 5 (some .int) [] 3 124 [some (x_r (16 * 32 + 0)), some (x_i a), some (x_i b), some (x_i v1), some (x_i v6)] [] (al, ro, fl (ml M [32] [S16])) 0 0 (.inl (some (x_i t.1))) (al, ro, fl (ml M [32] [t.2])) := by
        refine e_iload (pc := 124) dX12_figures_124 rfl ?_
        cases hG
        exact (e_ireturn rfl dX12_figures_126 rfl)
      clear hG
      refine e_icmp_eq (pc := 94) (tgt := 119) dX12_figures_94 (by decide) (fun hb => ?_) (fun hb => ?_)
      · rw [if_pos hb] at hr16
        refine e_aloadn (pc := 119) (i := 0) dX12_figures_119 rfl rfl ?_
        refine e_iloadn (pc := 120) (i := 3) dX12_figures_120 rfl rfl ?_
        obtain ⟨S18, hq18, hr16⟩ := x_bd1 hr16
        refine e_invV (pc := 121) (K1 := 0) (S1 := 0) (K := 0) (S := 0) (dd2 := 0) (av := [x_i v1]) (st := []) (id := 16 * 32 + 0) dX12_figures_121 xmX12_108 rfl (Or.inl ⟨10, 27, TX12, (sa_32_0 hs), rfl, by decide⟩) (f_cal (M := M) (us2 := [32]) [0] hn rfl (And.intro rfl trivial) rfl rfl rfl (c_X12_wrong hst hs   hq18)) (by decide) (Nat.le_of_ble_eq_true rfl) (Or.inl rfl) ?_
        show Ev g _ _ _ _ _ _ 124 [some (x_r (16 * 32 + 0)), some (x_i a), some (x_i b), some (x_i v1), some (x_i v6)] [] (al, ro, fl (ml M [32] [S18])) _ _ _ _
        cases hr16
        exact hjhr16
      · rw [if_neg hb] at hr16
        refine e_aloadn (pc := 97) (i := 0) dX12_figures_97 rfl rfl ?_
        refine f_geti (pc := 98) (k := 0) (u := 32) (q := 0) dX12_figures_98 xf12_82 (sa_32_0 hs) rfl hn rfl rfl (by decide) ?_
        show Ev g _ _ _ _ _ _ 101 [some (x_r (16 * 32 + 0)), some (x_i a), some (x_i b), some (x_i v1), some (x_i v6)] [x_i (S7 0 11)] (al, ro, fl (ml M [32] [S7])) _ _ _ _
        refine e_iloadn (pc := 101) (i := 3) dX12_figures_101 rfl rfl ?_
        refine e_isub (pc := 102) dX12_figures_102 ?_
        refine e_iconst (pc := 103) dX12_figures_103 (x_R rfl) ?_
        refine e_icmp_gt (pc := 104) (tgt := 119) dX12_figures_104 (by decide) (fun hb => ?_) (fun hb => ?_)
        · rw [if_pos hb] at hr16
          refine e_aloadn (pc := 119) (i := 0) dX12_figures_119 rfl rfl ?_
          refine e_iloadn (pc := 120) (i := 3) dX12_figures_120 rfl rfl ?_
          obtain ⟨S20, hq20, hr16⟩ := x_bd1 hr16
          refine e_invV (pc := 121) (K1 := 0) (S1 := 0) (K := 0) (S := 0) (dd2 := 0) (av := [x_i v1]) (st := []) (id := 16 * 32 + 0) dX12_figures_121 xmX12_108 rfl (Or.inl ⟨10, 27, TX12, (sa_32_0 hs), rfl, by decide⟩) (f_cal (M := M) (us2 := [32]) [0] hn rfl (And.intro rfl trivial) rfl rfl rfl (c_X12_wrong hst hs   hq20)) (by decide) (Nat.le_of_ble_eq_true rfl) (Or.inl rfl) ?_
          show Ev g _ _ _ _ _ _ 124 [some (x_r (16 * 32 + 0)), some (x_i a), some (x_i b), some (x_i v1), some (x_i v6)] [] (al, ro, fl (ml M [32] [S20])) _ _ _ _
          cases hr16
          exact hjhr16
        · rw [if_neg hb] at hr16
          refine e_iload (pc := 107) dX12_figures_107 rfl ?_
          refine e_iloadn (pc := 109) (i := 1) dX12_figures_109 rfl rfl ?_
          refine e_icmp_lt (pc := 110) (tgt := 119) dX12_figures_110 (by decide) (fun hb => ?_) (fun hb => ?_)
          · rw [if_pos hb] at hr16
            refine e_aloadn (pc := 119) (i := 0) dX12_figures_119 rfl rfl ?_
            refine e_iloadn (pc := 120) (i := 3) dX12_figures_120 rfl rfl ?_
            obtain ⟨S22, hq22, hr16⟩ := x_bd1 hr16
            refine e_invV (pc := 121) (K1 := 0) (S1 := 0) (K := 0) (S := 0) (dd2 := 0) (av := [x_i v1]) (st := []) (id := 16 * 32 + 0) dX12_figures_121 xmX12_108 rfl (Or.inl ⟨10, 27, TX12, (sa_32_0 hs), rfl, by decide⟩) (f_cal (M := M) (us2 := [32]) [0] hn rfl (And.intro rfl trivial) rfl rfl rfl (c_X12_wrong hst hs   hq22)) (by decide) (Nat.le_of_ble_eq_true rfl) (Or.inl rfl) ?_
            show Ev g _ _ _ _ _ _ 124 [some (x_r (16 * 32 + 0)), some (x_i a), some (x_i b), some (x_i v1), some (x_i v6)] [] (al, ro, fl (ml M [32] [S22])) _ _ _ _
            cases hr16
            exact hjhr16
          · rw [if_neg hb] at hr16
            refine e_iload (pc := 113) dX12_figures_113 rfl ?_
            refine e_iloadn (pc := 115) (i := 2) dX12_figures_115 rfl rfl ?_
            refine e_icmp_le (pc := 116) (tgt := 124) dX12_figures_116 (by decide) (fun hb => ?_) (fun hb => ?_)
            · rw [if_pos hb] at hr16
              cases hr16
              exact hjhr16
            · rw [if_neg hb] at hr16
              refine e_aloadn (pc := 119) (i := 0) dX12_figures_119 rfl rfl ?_
              refine e_iloadn (pc := 120) (i := 3) dX12_figures_120 rfl rfl ?_
              obtain ⟨S24, hq24, hr16⟩ := x_bd1 hr16
              refine e_invV (pc := 121) (K1 := 0) (S1 := 0) (K := 0) (S := 0) (dd2 := 0) (av := [x_i v1]) (st := []) (id := 16 * 32 + 0) dX12_figures_121 xmX12_108 rfl (Or.inl ⟨10, 27, TX12, (sa_32_0 hs), rfl, by decide⟩) (f_cal (M := M) (us2 := [32]) [0] hn rfl (And.intro rfl trivial) rfl rfl rfl (c_X12_wrong hst hs   hq24)) (by decide) (Nat.le_of_ble_eq_true rfl) (Or.inl rfl) ?_
              show Ev g _ _ _ _ _ _ 124 [some (x_r (16 * 32 + 0)), some (x_i a), some (x_i b), some (x_i v1), some (x_i v6)] [] (al, ro, fl (ml M [32] [S24])) _ _ _ _
              cases hr16
              exact hjhr16
    clear hG
    refine e_whl (G12_figures_L18 v1) (fun z : (Int × xU) => Ev g yX12_figures cX12_figures 5 (some .int) [] 3 18 [some (x_r (16 * 32 + 0)), some (x_i a), some (x_i b), some (x_i v1), some (x_i z.1)] [] (al, ro, fl (ml M [32] [z.2])) 0 0 (.inl (some (x_i t.1))) (al, ro, fl (ml M [32] [t.2]))) (fun q => q = (v6, S7)) ?_ xFU (0, S2) _ hl8 rfl
    intro z t8 hf8 hi8 hx8
    obtain ⟨v4, S5⟩ := z
    rw [G12_figures_L18] at hf8
    show Ev g _ _ _ _ _ _ 18 [some (x_r (16 * 32 + 0)), some (x_i a), some (x_i b), some (x_i v1), some (x_i v4)] [] (al, ro, fl (ml M [32] [S5])) _ _ _ _
    refine e_aloadn (pc := 18) (i := 0) dX12_figures_18 rfl rfl ?_
    refine f_geti (pc := 19) (k := 0) (u := 32) (q := 0) dX12_figures_19 xf12_82 (sa_32_0 hs) rfl hn rfl rfl (by decide) ?_
    show Ev g _ _ _ _ _ _ 22 [some (x_r (16 * 32 + 0)), some (x_i a), some (x_i b), some (x_i v1), some (x_i v4)] [x_i (S5 0 11)] (al, ro, fl (ml M [32] [S5])) _ _ _ _
    refine e_aloadn (pc := 22) (i := 0) dX12_figures_22 rfl rfl ?_
    refine f_geti (pc := 23) (k := 0) (u := 32) (q := 0) dX12_figures_23 xf12_85 (sa_32_0 hs) rfl hn rfl rfl (by decide) ?_
    show Ev g _ _ _ _ _ _ 26 [some (x_r (16 * 32 + 0)), some (x_i a), some (x_i b), some (x_i v1), some (x_i v4)] [x_i (S5 0 10), x_i (S5 0 11)] (al, ro, fl (ml M [32] [S5])) _ _ _ _
    refine e_icmp_ge (pc := 26) (tgt := 89) dX12_figures_26 (by decide) (fun hb => ?_) (fun hb => ?_)
    · rw [if_pos hb] at hf8
      cases hf8
      have hh := hk8 _ (hx8 _ rfl)
      try dsimp only at hh
      exact hh
    · rw [if_neg hb] at hf8
      refine e_aloadn (pc := 29) (i := 0) dX12_figures_29 rfl rfl ?_
      refine e_aloadn (pc := 30) (i := 0) dX12_figures_30 rfl rfl ?_
      refine f_geti (pc := 31) (k := 0) (u := 32) (q := 0) dX12_figures_31 xf12_82 (sa_32_0 hs) rfl hn rfl rfl (by decide) ?_
      show Ev g _ _ _ _ _ _ 34 [some (x_r (16 * 32 + 0)), some (x_i a), some (x_i b), some (x_i v1), some (x_i v4)] [x_i (S5 0 11), x_r (16 * 32 + 0)] (al, ro, fl (ml M [32] [S5])) _ _ _ _
      obtain ⟨v10, hq10, hf8⟩ := x_bd1 hf8
      refine e_invV (pc := 34) (K1 := 0) (S1 := 0) (K := 0) (S := 0) (dd2 := 0) (av := [x_i (S5 0 11)]) (st := []) (id := 16 * 32 + 0) dX12_figures_34 xmX12_88 rfl (Or.inl ⟨10, 27, TX12, (sa_32_0 hs), rfl, by decide⟩) (f_cal (M := M) (us2 := [32]) [0] hn rfl (And.intro rfl trivial) rfl rfl rfl (c_X12_letter hst hs   hq10)) (by decide) (Nat.le_of_ble_eq_true rfl) (Or.inl rfl) ?_
      show Ev g _ _ _ _ _ _ 37 [some (x_r (16 * 32 + 0)), some (x_i a), some (x_i b), some (x_i v1), some (x_i v4)] [x_i v10] (al, ro, fl (ml M [32] [S5])) _ _ _ _
      refine e_bipush (pc := 37) dX12_figures_37 (by decide +kernel) (x_R rfl) ?_
      refine e_bipush (pc := 39) dX12_figures_39 (by decide +kernel) (x_R rfl) ?_
      obtain ⟨v12, hq12, hf8⟩ := x_bd1 hf8
      refine e_invS (pc := 41) (K1 := 0) (S1 := 0) (K := 0) (S := 0) (dd2 := 0) (av := [x_i v10, x_i 48, x_i 57]) (st := []) dX12_figures_41 xmX12_61 rfl (f_cal (M := M) (us2 := []) [] hn rfl trivial rfl rfl rfl (c_X12_isIn hst hs   hq12)) (by decide) (Nat.le_of_ble_eq_true rfl) (Or.inl rfl) ?_
      show Ev g _ _ _ _ _ _ 44 [some (x_r (16 * 32 + 0)), some (x_i a), some (x_i b), some (x_i v1), some (x_i v4)] [x_i v12] (al, ro, fl (ml M [32] [S5])) _ _ _ _
      refine e_if_eq (pc := 44) (tgt := 89) dX12_figures_44 (by decide) (fun hb => ?_) (fun hb => ?_)
      · rw [if_pos hb] at hf8
        cases hf8
        have hh := hk8 _ (hx8 _ rfl)
        try dsimp only at hh
        exact hh
      · rw [if_neg hb] at hf8
        refine e_aloadn (pc := 47) (i := 0) dX12_figures_47 rfl rfl ?_
        refine f_geti (pc := 48) (k := 0) (u := 32) (q := 0) dX12_figures_48 xf12_82 (sa_32_0 hs) rfl hn rfl rfl (by decide) ?_
        show Ev g _ _ _ _ _ _ 51 [some (x_r (16 * 32 + 0)), some (x_i a), some (x_i b), some (x_i v1), some (x_i v4)] [x_i (S5 0 11)] (al, ro, fl (ml M [32] [S5])) _ _ _ _
        refine e_iloadn (pc := 51) (i := 3) dX12_figures_51 rfl rfl ?_
        refine e_isub (pc := 52) dX12_figures_52 ?_
        refine e_iconst (pc := 53) dX12_figures_53 (x_R rfl) ?_
        refine e_icmp_gt (pc := 54) (tgt := 89) dX12_figures_54 (by decide) (fun hb => ?_) (fun hb => ?_)
        · rw [if_pos hb] at hf8
          cases hf8
          have hh := hk8 _ (hx8 _ rfl)
          try dsimp only at hh
          exact hh
        · rw [if_neg hb] at hf8
          refine e_bipush (pc := 57) dX12_figures_57 (by decide +kernel) (x_R rfl) ?_
          refine e_iload (pc := 59) dX12_figures_59 rfl ?_
          refine e_imul (pc := 61) dX12_figures_61 ?_
          refine e_aloadn (pc := 62) (i := 0) dX12_figures_62 rfl rfl ?_
          refine e_aloadn (pc := 63) (i := 0) dX12_figures_63 rfl rfl ?_
          refine f_geti (pc := 64) (k := 0) (u := 32) (q := 0) dX12_figures_64 xf12_82 (sa_32_0 hs) rfl hn rfl rfl (by decide) ?_
          show Ev g _ _ _ _ _ _ 67 [some (x_r (16 * 32 + 0)), some (x_i a), some (x_i b), some (x_i v1), some (x_i v4)] [x_i (S5 0 11), x_r (16 * 32 + 0), x_i (x_mul 10 v4)] (al, ro, fl (ml M [32] [S5])) _ _ _ _
          obtain ⟨v14, hq14, hf8⟩ := x_bd1 hf8
          refine e_invV (pc := 67) (K1 := 0) (S1 := 0) (K := 0) (S := 0) (dd2 := 0) (av := [x_i (S5 0 11)]) (st := [x_i (x_mul 10 v4)]) (id := 16 * 32 + 0) dX12_figures_67 xmX12_88 rfl (Or.inl ⟨10, 27, TX12, (sa_32_0 hs), rfl, by decide⟩) (f_cal (M := M) (us2 := [32]) [0] hn rfl (And.intro rfl trivial) rfl rfl rfl (c_X12_letter hst hs   hq14)) (by decide) (Nat.le_of_ble_eq_true rfl) (Or.inl rfl) ?_
          show Ev g _ _ _ _ _ _ 70 [some (x_r (16 * 32 + 0)), some (x_i a), some (x_i b), some (x_i v1), some (x_i v4)] [x_i v14, x_i (x_mul 10 v4)] (al, ro, fl (ml M [32] [S5])) _ _ _ _
          refine e_iadd (pc := 70) dX12_figures_70 ?_
          refine e_bipush (pc := 71) dX12_figures_71 (by decide +kernel) (x_R rfl) ?_
          refine e_isub (pc := 73) dX12_figures_73 ?_
          refine e_istore (pc := 74) (i := 4) dX12_figures_74 (by decide) rfl ?_
          show Ev g _ _ _ _ _ _ 76 [some (x_r (16 * 32 + 0)), some (x_i a), some (x_i b), some (x_i v1), some (x_i (x_sub (x_add (x_mul 10 v4) v14) 48))] [] (al, ro, fl (ml M [32] [S5])) _ _ _ _
          refine e_aloadn (pc := 76) (i := 0) dX12_figures_76 rfl rfl ?_
          refine e_dup (pc := 77) dX12_figures_77 rfl ?_
          refine f_geti (pc := 78) (k := 0) (u := 32) (q := 0) dX12_figures_78 xf12_82 (sa_32_0 hs) rfl hn rfl rfl (by decide) ?_
          show Ev g _ _ _ _ _ _ 81 [some (x_r (16 * 32 + 0)), some (x_i a), some (x_i b), some (x_i v1), some (x_i (x_sub (x_add (x_mul 10 v4) v14) 48))] [x_i (S5 0 11), x_r (16 * 32 + 0)] (al, ro, fl (ml M [32] [S5])) _ _ _ _
          refine e_iconst (pc := 81) dX12_figures_81 (x_R rfl) ?_
          refine e_iadd (pc := 82) dX12_figures_82 ?_
          refine f_puti (pc := 83) (k := 0) (u := 32) (q := 0) dX12_figures_83 xf12_82 xw10_11 (sa_32_0 hs) hn rfl rfl rfl (by decide) ?_
          show Ev g _ _ _ _ _ _ 86 [some (x_r (16 * 32 + 0)), some (x_i a), some (x_i b), some (x_i v1), some (x_i (x_sub (x_add (x_mul 10 v4) v14) 48))] [] (al, ro, fl (ml M [32] [(x_up S5 0 11 (x_add (S5 0 11) 1))])) _ _ _ _
          refine e_goto (pc := 86) (tgt := 18) dX12_figures_86 (by decide) ?_
          cases hf8
          have hh := hi8 _ rfl
          try dsimp only at hh
          exact hh
  · rw [if_neg hb] at hG
    refine e_iconst (pc := 8) dX12_figures_8 (x_R rfl) ?_
    cases hG
    exact (e_ireturn rfl dX12_figures_9 rfl)
set_option maxRecDepth 100000 in
set_option maxHeartbeats 4000000 in
theorem c_X12_part {g : xG} {al : List (Nat × Nat × Nat)} {ro : Nat → Nat → Option Nat} (hst : g.1.stackTraces = false) (hs : SH al ro) {M : Nat → xU} {S : xU}  {t : (Int × xU)} (hG : G12_part S = some t) :
    Cal g yX12_part cX12_part 2 (some .int) 7 [x_r (16 * 32 + 0)] (al, ro, fl (ml M [32] [S])) 0 0 (.inl (some (x_i t.1))) (al, ro, fl (ml M [32] [t.2])) := by
  have hn : ([32] : List Nat).Nodup := by decide
  refine cal_of_ev (plainFor_of_name (by decide)) (x_c1 rfl) (Nat.le_of_ble_eq_true rfl) hst ?_
  show Ev g _ _ _ _ _ _ 0 [some (x_r (16 * 32 + 0)), none] [] (al, ro, fl (ml M [32] [S])) _ _ _ _
  rw [G12_part] at hG
  refine e_aloadn (pc := 0) (i := 0) dX12_part_0 rfl rfl ?_
  refine f_geti (pc := 1) (k := 0) (u := 32) (q := 0) dX12_part_1 xf12_25 (sa_32_0 hs) rfl hn rfl rfl (by decide) ?_
  show Ev g _ _ _ _ _ _ 4 [some (x_r (16 * 32 + 0)), none] [x_i (S 0 12)] (al, ro, fl (ml M [32] [S])) _ _ _ _
  refine e_iconst (pc := 4) dX12_part_4 (x_R rfl) ?_
  refine e_icmp_eq (pc := 5) (tgt := 10) dX12_part_5 (by decide) (fun hb => ?_) (fun hb => ?_)
  · rw [if_pos hb] at hG
    refine e_aloadn (pc := 10) (i := 0) dX12_part_10 rfl rfl ?_
    obtain ⟨S1, hq1, hG⟩ := x_bd1 hG
    refine e_invV (pc := 11) (K1 := 0) (S1 := 0) (K := 0) (S := 0) (dd2 := 1) (av := []) (st := []) (id := 16 * 32 + 0) dX12_part_11 xmX12_92 rfl (Or.inl ⟨10, 27, TX12, (sa_32_0 hs), rfl, by decide⟩) (f_cal (M := M) (us2 := [32]) [0] hn rfl (And.intro rfl trivial) rfl rfl rfl (c_X12_skip hst hs   hq1)) (by decide) (Nat.le_of_ble_eq_true rfl) (Or.inl rfl) ?_
    show Ev g _ _ _ _ _ _ 14 [some (x_r (16 * 32 + 0)), none] [] (al, ro, fl (ml M [32] [S1])) _ _ _ _
    refine e_aloadn (pc := 14) (i := 0) dX12_part_14 rfl rfl ?_
    refine f_geti (pc := 15) (k := 0) (u := 32) (q := 0) dX12_part_15 xf12_82 (sa_32_0 hs) rfl hn rfl rfl (by decide) ?_
    show Ev g _ _ _ _ _ _ 18 [some (x_r (16 * 32 + 0)), none] [x_i (S1 0 11)] (al, ro, fl (ml M [32] [S1])) _ _ _ _
    refine e_aloadn (pc := 18) (i := 0) dX12_part_18 rfl rfl ?_
    refine f_geti (pc := 19) (k := 0) (u := 32) (q := 0) dX12_part_19 xf12_85 (sa_32_0 hs) rfl hn rfl rfl (by decide) ?_
    show Ev g _ _ _ _ _ _ 22 [some (x_r (16 * 32 + 0)), none] [x_i (S1 0 10), x_i (S1 0 11)] (al, ro, fl (ml M [32] [S1])) _ _ _ _
    refine e_icmp_ge (pc := 22) (tgt := 52) dX12_part_22 (by decide) (fun hb => ?_) (fun hb => ?_)
    · rw [if_pos hb] at hG
      refine e_aloadn (pc := 52) (i := 0) dX12_part_52 rfl rfl ?_
      refine e_ldcS (pc := 53) (i := 0) (tx := "monk") dX12_part_53 (List.mem_of_getElem? (i := 40) rfl) (by decide) ?_
      obtain ⟨v3, S4, hq4, hG⟩ := x_bd2 hG
      refine e_invV (pc := 55) (K1 := 0) (S1 := 0) (K := 0) (S := 0) (dd2 := 6) (av := [x_r (x_s0 + 0)]) (st := []) (id := 16 * 32 + 0) dX12_part_55 xmX12_112 rfl (Or.inl ⟨10, 27, TX12, (sa_32_0 hs), rfl, by decide⟩) (f_cal (M := M) (us2 := [32]) [0] hn rfl (And.intro rfl trivial) rfl rfl rfl (c_X12_has hst hs  (by decide) hq4)) (by decide) (Nat.le_of_ble_eq_true rfl) (Or.inl rfl) ?_
      show Ev g _ _ _ _ _ _ 58 [some (x_r (16 * 32 + 0)), none] [x_i v3] (al, ro, fl (ml M [32] [S4])) _ _ _ _
      obtain ⟨v6, S7, hr7, hG⟩ := x_bd2 hG
      have hjhr7 : Ev g yX12_part cX12_part 2 (some .int) [] 7 145 [some (x_r (16 * 32 + 0)), none] [x_i v6] (al, ro, fl (ml M [32] [S7])) 0 0 (.inl (some (x_i t.1))) (al, ro, fl (ml M [32] [t.2])) := by
        refine e_istoren (pc := 145) (i := 1) dX12_part_145 rfl (by decide) rfl ?_
        show Ev g _ _ _ _ _ _ 146 [some (x_r (16 * 32 + 0)), some (x_i v6)] [] (al, ro, fl (ml M [32] [S7])) _ _ _ _
        refine e_iloadn (pc := 146) (i := 1) dX12_part_146 rfl rfl ?_
        refine e_iconst (pc := 147) dX12_part_147 (x_R rfl) ?_
        refine e_icmp_ne (pc := 148) (tgt := 161) dX12_part_148 (by decide) (fun hb => ?_) (fun hb => ?_)
        · rw [if_neg hb] at hG
          refine e_aloadn (pc := 161) (i := 0) dX12_part_161 rfl rfl ?_
          refine f_getr (pc := 162) (u := 32) (q := 0) dX12_part_162 xf12_29 (sa_32_0 hs) rfl (sr_32_0_14 hs) ?_
          refine e_iloadn (pc := 165) (i := 1) dX12_part_165 rfl rfl ?_
          obtain ⟨hc0, hG⟩ := x_gd_some hG
          refine f_iald (pc := 166) (k := 0) (u := 32) (q := 6) (len := 7) dX12_part_166 (sa_32_6 hs) hc0 hn rfl rfl (by decide) ?_
          show Ev g _ _ _ _ _ _ 167 [some (x_r (16 * 32 + 0)), some (x_i v6)] [x_i (S7 6 (v6).toNat)] (al, ro, fl (ml M [32] [S7])) _ _ _ _
          cases hG
          exact (e_ireturn rfl dX12_part_167 rfl)
        · rw [if_pos hb] at hG
          refine e_aloadn (pc := 151) (i := 0) dX12_part_151 rfl rfl ?_
          refine e_aloadn (pc := 152) (i := 0) dX12_part_152 rfl rfl ?_
          refine f_geti (pc := 153) (k := 0) (u := 32) (q := 0) dX12_part_153 xf12_82 (sa_32_0 hs) rfl hn rfl rfl (by decide) ?_
          show Ev g _ _ _ _ _ _ 156 [some (x_r (16 * 32 + 0)), some (x_i v6)] [x_i (S7 0 11), x_r (16 * 32 + 0)] (al, ro, fl (ml M [32] [S7])) _ _ _ _
          obtain ⟨S27, hq27, hG⟩ := x_bd1 hG
          refine e_invV (pc := 156) (K1 := 0) (S1 := 0) (K := 0) (S := 0) (dd2 := 0) (av := [x_i (S7 0 11)]) (st := []) (id := 16 * 32 + 0) dX12_part_156 xmX12_108 rfl (Or.inl ⟨10, 27, TX12, (sa_32_0 hs), rfl, by decide⟩) (f_cal (M := M) (us2 := [32]) [0] hn rfl (And.intro rfl trivial) rfl rfl rfl (c_X12_wrong hst hs   hq27)) (by decide) (Nat.le_of_ble_eq_true rfl) (Or.inl rfl) ?_
          show Ev g _ _ _ _ _ _ 159 [some (x_r (16 * 32 + 0)), some (x_i v6)] [] (al, ro, fl (ml M [32] [S27])) _ _ _ _
          refine e_iconst (pc := 159) dX12_part_159 (x_R rfl) ?_
          cases hG
          exact (e_ireturn rfl dX12_part_160 rfl)
      clear hG
      refine e_if_eq (pc := 58) (tgt := 65) dX12_part_58 (by decide) (fun hb => ?_) (fun hb => ?_)
      · rw [if_pos hb] at hr7
        refine e_aloadn (pc := 65) (i := 0) dX12_part_65 rfl rfl ?_
        refine e_ldcS (pc := 66) (i := 26) (tx := "flag") dX12_part_66 (List.mem_of_getElem? (i := 41) rfl) (by decide) ?_
        obtain ⟨v9, S10, hq10, hr7⟩ := x_bd2 hr7
        refine e_invV (pc := 68) (K1 := 0) (S1 := 0) (K := 0) (S := 0) (dd2 := 6) (av := [x_r (x_s0 + 26)]) (st := []) (id := 16 * 32 + 0) dX12_part_68 xmX12_112 rfl (Or.inl ⟨10, 27, TX12, (sa_32_0 hs), rfl, by decide⟩) (f_cal (M := M) (us2 := [32]) [0] hn rfl (And.intro rfl trivial) rfl rfl rfl (c_X12_has hst hs  (by decide) hq10)) (by decide) (Nat.le_of_ble_eq_true rfl) (Or.inl rfl) ?_
        show Ev g _ _ _ _ _ _ 71 [some (x_r (16 * 32 + 0)), none] [x_i v9] (al, ro, fl (ml M [32] [S10])) _ _ _ _
        refine e_if_eq (pc := 71) (tgt := 78) dX12_part_71 (by decide) (fun hb => ?_) (fun hb => ?_)
        · rw [if_pos hb] at hr7
          refine e_aloadn (pc := 78) (i := 0) dX12_part_78 rfl rfl ?_
          refine e_ldcS (pc := 79) (i := 3) (tx := "pace") dX12_part_79 (List.mem_of_getElem? (i := 42) rfl) (by decide) ?_
          obtain ⟨v12, S13, hq13, hr7⟩ := x_bd2 hr7
          refine e_invV (pc := 81) (K1 := 0) (S1 := 0) (K := 0) (S := 0) (dd2 := 6) (av := [x_r (x_s0 + 3)]) (st := []) (id := 16 * 32 + 0) dX12_part_81 xmX12_112 rfl (Or.inl ⟨10, 27, TX12, (sa_32_0 hs), rfl, by decide⟩) (f_cal (M := M) (us2 := [32]) [0] hn rfl (And.intro rfl trivial) rfl rfl rfl (c_X12_has hst hs  (by decide) hq13)) (by decide) (Nat.le_of_ble_eq_true rfl) (Or.inl rfl) ?_
          show Ev g _ _ _ _ _ _ 84 [some (x_r (16 * 32 + 0)), none] [x_i v12] (al, ro, fl (ml M [32] [S13])) _ _ _ _
          refine e_if_eq (pc := 84) (tgt := 91) dX12_part_84 (by decide) (fun hb => ?_) (fun hb => ?_)
          · rw [if_pos hb] at hr7
            refine e_aloadn (pc := 91) (i := 0) dX12_part_91 rfl rfl ?_
            refine e_ldcS (pc := 92) (i := 27) (tx := "season") dX12_part_92 (List.mem_of_getElem? (i := 43) rfl) (by decide) ?_
            obtain ⟨v15, S16, hq16, hr7⟩ := x_bd2 hr7
            refine e_invV (pc := 94) (K1 := 0) (S1 := 0) (K := 0) (S := 0) (dd2 := 6) (av := [x_r (x_s0 + 27)]) (st := []) (id := 16 * 32 + 0) dX12_part_94 xmX12_112 rfl (Or.inl ⟨10, 27, TX12, (sa_32_0 hs), rfl, by decide⟩) (f_cal (M := M) (us2 := [32]) [0] hn rfl (And.intro rfl trivial) rfl rfl rfl (c_X12_has hst hs  (by decide) hq16)) (by decide) (Nat.le_of_ble_eq_true rfl) (Or.inl rfl) ?_
            show Ev g _ _ _ _ _ _ 97 [some (x_r (16 * 32 + 0)), none] [x_i v15] (al, ro, fl (ml M [32] [S16])) _ _ _ _
            refine e_if_eq (pc := 97) (tgt := 104) dX12_part_97 (by decide) (fun hb => ?_) (fun hb => ?_)
            · rw [if_pos hb] at hr7
              refine e_aloadn (pc := 104) (i := 0) dX12_part_104 rfl rfl ?_
              refine e_ldcS (pc := 105) (i := 28) (tx := "late") dX12_part_105 (List.mem_of_getElem? (i := 44) rfl) (by decide) ?_
              obtain ⟨v18, S19, hq19, hr7⟩ := x_bd2 hr7
              refine e_invV (pc := 107) (K1 := 0) (S1 := 0) (K := 0) (S := 0) (dd2 := 6) (av := [x_r (x_s0 + 28)]) (st := []) (id := 16 * 32 + 0) dX12_part_107 xmX12_112 rfl (Or.inl ⟨10, 27, TX12, (sa_32_0 hs), rfl, by decide⟩) (f_cal (M := M) (us2 := [32]) [0] hn rfl (And.intro rfl trivial) rfl rfl rfl (c_X12_has hst hs  (by decide) hq19)) (by decide) (Nat.le_of_ble_eq_true rfl) (Or.inl rfl) ?_
              show Ev g _ _ _ _ _ _ 110 [some (x_r (16 * 32 + 0)), none] [x_i v18] (al, ro, fl (ml M [32] [S19])) _ _ _ _
              refine e_if_eq (pc := 110) (tgt := 117) dX12_part_110 (by decide) (fun hb => ?_) (fun hb => ?_)
              · rw [if_pos hb] at hr7
                refine e_aloadn (pc := 117) (i := 0) dX12_part_117 rfl rfl ?_
                refine e_ldcS (pc := 118) (i := 15) (tx := "hour") dX12_part_118 (List.mem_of_getElem? (i := 45) rfl) (by decide) ?_
                obtain ⟨v21, S22, hq22, hr7⟩ := x_bd2 hr7
                refine e_invV (pc := 120) (K1 := 0) (S1 := 0) (K := 0) (S := 0) (dd2 := 6) (av := [x_r (x_s0 + 15)]) (st := []) (id := 16 * 32 + 0) dX12_part_120 xmX12_112 rfl (Or.inl ⟨10, 27, TX12, (sa_32_0 hs), rfl, by decide⟩) (f_cal (M := M) (us2 := [32]) [0] hn rfl (And.intro rfl trivial) rfl rfl rfl (c_X12_has hst hs  (by decide) hq22)) (by decide) (Nat.le_of_ble_eq_true rfl) (Or.inl rfl) ?_
                show Ev g _ _ _ _ _ _ 123 [some (x_r (16 * 32 + 0)), none] [x_i v21] (al, ro, fl (ml M [32] [S22])) _ _ _ _
                refine e_if_eq (pc := 123) (tgt := 130) dX12_part_123 (by decide) (fun hb => ?_) (fun hb => ?_)
                · rw [if_pos hb] at hr7
                  refine e_aloadn (pc := 130) (i := 0) dX12_part_130 rfl rfl ?_
                  refine e_ldcS (pc := 131) (i := 2) (tx := "stall") dX12_part_131 (List.mem_of_getElem? (i := 46) rfl) (by decide) ?_
                  obtain ⟨v24, S25, hq25, hr7⟩ := x_bd2 hr7
                  refine e_invV (pc := 133) (K1 := 0) (S1 := 0) (K := 0) (S := 0) (dd2 := 6) (av := [x_r (x_s0 + 2)]) (st := []) (id := 16 * 32 + 0) dX12_part_133 xmX12_112 rfl (Or.inl ⟨10, 27, TX12, (sa_32_0 hs), rfl, by decide⟩) (f_cal (M := M) (us2 := [32]) [0] hn rfl (And.intro rfl trivial) rfl rfl rfl (c_X12_has hst hs  (by decide) hq25)) (by decide) (Nat.le_of_ble_eq_true rfl) (Or.inl rfl) ?_
                  show Ev g _ _ _ _ _ _ 136 [some (x_r (16 * 32 + 0)), none] [x_i v24] (al, ro, fl (ml M [32] [S25])) _ _ _ _
                  refine e_if_eq (pc := 136) (tgt := 144) dX12_part_136 (by decide) (fun hb => ?_) (fun hb => ?_)
                  · rw [if_pos hb] at hr7
                    refine e_iconst (pc := 144) dX12_part_144 (x_R rfl) ?_
                    cases hr7
                    exact hjhr7
                  · rw [if_neg hb] at hr7
                    refine e_bipush (pc := 139) dX12_part_139 (by decide +kernel) (x_R rfl) ?_
                    refine e_goto (pc := 141) (tgt := 145) dX12_part_141 (by decide) ?_
                    cases hr7
                    exact hjhr7
                · rw [if_neg hb] at hr7
                  refine e_iconst (pc := 126) dX12_part_126 (x_R rfl) ?_
                  refine e_goto (pc := 127) (tgt := 145) dX12_part_127 (by decide) ?_
                  cases hr7
                  exact hjhr7
              · rw [if_neg hb] at hr7
                refine e_iconst (pc := 113) dX12_part_113 (x_R rfl) ?_
                refine e_goto (pc := 114) (tgt := 145) dX12_part_114 (by decide) ?_
                cases hr7
                exact hjhr7
            · rw [if_neg hb] at hr7
              refine e_iconst (pc := 100) dX12_part_100 (x_R rfl) ?_
              refine e_goto (pc := 101) (tgt := 145) dX12_part_101 (by decide) ?_
              cases hr7
              exact hjhr7
          · rw [if_neg hb] at hr7
            refine e_iconst (pc := 87) dX12_part_87 (x_R rfl) ?_
            refine e_goto (pc := 88) (tgt := 145) dX12_part_88 (by decide) ?_
            cases hr7
            exact hjhr7
        · rw [if_neg hb] at hr7
          refine e_iconst (pc := 74) dX12_part_74 (x_R rfl) ?_
          refine e_goto (pc := 75) (tgt := 145) dX12_part_75 (by decide) ?_
          cases hr7
          exact hjhr7
      · rw [if_neg hb] at hr7
        refine e_iconst (pc := 61) dX12_part_61 (x_R rfl) ?_
        refine e_goto (pc := 62) (tgt := 145) dX12_part_62 (by decide) ?_
        cases hr7
        exact hjhr7
    · rw [if_neg hb] at hG
      refine e_aloadn (pc := 25) (i := 0) dX12_part_25 rfl rfl ?_
      refine e_aloadn (pc := 26) (i := 0) dX12_part_26 rfl rfl ?_
      refine f_geti (pc := 27) (k := 0) (u := 32) (q := 0) dX12_part_27 xf12_82 (sa_32_0 hs) rfl hn rfl rfl (by decide) ?_
      show Ev g _ _ _ _ _ _ 30 [some (x_r (16 * 32 + 0)), none] [x_i (S1 0 11), x_r (16 * 32 + 0)] (al, ro, fl (ml M [32] [S1])) _ _ _ _
      obtain ⟨v29, hq29, hG⟩ := x_bd1 hG
      refine e_invV (pc := 30) (K1 := 0) (S1 := 0) (K := 0) (S := 0) (dd2 := 0) (av := [x_i (S1 0 11)]) (st := []) (id := 16 * 32 + 0) dX12_part_30 xmX12_88 rfl (Or.inl ⟨10, 27, TX12, (sa_32_0 hs), rfl, by decide⟩) (f_cal (M := M) (us2 := [32]) [0] hn rfl (And.intro rfl trivial) rfl rfl rfl (c_X12_letter hst hs   hq29)) (by decide) (Nat.le_of_ble_eq_true rfl) (Or.inl rfl) ?_
      show Ev g _ _ _ _ _ _ 33 [some (x_r (16 * 32 + 0)), none] [x_i v29] (al, ro, fl (ml M [32] [S1])) _ _ _ _
      refine e_bipush (pc := 33) dX12_part_33 (by decide +kernel) (x_R rfl) ?_
      refine e_bipush (pc := 35) dX12_part_35 (by decide +kernel) (x_R rfl) ?_
      obtain ⟨v31, hq31, hG⟩ := x_bd1 hG
      refine e_invS (pc := 37) (K1 := 0) (S1 := 0) (K := 0) (S := 0) (dd2 := 0) (av := [x_i v29, x_i 48, x_i 57]) (st := []) dX12_part_37 xmX12_61 rfl (f_cal (M := M) (us2 := []) [] hn rfl trivial rfl rfl rfl (c_X12_isIn hst hs   hq31)) (by decide) (Nat.le_of_ble_eq_true rfl) (Or.inl rfl) ?_
      show Ev g _ _ _ _ _ _ 40 [some (x_r (16 * 32 + 0)), none] [x_i v31] (al, ro, fl (ml M [32] [S1])) _ _ _ _
      refine e_if_eq (pc := 40) (tgt := 52) dX12_part_40 (by decide) (fun hb => ?_) (fun hb => ?_)
      · rw [if_pos hb] at hG
        refine e_aloadn (pc := 52) (i := 0) dX12_part_52 rfl rfl ?_
        refine e_ldcS (pc := 53) (i := 0) (tx := "monk") dX12_part_53 (List.mem_of_getElem? (i := 40) rfl) (by decide) ?_
        obtain ⟨v33, S34, hq34, hG⟩ := x_bd2 hG
        refine e_invV (pc := 55) (K1 := 0) (S1 := 0) (K := 0) (S := 0) (dd2 := 6) (av := [x_r (x_s0 + 0)]) (st := []) (id := 16 * 32 + 0) dX12_part_55 xmX12_112 rfl (Or.inl ⟨10, 27, TX12, (sa_32_0 hs), rfl, by decide⟩) (f_cal (M := M) (us2 := [32]) [0] hn rfl (And.intro rfl trivial) rfl rfl rfl (c_X12_has hst hs  (by decide) hq34)) (by decide) (Nat.le_of_ble_eq_true rfl) (Or.inl rfl) ?_
        show Ev g _ _ _ _ _ _ 58 [some (x_r (16 * 32 + 0)), none] [x_i v33] (al, ro, fl (ml M [32] [S34])) _ _ _ _
        obtain ⟨v36, S37, hr37, hG⟩ := x_bd2 hG
        have hjhr37 : Ev g yX12_part cX12_part 2 (some .int) [] 7 145 [some (x_r (16 * 32 + 0)), none] [x_i v36] (al, ro, fl (ml M [32] [S37])) 0 0 (.inl (some (x_i t.1))) (al, ro, fl (ml M [32] [t.2])) := by
          refine e_istoren (pc := 145) (i := 1) dX12_part_145 rfl (by decide) rfl ?_
          show Ev g _ _ _ _ _ _ 146 [some (x_r (16 * 32 + 0)), some (x_i v36)] [] (al, ro, fl (ml M [32] [S37])) _ _ _ _
          refine e_iloadn (pc := 146) (i := 1) dX12_part_146 rfl rfl ?_
          refine e_iconst (pc := 147) dX12_part_147 (x_R rfl) ?_
          refine e_icmp_ne (pc := 148) (tgt := 161) dX12_part_148 (by decide) (fun hb => ?_) (fun hb => ?_)
          · rw [if_neg hb] at hG
            refine e_aloadn (pc := 161) (i := 0) dX12_part_161 rfl rfl ?_
            refine f_getr (pc := 162) (u := 32) (q := 0) dX12_part_162 xf12_29 (sa_32_0 hs) rfl (sr_32_0_14 hs) ?_
            refine e_iloadn (pc := 165) (i := 1) dX12_part_165 rfl rfl ?_
            obtain ⟨hc0, hG⟩ := x_gd_some hG
            refine f_iald (pc := 166) (k := 0) (u := 32) (q := 6) (len := 7) dX12_part_166 (sa_32_6 hs) hc0 hn rfl rfl (by decide) ?_
            show Ev g _ _ _ _ _ _ 167 [some (x_r (16 * 32 + 0)), some (x_i v36)] [x_i (S37 6 (v36).toNat)] (al, ro, fl (ml M [32] [S37])) _ _ _ _
            cases hG
            exact (e_ireturn rfl dX12_part_167 rfl)
          · rw [if_pos hb] at hG
            refine e_aloadn (pc := 151) (i := 0) dX12_part_151 rfl rfl ?_
            refine e_aloadn (pc := 152) (i := 0) dX12_part_152 rfl rfl ?_
            refine f_geti (pc := 153) (k := 0) (u := 32) (q := 0) dX12_part_153 xf12_82 (sa_32_0 hs) rfl hn rfl rfl (by decide) ?_
            show Ev g _ _ _ _ _ _ 156 [some (x_r (16 * 32 + 0)), some (x_i v36)] [x_i (S37 0 11), x_r (16 * 32 + 0)] (al, ro, fl (ml M [32] [S37])) _ _ _ _
            obtain ⟨S57, hq57, hG⟩ := x_bd1 hG
            refine e_invV (pc := 156) (K1 := 0) (S1 := 0) (K := 0) (S := 0) (dd2 := 0) (av := [x_i (S37 0 11)]) (st := []) (id := 16 * 32 + 0) dX12_part_156 xmX12_108 rfl (Or.inl ⟨10, 27, TX12, (sa_32_0 hs), rfl, by decide⟩) (f_cal (M := M) (us2 := [32]) [0] hn rfl (And.intro rfl trivial) rfl rfl rfl (c_X12_wrong hst hs   hq57)) (by decide) (Nat.le_of_ble_eq_true rfl) (Or.inl rfl) ?_
            show Ev g _ _ _ _ _ _ 159 [some (x_r (16 * 32 + 0)), some (x_i v36)] [] (al, ro, fl (ml M [32] [S57])) _ _ _ _
            refine e_iconst (pc := 159) dX12_part_159 (x_R rfl) ?_
            cases hG
            exact (e_ireturn rfl dX12_part_160 rfl)
        clear hG
        refine e_if_eq (pc := 58) (tgt := 65) dX12_part_58 (by decide) (fun hb => ?_) (fun hb => ?_)
        · rw [if_pos hb] at hr37
          refine e_aloadn (pc := 65) (i := 0) dX12_part_65 rfl rfl ?_
          refine e_ldcS (pc := 66) (i := 26) (tx := "flag") dX12_part_66 (List.mem_of_getElem? (i := 41) rfl) (by decide) ?_
          obtain ⟨v39, S40, hq40, hr37⟩ := x_bd2 hr37
          refine e_invV (pc := 68) (K1 := 0) (S1 := 0) (K := 0) (S := 0) (dd2 := 6) (av := [x_r (x_s0 + 26)]) (st := []) (id := 16 * 32 + 0) dX12_part_68 xmX12_112 rfl (Or.inl ⟨10, 27, TX12, (sa_32_0 hs), rfl, by decide⟩) (f_cal (M := M) (us2 := [32]) [0] hn rfl (And.intro rfl trivial) rfl rfl rfl (c_X12_has hst hs  (by decide) hq40)) (by decide) (Nat.le_of_ble_eq_true rfl) (Or.inl rfl) ?_
          show Ev g _ _ _ _ _ _ 71 [some (x_r (16 * 32 + 0)), none] [x_i v39] (al, ro, fl (ml M [32] [S40])) _ _ _ _
          refine e_if_eq (pc := 71) (tgt := 78) dX12_part_71 (by decide) (fun hb => ?_) (fun hb => ?_)
          · rw [if_pos hb] at hr37
            refine e_aloadn (pc := 78) (i := 0) dX12_part_78 rfl rfl ?_
            refine e_ldcS (pc := 79) (i := 3) (tx := "pace") dX12_part_79 (List.mem_of_getElem? (i := 42) rfl) (by decide) ?_
            obtain ⟨v42, S43, hq43, hr37⟩ := x_bd2 hr37
            refine e_invV (pc := 81) (K1 := 0) (S1 := 0) (K := 0) (S := 0) (dd2 := 6) (av := [x_r (x_s0 + 3)]) (st := []) (id := 16 * 32 + 0) dX12_part_81 xmX12_112 rfl (Or.inl ⟨10, 27, TX12, (sa_32_0 hs), rfl, by decide⟩) (f_cal (M := M) (us2 := [32]) [0] hn rfl (And.intro rfl trivial) rfl rfl rfl (c_X12_has hst hs  (by decide) hq43)) (by decide) (Nat.le_of_ble_eq_true rfl) (Or.inl rfl) ?_
            show Ev g _ _ _ _ _ _ 84 [some (x_r (16 * 32 + 0)), none] [x_i v42] (al, ro, fl (ml M [32] [S43])) _ _ _ _
            refine e_if_eq (pc := 84) (tgt := 91) dX12_part_84 (by decide) (fun hb => ?_) (fun hb => ?_)
            · rw [if_pos hb] at hr37
              refine e_aloadn (pc := 91) (i := 0) dX12_part_91 rfl rfl ?_
              refine e_ldcS (pc := 92) (i := 27) (tx := "season") dX12_part_92 (List.mem_of_getElem? (i := 43) rfl) (by decide) ?_
              obtain ⟨v45, S46, hq46, hr37⟩ := x_bd2 hr37
              refine e_invV (pc := 94) (K1 := 0) (S1 := 0) (K := 0) (S := 0) (dd2 := 6) (av := [x_r (x_s0 + 27)]) (st := []) (id := 16 * 32 + 0) dX12_part_94 xmX12_112 rfl (Or.inl ⟨10, 27, TX12, (sa_32_0 hs), rfl, by decide⟩) (f_cal (M := M) (us2 := [32]) [0] hn rfl (And.intro rfl trivial) rfl rfl rfl (c_X12_has hst hs  (by decide) hq46)) (by decide) (Nat.le_of_ble_eq_true rfl) (Or.inl rfl) ?_
              show Ev g _ _ _ _ _ _ 97 [some (x_r (16 * 32 + 0)), none] [x_i v45] (al, ro, fl (ml M [32] [S46])) _ _ _ _
              refine e_if_eq (pc := 97) (tgt := 104) dX12_part_97 (by decide) (fun hb => ?_) (fun hb => ?_)
              · rw [if_pos hb] at hr37
                refine e_aloadn (pc := 104) (i := 0) dX12_part_104 rfl rfl ?_
                refine e_ldcS (pc := 105) (i := 28) (tx := "late") dX12_part_105 (List.mem_of_getElem? (i := 44) rfl) (by decide) ?_
                obtain ⟨v48, S49, hq49, hr37⟩ := x_bd2 hr37
                refine e_invV (pc := 107) (K1 := 0) (S1 := 0) (K := 0) (S := 0) (dd2 := 6) (av := [x_r (x_s0 + 28)]) (st := []) (id := 16 * 32 + 0) dX12_part_107 xmX12_112 rfl (Or.inl ⟨10, 27, TX12, (sa_32_0 hs), rfl, by decide⟩) (f_cal (M := M) (us2 := [32]) [0] hn rfl (And.intro rfl trivial) rfl rfl rfl (c_X12_has hst hs  (by decide) hq49)) (by decide) (Nat.le_of_ble_eq_true rfl) (Or.inl rfl) ?_
                show Ev g _ _ _ _ _ _ 110 [some (x_r (16 * 32 + 0)), none] [x_i v48] (al, ro, fl (ml M [32] [S49])) _ _ _ _
                refine e_if_eq (pc := 110) (tgt := 117) dX12_part_110 (by decide) (fun hb => ?_) (fun hb => ?_)
                · rw [if_pos hb] at hr37
                  refine e_aloadn (pc := 117) (i := 0) dX12_part_117 rfl rfl ?_
                  refine e_ldcS (pc := 118) (i := 15) (tx := "hour") dX12_part_118 (List.mem_of_getElem? (i := 45) rfl) (by decide) ?_
                  obtain ⟨v51, S52, hq52, hr37⟩ := x_bd2 hr37
                  refine e_invV (pc := 120) (K1 := 0) (S1 := 0) (K := 0) (S := 0) (dd2 := 6) (av := [x_r (x_s0 + 15)]) (st := []) (id := 16 * 32 + 0) dX12_part_120 xmX12_112 rfl (Or.inl ⟨10, 27, TX12, (sa_32_0 hs), rfl, by decide⟩) (f_cal (M := M) (us2 := [32]) [0] hn rfl (And.intro rfl trivial) rfl rfl rfl (c_X12_has hst hs  (by decide) hq52)) (by decide) (Nat.le_of_ble_eq_true rfl) (Or.inl rfl) ?_
                  show Ev g _ _ _ _ _ _ 123 [some (x_r (16 * 32 + 0)), none] [x_i v51] (al, ro, fl (ml M [32] [S52])) _ _ _ _
                  refine e_if_eq (pc := 123) (tgt := 130) dX12_part_123 (by decide) (fun hb => ?_) (fun hb => ?_)
                  · rw [if_pos hb] at hr37
                    refine e_aloadn (pc := 130) (i := 0) dX12_part_130 rfl rfl ?_
                    refine e_ldcS (pc := 131) (i := 2) (tx := "stall") dX12_part_131 (List.mem_of_getElem? (i := 46) rfl) (by decide) ?_
                    obtain ⟨v54, S55, hq55, hr37⟩ := x_bd2 hr37
                    refine e_invV (pc := 133) (K1 := 0) (S1 := 0) (K := 0) (S := 0) (dd2 := 6) (av := [x_r (x_s0 + 2)]) (st := []) (id := 16 * 32 + 0) dX12_part_133 xmX12_112 rfl (Or.inl ⟨10, 27, TX12, (sa_32_0 hs), rfl, by decide⟩) (f_cal (M := M) (us2 := [32]) [0] hn rfl (And.intro rfl trivial) rfl rfl rfl (c_X12_has hst hs  (by decide) hq55)) (by decide) (Nat.le_of_ble_eq_true rfl) (Or.inl rfl) ?_
                    show Ev g _ _ _ _ _ _ 136 [some (x_r (16 * 32 + 0)), none] [x_i v54] (al, ro, fl (ml M [32] [S55])) _ _ _ _
                    refine e_if_eq (pc := 136) (tgt := 144) dX12_part_136 (by decide) (fun hb => ?_) (fun hb => ?_)
                    · rw [if_pos hb] at hr37
                      refine e_iconst (pc := 144) dX12_part_144 (x_R rfl) ?_
                      cases hr37
                      exact hjhr37
                    · rw [if_neg hb] at hr37
                      refine e_bipush (pc := 139) dX12_part_139 (by decide +kernel) (x_R rfl) ?_
                      refine e_goto (pc := 141) (tgt := 145) dX12_part_141 (by decide) ?_
                      cases hr37
                      exact hjhr37
                  · rw [if_neg hb] at hr37
                    refine e_iconst (pc := 126) dX12_part_126 (x_R rfl) ?_
                    refine e_goto (pc := 127) (tgt := 145) dX12_part_127 (by decide) ?_
                    cases hr37
                    exact hjhr37
                · rw [if_neg hb] at hr37
                  refine e_iconst (pc := 113) dX12_part_113 (x_R rfl) ?_
                  refine e_goto (pc := 114) (tgt := 145) dX12_part_114 (by decide) ?_
                  cases hr37
                  exact hjhr37
              · rw [if_neg hb] at hr37
                refine e_iconst (pc := 100) dX12_part_100 (x_R rfl) ?_
                refine e_goto (pc := 101) (tgt := 145) dX12_part_101 (by decide) ?_
                cases hr37
                exact hjhr37
            · rw [if_neg hb] at hr37
              refine e_iconst (pc := 87) dX12_part_87 (x_R rfl) ?_
              refine e_goto (pc := 88) (tgt := 145) dX12_part_88 (by decide) ?_
              cases hr37
              exact hjhr37
          · rw [if_neg hb] at hr37
            refine e_iconst (pc := 74) dX12_part_74 (x_R rfl) ?_
            refine e_goto (pc := 75) (tgt := 145) dX12_part_75 (by decide) ?_
            cases hr37
            exact hjhr37
        · rw [if_neg hb] at hr37
          refine e_iconst (pc := 61) dX12_part_61 (x_R rfl) ?_
          refine e_goto (pc := 62) (tgt := 145) dX12_part_62 (by decide) ?_
          cases hr37
          exact hjhr37
      · rw [if_neg hb] at hG
        refine e_aloadn (pc := 43) (i := 0) dX12_part_43 rfl rfl ?_
        refine e_iconst (pc := 44) dX12_part_44 (x_R rfl) ?_
        refine e_sipush (pc := 45) dX12_part_45 (by decide +kernel) (x_R rfl) ?_
        obtain ⟨v59, S60, hq60, hG⟩ := x_bd2 hG
        refine e_invV (pc := 48) (K1 := 0) (S1 := 0) (K := 0) (S := 0) (dd2 := 3) (av := [x_i 0, x_i 999]) (st := []) (id := 16 * 32 + 0) dX12_part_48 xmX12_116 rfl (Or.inl ⟨10, 27, TX12, (sa_32_0 hs), rfl, by decide⟩) (f_cal (M := M) (us2 := [32]) [0] hn rfl (And.intro rfl trivial) rfl rfl rfl (c_X12_figures hst hs   hq60)) (by decide) (Nat.le_of_ble_eq_true rfl) (Or.inl rfl) ?_
        show Ev g _ _ _ _ _ _ 51 [some (x_r (16 * 32 + 0)), none] [x_i v59] (al, ro, fl (ml M [32] [S60])) _ _ _ _
        cases hG
        exact (e_ireturn rfl dX12_part_51 rfl)
  · rw [if_neg hb] at hG
    refine e_iconst (pc := 8) dX12_part_8 (x_R rfl) ?_
    cases hG
    exact (e_ireturn rfl dX12_part_9 rfl)
set_option maxRecDepth 100000 in
set_option maxHeartbeats 4000000 in
theorem c_X12_sum {g : xG} {al : List (Nat × Nat × Nat)} {ro : Nat → Nat → Option Nat} (hst : g.1.stackTraces = false) (hs : SH al ro) {M : Nat → xU} {S : xU}  {t : (Int × xU)} (hG : G12_sum S = some t) :
    Cal g yX12_sum cX12_sum 2 (some .int) 8 [x_r (16 * 32 + 0)] (al, ro, fl (ml M [32] [S])) 0 0 (.inl (some (x_i t.1))) (al, ro, fl (ml M [32] [t.2])) := by
  have hn : ([32] : List Nat).Nodup := by decide
  refine cal_of_ev (plainFor_of_name (by decide)) (x_c1 rfl) (Nat.le_of_ble_eq_true rfl) hst ?_
  show Ev g _ _ _ _ _ _ 0 [some (x_r (16 * 32 + 0)), none] [] (al, ro, fl (ml M [32] [S])) _ _ _ _
  rw [G12_sum] at hG
  refine e_aloadn (pc := 0) (i := 0) dX12_sum_0 rfl rfl ?_
  obtain ⟨v1, S2, hq2, hG⟩ := x_bd2 hG
  refine e_invV (pc := 1) (K1 := 0) (S1 := 0) (K := 0) (S := 0) (dd2 := 7) (av := []) (st := []) (id := 16 * 32 + 0) dX12_sum_1 xmX12_213 rfl (Or.inl ⟨10, 27, TX12, (sa_32_0 hs), rfl, by decide⟩) (f_cal (M := M) (us2 := [32]) [0] hn rfl (And.intro rfl trivial) rfl rfl rfl (c_X12_part hst hs   hq2)) (by decide) (Nat.le_of_ble_eq_true rfl) (Or.inl rfl) ?_
  show Ev g _ _ _ _ _ _ 4 [some (x_r (16 * 32 + 0)), none] [x_i v1] (al, ro, fl (ml M [32] [S2])) _ _ _ _
  refine e_istoren (pc := 4) (i := 1) dX12_sum_4 rfl (by decide) rfl ?_
  show Ev g _ _ _ _ _ _ 5 [some (x_r (16 * 32 + 0)), some (x_i v1)] [] (al, ro, fl (ml M [32] [S2])) _ _ _ _
  obtain ⟨v6, S7, hl8, hG⟩ := x_bd2 hG
  have hk8 : ∀ q : (Int × xU), q = (v6, S7) → Ev g yX12_sum cX12_sum 2 (some .int) [] 8 42 [some (x_r (16 * 32 + 0)), some (x_i q.1)] [] (al, ro, fl (ml M [32] [q.2])) 0 0 (.inl (some (x_i t.1))) (al, ro, fl (ml M [32] [t.2])) := by
    intro q hq
    cases hq
    refine e_iloadn (pc := 42) (i := 1) dX12_sum_42 rfl rfl ?_
    cases hG
    exact (e_ireturn rfl dX12_sum_43 rfl)
  clear hG
  refine e_whl G12_sum_L5 (fun z : (Int × xU) => Ev g yX12_sum cX12_sum 2 (some .int) [] 8 5 [some (x_r (16 * 32 + 0)), some (x_i z.1)] [] (al, ro, fl (ml M [32] [z.2])) 0 0 (.inl (some (x_i t.1))) (al, ro, fl (ml M [32] [t.2]))) (fun q => q = (v6, S7)) ?_ xFU (v1, S2) _ hl8 rfl
  intro z t8 hf8 hi8 hx8
  obtain ⟨v4, S5⟩ := z
  rw [G12_sum_L5] at hf8
  show Ev g _ _ _ _ _ _ 5 [some (x_r (16 * 32 + 0)), some (x_i v4)] [] (al, ro, fl (ml M [32] [S5])) _ _ _ _
  refine e_aloadn (pc := 5) (i := 0) dX12_sum_5 rfl rfl ?_
  refine f_geti (pc := 6) (k := 0) (u := 32) (q := 0) dX12_sum_6 xf12_25 (sa_32_0 hs) rfl hn rfl rfl (by decide) ?_
  show Ev g _ _ _ _ _ _ 9 [some (x_r (16 * 32 + 0)), some (x_i v4)] [x_i (S5 0 12)] (al, ro, fl (ml M [32] [S5])) _ _ _ _
  refine e_iconst (pc := 9) dX12_sum_9 (x_R rfl) ?_
  refine e_icmp_ne (pc := 10) (tgt := 42) dX12_sum_10 (by decide) (fun hb => ?_) (fun hb => ?_)
  · rw [if_neg hb] at hf8
    cases hf8
    have hh := hk8 _ (hx8 _ rfl)
    try dsimp only at hh
    exact hh
  · rw [if_pos hb] at hf8
    refine e_aloadn (pc := 13) (i := 0) dX12_sum_13 rfl rfl ?_
    refine e_bipush (pc := 14) dX12_sum_14 (by decide +kernel) (x_R rfl) ?_
    obtain ⟨v10, S11, hq11, hf8⟩ := x_bd2 hf8
    refine e_invV (pc := 16) (K1 := 0) (S1 := 0) (K := 0) (S := 0) (dd2 := 2) (av := [x_i 43]) (st := []) (id := 16 * 32 + 0) dX12_sum_16 xmX12_189 rfl (Or.inl ⟨10, 27, TX12, (sa_32_0 hs), rfl, by decide⟩) (f_cal (M := M) (us2 := [32]) [0] hn rfl (And.intro rfl trivial) rfl rfl rfl (c_X12_isSign hst hs   hq11)) (by decide) (Nat.le_of_ble_eq_true rfl) (Or.inl rfl) ?_
    show Ev g _ _ _ _ _ _ 19 [some (x_r (16 * 32 + 0)), some (x_i v4)] [x_i v10] (al, ro, fl (ml M [32] [S11])) _ _ _ _
    refine e_if_eq (pc := 19) (tgt := 42) dX12_sum_19 (by decide) (fun hb => ?_) (fun hb => ?_)
    · rw [if_pos hb] at hf8
      cases hf8
      have hh := hk8 _ (hx8 _ rfl)
      try dsimp only at hh
      exact hh
    · rw [if_neg hb] at hf8
      refine e_aloadn (pc := 22) (i := 0) dX12_sum_22 rfl rfl ?_
      refine e_dup (pc := 23) dX12_sum_23 rfl ?_
      refine f_geti (pc := 24) (k := 0) (u := 32) (q := 0) dX12_sum_24 xf12_82 (sa_32_0 hs) rfl hn rfl rfl (by decide) ?_
      show Ev g _ _ _ _ _ _ 27 [some (x_r (16 * 32 + 0)), some (x_i v4)] [x_i (S11 0 11), x_r (16 * 32 + 0)] (al, ro, fl (ml M [32] [S11])) _ _ _ _
      refine e_iconst (pc := 27) dX12_sum_27 (x_R rfl) ?_
      refine e_iadd (pc := 28) dX12_sum_28 ?_
      refine f_puti (pc := 29) (k := 0) (u := 32) (q := 0) dX12_sum_29 xf12_82 xw10_11 (sa_32_0 hs) hn rfl rfl rfl (by decide) ?_
      show Ev g _ _ _ _ _ _ 32 [some (x_r (16 * 32 + 0)), some (x_i v4)] [] (al, ro, fl (ml M [32] [(x_up S11 0 11 (x_add (S11 0 11) 1))])) _ _ _ _
      refine e_iloadn (pc := 32) (i := 1) dX12_sum_32 rfl rfl ?_
      refine e_aloadn (pc := 33) (i := 0) dX12_sum_33 rfl rfl ?_
      obtain ⟨v13, S14, hq14, hf8⟩ := x_bd2 hf8
      refine e_invV (pc := 34) (K1 := 0) (S1 := 0) (K := 0) (S := 0) (dd2 := 7) (av := []) (st := [x_i v4]) (id := 16 * 32 + 0) dX12_sum_34 xmX12_213 rfl (Or.inl ⟨10, 27, TX12, (sa_32_0 hs), rfl, by decide⟩) (f_cal (M := M) (us2 := [32]) [0] hn rfl (And.intro rfl trivial) rfl rfl rfl (c_X12_part hst hs   hq14)) (by decide) (Nat.le_of_ble_eq_true rfl) (Or.inl rfl) ?_
      show Ev g _ _ _ _ _ _ 37 [some (x_r (16 * 32 + 0)), some (x_i v4)] [x_i v13, x_i v4] (al, ro, fl (ml M [32] [S14])) _ _ _ _
      refine e_iadd (pc := 37) dX12_sum_37 ?_
      refine e_istoren (pc := 38) (i := 1) dX12_sum_38 rfl (by decide) rfl ?_
      show Ev g _ _ _ _ _ _ 39 [some (x_r (16 * 32 + 0)), some (x_i (x_add v4 v13))] [] (al, ro, fl (ml M [32] [S14])) _ _ _ _
      refine e_goto (pc := 39) (tgt := 5) dX12_sum_39 (by decide) ?_
      cases hf8
      have hh := hi8 _ rfl
      try dsimp only at hh
      exact hh
set_option maxRecDepth 100000 in
set_option maxHeartbeats 4000000 in
theorem c_X12_plain {g : xG} {al : List (Nat × Nat × Nat)} {ro : Nat → Nat → Option Nat} (hst : g.1.stackTraces = false) (hs : SH al ro) {M : Nat → xU} {S : xU}  {t : (Int × xU)} (hG : G12_plain S = some t) :
    Cal g yX12_plain cX12_plain 4 (some .boolean) 9 [x_r (16 * 32 + 0)] (al, ro, fl (ml M [32] [S])) 0 0 (.inl (some (x_i t.1))) (al, ro, fl (ml M [32] [t.2])) := by
  have hn : ([32] : List Nat).Nodup := by decide
  refine cal_of_ev (plainFor_of_name (by decide)) (x_c1 rfl) (Nat.le_of_ble_eq_true rfl) hst ?_
  show Ev g _ _ _ _ _ _ 0 [some (x_r (16 * 32 + 0)), none, none, none] [] (al, ro, fl (ml M [32] [S])) _ _ _ _
  rw [G12_plain] at hG
  refine e_aloadn (pc := 0) (i := 0) dX12_plain_0 rfl rfl ?_
  refine e_ldcS (pc := 1) (i := 24) (tx := "corner") dX12_plain_1 (List.mem_of_getElem? (i := 38) rfl) (by decide) ?_
  obtain ⟨v1, S2, hq2, hG⟩ := x_bd2 hG
  refine e_invV (pc := 3) (K1 := 0) (S1 := 0) (K := 0) (S := 0) (dd2 := 6) (av := [x_r (x_s0 + 24)]) (st := []) (id := 16 * 32 + 0) dX12_plain_3 xmX12_112 rfl (Or.inl ⟨10, 27, TX12, (sa_32_0 hs), rfl, by decide⟩) (f_cal (M := M) (us2 := [32]) [0] hn rfl (And.intro rfl trivial) rfl rfl rfl (c_X12_has hst hs  (by decide) hq2)) (by decide) (Nat.le_of_ble_eq_true rfl) (Or.inl rfl) ?_
  show Ev g _ _ _ _ _ _ 6 [some (x_r (16 * 32 + 0)), none, none, none] [x_i v1] (al, ro, fl (ml M [32] [S2])) _ _ _ _
  refine e_if_eq (pc := 6) (tgt := 14) dX12_plain_6 (by decide) (fun hb => ?_) (fun hb => ?_)
  · rw [if_pos hb] at hG
    refine e_aloadn (pc := 14) (i := 0) dX12_plain_14 rfl rfl ?_
    refine e_ldcS (pc := 15) (i := 25) (tx := "hungry") dX12_plain_15 (List.mem_of_getElem? (i := 39) rfl) (by decide) ?_
    obtain ⟨v4, S5, hq5, hG⟩ := x_bd2 hG
    refine e_invV (pc := 17) (K1 := 0) (S1 := 0) (K := 0) (S := 0) (dd2 := 6) (av := [x_r (x_s0 + 25)]) (st := []) (id := 16 * 32 + 0) dX12_plain_17 xmX12_112 rfl (Or.inl ⟨10, 27, TX12, (sa_32_0 hs), rfl, by decide⟩) (f_cal (M := M) (us2 := [32]) [0] hn rfl (And.intro rfl trivial) rfl rfl rfl (c_X12_has hst hs  (by decide) hq5)) (by decide) (Nat.le_of_ble_eq_true rfl) (Or.inl rfl) ?_
    show Ev g _ _ _ _ _ _ 20 [some (x_r (16 * 32 + 0)), none, none, none] [x_i v4] (al, ro, fl (ml M [32] [S5])) _ _ _ _
    refine e_if_eq (pc := 20) (tgt := 28) dX12_plain_20 (by decide) (fun hb => ?_) (fun hb => ?_)
    · rw [if_pos hb] at hG
      refine e_aloadn (pc := 28) (i := 0) dX12_plain_28 rfl rfl ?_
      obtain ⟨v7, S8, hq8, hG⟩ := x_bd2 hG
      refine e_invV (pc := 29) (K1 := 0) (S1 := 0) (K := 0) (S := 0) (dd2 := 8) (av := []) (st := []) (id := 16 * 32 + 0) dX12_plain_29 xmX12_227 rfl (Or.inl ⟨10, 27, TX12, (sa_32_0 hs), rfl, by decide⟩) (f_cal (M := M) (us2 := [32]) [0] hn rfl (And.intro rfl trivial) rfl rfl rfl (c_X12_sum hst hs   hq8)) (by decide) (Nat.le_of_ble_eq_true rfl) (Or.inl rfl) ?_
      show Ev g _ _ _ _ _ _ 32 [some (x_r (16 * 32 + 0)), none, none, none] [x_i v7] (al, ro, fl (ml M [32] [S8])) _ _ _ _
      refine e_istoren (pc := 32) (i := 1) dX12_plain_32 rfl (by decide) rfl ?_
      show Ev g _ _ _ _ _ _ 33 [some (x_r (16 * 32 + 0)), some (x_i v7), none, none] [] (al, ro, fl (ml M [32] [S8])) _ _ _ _
      refine e_aloadn (pc := 33) (i := 0) dX12_plain_33 rfl rfl ?_
      refine f_geti (pc := 34) (k := 0) (u := 32) (q := 0) dX12_plain_34 xf12_25 (sa_32_0 hs) rfl hn rfl rfl (by decide) ?_
      show Ev g _ _ _ _ _ _ 37 [some (x_r (16 * 32 + 0)), some (x_i v7), none, none] [x_i (S8 0 12)] (al, ro, fl (ml M [32] [S8])) _ _ _ _
      refine e_iconst (pc := 37) dX12_plain_37 (x_R rfl) ?_
      refine e_icmp_eq (pc := 38) (tgt := 43) dX12_plain_38 (by decide) (fun hb => ?_) (fun hb => ?_)
      · rw [if_pos hb] at hG
        refine e_aloadn (pc := 43) (i := 0) dX12_plain_43 rfl rfl ?_
        refine e_bipush (pc := 44) dX12_plain_44 (by decide +kernel) (x_R rfl) ?_
        obtain ⟨v10, S11, hq11, hG⟩ := x_bd2 hG
        refine e_invV (pc := 46) (K1 := 0) (S1 := 0) (K := 0) (S := 0) (dd2 := 2) (av := [x_i 60]) (st := []) (id := 16 * 32 + 0) dX12_plain_46 xmX12_189 rfl (Or.inl ⟨10, 27, TX12, (sa_32_0 hs), rfl, by decide⟩) (f_cal (M := M) (us2 := [32]) [0] hn rfl (And.intro rfl trivial) rfl rfl rfl (c_X12_isSign hst hs   hq11)) (by decide) (Nat.le_of_ble_eq_true rfl) (Or.inl rfl) ?_
        show Ev g _ _ _ _ _ _ 49 [some (x_r (16 * 32 + 0)), some (x_i v7), none, none] [x_i v10] (al, ro, fl (ml M [32] [S11])) _ _ _ _
        refine e_istoren (pc := 49) (i := 2) dX12_plain_49 rfl (by decide) rfl ?_
        show Ev g _ _ _ _ _ _ 50 [some (x_r (16 * 32 + 0)), some (x_i v7), some (x_i v10), none] [] (al, ro, fl (ml M [32] [S11])) _ _ _ _
        refine e_iloadn (pc := 50) (i := 2) dX12_plain_50 rfl rfl ?_
        refine e_if_ne (pc := 51) (tgt := 73) dX12_plain_51 (by decide) (fun hb => ?_) (fun hb => ?_)
        · rw [if_neg hb] at hG
          refine e_aloadn (pc := 73) (i := 0) dX12_plain_73 rfl rfl ?_
          refine e_dup (pc := 74) dX12_plain_74 rfl ?_
          refine f_geti (pc := 75) (k := 0) (u := 32) (q := 0) dX12_plain_75 xf12_82 (sa_32_0 hs) rfl hn rfl rfl (by decide) ?_
          show Ev g _ _ _ _ _ _ 78 [some (x_r (16 * 32 + 0)), some (x_i v7), some (x_i v10), none] [x_i (S11 0 11), x_r (16 * 32 + 0)] (al, ro, fl (ml M [32] [S11])) _ _ _ _
          refine e_iconst (pc := 78) dX12_plain_78 (x_R rfl) ?_
          refine e_iadd (pc := 79) dX12_plain_79 ?_
          refine f_puti (pc := 80) (k := 0) (u := 32) (q := 0) dX12_plain_80 xf12_82 xw10_11 (sa_32_0 hs) hn rfl rfl rfl (by decide) ?_
          show Ev g _ _ _ _ _ _ 83 [some (x_r (16 * 32 + 0)), some (x_i v7), some (x_i v10), none] [] (al, ro, fl (ml M [32] [(x_up S11 0 11 (x_add (S11 0 11) 1))])) _ _ _ _
          refine e_aloadn (pc := 83) (i := 0) dX12_plain_83 rfl rfl ?_
          obtain ⟨v13, S14, hq14, hG⟩ := x_bd2 hG
          refine e_invV (pc := 84) (K1 := 0) (S1 := 0) (K := 0) (S := 0) (dd2 := 8) (av := []) (st := []) (id := 16 * 32 + 0) dX12_plain_84 xmX12_227 rfl (Or.inl ⟨10, 27, TX12, (sa_32_0 hs), rfl, by decide⟩) (f_cal (M := M) (us2 := [32]) [0] hn rfl (And.intro rfl trivial) rfl rfl rfl (c_X12_sum hst hs   hq14)) (by decide) (Nat.le_of_ble_eq_true rfl) (Or.inl rfl) ?_
          show Ev g _ _ _ _ _ _ 87 [some (x_r (16 * 32 + 0)), some (x_i v7), some (x_i v10), none] [x_i v13] (al, ro, fl (ml M [32] [S14])) _ _ _ _
          refine e_istoren (pc := 87) (i := 3) dX12_plain_87 rfl (by decide) rfl ?_
          show Ev g _ _ _ _ _ _ 88 [some (x_r (16 * 32 + 0)), some (x_i v7), some (x_i v10), some (x_i v13)] [] (al, ro, fl (ml M [32] [S14])) _ _ _ _
          refine e_iloadn (pc := 88) (i := 2) dX12_plain_88 rfl rfl ?_
          obtain ⟨v16, hr16, hG⟩ := x_bd1 hG
          have hjhr16 : Ev g yX12_plain cX12_plain 4 (some .boolean) [] 9 115 [some (x_r (16 * 32 + 0)), some (x_i v7), some (x_i v10), some (x_i v13)] [x_i v16] (al, ro, fl (ml M [32] [S14])) 0 0 (.inl (some (x_i t.1))) (al, ro, fl (ml M [32] [t.2])) := by
            obtain ⟨hc0, hG⟩ := x_gd_some hG
            cases hG
            exact (e_ireturn rfl dX12_plain_115 (x_bool hc0).1)
          clear hG
          refine e_if_eq (pc := 89) (tgt := 105) dX12_plain_89 (by decide) (fun hb => ?_) (fun hb => ?_)
          · rw [if_pos hb] at hr16
            refine e_iloadn (pc := 105) (i := 1) dX12_plain_105 rfl rfl ?_
            refine e_iloadn (pc := 106) (i := 3) dX12_plain_106 rfl rfl ?_
            refine e_icmp_le (pc := 107) (tgt := 114) dX12_plain_107 (by decide) (fun hb => ?_) (fun hb => ?_)
            · rw [if_pos hb] at hr16
              refine e_iconst (pc := 114) dX12_plain_114 (x_R rfl) ?_
              cases hr16
              exact hjhr16
            · rw [if_neg hb] at hr16
              refine e_iconst (pc := 110) dX12_plain_110 (x_R rfl) ?_
              refine e_goto (pc := 111) (tgt := 115) dX12_plain_111 (by decide) ?_
              cases hr16
              exact hjhr16
          · rw [if_neg hb] at hr16
            refine e_iloadn (pc := 92) (i := 1) dX12_plain_92 rfl rfl ?_
            refine e_iloadn (pc := 93) (i := 3) dX12_plain_93 rfl rfl ?_
            refine e_icmp_ge (pc := 94) (tgt := 101) dX12_plain_94 (by decide) (fun hb => ?_) (fun hb => ?_)
            · rw [if_pos hb] at hr16
              refine e_iconst (pc := 101) dX12_plain_101 (x_R rfl) ?_
              refine e_goto (pc := 102) (tgt := 115) dX12_plain_102 (by decide) ?_
              cases hr16
              exact hjhr16
            · rw [if_neg hb] at hr16
              refine e_iconst (pc := 97) dX12_plain_97 (x_R rfl) ?_
              refine e_goto (pc := 98) (tgt := 115) dX12_plain_98 (by decide) ?_
              cases hr16
              exact hjhr16
        · rw [if_pos hb] at hG
          refine e_aloadn (pc := 54) (i := 0) dX12_plain_54 rfl rfl ?_
          refine e_bipush (pc := 55) dX12_plain_55 (by decide +kernel) (x_R rfl) ?_
          obtain ⟨v18, S19, hq19, hG⟩ := x_bd2 hG
          refine e_invV (pc := 57) (K1 := 0) (S1 := 0) (K := 0) (S := 0) (dd2 := 2) (av := [x_i 62]) (st := []) (id := 16 * 32 + 0) dX12_plain_57 xmX12_189 rfl (Or.inl ⟨10, 27, TX12, (sa_32_0 hs), rfl, by decide⟩) (f_cal (M := M) (us2 := [32]) [0] hn rfl (And.intro rfl trivial) rfl rfl rfl (c_X12_isSign hst hs   hq19)) (by decide) (Nat.le_of_ble_eq_true rfl) (Or.inl rfl) ?_
          show Ev g _ _ _ _ _ _ 60 [some (x_r (16 * 32 + 0)), some (x_i v7), some (x_i v10), none] [x_i v18] (al, ro, fl (ml M [32] [S19])) _ _ _ _
          refine e_if_ne (pc := 60) (tgt := 73) dX12_plain_60 (by decide) (fun hb => ?_) (fun hb => ?_)
          · rw [if_neg hb] at hG
            refine e_aloadn (pc := 73) (i := 0) dX12_plain_73 rfl rfl ?_
            refine e_dup (pc := 74) dX12_plain_74 rfl ?_
            refine f_geti (pc := 75) (k := 0) (u := 32) (q := 0) dX12_plain_75 xf12_82 (sa_32_0 hs) rfl hn rfl rfl (by decide) ?_
            show Ev g _ _ _ _ _ _ 78 [some (x_r (16 * 32 + 0)), some (x_i v7), some (x_i v10), none] [x_i (S19 0 11), x_r (16 * 32 + 0)] (al, ro, fl (ml M [32] [S19])) _ _ _ _
            refine e_iconst (pc := 78) dX12_plain_78 (x_R rfl) ?_
            refine e_iadd (pc := 79) dX12_plain_79 ?_
            refine f_puti (pc := 80) (k := 0) (u := 32) (q := 0) dX12_plain_80 xf12_82 xw10_11 (sa_32_0 hs) hn rfl rfl rfl (by decide) ?_
            show Ev g _ _ _ _ _ _ 83 [some (x_r (16 * 32 + 0)), some (x_i v7), some (x_i v10), none] [] (al, ro, fl (ml M [32] [(x_up S19 0 11 (x_add (S19 0 11) 1))])) _ _ _ _
            refine e_aloadn (pc := 83) (i := 0) dX12_plain_83 rfl rfl ?_
            obtain ⟨v21, S22, hq22, hG⟩ := x_bd2 hG
            refine e_invV (pc := 84) (K1 := 0) (S1 := 0) (K := 0) (S := 0) (dd2 := 8) (av := []) (st := []) (id := 16 * 32 + 0) dX12_plain_84 xmX12_227 rfl (Or.inl ⟨10, 27, TX12, (sa_32_0 hs), rfl, by decide⟩) (f_cal (M := M) (us2 := [32]) [0] hn rfl (And.intro rfl trivial) rfl rfl rfl (c_X12_sum hst hs   hq22)) (by decide) (Nat.le_of_ble_eq_true rfl) (Or.inl rfl) ?_
            show Ev g _ _ _ _ _ _ 87 [some (x_r (16 * 32 + 0)), some (x_i v7), some (x_i v10), none] [x_i v21] (al, ro, fl (ml M [32] [S22])) _ _ _ _
            refine e_istoren (pc := 87) (i := 3) dX12_plain_87 rfl (by decide) rfl ?_
            show Ev g _ _ _ _ _ _ 88 [some (x_r (16 * 32 + 0)), some (x_i v7), some (x_i v10), some (x_i v21)] [] (al, ro, fl (ml M [32] [S22])) _ _ _ _
            refine e_iloadn (pc := 88) (i := 2) dX12_plain_88 rfl rfl ?_
            obtain ⟨v24, hr24, hG⟩ := x_bd1 hG
            have hjhr24 : Ev g yX12_plain cX12_plain 4 (some .boolean) [] 9 115 [some (x_r (16 * 32 + 0)), some (x_i v7), some (x_i v10), some (x_i v21)] [x_i v24] (al, ro, fl (ml M [32] [S22])) 0 0 (.inl (some (x_i t.1))) (al, ro, fl (ml M [32] [t.2])) := by
              obtain ⟨hc0, hG⟩ := x_gd_some hG
              cases hG
              exact (e_ireturn rfl dX12_plain_115 (x_bool hc0).1)
            clear hG
            refine e_if_eq (pc := 89) (tgt := 105) dX12_plain_89 (by decide) (fun hb => ?_) (fun hb => ?_)
            · rw [if_pos hb] at hr24
              refine e_iloadn (pc := 105) (i := 1) dX12_plain_105 rfl rfl ?_
              refine e_iloadn (pc := 106) (i := 3) dX12_plain_106 rfl rfl ?_
              refine e_icmp_le (pc := 107) (tgt := 114) dX12_plain_107 (by decide) (fun hb => ?_) (fun hb => ?_)
              · rw [if_pos hb] at hr24
                refine e_iconst (pc := 114) dX12_plain_114 (x_R rfl) ?_
                cases hr24
                exact hjhr24
              · rw [if_neg hb] at hr24
                refine e_iconst (pc := 110) dX12_plain_110 (x_R rfl) ?_
                refine e_goto (pc := 111) (tgt := 115) dX12_plain_111 (by decide) ?_
                cases hr24
                exact hjhr24
            · rw [if_neg hb] at hr24
              refine e_iloadn (pc := 92) (i := 1) dX12_plain_92 rfl rfl ?_
              refine e_iloadn (pc := 93) (i := 3) dX12_plain_93 rfl rfl ?_
              refine e_icmp_ge (pc := 94) (tgt := 101) dX12_plain_94 (by decide) (fun hb => ?_) (fun hb => ?_)
              · rw [if_pos hb] at hr24
                refine e_iconst (pc := 101) dX12_plain_101 (x_R rfl) ?_
                refine e_goto (pc := 102) (tgt := 115) dX12_plain_102 (by decide) ?_
                cases hr24
                exact hjhr24
              · rw [if_neg hb] at hr24
                refine e_iconst (pc := 97) dX12_plain_97 (x_R rfl) ?_
                refine e_goto (pc := 98) (tgt := 115) dX12_plain_98 (by decide) ?_
                cases hr24
                exact hjhr24
          · rw [if_pos hb] at hG
            refine e_aloadn (pc := 63) (i := 0) dX12_plain_63 rfl rfl ?_
            refine e_aloadn (pc := 64) (i := 0) dX12_plain_64 rfl rfl ?_
            refine f_geti (pc := 65) (k := 0) (u := 32) (q := 0) dX12_plain_65 xf12_82 (sa_32_0 hs) rfl hn rfl rfl (by decide) ?_
            show Ev g _ _ _ _ _ _ 68 [some (x_r (16 * 32 + 0)), some (x_i v7), some (x_i v10), none] [x_i (S19 0 11), x_r (16 * 32 + 0)] (al, ro, fl (ml M [32] [S19])) _ _ _ _
            obtain ⟨S26, hq26, hG⟩ := x_bd1 hG
            refine e_invV (pc := 68) (K1 := 0) (S1 := 0) (K := 0) (S := 0) (dd2 := 0) (av := [x_i (S19 0 11)]) (st := []) (id := 16 * 32 + 0) dX12_plain_68 xmX12_108 rfl (Or.inl ⟨10, 27, TX12, (sa_32_0 hs), rfl, by decide⟩) (f_cal (M := M) (us2 := [32]) [0] hn rfl (And.intro rfl trivial) rfl rfl rfl (c_X12_wrong hst hs   hq26)) (by decide) (Nat.le_of_ble_eq_true rfl) (Or.inl rfl) ?_
            show Ev g _ _ _ _ _ _ 71 [some (x_r (16 * 32 + 0)), some (x_i v7), some (x_i v10), none] [] (al, ro, fl (ml M [32] [S26])) _ _ _ _
            refine e_iconst (pc := 71) dX12_plain_71 (x_R rfl) ?_
            cases hG
            exact (e_ireturn rfl dX12_plain_72 (x_bool (by decide)).1)
      · rw [if_neg hb] at hG
        refine e_iconst (pc := 41) dX12_plain_41 (x_R rfl) ?_
        cases hG
        exact (e_ireturn rfl dX12_plain_42 (x_bool (by decide)).1)
    · rw [if_neg hb] at hG
      refine e_aloadn (pc := 23) (i := 0) dX12_plain_23 rfl rfl ?_
      refine f_geti (pc := 24) (k := 0) (u := 32) (q := 0) dX12_plain_24 xf12_224 (sa_32_0 hs) rfl hn rfl rfl (by decide) ?_
      show Ev g _ _ _ _ _ _ 27 [some (x_r (16 * 32 + 0)), none, none, none] [x_i (S5 0 16)] (al, ro, fl (ml M [32] [S5])) _ _ _ _
      obtain ⟨hc0, hG⟩ := x_gd_some hG
      cases hG
      exact (e_ireturn rfl dX12_plain_27 (x_bool hc0).1)
  · rw [if_neg hb] at hG
    refine e_aloadn (pc := 9) (i := 0) dX12_plain_9 rfl rfl ?_
    refine f_geti (pc := 10) (k := 0) (u := 32) (q := 0) dX12_plain_10 xf12_218 (sa_32_0 hs) rfl hn rfl rfl (by decide) ?_
    show Ev g _ _ _ _ _ _ 13 [some (x_r (16 * 32 + 0)), none, none, none] [x_i (S2 0 15)] (al, ro, fl (ml M [32] [S2])) _ _ _ _
    obtain ⟨hc0, hG⟩ := x_gd_some hG
    cases hG
    exact (e_ireturn rfl dX12_plain_13 (x_bool hc0).1)
