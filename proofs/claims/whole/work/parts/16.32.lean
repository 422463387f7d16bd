set_option maxRecDepth 100000 in
set_option maxHeartbeats 4000000 in
theorem c_X12_isThere {g : xG} {al : List (Nat × Nat × Nat)} {ro : Nat → Nat → Option Nat} (hst : g.1.stackTraces = false) (hs : SH al ro) {M : Nat → xU} {a : Int} {b : Int} {S : xU}  {t : Int} (hG : G12_isThere a b S = some t) :
    Cal g yX12_isThere cX12_isThere 3 (some .boolean) 0 [x_r (16 * 32 + 0), x_i a, x_i b] (al, ro, fl (ml M [32] [S])) 0 0 (.inl (some (x_i t))) (al, ro, fl (ml M [32] [S])) := by
  have hn : ([32] : List Nat).Nodup := by decide
  refine cal_of_ev (plainFor_of_name (by decide)) (x_c1 rfl) (Nat.le_of_ble_eq_true rfl) hst ?_
  show Ev g _ _ _ _ _ _ 0 [some (x_r (16 * 32 + 0)), some (x_i a), some (x_i b)] [] (al, ro, fl (ml M [32] [S])) _ _ _ _
  rw [G12_isThere] at hG
  refine e_iloadn (pc := 0) (i := 1) dX12_isThere_0 rfl rfl ?_
  refine e_bipush (pc := 1) dX12_isThere_1 (by decide +kernel) (x_R rfl) ?_
  refine e_idiv (pc := 3) dX12_isThere_3 (by decide) ?_
  refine e_iloadn (pc := 4) (i := 2) dX12_isThere_4 rfl rfl ?_
  refine e_iloadn (pc := 5) (i := 1) dX12_isThere_5 rfl rfl ?_
  refine e_bipush (pc := 6) dX12_isThere_6 (by decide +kernel) (x_R rfl) ?_
  refine e_irem (pc := 8) dX12_isThere_8 (by decide) ?_
  refine e_imul (pc := 9) dX12_isThere_9 ?_
  refine e_iadd (pc := 10) dX12_isThere_10 ?_
  refine e_bipush (pc := 11) dX12_isThere_11 (by decide +kernel) (x_R rfl) ?_
  refine e_irem (pc := 13) dX12_isThere_13 (by decide) ?_
  refine e_aloadn (pc := 14) (i := 0) dX12_isThere_14 rfl rfl ?_
  refine f_getr (pc := 15) (u := 32) (q := 0) dX12_isThere_15 xf12_7 (sa_32_0 hs) rfl (sr_32_0_1 hs) ?_
  refine e_bipush (pc := 18) dX12_isThere_18 (by decide +kernel) (x_R rfl) ?_
  refine f_iald (pc := 20) (k := 0) (u := 32) (q := 1) (len := 772) dX12_isThere_20 (sa_32_1 hs) (by decide) hn rfl rfl (by decide) ?_
  show Ev g _ _ _ _ _ _ 21 [some (x_r (16 * 32 + 0)), some (x_i a), some (x_i b)] [x_i (S 1 6), x_i (x_rem (x_add (x_div a 9) (x_mul b (x_rem a 9))) 16)] (al, ro, fl (ml M [32] [S])) _ _ _ _
  obtain ⟨v1, hr1, hG⟩ := x_bd1 hG
  have hjhr1 : Ev g yX12_isThere cX12_isThere 3 (some .boolean) [] 0 29 [some (x_r (16 * 32 + 0)), some (x_i a), some (x_i b)] [x_i v1] (al, ro, fl (ml M [32] [S])) 0 0 (.inl (some (x_i t))) (al, ro, fl (ml M [32] [S])) := by
    obtain ⟨hc0, hG⟩ := x_gd_some hG
    cases hG
    exact (e_ireturn rfl dX12_isThere_29 (x_bool hc0).1)
  clear hG
  refine e_icmp_ne (pc := 21) (tgt := 28) dX12_isThere_21 (by decide) (fun hb => ?_) (fun hb => ?_)
  · rw [if_neg hb] at hr1
    refine e_iconst (pc := 28) dX12_isThere_28 (x_R rfl) ?_
    cases hr1
    exact hjhr1
  · rw [if_pos hb] at hr1
    refine e_iconst (pc := 24) dX12_isThere_24 (x_R rfl) ?_
    refine e_goto (pc := 25) (tgt := 29) dX12_isThere_25 (by decide) ?_
    cases hr1
    exact hjhr1
set_option maxRecDepth 100000 in
set_option maxHeartbeats 4000000 in
theorem c_X12_heard {g : xG} {al : List (Nat × Nat × Nat)} {ro : Nat → Nat → Option Nat} (hst : g.1.stackTraces = false) (hs : SH al ro) {M : Nat → xU} {S : xU}  {t : (Int × xU)} (hG : G12_heard S = some t) :
    Cal g yX12_heard cX12_heard 5 (some .int) 1 [x_r (16 * 32 + 0)] (al, ro, fl (ml M [32] [S])) 0 0 (.inl (some (x_i t.1))) (al, ro, fl (ml M [32] [t.2])) := by
  have hn : ([32] : List Nat).Nodup := by decide
  refine cal_of_ev (plainFor_of_name (by decide)) (x_c1 rfl) (Nat.le_of_ble_eq_true rfl) hst ?_
  show Ev g _ _ _ _ _ _ 0 [some (x_r (16 * 32 + 0)), none, none, none, none] [] (al, ro, fl (ml M [32] [S])) _ _ _ _
  rw [G12_heard] at hG
  refine e_aloadn (pc := 0) (i := 0) dX12_heard_0 rfl rfl ?_
  refine f_geti (pc := 1) (k := 0) (u := 32) (q := 0) dX12_heard_1 xf12_76 (sa_32_0 hs) rfl hn rfl rfl (by decide) ?_
  show Ev g _ _ _ _ _ _ 4 [some (x_r (16 * 32 + 0)), none, none, none, none] [x_i (S 0 8)] (al, ro, fl (ml M [32] [S])) _ _ _ _
  refine e_istoren (pc := 4) (i := 1) dX12_heard_4 rfl (by decide) rfl ?_
  show Ev g _ _ _ _ _ _ 5 [some (x_r (16 * 32 + 0)), some (x_i (S 0 8)), none, none, none] [] (al, ro, fl (ml M [32] [S])) _ _ _ _
  refine e_aloadn (pc := 5) (i := 0) dX12_heard_5 rfl rfl ?_
  refine e_iconst (pc := 6) dX12_heard_6 (x_R rfl) ?_
  refine f_puti (pc := 7) (k := 0) (u := 32) (q := 0) dX12_heard_7 xf12_76 xw10_8 (sa_32_0 hs) hn rfl rfl rfl (by decide) ?_
  show Ev g _ _ _ _ _ _ 10 [some (x_r (16 * 32 + 0)), some (x_i (S 0 8)), none, none, none] [] (al, ro, fl (ml M [32] [(x_up S 0 8 0)])) _ _ _ _
  refine e_aloadn (pc := 10) (i := 0) dX12_heard_10 rfl rfl ?_
  refine e_iloadn (pc := 11) (i := 1) dX12_heard_11 rfl rfl ?_
  refine e_iconst (pc := 12) dX12_heard_12 (x_R rfl) ?_
  obtain ⟨v1, hq1, hG⟩ := x_bd1 hG
  refine e_invV (pc := 13) (K1 := 0) (S1 := 0) (K := 0) (S := 0) (dd2 := 0) (av := [x_i (S 0 8), x_i 1]) (st := []) (id := 16 * 32 + 0) dX12_heard_13 xmX12_367 rfl (Or.inl ⟨10, 27, TX12, (sa_32_0 hs), rfl, by decide⟩) (f_cal (M := M) (us2 := [32]) [0] hn rfl (And.intro rfl trivial) rfl rfl rfl (c_X12_areRows hst hs   hq1)) (by decide) (Nat.le_of_ble_eq_true rfl) (Or.inl rfl) ?_
  show Ev g _ _ _ _ _ _ 16 [some (x_r (16 * 32 + 0)), some (x_i (S 0 8)), none, none, none] [x_i v1] (al, ro, fl (ml M [32] [(x_up S 0 8 0)])) _ _ _ _
  refine e_if_ne (pc := 16) (tgt := 21) dX12_heard_16 (by decide) (fun hb => ?_) (fun hb => ?_)
  · rw [if_neg hb] at hG
    refine e_iconst (pc := 21) dX12_heard_21 (x_R rfl) ?_
    refine e_istoren (pc := 22) (i := 2) dX12_heard_22 rfl (by decide) rfl ?_
    show Ev g _ _ _ _ _ _ 23 [some (x_r (16 * 32 + 0)), some (x_i (S 0 8)), some (x_i 0), none, none] [] (al, ro, fl (ml M [32] [(x_up S 0 8 0)])) _ _ _ _
    refine e_iconst (pc := 23) dX12_heard_23 (x_R rfl) ?_
    refine e_istoren (pc := 24) (i := 3) dX12_heard_24 rfl (by decide) rfl ?_
    show Ev g _ _ _ _ _ _ 25 [some (x_r (16 * 32 + 0)), some (x_i (S 0 8)), some (x_i 0), some (x_i 0), none] [] (al, ro, fl (ml M [32] [(x_up S 0 8 0)])) _ _ _ _
    obtain ⟨v6, S7, hl8, hG⟩ := x_bd2 hG
    have hk8 : ∀ q : (Int × xU), q = (v6, S7) → Ev g yX12_heard cX12_heard 5 (some .int) [] 1 130 [some (x_r (16 * 32 + 0)), some (x_i (S 0 8)), some (x_i q.1), none, none] [] (al, ro, fl (ml M [32] [q.2])) 0 0 (.inl (some (x_i t.1))) (al, ro, fl (ml M [32] [t.2])) := by
      intro q hq
      cases hq
      refine e_iloadn (pc := 130) (i := 2) dX12_heard_130 rfl rfl ?_
      cases hG
      exact (e_ireturn rfl dX12_heard_131 rfl)
    clear hG
    refine e_whl (G12_heard_L25 S) (fun z : (Int × Int × xU) => Ev g yX12_heard cX12_heard 5 (some .int) [] 1 25 [some (x_r (16 * 32 + 0)), some (x_i (S 0 8)), some (x_i z.1), some (x_i z.2.1), none] [] (al, ro, fl (ml M [32] [z.2.2])) 0 0 (.inl (some (x_i t.1))) (al, ro, fl (ml M [32] [t.2]))) (fun q => q = (v6, S7)) ?_ xFU (0, 0, (x_up S 0 8 0)) _ hl8 rfl
    intro z t8 hf8 hi8 hx8
    obtain ⟨v3, v4, S5⟩ := z
    rw [G12_heard_L25] at hf8
    show Ev g _ _ _ _ _ _ 25 [some (x_r (16 * 32 + 0)), some (x_i (S 0 8)), some (x_i v3), some (x_i v4), none] [] (al, ro, fl (ml M [32] [S5])) _ _ _ _
    refine e_iloadn (pc := 25) (i := 3) dX12_heard_25 rfl rfl ?_
    refine e_sipush (pc := 26) dX12_heard_26 (by decide +kernel) (x_R rfl) ?_
    refine e_icmp_ge (pc := 29) (tgt := 130) dX12_heard_29 (by decide) (fun hb => ?_) (fun hb => ?_)
    · rw [if_pos hb] at hf8
      cases hf8
      refine e_drop (i := 3) ?_
      have hh := hk8 _ (hx8 _ rfl)
      try dsimp only at hh
      exact hh
    · rw [if_neg hb] at hf8
      refine e_aloadn (pc := 32) (i := 0) dX12_heard_32 rfl rfl ?_
      refine f_getr (pc := 33) (u := 32) (q := 0) dX12_heard_33 xf12_45 (sa_32_0 hs) rfl (sr_32_0_23 hs) ?_
      refine e_iloadn (pc := 36) (i := 3) dX12_heard_36 rfl rfl ?_
      refine e_iconst (pc := 37) dX12_heard_37 (x_R rfl) ?_
      obtain ⟨hc0, hf8⟩ := x_gd_some hf8
      refine f_zast (pc := 38) (k := 0) (u := 32) (q := 11) (len := 144) dX12_heard_38 (sa_32_11 hs) hc0 (by decide) hn rfl rfl rfl (by decide) ?_
      show Ev g _ _ _ _ _ _ 39 [some (x_r (16 * 32 + 0)), some (x_i (S 0 8)), some (x_i v3), some (x_i v4), none] [] (al, ro, fl (ml M [32] [(x_up S5 11 (v4).toNat 1)])) _ _ _ _
      refine e_iconst (pc := 39) dX12_heard_39 (x_R rfl) ?_
      refine e_istore (pc := 40) (i := 4) dX12_heard_40 (by decide) rfl ?_
      show Ev g _ _ _ _ _ _ 42 [some (x_r (16 * 32 + 0)), some (x_i (S 0 8)), some (x_i v3), some (x_i v4), some (x_i 0)] [] (al, ro, fl (ml M [32] [(x_up S5 11 (v4).toNat 1)])) _ _ _ _
      obtain ⟨S12, hl13, hf8⟩ := x_bd1 hf8
      have hk13 : ∀ q : xU, q = S12 → Ev g yX12_heard cX12_heard 5 (some .int) [] 1 107 [some (x_r (16 * 32 + 0)), some (x_i (S 0 8)), some (x_i v3), some (x_i v4), none] [] (al, ro, fl (ml M [32] [q])) 0 0 (.inl (some (x_i t.1))) (al, ro, fl (ml M [32] [t.2])) := by
        intro q hq
        replace hq := hq.symm
        subst hq
        refine e_iloadn (pc := 107) (i := 2) dX12_heard_107 rfl rfl ?_
        refine e_aloadn (pc := 108) (i := 0) dX12_heard_108 rfl rfl ?_
        refine f_getr (pc := 109) (u := 32) (q := 0) dX12_heard_109 xf12_45 (sa_32_0 hs) rfl (sr_32_0_23 hs) ?_
        refine e_iloadn (pc := 112) (i := 3) dX12_heard_112 rfl rfl ?_
        obtain ⟨hc0, hf8⟩ := x_gd_some hf8
        refine f_zald (pc := 113) (k := 0) (u := 32) (q := 11) (len := 144) dX12_heard_113 (sa_32_11 hs) hc0 hn rfl rfl (by decide) ?_
        show Ev g _ _ _ _ _ _ 114 [some (x_r (16 * 32 + 0)), some (x_i (S 0 8)), some (x_i v3), some (x_i v4), none] [x_i (S12 11 (v4).toNat), x_i v3] (al, ro, fl (ml M [32] [S12])) _ _ _ _
        obtain ⟨v21, hr21, hf8⟩ := x_bd1 hf8
        have hjhr21 : Ev g yX12_heard cX12_heard 5 (some .int) [] 1 122 [some (x_r (16 * 32 + 0)), some (x_i (S 0 8)), some (x_i v3), some (x_i v4), none] [x_i v21, x_i v3] (al, ro, fl (ml M [32] [S12])) 0 0 (.inl (some (x_i t.1))) (al, ro, fl (ml M [32] [t.2])) := by
          refine e_iadd (pc := 122) dX12_heard_122 ?_
          refine e_istoren (pc := 123) (i := 2) dX12_heard_123 rfl (by decide) rfl ?_
          show Ev g _ _ _ _ _ _ 124 [some (x_r (16 * 32 + 0)), some (x_i (S 0 8)), some (x_i (x_add v3 v21)), some (x_i v4), none] [] (al, ro, fl (ml M [32] [S12])) _ _ _ _
          refine e_iinc (pc := 124) dX12_heard_124 rfl (by decide) rfl ?_
          show Ev g _ _ _ _ _ _ 127 [some (x_r (16 * 32 + 0)), some (x_i (S 0 8)), some (x_i (x_add v3 v21)), some (x_i (x_add v4 1)), none] [] (al, ro, fl (ml M [32] [S12])) _ _ _ _
          refine e_goto (pc := 127) (tgt := 25) dX12_heard_127 (by decide) ?_
          cases hf8
          have hh := hi8 _ rfl
          try dsimp only at hh
          exact hh
        clear hf8
        refine e_if_eq (pc := 114) (tgt := 121) dX12_heard_114 (by decide) (fun hb => ?_) (fun hb => ?_)
        · rw [if_pos hb] at hr21
          refine e_iconst (pc := 121) dX12_heard_121 (x_R rfl) ?_
          cases hr21
          exact hjhr21
        · rw [if_neg hb] at hr21
          refine e_iconst (pc := 117) dX12_heard_117 (x_R rfl) ?_
          refine e_goto (pc := 118) (tgt := 122) dX12_heard_118 (by decide) ?_
          cases hr21
          exact hjhr21
      clear hf8
      refine e_whl (G12_heard_L42 S v4) (fun z : (Int × xU) => Ev g yX12_heard cX12_heard 5 (some .int) [] 1 42 [some (x_r (16 * 32 + 0)), some (x_i (S 0 8)), some (x_i v3), some (x_i v4), some (x_i z.1)] [] (al, ro, fl (ml M [32] [z.2])) 0 0 (.inl (some (x_i t.1))) (al, ro, fl (ml M [32] [t.2]))) (fun q => q = S12) ?_ xFU (0, (x_up S5 11 (v4).toNat 1)) _ hl13 rfl
      intro z t13 hf13 hi13 hx13
      obtain ⟨v10, S11⟩ := z
      rw [G12_heard_L42] at hf13
      show Ev g _ _ _ _ _ _ 42 [some (x_r (16 * 32 + 0)), some (x_i (S 0 8)), some (x_i v3), some (x_i v4), some (x_i v10)] [] (al, ro, fl (ml M [32] [S11])) _ _ _ _
      refine e_iload (pc := 42) dX12_heard_42 rfl ?_
      refine e_iloadn (pc := 44) (i := 1) dX12_heard_44 rfl rfl ?_
      refine e_icmp_ge (pc := 45) (tgt := 107) dX12_heard_45 (by decide) (fun hb => ?_) (fun hb => ?_)
      · rw [if_pos hb] at hf13
        cases hf13
        refine e_drop (i := 4) ?_
        have hh := hk13 _ (hx13 _ rfl)
        try dsimp only at hh
        exact hh
      · rw [if_neg hb] at hf13
        refine e_aloadn (pc := 48) (i := 0) dX12_heard_48 rfl rfl ?_
        refine f_getr (pc := 49) (u := 32) (q := 0) dX12_heard_49 xf12_45 (sa_32_0 hs) rfl (sr_32_0_23 hs) ?_
        refine e_iloadn (pc := 52) (i := 3) dX12_heard_52 rfl rfl ?_
        obtain ⟨hc0, hf13⟩ := x_gd_some hf13
        refine f_zald (pc := 53) (k := 0) (u := 32) (q := 11) (len := 144) dX12_heard_53 (sa_32_11 hs) hc0 hn rfl rfl (by decide) ?_
        show Ev g _ _ _ _ _ _ 54 [some (x_r (16 * 32 + 0)), some (x_i (S 0 8)), some (x_i v3), some (x_i v4), some (x_i v10)] [x_i (S11 11 (v4).toNat)] (al, ro, fl (ml M [32] [S11])) _ _ _ _
        refine e_if_eq (pc := 54) (tgt := 107) dX12_heard_54 (by decide) (fun hb => ?_) (fun hb => ?_)
        · rw [if_pos hb] at hf13
          cases hf13
          refine e_drop (i := 4) ?_
          have hh := hk13 _ (hx13 _ rfl)
          try dsimp only at hh
          exact hh
        · rw [if_neg hb] at hf13
          refine e_aloadn (pc := 57) (i := 0) dX12_heard_57 rfl rfl ?_
          refine f_getr (pc := 58) (u := 32) (q := 0) dX12_heard_58 xf12_45 (sa_32_0 hs) rfl (sr_32_0_23 hs) ?_
          refine e_iloadn (pc := 61) (i := 3) dX12_heard_61 rfl rfl ?_
          refine e_aloadn (pc := 62) (i := 0) dX12_heard_62 rfl rfl ?_
          refine e_iloadn (pc := 63) (i := 3) dX12_heard_63 rfl rfl ?_
          refine e_aloadn (pc := 64) (i := 0) dX12_heard_64 rfl rfl ?_
          refine f_getr (pc := 65) (u := 32) (q := 0) dX12_heard_65 xf12_22 (sa_32_0 hs) rfl (sr_32_0_7 hs) ?_
          refine e_iload (pc := 68) dX12_heard_68 rfl ?_
          obtain ⟨hc0, hf13⟩ := x_gd_some hf13
          refine f_iald (pc := 70) (k := 0) (u := 32) (q := 5) (len := 400) dX12_heard_70 (sa_32_5 hs) hc0 hn rfl rfl (by decide) ?_
          show Ev g _ _ _ _ _ _ 71 [some (x_r (16 * 32 + 0)), some (x_i (S 0 8)), some (x_i v3), some (x_i v4), some (x_i v10)] [x_i (S11 5 (v10).toNat), x_i v4, x_r (16 * 32 + 0), x_i v4, x_r (16 * 32 + 11)] (al, ro, fl (ml M [32] [S11])) _ _ _ _
          obtain ⟨v15, hq15, hf13⟩ := x_bd1 hf13
          refine e_invV (pc := 71) (K1 := 0) (S1 := 0) (K := 0) (S := 0) (dd2 := 0) (av := [x_i v4, x_i (S11 5 (v10).toNat)]) (st := [x_i v4, x_r (16 * 32 + 11)]) (id := 16 * 32 + 0) dX12_heard_71 xmX12_370 rfl (Or.inl ⟨10, 27, TX12, (sa_32_0 hs), rfl, by decide⟩) (f_cal (M := M) (us2 := [32]) [0] hn rfl (And.intro rfl trivial) rfl rfl rfl (c_X12_isThere hst hs   hq15)) (by decide) (Nat.le_of_ble_eq_true rfl) (Or.inl rfl) ?_
          show Ev g _ _ _ _ _ _ 74 [some (x_r (16 * 32 + 0)), some (x_i (S 0 8)), some (x_i v3), some (x_i v4), some (x_i v10)] [x_i v15, x_i v4, x_r (16 * 32 + 11)] (al, ro, fl (ml M [32] [S11])) _ _ _ _
          refine e_aloadn (pc := 74) (i := 0) dX12_heard_74 rfl rfl ?_
          refine f_getr (pc := 75) (u := 32) (q := 0) dX12_heard_75 xf12_22 (sa_32_0 hs) rfl (sr_32_0_7 hs) ?_
          refine e_iload (pc := 78) dX12_heard_78 rfl ?_
          refine e_iconst (pc := 80) dX12_heard_80 (x_R rfl) ?_
          refine e_iadd (pc := 81) dX12_heard_81 ?_
          obtain ⟨hc0, hf13⟩ := x_gd_some hf13
          refine f_iald (pc := 82) (k := 0) (u := 32) (q := 5) (len := 400) dX12_heard_82 (sa_32_5 hs) hc0 hn rfl rfl (by decide) ?_
          show Ev g _ _ _ _ _ _ 83 [some (x_r (16 * 32 + 0)), some (x_i (S 0 8)), some (x_i v3), some (x_i v4), some (x_i v10)] [x_i (S11 5 ((x_add v10 1)).toNat), x_i v15, x_i v4, x_r (16 * 32 + 11)] (al, ro, fl (ml M [32] [S11])) _ _ _ _
          refine e_iconst (pc := 83) dX12_heard_83 (x_R rfl) ?_
          obtain ⟨v17, hr17, hf13⟩ := x_bd1 hf13
          have hjhr17 : Ev g yX12_heard cX12_heard 5 (some .int) [] 1 92 [some (x_r (16 * 32 + 0)), some (x_i (S 0 8)), some (x_i v3), some (x_i v4), some (x_i v10)] [x_i v17, x_i v15, x_i v4, x_r (16 * 32 + 11)] (al, ro, fl (ml M [32] [S11])) 0 0 (.inl (some (x_i t.1))) (al, ro, fl (ml M [32] [t.2])) := by
            obtain ⟨v19, hr19, hf13⟩ := x_bd1 hf13
            have hjhr19 : Ev g yX12_heard cX12_heard 5 (some .int) [] 1 100 [some (x_r (16 * 32 + 0)), some (x_i (S 0 8)), some (x_i v3), some (x_i v4), some (x_i v10)] [x_i v19, x_i v4, x_r (16 * 32 + 11)] (al, ro, fl (ml M [32] [S11])) 0 0 (.inl (some (x_i t.1))) (al, ro, fl (ml M [32] [t.2])) := by
              obtain ⟨hc0, hf13⟩ := x_gd_some hf13
              obtain ⟨hc1, hf13⟩ := x_gd_some hf13
              refine f_zast (pc := 100) (k := 0) (u := 32) (q := 11) (len := 144) dX12_heard_100 (sa_32_11 hs) hc0 hc1 hn rfl rfl rfl (by decide) ?_
              show Ev g _ _ _ _ _ _ 101 [some (x_r (16 * 32 + 0)), some (x_i (S 0 8)), some (x_i v3), some (x_i v4), some (x_i v10)] [] (al, ro, fl (ml M [32] [(x_up S11 11 (v4).toNat v19)])) _ _ _ _
              refine e_iinc (pc := 101) dX12_heard_101 rfl (by decide) rfl ?_
              show Ev g _ _ _ _ _ _ 104 [some (x_r (16 * 32 + 0)), some (x_i (S 0 8)), some (x_i v3), some (x_i v4), some (x_i (x_add v10 2))] [] (al, ro, fl (ml M [32] [(x_up S11 11 (v4).toNat v19)])) _ _ _ _
              refine e_goto (pc := 104) (tgt := 42) dX12_heard_104 (by decide) ?_
              cases hf13
              have hh := hi13 _ rfl
              try dsimp only at hh
              exact hh
            clear hf13
            refine e_icmp_ne (pc := 92) (tgt := 99) dX12_heard_92 (by decide) (fun hb => ?_) (fun hb => ?_)
            · rw [if_neg hb] at hr19
              refine e_iconst (pc := 99) dX12_heard_99 (x_R rfl) ?_
              cases hr19
              exact hjhr19
            · rw [if_pos hb] at hr19
              refine e_iconst (pc := 95) dX12_heard_95 (x_R rfl) ?_
              refine e_goto (pc := 96) (tgt := 100) dX12_heard_96 (by decide) ?_
              cases hr19
              exact hjhr19
          clear hf13
          refine e_icmp_ne (pc := 84) (tgt := 91) dX12_heard_84 (by decide) (fun hb => ?_) (fun hb => ?_)
          · rw [if_neg hb] at hr17
            refine e_iconst (pc := 91) dX12_heard_91 (x_R rfl) ?_
            cases hr17
            exact hjhr17
          · rw [if_pos hb] at hr17
            refine e_iconst (pc := 87) dX12_heard_87 (x_R rfl) ?_
            refine e_goto (pc := 88) (tgt := 92) dX12_heard_88 (by decide) ?_
            cases hr17
            exact hjhr17
  · rw [if_pos hb] at hG
    refine e_iconst (pc := 19) dX12_heard_19 (x_R rfl) ?_
    cases hG
    exact (e_ireturn rfl dX12_heard_20 rfl)
set_option maxRecDepth 100000 in
set_option maxHeartbeats 4000000 in
theorem c_X12_seen {g : xG} {al : List (Nat × Nat × Nat)} {ro : Nat → Nat → Option Nat} (hst : g.1.stackTraces = false) (hs : SH al ro) {M : Nat → xU} {a : Int} {S : xU}  {t : (Int × xU)} (hG : G12_seen a S = some t) :
    Cal g yX12_seen cX12_seen 5 (some .int) 2 [x_r (16 * 32 + 0), x_i a] (al, ro, fl (ml M [32] [S])) 0 0 (.inl (some (x_i t.1))) (al, ro, fl (ml M [32] [t.2])) := by
  have hn : ([32] : List Nat).Nodup := by decide
  refine cal_of_ev (plainFor_of_name (by decide)) (x_c1 rfl) (Nat.le_of_ble_eq_true rfl) hst ?_
  show Ev g _ _ _ _ _ _ 0 [some (x_r (16 * 32 + 0)), some (x_i a), none, none, none] [] (al, ro, fl (ml M [32] [S])) _ _ _ _
  rw [G12_seen] at hG
  refine e_aloadn (pc := 0) (i := 0) dX12_seen_0 rfl rfl ?_
  obtain ⟨v1, S2, hq2, hG⟩ := x_bd2 hG
  refine e_invV (pc := 1) (K1 := 0) (S1 := 0) (K := 0) (S := 0) (dd2 := 1) (av := []) (st := []) (id := 16 * 32 + 0) dX12_seen_1 xmX12_373 rfl (Or.inl ⟨10, 27, TX12, (sa_32_0 hs), rfl, by decide⟩) (f_cal (M := M) (us2 := [32]) [0] hn rfl (And.intro rfl trivial) rfl rfl rfl (c_X12_heard hst hs   hq2)) (by decide) (Nat.le_of_ble_eq_true rfl) (Or.inl rfl) ?_
  show Ev g _ _ _ _ _ _ 4 [some (x_r (16 * 32 + 0)), some (x_i a), none, none, none] [x_i v1] (al, ro, fl (ml M [32] [S2])) _ _ _ _
  refine e_istoren (pc := 4) (i := 2) dX12_seen_4 rfl (by decide) rfl ?_
  show Ev g _ _ _ _ _ _ 5 [some (x_r (16 * 32 + 0)), some (x_i a), some (x_i v1), none, none] [] (al, ro, fl (ml M [32] [S2])) _ _ _ _
  refine e_aloadn (pc := 5) (i := 0) dX12_seen_5 rfl rfl ?_
  refine e_iloadn (pc := 6) (i := 2) dX12_seen_6 rfl rfl ?_
  refine e_iconst (pc := 7) dX12_seen_7 (x_R rfl) ?_
  obtain ⟨v4, hr4, hG⟩ := x_bd1 hG
  have hjhr4 : Ev g yX12_seen cX12_seen 5 (some .int) [] 2 16 [some (x_r (16 * 32 + 0)), some (x_i a), some (x_i v1), none, none] [x_i v4, x_r (16 * 32 + 0)] (al, ro, fl (ml M [32] [S2])) 0 0 (.inl (some (x_i t.1))) (al, ro, fl (ml M [32] [t.2])) := by
    refine f_puti (pc := 16) (k := 0) (u := 32) (q := 0) dX12_seen_16 xf12_58 xw10_0 (sa_32_0 hs) hn rfl rfl rfl (by decide) ?_
    show Ev g _ _ _ _ _ _ 19 [some (x_r (16 * 32 + 0)), some (x_i a), some (x_i v1), none, none] [] (al, ro, fl (ml M [32] [(x_up S2 0 0 v4)])) _ _ _ _
    refine e_aloadn (pc := 19) (i := 0) dX12_seen_19 rfl rfl ?_
    refine f_geti (pc := 20) (k := 0) (u := 32) (q := 0) dX12_seen_20 xf12_58 (sa_32_0 hs) rfl hn rfl rfl (by decide) ?_
    show Ev g _ _ _ _ _ _ 23 [some (x_r (16 * 32 + 0)), some (x_i a), some (x_i v1), none, none] [x_i ((x_up S2 0 0 v4) 0 0)] (al, ro, fl (ml M [32] [(x_up S2 0 0 v4)])) _ _ _ _
    refine e_if_gt (pc := 23) (tgt := 30) dX12_seen_23 (by decide) (fun hb => ?_) (fun hb => ?_)
    · rw [if_pos hb] at hG
      refine e_aloadn (pc := 30) (i := 0) dX12_seen_30 rfl rfl ?_
      refine f_geti (pc := 31) (k := 0) (u := 32) (q := 0) dX12_seen_31 xf12_58 (sa_32_0 hs) rfl hn rfl rfl (by decide) ?_
      show Ev g _ _ _ _ _ _ 34 [some (x_r (16 * 32 + 0)), some (x_i a), some (x_i v1), none, none] [x_i ((x_up S2 0 0 v4) 0 0)] (al, ro, fl (ml M [32] [(x_up S2 0 0 v4)])) _ _ _ _
      obtain ⟨v6, hr6, hG⟩ := x_bd1 hG
      have hjhr6 : Ev g yX12_seen cX12_seen 5 (some .int) [] 2 42 [some (x_r (16 * 32 + 0)), some (x_i a), some (x_i v1), none, none] [x_i v6] (al, ro, fl (ml M [32] [(x_up S2 0 0 v4)])) 0 0 (.inl (some (x_i t.1))) (al, ro, fl (ml M [32] [t.2])) := by
        cases hG
        exact (e_ireturn rfl dX12_seen_42 rfl)
      clear hG
      refine e_if_le (pc := 34) (tgt := 41) dX12_seen_34 (by decide) (fun hb => ?_) (fun hb => ?_)
      · rw [if_pos hb] at hr6
        refine e_iloadn (pc := 41) (i := 2) dX12_seen_41 rfl rfl ?_
        cases hr6
        exact hjhr6
      · rw [if_neg hb] at hr6
        refine e_iconst (pc := 37) dX12_seen_37 (x_R rfl) ?_
        refine e_goto (pc := 38) (tgt := 42) dX12_seen_38 (by decide) ?_
        cases hr6
        exact hjhr6
    · rw [if_neg hb] at hG
      refine e_iloadn (pc := 26) (i := 1) dX12_seen_26 rfl rfl ?_
      refine e_if_ne (pc := 27) (tgt := 43) dX12_seen_27 (by decide) (fun hb => ?_) (fun hb => ?_)
      · rw [if_neg hb] at hG
        refine e_iconst (pc := 43) dX12_seen_43 (x_R rfl) ?_
        refine e_istoren (pc := 44) (i := 3) dX12_seen_44 rfl (by decide) rfl ?_
        show Ev g _ _ _ _ _ _ 45 [some (x_r (16 * 32 + 0)), some (x_i a), some (x_i v1), some (x_i 0), none] [] (al, ro, fl (ml M [32] [(x_up S2 0 0 v4)])) _ _ _ _
        refine e_iconst (pc := 45) dX12_seen_45 (x_R rfl) ?_
        refine e_istore (pc := 46) (i := 4) dX12_seen_46 (by decide) rfl ?_
        show Ev g _ _ _ _ _ _ 48 [some (x_r (16 * 32 + 0)), some (x_i a), some (x_i v1), some (x_i 0), some (x_i 0)] [] (al, ro, fl (ml M [32] [(x_up S2 0 0 v4)])) _ _ _ _
        obtain ⟨v10, hl11, hG⟩ := x_bd1 hG
        have hk11 : ∀ q : Int, q = v10 → Ev g yX12_seen cX12_seen 5 (some .int) [] 2 86 [some (x_r (16 * 32 + 0)), some (x_i a), some (x_i v1), some (x_i q), none] [] (al, ro, fl (ml M [32] [(x_up S2 0 0 v4)])) 0 0 (.inl (some (x_i t.1))) (al, ro, fl (ml M [32] [t.2])) := by
          intro q hq
          replace hq := hq.symm
          subst hq
          refine e_iloadn (pc := 86) (i := 3) dX12_seen_86 rfl rfl ?_
          cases hG
          exact (e_ireturn rfl dX12_seen_87 rfl)
        clear hG
        refine e_whl (G12_seen_L48 S2 v4) (fun z : (Int × Int) => Ev g yX12_seen cX12_seen 5 (some .int) [] 2 48 [some (x_r (16 * 32 + 0)), some (x_i a), some (x_i v1), some (x_i z.1), some (x_i z.2)] [] (al, ro, fl (ml M [32] [(x_up S2 0 0 v4)])) 0 0 (.inl (some (x_i t.1))) (al, ro, fl (ml M [32] [t.2]))) (fun q => q = v10) ?_ xFU (0, 0) _ hl11 rfl
        intro z t11 hf11 hi11 hx11
        obtain ⟨v8, v9⟩ := z
        rw [G12_seen_L48] at hf11
        show Ev g _ _ _ _ _ _ 48 [some (x_r (16 * 32 + 0)), some (x_i a), some (x_i v1), some (x_i v8), some (x_i v9)] [] (al, ro, fl (ml M [32] [(x_up S2 0 0 v4)])) _ _ _ _
        refine e_iload (pc := 48) dX12_seen_48 rfl ?_
        refine e_sipush (pc := 50) dX12_seen_50 (by decide +kernel) (x_R rfl) ?_
        refine e_icmp_ge (pc := 53) (tgt := 86) dX12_seen_53 (by decide) (fun hb => ?_) (fun hb => ?_)
        · rw [if_pos hb] at hf11
          cases hf11
          refine e_drop (i := 4) ?_
          have hh := hk11 _ (hx11 _ rfl)
          try dsimp only at hh
          exact hh
        · rw [if_neg hb] at hf11
          refine e_iloadn (pc := 56) (i := 3) dX12_seen_56 rfl rfl ?_
          refine e_aloadn (pc := 57) (i := 0) dX12_seen_57 rfl rfl ?_
          refine f_getr (pc := 58) (u := 32) (q := 0) dX12_seen_58 xf12_45 (sa_32_0 hs) rfl (sr_32_0_23 hs) ?_
          refine e_iload (pc := 61) dX12_seen_61 rfl ?_
          obtain ⟨hc0, hf11⟩ := x_gd_some hf11
          refine f_zald (pc := 63) (k := 0) (u := 32) (q := 11) (len := 144) dX12_seen_63 (sa_32_11 hs) hc0 hn rfl rfl (by decide) ?_
          show Ev g _ _ _ _ _ _ 64 [some (x_r (16 * 32 + 0)), some (x_i a), some (x_i v1), some (x_i v8), some (x_i v9)] [x_i ((x_up S2 0 0 v4) 11 (v9).toNat), x_i v8] (al, ro, fl (ml M [32] [(x_up S2 0 0 v4)])) _ _ _ _
          obtain ⟨v13, hr13, hf11⟩ := x_bd1 hf11
          have hjhr13 : Ev g yX12_seen cX12_seen 5 (some .int) [] 2 78 [some (x_r (16 * 32 + 0)), some (x_i a), some (x_i v1), some (x_i v8), some (x_i v9)] [x_i v13, x_i v8] (al, ro, fl (ml M [32] [(x_up S2 0 0 v4)])) 0 0 (.inl (some (x_i t.1))) (al, ro, fl (ml M [32] [t.2])) := by
            refine e_ior (pc := 78) dX12_seen_78 ?_
            refine e_istoren (pc := 79) (i := 3) dX12_seen_79 rfl (by decide) rfl ?_
            show Ev g _ _ _ _ _ _ 80 [some (x_r (16 * 32 + 0)), some (x_i a), some (x_i v1), some (x_i (x_or v8 v13)), some (x_i v9)] [] (al, ro, fl (ml M [32] [(x_up S2 0 0 v4)])) _ _ _ _
            refine e_iinc (pc := 80) dX12_seen_80 rfl (by decide) rfl ?_
            show Ev g _ _ _ _ _ _ 83 [some (x_r (16 * 32 + 0)), some (x_i a), some (x_i v1), some (x_i (x_or v8 v13)), some (x_i (x_add v9 1))] [] (al, ro, fl (ml M [32] [(x_up S2 0 0 v4)])) _ _ _ _
            refine e_goto (pc := 83) (tgt := 48) dX12_seen_83 (by decide) ?_
            cases hf11
            have hh := hi11 _ rfl
            try dsimp only at hh
            exact hh
          clear hf11
          refine e_if_eq (pc := 64) (tgt := 77) dX12_seen_64 (by decide) (fun hb => ?_) (fun hb => ?_)
          · rw [if_pos hb] at hr13
            refine e_iconst (pc := 77) dX12_seen_77 (x_R rfl) ?_
            cases hr13
            exact hjhr13
          · rw [if_neg hb] at hr13
            refine e_iconst (pc := 67) dX12_seen_67 (x_R rfl) ?_
            refine e_iload (pc := 68) dX12_seen_68 rfl ?_
            refine e_bipush (pc := 70) dX12_seen_70 (by decide +kernel) (x_R rfl) ?_
            refine e_idiv (pc := 72) dX12_seen_72 (by decide) ?_
            refine e_ishl (pc := 73) dX12_seen_73 ?_
            refine e_goto (pc := 74) (tgt := 78) dX12_seen_74 (by decide) ?_
            cases hr13
            exact hjhr13
      · rw [if_pos hb] at hG
        refine e_aloadn (pc := 30) (i := 0) dX12_seen_30 rfl rfl ?_
        refine f_geti (pc := 31) (k := 0) (u := 32) (q := 0) dX12_seen_31 xf12_58 (sa_32_0 hs) rfl hn rfl rfl (by decide) ?_
        show Ev g _ _ _ _ _ _ 34 [some (x_r (16 * 32 + 0)), some (x_i a), some (x_i v1), none, none] [x_i ((x_up S2 0 0 v4) 0 0)] (al, ro, fl (ml M [32] [(x_up S2 0 0 v4)])) _ _ _ _
        obtain ⟨v15, hr15, hG⟩ := x_bd1 hG
        have hjhr15 : Ev g yX12_seen cX12_seen 5 (some .int) [] 2 42 [some (x_r (16 * 32 + 0)), some (x_i a), some (x_i v1), none, none] [x_i v15] (al, ro, fl (ml M [32] [(x_up S2 0 0 v4)])) 0 0 (.inl (some (x_i t.1))) (al, ro, fl (ml M [32] [t.2])) := by
          cases hG
          exact (e_ireturn rfl dX12_seen_42 rfl)
        clear hG
        refine e_if_le (pc := 34) (tgt := 41) dX12_seen_34 (by decide) (fun hb => ?_) (fun hb => ?_)
        · rw [if_pos hb] at hr15
          refine e_iloadn (pc := 41) (i := 2) dX12_seen_41 rfl rfl ?_
          cases hr15
          exact hjhr15
        · rw [if_neg hb] at hr15
          refine e_iconst (pc := 37) dX12_seen_37 (x_R rfl) ?_
          refine e_goto (pc := 38) (tgt := 42) dX12_seen_38 (by decide) ?_
          cases hr15
          exact hjhr15
  clear hG
  refine e_icmp_ne (pc := 8) (tgt := 15) dX12_seen_8 (by decide) (fun hb => ?_) (fun hb => ?_)
  · rw [if_neg hb] at hr4
    refine e_iconst (pc := 15) dX12_seen_15 (x_R rfl) ?_
    cases hr4
    exact hjhr4
  · rw [if_pos hb] at hr4
    refine e_iconst (pc := 11) dX12_seen_11 (x_R rfl) ?_
    refine e_goto (pc := 12) (tgt := 16) dX12_seen_12 (by decide) ?_
    cases hr4
    exact hjhr4
set_option maxRecDepth 100000 in
set_option maxHeartbeats 4000000 in
theorem c_X12_ask {g : xG} {al : List (Nat × Nat × Nat)} {ro : Nat → Nat → Option Nat} (hst : g.1.stackTraces = false) (hs : SH al ro) {M : Nat → xU} {S : xU}  {t : (Int × xU)} (hG : G12_ask S = some t) :
    Cal g yX12_ask cX12_ask 7 (some .int) 2 [x_r (16 * 32 + 0)] (al, ro, fl (ml M [32] [S])) 0 0 (.inl (some (x_i t.1))) (al, ro, fl (ml M [32] [t.2])) := by
  have hn : ([32] : List Nat).Nodup := by decide
  refine cal_of_ev (plainFor_of_name (by decide)) (x_c1 rfl) (Nat.le_of_ble_eq_true rfl) hst ?_
  show Ev g _ _ _ _ _ _ 0 [some (x_r (16 * 32 + 0)), none, none, none, none, none, none] [] (al, ro, fl (ml M [32] [S])) _ _ _ _
  rw [G12_ask] at hG
  refine e_aloadn (pc := 0) (i := 0) dX12_ask_0 rfl rfl ?_
  obtain ⟨v1, S2, hq2, hG⟩ := x_bd2 hG
  refine e_invV (pc := 1) (K1 := 0) (S1 := 0) (K := 0) (S := 0) (dd2 := 1) (av := []) (st := []) (id := 16 * 32 + 0) dX12_ask_1 xmX12_373 rfl (Or.inl ⟨10, 27, TX12, (sa_32_0 hs), rfl, by decide⟩) (f_cal (M := M) (us2 := [32]) [0] hn rfl (And.intro rfl trivial) rfl rfl rfl (c_X12_heard hst hs   hq2)) (by decide) (Nat.le_of_ble_eq_true rfl) (Or.inl rfl) ?_
  show Ev g _ _ _ _ _ _ 4 [some (x_r (16 * 32 + 0)), none, none, none, none, none, none] [x_i v1] (al, ro, fl (ml M [32] [S2])) _ _ _ _
  refine e_istoren (pc := 4) (i := 1) dX12_ask_4 rfl (by decide) rfl ?_
  show Ev g _ _ _ _ _ _ 5 [some (x_r (16 * 32 + 0)), some (x_i v1), none, none, none, none, none] [] (al, ro, fl (ml M [32] [S2])) _ _ _ _
  refine e_aloadn (pc := 5) (i := 0) dX12_ask_5 rfl rfl ?_
  refine e_iloadn (pc := 6) (i := 1) dX12_ask_6 rfl rfl ?_
  refine e_iconst (pc := 7) dX12_ask_7 (x_R rfl) ?_
  obtain ⟨v4, hr4, hG⟩ := x_bd1 hG
  have hjhr4 : Ev g yX12_ask cX12_ask 7 (some .int) [] 2 16 [some (x_r (16 * 32 + 0)), some (x_i v1), none, none, none, none, none] [x_i v4, x_r (16 * 32 + 0)] (al, ro, fl (ml M [32] [S2])) 0 0 (.inl (some (x_i t.1))) (al, ro, fl (ml M [32] [t.2])) := by
    refine f_puti (pc := 16) (k := 0) (u := 32) (q := 0) dX12_ask_16 xf12_58 xw10_0 (sa_32_0 hs) hn rfl rfl rfl (by decide) ?_
    show Ev g _ _ _ _ _ _ 19 [some (x_r (16 * 32 + 0)), some (x_i v1), none, none, none, none, none] [] (al, ro, fl (ml M [32] [(x_up S2 0 0 v4)])) _ _ _ _
    refine e_aloadn (pc := 19) (i := 0) dX12_ask_19 rfl rfl ?_
    refine f_geti (pc := 20) (k := 0) (u := 32) (q := 0) dX12_ask_20 xf12_58 (sa_32_0 hs) rfl hn rfl rfl (by decide) ?_
    show Ev g _ _ _ _ _ _ 23 [some (x_r (16 * 32 + 0)), some (x_i v1), none, none, none, none, none] [x_i ((x_up S2 0 0 v4) 0 0)] (al, ro, fl (ml M [32] [(x_up S2 0 0 v4)])) _ _ _ _
    refine e_if_le (pc := 23) (tgt := 28) dX12_ask_23 (by decide) (fun hb => ?_) (fun hb => ?_)
    · rw [if_pos hb] at hG
      refine e_iconst (pc := 28) dX12_ask_28 (x_R rfl) ?_
      refine e_istoren (pc := 29) (i := 2) dX12_ask_29 rfl (by decide) rfl ?_
      show Ev g _ _ _ _ _ _ 30 [some (x_r (16 * 32 + 0)), some (x_i v1), some (x_i (-1)), none, none, none, none] [] (al, ro, fl (ml M [32] [(x_up S2 0 0 v4)])) _ _ _ _
      refine e_ldcw (pc := 30) dX12_ask_30 xkX12_327 (x_R rfl) ?_
      refine e_istoren (pc := 33) (i := 3) dX12_ask_33 rfl (by decide) rfl ?_
      show Ev g _ _ _ _ _ _ 34 [some (x_r (16 * 32 + 0)), some (x_i v1), some (x_i (-1)), some (x_i 2000000000), none, none, none] [] (al, ro, fl (ml M [32] [(x_up S2 0 0 v4)])) _ _ _ _
      refine e_iconst (pc := 34) dX12_ask_34 (x_R rfl) ?_
      refine e_istore (pc := 35) (i := 4) dX12_ask_35 (by decide) rfl ?_
      show Ev g _ _ _ _ _ _ 37 [some (x_r (16 * 32 + 0)), some (x_i v1), some (x_i (-1)), some (x_i 2000000000), some (x_i 0), none, none] [] (al, ro, fl (ml M [32] [(x_up S2 0 0 v4)])) _ _ _ _
      obtain ⟨v9, hl10, hG⟩ := x_bd1 hG
      have hk10 : ∀ q : Int, q = v9 → Ev g yX12_ask cX12_ask 7 (some .int) [] 2 135 [some (x_r (16 * 32 + 0)), some (x_i v1), some (x_i q), none, none, none, none] [] (al, ro, fl (ml M [32] [(x_up S2 0 0 v4)])) 0 0 (.inl (some (x_i t.1))) (al, ro, fl (ml M [32] [t.2])) := by
        intro q hq
        replace hq := hq.symm
        subst hq
        refine e_iloadn (pc := 135) (i := 2) dX12_ask_135 rfl rfl ?_
        cases hG
        exact (e_ireturn rfl dX12_ask_136 rfl)
      clear hG
      refine e_whl (G12_ask_L37 v1 S2 v4) (fun z : (Int × Int × Int) => Ev g yX12_ask cX12_ask 7 (some .int) [] 2 37 [some (x_r (16 * 32 + 0)), some (x_i v1), some (x_i z.1), some (x_i z.2.1), some (x_i z.2.2), none, none] [] (al, ro, fl (ml M [32] [(x_up S2 0 0 v4)])) 0 0 (.inl (some (x_i t.1))) (al, ro, fl (ml M [32] [t.2]))) (fun q => q = v9) ?_ xFU ((-1), 2000000000, 0) _ hl10 rfl
      intro z t10 hf10 hi10 hx10
      obtain ⟨v6, v7, v8⟩ := z
      rw [G12_ask_L37] at hf10
      show Ev g _ _ _ _ _ _ 37 [some (x_r (16 * 32 + 0)), some (x_i v1), some (x_i v6), some (x_i v7), some (x_i v8), none, none] [] (al, ro, fl (ml M [32] [(x_up S2 0 0 v4)])) _ _ _ _
      refine e_iload (pc := 37) dX12_ask_37 rfl ?_
      refine e_bipush (pc := 39) dX12_ask_39 (by decide +kernel) (x_R rfl) ?_
      refine e_icmp_ge (pc := 41) (tgt := 135) dX12_ask_41 (by decide) (fun hb => ?_) (fun hb => ?_)
      · rw [if_pos hb] at hf10
        cases hf10
        refine e_drop (i := 3) ?_
        refine e_drop (i := 4) ?_
        have hh := hk10 _ (hx10 _ rfl)
        try dsimp only at hh
        exact hh
      · rw [if_neg hb] at hf10
        refine e_iloadn (pc := 44) (i := 1) dX12_ask_44 rfl rfl ?_
        refine e_iconst (pc := 45) dX12_ask_45 (x_R rfl) ?_
        refine e_icmp_le (pc := 46) (tgt := 135) dX12_ask_46 (by decide) (fun hb => ?_) (fun hb => ?_)
        · rw [if_pos hb] at hf10
          cases hf10
          refine e_drop (i := 3) ?_
          refine e_drop (i := 4) ?_
          have hh := hk10 _ (hx10 _ rfl)
          try dsimp only at hh
          exact hh
        · rw [if_neg hb] at hf10
          refine e_iconst (pc := 49) dX12_ask_49 (x_R rfl) ?_
          refine e_istore (pc := 50) (i := 5) dX12_ask_50 (by decide) rfl ?_
          show Ev g _ _ _ _ _ _ 52 [some (x_r (16 * 32 + 0)), some (x_i v1), some (x_i v6), some (x_i v7), some (x_i v8), some (x_i 0), none] [] (al, ro, fl (ml M [32] [(x_up S2 0 0 v4)])) _ _ _ _
          refine e_iconst (pc := 52) dX12_ask_52 (x_R rfl) ?_
          refine e_istore (pc := 53) (i := 6) dX12_ask_53 (by decide) rfl ?_
          show Ev g _ _ _ _ _ _ 55 [some (x_r (16 * 32 + 0)), some (x_i v1), some (x_i v6), some (x_i v7), some (x_i v8), some (x_i 0), some (x_i 0)] [] (al, ro, fl (ml M [32] [(x_up S2 0 0 v4)])) _ _ _ _
          obtain ⟨v14, hl15, hf10⟩ := x_bd1 hf10
          have hk15 : ∀ q : Int, q = v14 → Ev g yX12_ask cX12_ask 7 (some .int) [] 2 100 [some (x_r (16 * 32 + 0)), some (x_i v1), some (x_i v6), some (x_i v7), some (x_i v8), some (x_i q), none] [] (al, ro, fl (ml M [32] [(x_up S2 0 0 v4)])) 0 0 (.inl (some (x_i t.1))) (al, ro, fl (ml M [32] [t.2])) := by
            intro q hq
            replace hq := hq.symm
            subst hq
            refine e_iload (pc := 100) dX12_ask_100 rfl ?_
            refine e_iloadn (pc := 102) (i := 1) dX12_ask_102 rfl rfl ?_
            refine e_iload (pc := 103) dX12_ask_103 rfl ?_
            refine e_isub (pc := 105) dX12_ask_105 ?_
            obtain ⟨v21, hq21, hf10⟩ := x_bd1 hf10
            refine e_invS (pc := 106) (K1 := 0) (S1 := 0) (K := 0) (S := 0) (dd2 := 0) (av := [x_i v14, x_i (x_sub v1 v14)]) (st := []) dX12_ask_106 xmX12_266 rfl (f_cal (M := M) (us2 := []) [] hn rfl trivial rfl rfl rfl (c_X12_greater hst hs   hq21)) (by decide) (Nat.le_of_ble_eq_true rfl) (Or.inl rfl) ?_
            show Ev g _ _ _ _ _ _ 109 [some (x_r (16 * 32 + 0)), some (x_i v1), some (x_i v6), some (x_i v7), some (x_i v8), some (x_i v14), none] [x_i v21] (al, ro, fl (ml M [32] [(x_up S2 0 0 v4)])) _ _ _ _
            refine e_iloadn (pc := 109) (i := 3) dX12_ask_109 rfl rfl ?_
            obtain ⟨v23, v24, hr24, hf10⟩ := x_bd2 hf10
            have hjhr24 : Ev g yX12_ask cX12_ask 7 (some .int) [] 2 129 [some (x_r (16 * 32 + 0)), some (x_i v1), some (x_i v23), some (x_i v24), some (x_i v8), some (x_i v14), none] [] (al, ro, fl (ml M [32] [(x_up S2 0 0 v4)])) 0 0 (.inl (some (x_i t.1))) (al, ro, fl (ml M [32] [t.2])) := by
              refine e_iinc (pc := 129) dX12_ask_129 rfl (by decide) rfl ?_
              show Ev g _ _ _ _ _ _ 132 [some (x_r (16 * 32 + 0)), some (x_i v1), some (x_i v23), some (x_i v24), some (x_i (x_add v8 1)), some (x_i v14), none] [] (al, ro, fl (ml M [32] [(x_up S2 0 0 v4)])) _ _ _ _
              refine e_goto (pc := 132) (tgt := 37) dX12_ask_132 (by decide) ?_
              cases hf10
              refine e_drop (i := 5) ?_
              have hh := hi10 _ rfl
              try dsimp only at hh
              exact hh
            clear hf10
            refine e_icmp_lt (pc := 110) (tgt := 116) dX12_ask_110 (by decide) (fun hb => ?_) (fun hb => ?_)
            · rw [if_pos hb] at hr24
              refine e_iload (pc := 116) dX12_ask_116 rfl ?_
              refine e_iloadn (pc := 118) (i := 1) dX12_ask_118 rfl rfl ?_
              refine e_iload (pc := 119) dX12_ask_119 rfl ?_
              refine e_isub (pc := 121) dX12_ask_121 ?_
              obtain ⟨v26, hq26, hr24⟩ := x_bd1 hr24
              refine e_invS (pc := 122) (K1 := 0) (S1 := 0) (K := 0) (S := 0) (dd2 := 0) (av := [x_i v14, x_i (x_sub v1 v14)]) (st := []) dX12_ask_122 xmX12_266 rfl (f_cal (M := M) (us2 := []) [] hn rfl trivial rfl rfl rfl (c_X12_greater hst hs   hq26)) (by decide) (Nat.le_of_ble_eq_true rfl) (Or.inl rfl) ?_
              show Ev g _ _ _ _ _ _ 125 [some (x_r (16 * 32 + 0)), some (x_i v1), some (x_i v6), some (x_i v7), some (x_i v8), some (x_i v14), none] [x_i v26] (al, ro, fl (ml M [32] [(x_up S2 0 0 v4)])) _ _ _ _
              refine e_istoren (pc := 125) (i := 3) dX12_ask_125 rfl (by decide) rfl ?_
              show Ev g _ _ _ _ _ _ 126 [some (x_r (16 * 32 + 0)), some (x_i v1), some (x_i v6), some (x_i v26), some (x_i v8), some (x_i v14), none] [] (al, ro, fl (ml M [32] [(x_up S2 0 0 v4)])) _ _ _ _
              refine e_iload (pc := 126) dX12_ask_126 rfl ?_
              refine e_istoren (pc := 128) (i := 2) dX12_ask_128 rfl (by decide) rfl ?_
              show Ev g _ _ _ _ _ _ 129 [some (x_r (16 * 32 + 0)), some (x_i v1), some (x_i v8), some (x_i v26), some (x_i v8), some (x_i v14), none] [] (al, ro, fl (ml M [32] [(x_up S2 0 0 v4)])) _ _ _ _
              cases hr24
              exact hjhr24
            · rw [if_neg hb] at hr24
              refine e_goto (pc := 113) (tgt := 129) dX12_ask_113 (by decide) ?_
              cases hr24
              exact hjhr24
          clear hf10
          refine e_whl (G12_ask_L55 S2 v4 v8) (fun z : (Int × Int) => Ev g yX12_ask cX12_ask 7 (some .int) [] 2 55 [some (x_r (16 * 32 + 0)), some (x_i v1), some (x_i v6), some (x_i v7), some (x_i v8), some (x_i z.1), some (x_i z.2)] [] (al, ro, fl (ml M [32] [(x_up S2 0 0 v4)])) 0 0 (.inl (some (x_i t.1))) (al, ro, fl (ml M [32] [t.2]))) (fun q => q = v14) ?_ xFU (0, 0) _ hl15 rfl
          intro z t15 hf15 hi15 hx15
          obtain ⟨v12, v13⟩ := z
          rw [G12_ask_L55] at hf15
          show Ev g _ _ _ _ _ _ 55 [some (x_r (16 * 32 + 0)), some (x_i v1), some (x_i v6), some (x_i v7), some (x_i v8), some (x_i v12), some (x_i v13)] [] (al, ro, fl (ml M [32] [(x_up S2 0 0 v4)])) _ _ _ _
          refine e_iload (pc := 55) dX12_ask_55 rfl ?_
          refine e_sipush (pc := 57) dX12_ask_57 (by decide +kernel) (x_R rfl) ?_
          refine e_icmp_ge (pc := 60) (tgt := 100) dX12_ask_60 (by decide) (fun hb => ?_) (fun hb => ?_)
          · rw [if_pos hb] at hf15
            cases hf15
            refine e_drop (i := 6) ?_
            have hh := hk15 _ (hx15 _ rfl)
            try dsimp only at hh
            exact hh
          · rw [if_neg hb] at hf15
            refine e_iload (pc := 63) dX12_ask_63 rfl ?_
            refine e_aloadn (pc := 65) (i := 0) dX12_ask_65 rfl rfl ?_
            refine f_getr (pc := 66) (u := 32) (q := 0) dX12_ask_66 xf12_45 (sa_32_0 hs) rfl (sr_32_0_23 hs) ?_
            refine e_iload (pc := 69) dX12_ask_69 rfl ?_
            obtain ⟨hc0, hf15⟩ := x_gd_some hf15
            refine f_zald (pc := 71) (k := 0) (u := 32) (q := 11) (len := 144) dX12_ask_71 (sa_32_11 hs) hc0 hn rfl rfl (by decide) ?_
            show Ev g _ _ _ _ _ _ 72 [some (x_r (16 * 32 + 0)), some (x_i v1), some (x_i v6), some (x_i v7), some (x_i v8), some (x_i v12), some (x_i v13)] [x_i ((x_up S2 0 0 v4) 11 (v13).toNat), x_i v12] (al, ro, fl (ml M [32] [(x_up S2 0 0 v4)])) _ _ _ _
            obtain ⟨v17, hr17, hf15⟩ := x_bd1 hf15
            have hjhr17 : Ev g yX12_ask cX12_ask 7 (some .int) [] 2 91 [some (x_r (16 * 32 + 0)), some (x_i v1), some (x_i v6), some (x_i v7), some (x_i v8), some (x_i v12), some (x_i v13)] [x_i v17, x_i v12] (al, ro, fl (ml M [32] [(x_up S2 0 0 v4)])) 0 0 (.inl (some (x_i t.1))) (al, ro, fl (ml M [32] [t.2])) := by
              refine e_iadd (pc := 91) dX12_ask_91 ?_
              refine e_istore (pc := 92) (i := 5) dX12_ask_92 (by decide) rfl ?_
              show Ev g _ _ _ _ _ _ 94 [some (x_r (16 * 32 + 0)), some (x_i v1), some (x_i v6), some (x_i v7), some (x_i v8), some (x_i (x_add v12 v17)), some (x_i v13)] [] (al, ro, fl (ml M [32] [(x_up S2 0 0 v4)])) _ _ _ _
              refine e_iinc (pc := 94) dX12_ask_94 rfl (by decide) rfl ?_
              show Ev g _ _ _ _ _ _ 97 [some (x_r (16 * 32 + 0)), some (x_i v1), some (x_i v6), some (x_i v7), some (x_i v8), some (x_i (x_add v12 v17)), some (x_i (x_add v13 1))] [] (al, ro, fl (ml M [32] [(x_up S2 0 0 v4)])) _ _ _ _
              refine e_goto (pc := 97) (tgt := 55) dX12_ask_97 (by decide) ?_
              cases hf15
              have hh := hi15 _ rfl
              try dsimp only at hh
              exact hh
            clear hf15
            refine e_if_eq (pc := 72) (tgt := 90) dX12_ask_72 (by decide) (fun hb => ?_) (fun hb => ?_)
            · rw [if_pos hb] at hr17
              refine e_iconst (pc := 90) dX12_ask_90 (x_R rfl) ?_
              cases hr17
              exact hjhr17
            · rw [if_neg hb] at hr17
              refine e_aloadn (pc := 75) (i := 0) dX12_ask_75 rfl rfl ?_
              refine e_iload (pc := 76) dX12_ask_76 rfl ?_
              refine e_iload (pc := 78) dX12_ask_78 rfl ?_
              obtain ⟨v19, hq19, hr17⟩ := x_bd1 hr17
              refine e_invV (pc := 80) (K1 := 0) (S1 := 0) (K := 0) (S := 0) (dd2 := 0) (av := [x_i v13, x_i v8]) (st := [x_i v12]) (id := 16 * 32 + 0) dX12_ask_80 xmX12_370 rfl (Or.inl ⟨10, 27, TX12, (sa_32_0 hs), rfl, by decide⟩) (f_cal (M := M) (us2 := [32]) [0] hn rfl (And.intro rfl trivial) rfl rfl rfl (c_X12_isThere hst hs   hq19)) (by decide) (Nat.le_of_ble_eq_true rfl) (Or.inl rfl) ?_
              show Ev g _ _ _ _ _ _ 83 [some (x_r (16 * 32 + 0)), some (x_i v1), some (x_i v6), some (x_i v7), some (x_i v8), some (x_i v12), some (x_i v13)] [x_i v19, x_i v12] (al, ro, fl (ml M [32] [(x_up S2 0 0 v4)])) _ _ _ _
              refine e_if_eq (pc := 83) (tgt := 90) dX12_ask_83 (by decide) (fun hb => ?_) (fun hb => ?_)
              · rw [if_pos hb] at hr17
                refine e_iconst (pc := 90) dX12_ask_90 (x_R rfl) ?_
                cases hr17
                exact hjhr17
              · rw [if_neg hb] at hr17
                refine e_iconst (pc := 86) dX12_ask_86 (x_R rfl) ?_
                refine e_goto (pc := 87) (tgt := 91) dX12_ask_87 (by decide) ?_
                cases hr17
                exact hjhr17
    · rw [if_neg hb] at hG
      refine e_iconst (pc := 26) dX12_ask_26 (x_R rfl) ?_
      cases hG
      exact (e_ireturn rfl dX12_ask_27 rfl)
  clear hG
  refine e_icmp_ne (pc := 8) (tgt := 15) dX12_ask_8 (by decide) (fun hb => ?_) (fun hb => ?_)
  · rw [if_neg hb] at hr4
    refine e_iconst (pc := 15) dX12_ask_15 (x_R rfl) ?_
    cases hr4
    exact hjhr4
  · rw [if_pos hb] at hr4
    refine e_iconst (pc := 11) dX12_ask_11 (x_R rfl) ?_
    refine e_goto (pc := 12) (tgt := 16) dX12_ask_12 (by decide) ?_
    cases hr4
    exact hjhr4
set_option maxRecDepth 100000 in
set_option maxHeartbeats 4000000 in
theorem c_X12_moodBy {g : xG} {al : List (Nat × Nat × Nat)} {ro : Nat → Nat → Option Nat} (hst : g.1.stackTraces = false) (hs : SH al ro) {M : Nat → xU} {a : Int} {b : Int}  {t : Int} (hG : G12_moodBy a b = some t) :
    Cal g yX12_moodBy cX12_moodBy 2 (some .int) 0 [x_i a, x_i b] (al, ro, fl (ml M [] [])) 0 0 (.inl (some (x_i t))) (al, ro, fl (ml M [] [])) := by
  have hn : ([] : List Nat).Nodup := by decide
  refine cal_of_ev (plainFor_of_name (by decide)) (x_c1 rfl) (Nat.le_of_ble_eq_true rfl) hst ?_
  show Ev g _ _ _ _ _ _ 0 [some (x_i a), some (x_i b)] [] (al, ro, fl (ml M [] [])) _ _ _ _
  rw [G12_moodBy] at hG
  refine e_iloadn (pc := 0) (i := 0) dX12_moodBy_0 rfl rfl ?_
  refine e_iconst (pc := 1) dX12_moodBy_1 (x_R rfl) ?_
  refine e_idiv (pc := 2) dX12_moodBy_2 (by decide) ?_
  refine e_iloadn (pc := 3) (i := 1) dX12_moodBy_3 rfl rfl ?_
  refine e_imul (pc := 4) dX12_moodBy_4 ?_
  refine e_iloadn (pc := 5) (i := 0) dX12_moodBy_5 rfl rfl ?_
  refine e_iconst (pc := 6) dX12_moodBy_6 (x_R rfl) ?_
  refine e_irem (pc := 7) dX12_moodBy_7 (by decide) ?_
  refine e_iadd (pc := 8) dX12_moodBy_8 ?_
  refine e_iconst (pc := 9) dX12_moodBy_9 (x_R rfl) ?_
  refine e_irem (pc := 10) dX12_moodBy_10 (by decide) ?_
  cases hG
  exact (e_ireturn rfl dX12_moodBy_11 rfl)
set_option maxRecDepth 100000 in
set_option maxHeartbeats 4000000 in
theorem c_X12_ruled {g : xG} {al : List (Nat × Nat × Nat)} {ro : Nat → Nat → Option Nat} (hst : g.1.stackTraces = false) (hs : SH al ro) {M : Nat → xU} {S : xU}  {t : (Int × xU)} (hG : G12_ruled S = some t) :
    Cal g yX12_ruled cX12_ruled 5 (some .int) 1 [x_r (16 * 32 + 0)] (al, ro, fl (ml M [32] [S])) 0 0 (.inl (some (x_i t.1))) (al, ro, fl (ml M [32] [t.2])) := by
  have hn : ([32] : List Nat).Nodup := by decide
  refine cal_of_ev (plainFor_of_name (by decide)) (x_c1 rfl) (Nat.le_of_ble_eq_true rfl) hst ?_
  show Ev g _ _ _ _ _ _ 0 [some (x_r (16 * 32 + 0)), none, none, none, none] [] (al, ro, fl (ml M [32] [S])) _ _ _ _
  rw [G12_ruled] at hG
  refine e_aloadn (pc := 0) (i := 0) dX12_ruled_0 rfl rfl ?_
  refine f_geti (pc := 1) (k := 0) (u := 32) (q := 0) dX12_ruled_1 xf12_76 (sa_32_0 hs) rfl hn rfl rfl (by decide) ?_
  show Ev g _ _ _ _ _ _ 4 [some (x_r (16 * 32 + 0)), none, none, none, none] [x_i (S 0 8)] (al, ro, fl (ml M [32] [S])) _ _ _ _
  refine e_istoren (pc := 4) (i := 1) dX12_ruled_4 rfl (by decide) rfl ?_
  show Ev g _ _ _ _ _ _ 5 [some (x_r (16 * 32 + 0)), some (x_i (S 0 8)), none, none, none] [] (al, ro, fl (ml M [32] [S])) _ _ _ _
  refine e_aloadn (pc := 5) (i := 0) dX12_ruled_5 rfl rfl ?_
  refine e_iconst (pc := 6) dX12_ruled_6 (x_R rfl) ?_
  refine f_puti (pc := 7) (k := 0) (u := 32) (q := 0) dX12_ruled_7 xf12_76 xw10_8 (sa_32_0 hs) hn rfl rfl rfl (by decide) ?_
  show Ev g _ _ _ _ _ _ 10 [some (x_r (16 * 32 + 0)), some (x_i (S 0 8)), none, none, none] [] (al, ro, fl (ml M [32] [(x_up S 0 8 0)])) _ _ _ _
  refine e_aloadn (pc := 10) (i := 0) dX12_ruled_10 rfl rfl ?_
  refine e_iloadn (pc := 11) (i := 1) dX12_ruled_11 rfl rfl ?_
  refine e_iconst (pc := 12) dX12_ruled_12 (x_R rfl) ?_
  obtain ⟨v1, hq1, hG⟩ := x_bd1 hG
  refine e_invV (pc := 13) (K1 := 0) (S1 := 0) (K := 0) (S := 0) (dd2 := 0) (av := [x_i (S 0 8), x_i 4]) (st := []) (id := 16 * 32 + 0) dX12_ruled_13 xmX12_367 rfl (Or.inl ⟨10, 27, TX12, (sa_32_0 hs), rfl, by decide⟩) (f_cal (M := M) (us2 := [32]) [0] hn rfl (And.intro rfl trivial) rfl rfl rfl (c_X12_areRows hst hs   hq1)) (by decide) (Nat.le_of_ble_eq_true rfl) (Or.inl rfl) ?_
  show Ev g _ _ _ _ _ _ 16 [some (x_r (16 * 32 + 0)), some (x_i (S 0 8)), none, none, none] [x_i v1] (al, ro, fl (ml M [32] [(x_up S 0 8 0)])) _ _ _ _
  refine e_if_ne (pc := 16) (tgt := 21) dX12_ruled_16 (by decide) (fun hb => ?_) (fun hb => ?_)
  · rw [if_neg hb] at hG
    refine e_iconst (pc := 21) dX12_ruled_21 (x_R rfl) ?_
    refine e_istoren (pc := 22) (i := 2) dX12_ruled_22 rfl (by decide) rfl ?_
    show Ev g _ _ _ _ _ _ 23 [some (x_r (16 * 32 + 0)), some (x_i (S 0 8)), some (x_i 0), none, none] [] (al, ro, fl (ml M [32] [(x_up S 0 8 0)])) _ _ _ _
    refine e_iconst (pc := 23) dX12_ruled_23 (x_R rfl) ?_
    refine e_istoren (pc := 24) (i := 3) dX12_ruled_24 rfl (by decide) rfl ?_
    show Ev g _ _ _ _ _ _ 25 [some (x_r (16 * 32 + 0)), some (x_i (S 0 8)), some (x_i 0), some (x_i 0), none] [] (al, ro, fl (ml M [32] [(x_up S 0 8 0)])) _ _ _ _
    obtain ⟨v6, S7, hl8, hG⟩ := x_bd2 hG
    have hk8 : ∀ q : (Int × xU), q = (v6, S7) → Ev g yX12_ruled cX12_ruled 5 (some .int) [] 1 119 [some (x_r (16 * 32 + 0)), some (x_i (S 0 8)), some (x_i q.1), none, none] [] (al, ro, fl (ml M [32] [q.2])) 0 0 (.inl (some (x_i t.1))) (al, ro, fl (ml M [32] [t.2])) := by
      intro q hq
      cases hq
      refine e_iloadn (pc := 119) (i := 2) dX12_ruled_119 rfl rfl ?_
      cases hG
      exact (e_ireturn rfl dX12_ruled_120 rfl)
    clear hG
    refine e_whl (G12_ruled_L25 S) (fun z : (Int × Int × xU) => Ev g yX12_ruled cX12_ruled 5 (some .int) [] 1 25 [some (x_r (16 * 32 + 0)), some (x_i (S 0 8)), some (x_i z.1), some (x_i z.2.1), none] [] (al, ro, fl (ml M [32] [z.2.2])) 0 0 (.inl (some (x_i t.1))) (al, ro, fl (ml M [32] [t.2]))) (fun q => q = (v6, S7)) ?_ xFU (0, 0, (x_up S 0 8 0)) _ hl8 rfl
    intro z t8 hf8 hi8 hx8
    obtain ⟨v3, v4, S5⟩ := z
    rw [G12_ruled_L25] at hf8
    show Ev g _ _ _ _ _ _ 25 [some (x_r (16 * 32 + 0)), some (x_i (S 0 8)), some (x_i v3), some (x_i v4), none] [] (al, ro, fl (ml M [32] [S5])) _ _ _ _
    refine e_iloadn (pc := 25) (i := 3) dX12_ruled_25 rfl rfl ?_
    refine e_bipush (pc := 26) dX12_ruled_26 (by decide +kernel) (x_R rfl) ?_
    refine e_icmp_ge (pc := 28) (tgt := 119) dX12_ruled_28 (by decide) (fun hb => ?_) (fun hb => ?_)
    · rw [if_pos hb] at hf8
      cases hf8
      refine e_drop (i := 3) ?_
      have hh := hk8 _ (hx8 _ rfl)
      try dsimp only at hh
      exact hh
    · rw [if_neg hb] at hf8
      refine e_aloadn (pc := 31) (i := 0) dX12_ruled_31 rfl rfl ?_
      refine f_getr (pc := 32) (u := 32) (q := 0) dX12_ruled_32 xf12_45 (sa_32_0 hs) rfl (sr_32_0_23 hs) ?_
      refine e_iloadn (pc := 35) (i := 3) dX12_ruled_35 rfl rfl ?_
      refine e_iconst (pc := 36) dX12_ruled_36 (x_R rfl) ?_
      obtain ⟨hc0, hf8⟩ := x_gd_some hf8
      refine f_zast (pc := 37) (k := 0) (u := 32) (q := 11) (len := 144) dX12_ruled_37 (sa_32_11 hs) hc0 (by decide) hn rfl rfl rfl (by decide) ?_
      show Ev g _ _ _ _ _ _ 38 [some (x_r (16 * 32 + 0)), some (x_i (S 0 8)), some (x_i v3), some (x_i v4), none] [] (al, ro, fl (ml M [32] [(x_up S5 11 (v4).toNat 1)])) _ _ _ _
      refine e_iconst (pc := 38) dX12_ruled_38 (x_R rfl) ?_
      refine e_istore (pc := 39) (i := 4) dX12_ruled_39 (by decide) rfl ?_
      show Ev g _ _ _ _ _ _ 41 [some (x_r (16 * 32 + 0)), some (x_i (S 0 8)), some (x_i v3), some (x_i v4), some (x_i 0)] [] (al, ro, fl (ml M [32] [(x_up S5 11 (v4).toNat 1)])) _ _ _ _
      obtain ⟨S12, hl13, hf8⟩ := x_bd1 hf8
      have hk13 : ∀ q : xU, q = S12 → Ev g yX12_ruled cX12_ruled 5 (some .int) [] 1 96 [some (x_r (16 * 32 + 0)), some (x_i (S 0 8)), some (x_i v3), some (x_i v4), none] [] (al, ro, fl (ml M [32] [q])) 0 0 (.inl (some (x_i t.1))) (al, ro, fl (ml M [32] [t.2])) := by
        intro q hq
        replace hq := hq.symm
        subst hq
        refine e_iloadn (pc := 96) (i := 2) dX12_ruled_96 rfl rfl ?_
        refine e_aloadn (pc := 97) (i := 0) dX12_ruled_97 rfl rfl ?_
        refine f_getr (pc := 98) (u := 32) (q := 0) dX12_ruled_98 xf12_45 (sa_32_0 hs) rfl (sr_32_0_23 hs) ?_
        refine e_iloadn (pc := 101) (i := 3) dX12_ruled_101 rfl rfl ?_
        obtain ⟨hc0, hf8⟩ := x_gd_some hf8
        refine f_zald (pc := 102) (k := 0) (u := 32) (q := 11) (len := 144) dX12_ruled_102 (sa_32_11 hs) hc0 hn rfl rfl (by decide) ?_
        show Ev g _ _ _ _ _ _ 103 [some (x_r (16 * 32 + 0)), some (x_i (S 0 8)), some (x_i v3), some (x_i v4), none] [x_i (S12 11 (v4).toNat), x_i v3] (al, ro, fl (ml M [32] [S12])) _ _ _ _
        obtain ⟨v19, hr19, hf8⟩ := x_bd1 hf8
        have hjhr19 : Ev g yX12_ruled cX12_ruled 5 (some .int) [] 1 111 [some (x_r (16 * 32 + 0)), some (x_i (S 0 8)), some (x_i v3), some (x_i v4), none] [x_i v19, x_i v3] (al, ro, fl (ml M [32] [S12])) 0 0 (.inl (some (x_i t.1))) (al, ro, fl (ml M [32] [t.2])) := by
          refine e_iadd (pc := 111) dX12_ruled_111 ?_
          refine e_istoren (pc := 112) (i := 2) dX12_ruled_112 rfl (by decide) rfl ?_
          show Ev g _ _ _ _ _ _ 113 [some (x_r (16 * 32 + 0)), some (x_i (S 0 8)), some (x_i (x_add v3 v19)), some (x_i v4), none] [] (al, ro, fl (ml M [32] [S12])) _ _ _ _
          refine e_iinc (pc := 113) dX12_ruled_113 rfl (by decide) rfl ?_
          show Ev g _ _ _ _ _ _ 116 [some (x_r (16 * 32 + 0)), some (x_i (S 0 8)), some (x_i (x_add v3 v19)), some (x_i (x_add v4 1)), none] [] (al, ro, fl (ml M [32] [S12])) _ _ _ _
          refine e_goto (pc := 116) (tgt := 25) dX12_ruled_116 (by decide) ?_
          cases hf8
          have hh := hi8 _ rfl
          try dsimp only at hh
          exact hh
        clear hf8
        refine e_if_eq (pc := 103) (tgt := 110) dX12_ruled_103 (by decide) (fun hb => ?_) (fun hb => ?_)
        · rw [if_pos hb] at hr19
          refine e_iconst (pc := 110) dX12_ruled_110 (x_R rfl) ?_
          cases hr19
          exact hjhr19
        · rw [if_neg hb] at hr19
          refine e_iconst (pc := 106) dX12_ruled_106 (x_R rfl) ?_
          refine e_goto (pc := 107) (tgt := 111) dX12_ruled_107 (by decide) ?_
          cases hr19
          exact hjhr19
      clear hf8
      refine e_whl (G12_ruled_L41 S v4) (fun z : (Int × xU) => Ev g yX12_ruled cX12_ruled 5 (some .int) [] 1 41 [some (x_r (16 * 32 + 0)), some (x_i (S 0 8)), some (x_i v3), some (x_i v4), some (x_i z.1)] [] (al, ro, fl (ml M [32] [z.2])) 0 0 (.inl (some (x_i t.1))) (al, ro, fl (ml M [32] [t.2]))) (fun q => q = S12) ?_ xFU (0, (x_up S5 11 (v4).toNat 1)) _ hl13 rfl
      intro z t13 hf13 hi13 hx13
      obtain ⟨v10, S11⟩ := z
      rw [G12_ruled_L41] at hf13
      show Ev g _ _ _ _ _ _ 41 [some (x_r (16 * 32 + 0)), some (x_i (S 0 8)), some (x_i v3), some (x_i v4), some (x_i v10)] [] (al, ro, fl (ml M [32] [S11])) _ _ _ _
      refine e_iload (pc := 41) dX12_ruled_41 rfl ?_
      refine e_iloadn (pc := 43) (i := 1) dX12_ruled_43 rfl rfl ?_
      refine e_icmp_ge (pc := 44) (tgt := 96) dX12_ruled_44 (by decide) (fun hb => ?_) (fun hb => ?_)
      · rw [if_pos hb] at hf13
        cases hf13
        refine e_drop (i := 4) ?_
        have hh := hk13 _ (hx13 _ rfl)
        try dsimp only at hh
        exact hh
      · rw [if_neg hb] at hf13
        refine e_aloadn (pc := 47) (i := 0) dX12_ruled_47 rfl rfl ?_
        refine f_getr (pc := 48) (u := 32) (q := 0) dX12_ruled_48 xf12_45 (sa_32_0 hs) rfl (sr_32_0_23 hs) ?_
        refine e_iloadn (pc := 51) (i := 3) dX12_ruled_51 rfl rfl ?_
        obtain ⟨hc0, hf13⟩ := x_gd_some hf13
        refine f_zald (pc := 52) (k := 0) (u := 32) (q := 11) (len := 144) dX12_ruled_52 (sa_32_11 hs) hc0 hn rfl rfl (by decide) ?_
        show Ev g _ _ _ _ _ _ 53 [some (x_r (16 * 32 + 0)), some (x_i (S 0 8)), some (x_i v3), some (x_i v4), some (x_i v10)] [x_i (S11 11 (v4).toNat)] (al, ro, fl (ml M [32] [S11])) _ _ _ _
        refine e_if_eq (pc := 53) (tgt := 96) dX12_ruled_53 (by decide) (fun hb => ?_) (fun hb => ?_)
        · rw [if_pos hb] at hf13
          cases hf13
          refine e_drop (i := 4) ?_
          have hh := hk13 _ (hx13 _ rfl)
          try dsimp only at hh
          exact hh
        · rw [if_neg hb] at hf13
          refine e_aloadn (pc := 56) (i := 0) dX12_ruled_56 rfl rfl ?_
          refine f_getr (pc := 57) (u := 32) (q := 0) dX12_ruled_57 xf12_45 (sa_32_0 hs) rfl (sr_32_0_23 hs) ?_
          refine e_iloadn (pc := 60) (i := 3) dX12_ruled_60 rfl rfl ?_
          refine e_iloadn (pc := 61) (i := 3) dX12_ruled_61 rfl rfl ?_
          refine e_aloadn (pc := 62) (i := 0) dX12_ruled_62 rfl rfl ?_
          refine f_getr (pc := 63) (u := 32) (q := 0) dX12_ruled_63 xf12_22 (sa_32_0 hs) rfl (sr_32_0_7 hs) ?_
          refine e_iload (pc := 66) dX12_ruled_66 rfl ?_
          obtain ⟨hc0, hf13⟩ := x_gd_some hf13
          refine f_iald (pc := 68) (k := 0) (u := 32) (q := 5) (len := 400) dX12_ruled_68 (sa_32_5 hs) hc0 hn rfl rfl (by decide) ?_
          show Ev g _ _ _ _ _ _ 69 [some (x_r (16 * 32 + 0)), some (x_i (S 0 8)), some (x_i v3), some (x_i v4), some (x_i v10)] [x_i (S11 5 (v10).toNat), x_i v4, x_i v4, x_r (16 * 32 + 11)] (al, ro, fl (ml M [32] [S11])) _ _ _ _
          obtain ⟨v15, hq15, hf13⟩ := x_bd1 hf13
          refine e_invS (pc := 69) (K1 := 0) (S1 := 0) (K := 0) (S := 0) (dd2 := 0) (av := [x_i v4, x_i (S11 5 (v10).toNat)]) (st := [x_i v4, x_r (16 * 32 + 11)]) dX12_ruled_69 xmX12_376 rfl (f_cal (M := M) (us2 := []) [] hn rfl trivial rfl rfl rfl (c_X12_moodBy hst hs   hq15)) (by decide) (Nat.le_of_ble_eq_true rfl) (Or.inl rfl) ?_
          show Ev g _ _ _ _ _ _ 72 [some (x_r (16 * 32 + 0)), some (x_i (S 0 8)), some (x_i v3), some (x_i v4), some (x_i v10)] [x_i v15, x_i v4, x_r (16 * 32 + 11)] (al, ro, fl (ml M [32] [S11])) _ _ _ _
          refine e_aloadn (pc := 72) (i := 0) dX12_ruled_72 rfl rfl ?_
          refine f_getr (pc := 73) (u := 32) (q := 0) dX12_ruled_73 xf12_22 (sa_32_0 hs) rfl (sr_32_0_7 hs) ?_
          refine e_iload (pc := 76) dX12_ruled_76 rfl ?_
          refine e_iconst (pc := 78) dX12_ruled_78 (x_R rfl) ?_
          refine e_iadd (pc := 79) dX12_ruled_79 ?_
          obtain ⟨hc0, hf13⟩ := x_gd_some hf13
          refine f_iald (pc := 80) (k := 0) (u := 32) (q := 5) (len := 400) dX12_ruled_80 (sa_32_5 hs) hc0 hn rfl rfl (by decide) ?_
          show Ev g _ _ _ _ _ _ 81 [some (x_r (16 * 32 + 0)), some (x_i (S 0 8)), some (x_i v3), some (x_i v4), some (x_i v10)] [x_i (S11 5 ((x_add v10 1)).toNat), x_i v15, x_i v4, x_r (16 * 32 + 11)] (al, ro, fl (ml M [32] [S11])) _ _ _ _
          obtain ⟨v17, hr17, hf13⟩ := x_bd1 hf13
          have hjhr17 : Ev g yX12_ruled cX12_ruled 5 (some .int) [] 1 89 [some (x_r (16 * 32 + 0)), some (x_i (S 0 8)), some (x_i v3), some (x_i v4), some (x_i v10)] [x_i v17, x_i v4, x_r (16 * 32 + 11)] (al, ro, fl (ml M [32] [S11])) 0 0 (.inl (some (x_i t.1))) (al, ro, fl (ml M [32] [t.2])) := by
            obtain ⟨hc0, hf13⟩ := x_gd_some hf13
            obtain ⟨hc1, hf13⟩ := x_gd_some hf13
            refine f_zast (pc := 89) (k := 0) (u := 32) (q := 11) (len := 144) dX12_ruled_89 (sa_32_11 hs) hc0 hc1 hn rfl rfl rfl (by decide) ?_
            show Ev g _ _ _ _ _ _ 90 [some (x_r (16 * 32 + 0)), some (x_i (S 0 8)), some (x_i v3), some (x_i v4), some (x_i v10)] [] (al, ro, fl (ml M [32] [(x_up S11 11 (v4).toNat v17)])) _ _ _ _
            refine e_iinc (pc := 90) dX12_ruled_90 rfl (by decide) rfl ?_
            show Ev g _ _ _ _ _ _ 93 [some (x_r (16 * 32 + 0)), some (x_i (S 0 8)), some (x_i v3), some (x_i v4), some (x_i (x_add v10 2))] [] (al, ro, fl (ml M [32] [(x_up S11 11 (v4).toNat v17)])) _ _ _ _
            refine e_goto (pc := 93) (tgt := 41) dX12_ruled_93 (by decide) ?_
            cases hf13
            have hh := hi13 _ rfl
            try dsimp only at hh
            exact hh
          clear hf13
          refine e_icmp_ne (pc := 81) (tgt := 88) dX12_ruled_81 (by decide) (fun hb => ?_) (fun hb => ?_)
          · rw [if_neg hb] at hr17
            refine e_iconst (pc := 88) dX12_ruled_88 (x_R rfl) ?_
            cases hr17
            exact hjhr17
          · rw [if_pos hb] at hr17
            refine e_iconst (pc := 84) dX12_ruled_84 (x_R rfl) ?_
            refine e_goto (pc := 85) (tgt := 89) dX12_ruled_85 (by decide) ?_
            cases hr17
            exact hjhr17
  · rw [if_pos hb] at hG
    refine e_iconst (pc := 19) dX12_ruled_19 (x_R rfl) ?_
    cases hG
    exact (e_ireturn rfl dX12_ruled_20 rfl)
