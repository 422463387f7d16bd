set_option maxRecDepth 100000 in
set_option maxHeartbeats 4000000 in
theorem c_X12_atom_b {g : xG} {al : List (Nat × Nat × Nat)} {ro : Nat → Nat → Option Nat} (hst : g.1.stackTraces = false) (hs : SH al ro) {dn : Nat} (hdn : 10 ≤ dn) {M : Nat → xU} {R0 : xU → Option (Int × xU)} {R1 : xU → Option (Int × xU)} {R2 : xU → Option (Int × xU)} {S : xU} (hR0 : ∀ {M : Nat → xU}  {S : xU} {t : (Int × xU)}, R0 S = some t → Cal g yX12_atom cX12_atom 4 (some .boolean) dn [x_r (16 * 32 + 0)] (al, ro, fl (ml M [32] [S])) 0 0 (.inl (some (x_i t.1))) (al, ro, fl (ml M [32] [t.2]))) (hR1 : ∀ {M : Nat → xU}  {S : xU} {t : (Int × xU)}, R1 S = some t → Cal g yX12_every cX12_every 3 (some .boolean) dn [x_r (16 * 32 + 0)] (al, ro, fl (ml M [32] [S])) 0 0 (.inl (some (x_i t.1))) (al, ro, fl (ml M [32] [t.2]))) (hR2 : ∀ {M : Nat → xU}  {S : xU} {t : (Int × xU)}, R2 S = some t → Cal g yX12_some cX12_some 3 (some .boolean) dn [x_r (16 * 32 + 0)] (al, ro, fl (ml M [32] [S])) 0 0 (.inl (some (x_i t.1))) (al, ro, fl (ml M [32] [t.2]))) {t : (Int × xU)} (hG : G12_atom_b R0 R1 R2 S = some t) :
    Cal g yX12_atom cX12_atom 4 (some .boolean) (dn + 1) [x_r (16 * 32 + 0)] (al, ro, fl (ml M [32] [S])) 0 0 (.inl (some (x_i t.1))) (al, ro, fl (ml M [32] [t.2])) := by
  have hn : ([32] : List Nat).Nodup := by decide
  refine cal_of_ev (plainFor_of_name (by decide)) (x_c1 rfl) (Nat.le_of_ble_eq_true rfl) hst ?_
  show Ev g _ _ _ _ _ _ 0 [some (x_r (16 * 32 + 0)), none, none, none] [] (al, ro, fl (ml M [32] [S])) _ _ _ _
  rw [G12_atom_b] at hG
  refine e_aloadn (pc := 0) (i := 0) dX12_atom_0 rfl rfl ?_
  refine f_geti (pc := 1) (k := 0) (u := 32) (q := 0) dX12_atom_1 xf12_25 (sa_32_0 hs) rfl hn rfl rfl (by decide) ?_
  show Ev g _ _ _ _ _ _ 4 [some (x_r (16 * 32 + 0)), none, none, none] [x_i (S 0 12)] (al, ro, fl (ml M [32] [S])) _ _ _ _
  refine e_iconst (pc := 4) dX12_atom_4 (x_R rfl) ?_
  refine e_icmp_eq (pc := 5) (tgt := 10) dX12_atom_5 (by decide) (fun hb => ?_) (fun hb => ?_)
  · rw [if_pos hb] at hG
    refine e_aloadn (pc := 10) (i := 0) dX12_atom_10 rfl rfl ?_
    obtain ⟨v1, S2, hq2, hG⟩ := x_bd2 hG
    refine e_invV (pc := 11) (K1 := 0) (S1 := 0) (K := 0) (S := 0) (dd2 := 2) (av := []) (st := []) (id := 16 * 32 + 0) dX12_atom_11 xmX12_105 rfl (Or.inl ⟨10, 27, TX12, (sa_32_0 hs), rfl, by decide⟩) (f_cal (M := M) (us2 := [32]) [0] hn rfl (And.intro rfl trivial) rfl rfl rfl (c_X12_here hst hs   hq2)) (by omega) (Nat.le_of_ble_eq_true rfl) (Or.inl rfl) ?_
    show Ev g _ _ _ _ _ _ 14 [some (x_r (16 * 32 + 0)), none, none, none] [x_i v1] (al, ro, fl (ml M [32] [S2])) _ _ _ _
    refine e_istoren (pc := 14) (i := 1) dX12_atom_14 rfl (by decide) rfl ?_
    show Ev g _ _ _ _ _ _ 15 [some (x_r (16 * 32 + 0)), some (x_i v1), none, none] [] (al, ro, fl (ml M [32] [S2])) _ _ _ _
    refine e_aloadn (pc := 15) (i := 0) dX12_atom_15 rfl rfl ?_
    refine e_ldcS (pc := 16) (i := 23) (tx := "not") dX12_atom_16 (List.mem_of_getElem? (i := 37) rfl) (by decide) ?_
    obtain ⟨v4, S5, hq5, hG⟩ := x_bd2 hG
    refine e_invV (pc := 18) (K1 := 0) (S1 := 0) (K := 0) (S := 0) (dd2 := 6) (av := [x_r (x_s0 + 23)]) (st := []) (id := 16 * 32 + 0) dX12_atom_18 xmX12_112 rfl (Or.inl ⟨10, 27, TX12, (sa_32_0 hs), rfl, by decide⟩) (f_cal (M := M) (us2 := [32]) [0] hn rfl (And.intro rfl trivial) rfl rfl rfl (c_X12_has hst hs  (by decide) hq5)) (by omega) (Nat.le_of_ble_eq_true rfl) (Or.inl rfl) ?_
    show Ev g _ _ _ _ _ _ 21 [some (x_r (16 * 32 + 0)), some (x_i v1), none, none] [x_i v4] (al, ro, fl (ml M [32] [S5])) _ _ _ _
    refine e_istoren (pc := 21) (i := 2) dX12_atom_21 rfl (by decide) rfl ?_
    show Ev g _ _ _ _ _ _ 22 [some (x_r (16 * 32 + 0)), some (x_i v1), some (x_i v4), none] [] (al, ro, fl (ml M [32] [S5])) _ _ _ _
    refine e_iloadn (pc := 22) (i := 2) dX12_atom_22 rfl rfl ?_
    refine e_if_ne (pc := 23) (tgt := 40) dX12_atom_23 (by decide) (fun hb => ?_) (fun hb => ?_)
    · rw [if_neg hb] at hG
      refine e_aloadn (pc := 40) (i := 0) dX12_atom_40 rfl rfl ?_
      refine f_geti (pc := 41) (k := 0) (u := 32) (q := 0) dX12_atom_41 xf12_180 (sa_32_0 hs) rfl hn rfl rfl (by decide) ?_
      show Ev g _ _ _ _ _ _ 44 [some (x_r (16 * 32 + 0)), some (x_i v1), some (x_i v4), none] [x_i (S5 0 13)] (al, ro, fl (ml M [32] [S5])) _ _ _ _
      refine e_bipush (pc := 44) dX12_atom_44 (by decide +kernel) (x_R rfl) ?_
      refine e_icmp_ne (pc := 46) (tgt := 56) dX12_atom_46 (by decide) (fun hb => ?_) (fun hb => ?_)
      · rw [if_neg hb] at hG
        refine e_aloadn (pc := 56) (i := 0) dX12_atom_56 rfl rfl ?_
        refine e_dup (pc := 57) dX12_atom_57 rfl ?_
        refine f_geti (pc := 58) (k := 0) (u := 32) (q := 0) dX12_atom_58 xf12_180 (sa_32_0 hs) rfl hn rfl rfl (by decide) ?_
        show Ev g _ _ _ _ _ _ 61 [some (x_r (16 * 32 + 0)), some (x_i v1), some (x_i v4), none] [x_i (S5 0 13), x_r (16 * 32 + 0)] (al, ro, fl (ml M [32] [S5])) _ _ _ _
        refine e_iconst (pc := 61) dX12_atom_61 (x_R rfl) ?_
        refine e_iadd (pc := 62) dX12_atom_62 ?_
        refine f_puti (pc := 63) (k := 0) (u := 32) (q := 0) dX12_atom_63 xf12_180 xw10_13 (sa_32_0 hs) hn rfl rfl rfl (by decide) ?_
        show Ev g _ _ _ _ _ _ 66 [some (x_r (16 * 32 + 0)), some (x_i v1), some (x_i v4), none] [] (al, ro, fl (ml M [32] [(x_up S5 0 13 (x_add (S5 0 13) 1))])) _ _ _ _
        refine e_iconst (pc := 66) dX12_atom_66 (x_R rfl) ?_
        refine e_istoren (pc := 67) (i := 3) dX12_atom_67 rfl (by decide) rfl ?_
        show Ev g _ _ _ _ _ _ 68 [some (x_r (16 * 32 + 0)), some (x_i v1), some (x_i v4), some (x_i 0)] [] (al, ro, fl (ml M [32] [(x_up S5 0 13 (x_add (S5 0 13) 1))])) _ _ _ _
        refine e_iloadn (pc := 68) (i := 2) dX12_atom_68 rfl rfl ?_
        obtain ⟨v7, S8, hr8, hG⟩ := x_bd2 hG
        have hjhr8 : Ev g yX12_atom cX12_atom 4 (some .boolean) [] (dn + 1) 138 [some (x_r (16 * 32 + 0)), some (x_i v1), some (x_i v4), some (x_i v7)] [] (al, ro, fl (ml M [32] [S8])) 0 0 (.inl (some (x_i t.1))) (al, ro, fl (ml M [32] [t.2])) := by
          refine e_aloadn (pc := 138) (i := 0) dX12_atom_138 rfl rfl ?_
          refine e_dup (pc := 139) dX12_atom_139 rfl ?_
          refine f_geti (pc := 140) (k := 0) (u := 32) (q := 0) dX12_atom_140 xf12_180 (sa_32_0 hs) rfl hn rfl rfl (by decide) ?_
          show Ev g _ _ _ _ _ _ 143 [some (x_r (16 * 32 + 0)), some (x_i v1), some (x_i v4), some (x_i v7)] [x_i (S8 0 13), x_r (16 * 32 + 0)] (al, ro, fl (ml M [32] [S8])) _ _ _ _
          refine e_iconst (pc := 143) dX12_atom_143 (x_R rfl) ?_
          refine e_isub (pc := 144) dX12_atom_144 ?_
          refine f_puti (pc := 145) (k := 0) (u := 32) (q := 0) dX12_atom_145 xf12_180 xw10_13 (sa_32_0 hs) hn rfl rfl rfl (by decide) ?_
          show Ev g _ _ _ _ _ _ 148 [some (x_r (16 * 32 + 0)), some (x_i v1), some (x_i v4), some (x_i v7)] [] (al, ro, fl (ml M [32] [(x_up S8 0 13 (x_sub (S8 0 13) 1))])) _ _ _ _
          refine e_iloadn (pc := 148) (i := 3) dX12_atom_148 rfl rfl ?_
          obtain ⟨hc0, hG⟩ := x_gd_some hG
          cases hG
          exact (e_ireturn rfl dX12_atom_149 (x_bool hc0).1)
        clear hG
        refine e_if_eq (pc := 69) (tgt := 88) dX12_atom_69 (by decide) (fun hb => ?_) (fun hb => ?_)
        · rw [if_pos hb] at hr8
          refine e_aloadn (pc := 88) (i := 0) dX12_atom_88 rfl rfl ?_
          refine e_dup (pc := 89) dX12_atom_89 rfl ?_
          refine f_geti (pc := 90) (k := 0) (u := 32) (q := 0) dX12_atom_90 xf12_82 (sa_32_0 hs) rfl hn rfl rfl (by decide) ?_
          show Ev g _ _ _ _ _ _ 93 [some (x_r (16 * 32 + 0)), some (x_i v1), some (x_i v4), some (x_i 0)] [x_i ((x_up S5 0 13 (x_add (S5 0 13) 1)) 0 11), x_r (16 * 32 + 0)] (al, ro, fl (ml M [32] [(x_up S5 0 13 (x_add (S5 0 13) 1))])) _ _ _ _
          refine e_iconst (pc := 93) dX12_atom_93 (x_R rfl) ?_
          refine e_iadd (pc := 94) dX12_atom_94 ?_
          refine f_puti (pc := 95) (k := 0) (u := 32) (q := 0) dX12_atom_95 xf12_82 xw10_11 (sa_32_0 hs) hn rfl rfl rfl (by decide) ?_
          show Ev g _ _ _ _ _ _ 98 [some (x_r (16 * 32 + 0)), some (x_i v1), some (x_i v4), some (x_i 0)] [] (al, ro, fl (ml M [32] [(x_up (x_up S5 0 13 (x_add (S5 0 13) 1)) 0 11 (x_add ((x_up S5 0 13 (x_add (S5 0 13) 1)) 0 11) 1))])) _ _ _ _
          refine e_aloadn (pc := 98) (i := 0) dX12_atom_98 rfl rfl ?_
          obtain ⟨v10, S11, hq11, hr8⟩ := x_bd2 hr8
          refine e_invV (pc := 99) (K1 := 0) (S1 := 0) (K := 0) (S := 0) (dd2 := dn) (av := []) (st := []) (id := 16 * 32 + 0) dX12_atom_99 xmX12_239 rfl (Or.inl ⟨10, 27, TX12, (sa_32_0 hs), rfl, by decide⟩) (f_cal (M := M) (us2 := [32]) [0] hn rfl (And.intro rfl trivial) rfl rfl rfl (hR2 hq11)) (Nat.le_refl _) (Nat.le_of_ble_eq_true rfl) (Or.inl rfl) ?_
          show Ev g _ _ _ _ _ _ 102 [some (x_r (16 * 32 + 0)), some (x_i v1), some (x_i v4), some (x_i 0)] [x_i v10] (al, ro, fl (ml M [32] [S11])) _ _ _ _
          refine e_istoren (pc := 102) (i := 3) dX12_atom_102 rfl (by decide) rfl ?_
          show Ev g _ _ _ _ _ _ 103 [some (x_r (16 * 32 + 0)), some (x_i v1), some (x_i v4), some (x_i v10)] [] (al, ro, fl (ml M [32] [S11])) _ _ _ _
          refine e_aloadn (pc := 103) (i := 0) dX12_atom_103 rfl rfl ?_
          refine f_geti (pc := 104) (k := 0) (u := 32) (q := 0) dX12_atom_104 xf12_25 (sa_32_0 hs) rfl hn rfl rfl (by decide) ?_
          show Ev g _ _ _ _ _ _ 107 [some (x_r (16 * 32 + 0)), some (x_i v1), some (x_i v4), some (x_i v10)] [x_i (S11 0 12)] (al, ro, fl (ml M [32] [S11])) _ _ _ _
          refine e_iconst (pc := 107) dX12_atom_107 (x_R rfl) ?_
          obtain ⟨S13, hr13, hr8⟩ := x_bd1 hr8
          have hjhr13 : Ev g yX12_atom cX12_atom 4 (some .boolean) [] (dn + 1) 128 [some (x_r (16 * 32 + 0)), some (x_i v1), some (x_i v4), some (x_i v10)] [] (al, ro, fl (ml M [32] [S13])) 0 0 (.inl (some (x_i t.1))) (al, ro, fl (ml M [32] [t.2])) := by
            refine e_aloadn (pc := 128) (i := 0) dX12_atom_128 rfl rfl ?_
            refine e_dup (pc := 129) dX12_atom_129 rfl ?_
            refine f_geti (pc := 130) (k := 0) (u := 32) (q := 0) dX12_atom_130 xf12_82 (sa_32_0 hs) rfl hn rfl rfl (by decide) ?_
            show Ev g _ _ _ _ _ _ 133 [some (x_r (16 * 32 + 0)), some (x_i v1), some (x_i v4), some (x_i v10)] [x_i (S13 0 11), x_r (16 * 32 + 0)] (al, ro, fl (ml M [32] [S13])) _ _ _ _
            refine e_iconst (pc := 133) dX12_atom_133 (x_R rfl) ?_
            refine e_iadd (pc := 134) dX12_atom_134 ?_
            refine f_puti (pc := 135) (k := 0) (u := 32) (q := 0) dX12_atom_135 xf12_82 xw10_11 (sa_32_0 hs) hn rfl rfl rfl (by decide) ?_
            show Ev g _ _ _ _ _ _ 138 [some (x_r (16 * 32 + 0)), some (x_i v1), some (x_i v4), some (x_i v10)] [] (al, ro, fl (ml M [32] [(x_up S13 0 11 (x_add (S13 0 11) 1))])) _ _ _ _
            cases hr8
            exact hjhr8
          clear hr8
          refine e_icmp_ne (pc := 108) (tgt := 128) dX12_atom_108 (by decide) (fun hb => ?_) (fun hb => ?_)
          · rw [if_neg hb] at hr13
            cases hr13
            exact hjhr13
          · rw [if_pos hb] at hr13
            refine e_aloadn (pc := 111) (i := 0) dX12_atom_111 rfl rfl ?_
            refine e_bipush (pc := 112) dX12_atom_112 (by decide +kernel) (x_R rfl) ?_
            obtain ⟨v15, S16, hq16, hr13⟩ := x_bd2 hr13
            refine e_invV (pc := 114) (K1 := 0) (S1 := 0) (K := 0) (S := 0) (dd2 := 2) (av := [x_i 41]) (st := []) (id := 16 * 32 + 0) dX12_atom_114 xmX12_189 rfl (Or.inl ⟨10, 27, TX12, (sa_32_0 hs), rfl, by decide⟩) (f_cal (M := M) (us2 := [32]) [0] hn rfl (And.intro rfl trivial) rfl rfl rfl (c_X12_isSign hst hs   hq16)) (by omega) (Nat.le_of_ble_eq_true rfl) (Or.inl rfl) ?_
            show Ev g _ _ _ _ _ _ 117 [some (x_r (16 * 32 + 0)), some (x_i v1), some (x_i v4), some (x_i v10)] [x_i v15] (al, ro, fl (ml M [32] [S16])) _ _ _ _
            refine e_if_ne (pc := 117) (tgt := 128) dX12_atom_117 (by decide) (fun hb => ?_) (fun hb => ?_)
            · rw [if_neg hb] at hr13
              cases hr13
              exact hjhr13
            · rw [if_pos hb] at hr13
              refine e_aloadn (pc := 120) (i := 0) dX12_atom_120 rfl rfl ?_
              refine e_aloadn (pc := 121) (i := 0) dX12_atom_121 rfl rfl ?_
              refine f_geti (pc := 122) (k := 0) (u := 32) (q := 0) dX12_atom_122 xf12_82 (sa_32_0 hs) rfl hn rfl rfl (by decide) ?_
              show Ev g _ _ _ _ _ _ 125 [some (x_r (16 * 32 + 0)), some (x_i v1), some (x_i v4), some (x_i v10)] [x_i (S16 0 11), x_r (16 * 32 + 0)] (al, ro, fl (ml M [32] [S16])) _ _ _ _
              obtain ⟨S18, hq18, hr13⟩ := x_bd1 hr13
              refine e_invV (pc := 125) (K1 := 0) (S1 := 0) (K := 0) (S := 0) (dd2 := 0) (av := [x_i (S16 0 11)]) (st := []) (id := 16 * 32 + 0) dX12_atom_125 xmX12_108 rfl (Or.inl ⟨10, 27, TX12, (sa_32_0 hs), rfl, by decide⟩) (f_cal (M := M) (us2 := [32]) [0] hn rfl (And.intro rfl trivial) rfl rfl rfl (c_X12_wrong hst hs   hq18)) (by omega) (Nat.le_of_ble_eq_true rfl) (Or.inl rfl) ?_
              show Ev g _ _ _ _ _ _ 128 [some (x_r (16 * 32 + 0)), some (x_i v1), some (x_i v4), some (x_i v10)] [] (al, ro, fl (ml M [32] [S18])) _ _ _ _
              cases hr13
              exact hjhr13
        · rw [if_neg hb] at hr8
          refine e_aloadn (pc := 72) (i := 0) dX12_atom_72 rfl rfl ?_
          obtain ⟨v20, S21, hq21, hr8⟩ := x_bd2 hr8
          refine e_invV (pc := 73) (K1 := 0) (S1 := 0) (K := 0) (S := 0) (dd2 := dn) (av := []) (st := []) (id := 16 * 32 + 0) dX12_atom_73 xmX12_236 rfl (Or.inl ⟨10, 27, TX12, (sa_32_0 hs), rfl, by decide⟩) (f_cal (M := M) (us2 := [32]) [0] hn rfl (And.intro rfl trivial) rfl rfl rfl (hR0 hq21)) (Nat.le_refl _) (Nat.le_of_ble_eq_true rfl) (Or.inl rfl) ?_
          show Ev g _ _ _ _ _ _ 76 [some (x_r (16 * 32 + 0)), some (x_i v1), some (x_i v4), some (x_i 0)] [x_i v20] (al, ro, fl (ml M [32] [S21])) _ _ _ _
          obtain ⟨v23, hr23, hr8⟩ := x_bd1 hr8
          have hjhr23 : Ev g yX12_atom cX12_atom 4 (some .boolean) [] (dn + 1) 84 [some (x_r (16 * 32 + 0)), some (x_i v1), some (x_i v4), some (x_i 0)] [x_i v23] (al, ro, fl (ml M [32] [S21])) 0 0 (.inl (some (x_i t.1))) (al, ro, fl (ml M [32] [t.2])) := by
            refine e_istoren (pc := 84) (i := 3) dX12_atom_84 rfl (by decide) rfl ?_
            show Ev g _ _ _ _ _ _ 85 [some (x_r (16 * 32 + 0)), some (x_i v1), some (x_i v4), some (x_i v23)] [] (al, ro, fl (ml M [32] [S21])) _ _ _ _
            refine e_goto (pc := 85) (tgt := 138) dX12_atom_85 (by decide) ?_
            cases hr8
            exact hjhr8
          clear hr8
          refine e_if_ne (pc := 76) (tgt := 83) dX12_atom_76 (by decide) (fun hb => ?_) (fun hb => ?_)
          · rw [if_neg hb] at hr23
            refine e_iconst (pc := 83) dX12_atom_83 (x_R rfl) ?_
            cases hr23
            exact hjhr23
          · rw [if_pos hb] at hr23
            refine e_iconst (pc := 79) dX12_atom_79 (x_R rfl) ?_
            refine e_goto (pc := 80) (tgt := 84) dX12_atom_80 (by decide) ?_
            cases hr23
            exact hjhr23
      · rw [if_pos hb] at hG
        refine e_aloadn (pc := 49) (i := 0) dX12_atom_49 rfl rfl ?_
        refine e_iloadn (pc := 50) (i := 1) dX12_atom_50 rfl rfl ?_
        obtain ⟨S25, hq25, hG⟩ := x_bd1 hG
        refine e_invV (pc := 51) (K1 := 0) (S1 := 0) (K := 0) (S := 0) (dd2 := 0) (av := [x_i v1]) (st := []) (id := 16 * 32 + 0) dX12_atom_51 xmX12_108 rfl (Or.inl ⟨10, 27, TX12, (sa_32_0 hs), rfl, by decide⟩) (f_cal (M := M) (us2 := [32]) [0] hn rfl (And.intro rfl trivial) rfl rfl rfl (c_X12_wrong hst hs   hq25)) (by omega) (Nat.le_of_ble_eq_true rfl) (Or.inl rfl) ?_
        show Ev g _ _ _ _ _ _ 54 [some (x_r (16 * 32 + 0)), some (x_i v1), some (x_i v4), none] [] (al, ro, fl (ml M [32] [S25])) _ _ _ _
        refine e_iconst (pc := 54) dX12_atom_54 (x_R rfl) ?_
        cases hG
        exact (e_ireturn rfl dX12_atom_55 (x_bool (by decide)).1)
    · rw [if_pos hb] at hG
      refine e_aloadn (pc := 26) (i := 0) dX12_atom_26 rfl rfl ?_
      refine e_bipush (pc := 27) dX12_atom_27 (by decide +kernel) (x_R rfl) ?_
      obtain ⟨v27, S28, hq28, hG⟩ := x_bd2 hG
      refine e_invV (pc := 29) (K1 := 0) (S1 := 0) (K := 0) (S := 0) (dd2 := 2) (av := [x_i 40]) (st := []) (id := 16 * 32 + 0) dX12_atom_29 xmX12_189 rfl (Or.inl ⟨10, 27, TX12, (sa_32_0 hs), rfl, by decide⟩) (f_cal (M := M) (us2 := [32]) [0] hn rfl (And.intro rfl trivial) rfl rfl rfl (c_X12_isSign hst hs   hq28)) (by omega) (Nat.le_of_ble_eq_true rfl) (Or.inl rfl) ?_
      show Ev g _ _ _ _ _ _ 32 [some (x_r (16 * 32 + 0)), some (x_i v1), some (x_i v4), none] [x_i v27] (al, ro, fl (ml M [32] [S28])) _ _ _ _
      refine e_if_ne (pc := 32) (tgt := 40) dX12_atom_32 (by decide) (fun hb => ?_) (fun hb => ?_)
      · rw [if_neg hb] at hG
        refine e_aloadn (pc := 40) (i := 0) dX12_atom_40 rfl rfl ?_
        refine f_geti (pc := 41) (k := 0) (u := 32) (q := 0) dX12_atom_41 xf12_180 (sa_32_0 hs) rfl hn rfl rfl (by decide) ?_
        show Ev g _ _ _ _ _ _ 44 [some (x_r (16 * 32 + 0)), some (x_i v1), some (x_i v4), none] [x_i (S28 0 13)] (al, ro, fl (ml M [32] [S28])) _ _ _ _
        refine e_bipush (pc := 44) dX12_atom_44 (by decide +kernel) (x_R rfl) ?_
        refine e_icmp_ne (pc := 46) (tgt := 56) dX12_atom_46 (by decide) (fun hb => ?_) (fun hb => ?_)
        · rw [if_neg hb] at hG
          refine e_aloadn (pc := 56) (i := 0) dX12_atom_56 rfl rfl ?_
          refine e_dup (pc := 57) dX12_atom_57 rfl ?_
          refine f_geti (pc := 58) (k := 0) (u := 32) (q := 0) dX12_atom_58 xf12_180 (sa_32_0 hs) rfl hn rfl rfl (by decide) ?_
          show Ev g _ _ _ _ _ _ 61 [some (x_r (16 * 32 + 0)), some (x_i v1), some (x_i v4), none] [x_i (S28 0 13), x_r (16 * 32 + 0)] (al, ro, fl (ml M [32] [S28])) _ _ _ _
          refine e_iconst (pc := 61) dX12_atom_61 (x_R rfl) ?_
          refine e_iadd (pc := 62) dX12_atom_62 ?_
          refine f_puti (pc := 63) (k := 0) (u := 32) (q := 0) dX12_atom_63 xf12_180 xw10_13 (sa_32_0 hs) hn rfl rfl rfl (by decide) ?_
          show Ev g _ _ _ _ _ _ 66 [some (x_r (16 * 32 + 0)), some (x_i v1), some (x_i v4), none] [] (al, ro, fl (ml M [32] [(x_up S28 0 13 (x_add (S28 0 13) 1))])) _ _ _ _
          refine e_iconst (pc := 66) dX12_atom_66 (x_R rfl) ?_
          refine e_istoren (pc := 67) (i := 3) dX12_atom_67 rfl (by decide) rfl ?_
          show Ev g _ _ _ _ _ _ 68 [some (x_r (16 * 32 + 0)), some (x_i v1), some (x_i v4), some (x_i 0)] [] (al, ro, fl (ml M [32] [(x_up S28 0 13 (x_add (S28 0 13) 1))])) _ _ _ _
          refine e_iloadn (pc := 68) (i := 2) dX12_atom_68 rfl rfl ?_
          obtain ⟨v30, S31, hr31, hG⟩ := x_bd2 hG
          have hjhr31 : Ev g yX12_atom cX12_atom 4 (some .boolean) [] (dn + 1) 138 [some (x_r (16 * 32 + 0)), some (x_i v1), some (x_i v4), some (x_i v30)] [] (al, ro, fl (ml M [32] [S31])) 0 0 (.inl (some (x_i t.1))) (al, ro, fl (ml M [32] [t.2])) := by
            refine e_aloadn (pc := 138) (i := 0) dX12_atom_138 rfl rfl ?_
            refine e_dup (pc := 139) dX12_atom_139 rfl ?_
            refine f_geti (pc := 140) (k := 0) (u := 32) (q := 0) dX12_atom_140 xf12_180 (sa_32_0 hs) rfl hn rfl rfl (by decide) ?_
            show Ev g _ _ _ _ _ _ 143 [some (x_r (16 * 32 + 0)), some (x_i v1), some (x_i v4), some (x_i v30)] [x_i (S31 0 13), x_r (16 * 32 + 0)] (al, ro, fl (ml M [32] [S31])) _ _ _ _
            refine e_iconst (pc := 143) dX12_atom_143 (x_R rfl) ?_
            refine e_isub (pc := 144) dX12_atom_144 ?_
            refine f_puti (pc := 145) (k := 0) (u := 32) (q := 0) dX12_atom_145 xf12_180 xw10_13 (sa_32_0 hs) hn rfl rfl rfl (by decide) ?_
            show Ev g _ _ _ _ _ _ 148 [some (x_r (16 * 32 + 0)), some (x_i v1), some (x_i v4), some (x_i v30)] [] (al, ro, fl (ml M [32] [(x_up S31 0 13 (x_sub (S31 0 13) 1))])) _ _ _ _
            refine e_iloadn (pc := 148) (i := 3) dX12_atom_148 rfl rfl ?_
            obtain ⟨hc0, hG⟩ := x_gd_some hG
            cases hG
            exact (e_ireturn rfl dX12_atom_149 (x_bool hc0).1)
          clear hG
          refine e_if_eq (pc := 69) (tgt := 88) dX12_atom_69 (by decide) (fun hb => ?_) (fun hb => ?_)
          · rw [if_pos hb] at hr31
            refine e_aloadn (pc := 88) (i := 0) dX12_atom_88 rfl rfl ?_
            refine e_dup (pc := 89) dX12_atom_89 rfl ?_
            refine f_geti (pc := 90) (k := 0) (u := 32) (q := 0) dX12_atom_90 xf12_82 (sa_32_0 hs) rfl hn rfl rfl (by decide) ?_
            show Ev g _ _ _ _ _ _ 93 [some (x_r (16 * 32 + 0)), some (x_i v1), some (x_i v4), some (x_i 0)] [x_i ((x_up S28 0 13 (x_add (S28 0 13) 1)) 0 11), x_r (16 * 32 + 0)] (al, ro, fl (ml M [32] [(x_up S28 0 13 (x_add (S28 0 13) 1))])) _ _ _ _
            refine e_iconst (pc := 93) dX12_atom_93 (x_R rfl) ?_
            refine e_iadd (pc := 94) dX12_atom_94 ?_
            refine f_puti (pc := 95) (k := 0) (u := 32) (q := 0) dX12_atom_95 xf12_82 xw10_11 (sa_32_0 hs) hn rfl rfl rfl (by decide) ?_
            show Ev g _ _ _ _ _ _ 98 [some (x_r (16 * 32 + 0)), some (x_i v1), some (x_i v4), some (x_i 0)] [] (al, ro, fl (ml M [32] [(x_up (x_up S28 0 13 (x_add (S28 0 13) 1)) 0 11 (x_add ((x_up S28 0 13 (x_add (S28 0 13) 1)) 0 11) 1))])) _ _ _ _
            refine e_aloadn (pc := 98) (i := 0) dX12_atom_98 rfl rfl ?_
            obtain ⟨v33, S34, hq34, hr31⟩ := x_bd2 hr31
            refine e_invV (pc := 99) (K1 := 0) (S1 := 0) (K := 0) (S := 0) (dd2 := dn) (av := []) (st := []) (id := 16 * 32 + 0) dX12_atom_99 xmX12_239 rfl (Or.inl ⟨10, 27, TX12, (sa_32_0 hs), rfl, by decide⟩) (f_cal (M := M) (us2 := [32]) [0] hn rfl (And.intro rfl trivial) rfl rfl rfl (hR2 hq34)) (Nat.le_refl _) (Nat.le_of_ble_eq_true rfl) (Or.inl rfl) ?_
            show Ev g _ _ _ _ _ _ 102 [some (x_r (16 * 32 + 0)), some (x_i v1), some (x_i v4), some (x_i 0)] [x_i v33] (al, ro, fl (ml M [32] [S34])) _ _ _ _
            refine e_istoren (pc := 102) (i := 3) dX12_atom_102 rfl (by decide) rfl ?_
            show Ev g _ _ _ _ _ _ 103 [some (x_r (16 * 32 + 0)), some (x_i v1), some (x_i v4), some (x_i v33)] [] (al, ro, fl (ml M [32] [S34])) _ _ _ _
            refine e_aloadn (pc := 103) (i := 0) dX12_atom_103 rfl rfl ?_
            refine f_geti (pc := 104) (k := 0) (u := 32) (q := 0) dX12_atom_104 xf12_25 (sa_32_0 hs) rfl hn rfl rfl (by decide) ?_
            show Ev g _ _ _ _ _ _ 107 [some (x_r (16 * 32 + 0)), some (x_i v1), some (x_i v4), some (x_i v33)] [x_i (S34 0 12)] (al, ro, fl (ml M [32] [S34])) _ _ _ _
            refine e_iconst (pc := 107) dX12_atom_107 (x_R rfl) ?_
            obtain ⟨S36, hr36, hr31⟩ := x_bd1 hr31
            have hjhr36 : Ev g yX12_atom cX12_atom 4 (some .boolean) [] (dn + 1) 128 [some (x_r (16 * 32 + 0)), some (x_i v1), some (x_i v4), some (x_i v33)] [] (al, ro, fl (ml M [32] [S36])) 0 0 (.inl (some (x_i t.1))) (al, ro, fl (ml M [32] [t.2])) := by
              refine e_aloadn (pc := 128) (i := 0) dX12_atom_128 rfl rfl ?_
              refine e_dup (pc := 129) dX12_atom_129 rfl ?_
              refine f_geti (pc := 130) (k := 0) (u := 32) (q := 0) dX12_atom_130 xf12_82 (sa_32_0 hs) rfl hn rfl rfl (by decide) ?_
              show Ev g _ _ _ _ _ _ 133 [some (x_r (16 * 32 + 0)), some (x_i v1), some (x_i v4), some (x_i v33)] [x_i (S36 0 11), x_r (16 * 32 + 0)] (al, ro, fl (ml M [32] [S36])) _ _ _ _
              refine e_iconst (pc := 133) dX12_atom_133 (x_R rfl) ?_
              refine e_iadd (pc := 134) dX12_atom_134 ?_
              refine f_puti (pc := 135) (k := 0) (u := 32) (q := 0) dX12_atom_135 xf12_82 xw10_11 (sa_32_0 hs) hn rfl rfl rfl (by decide) ?_
              show Ev g _ _ _ _ _ _ 138 [some (x_r (16 * 32 + 0)), some (x_i v1), some (x_i v4), some (x_i v33)] [] (al, ro, fl (ml M [32] [(x_up S36 0 11 (x_add (S36 0 11) 1))])) _ _ _ _
              cases hr31
              exact hjhr31
            clear hr31
            refine e_icmp_ne (pc := 108) (tgt := 128) dX12_atom_108 (by decide) (fun hb => ?_) (fun hb => ?_)
            · rw [if_neg hb] at hr36
              cases hr36
              exact hjhr36
            · rw [if_pos hb] at hr36
              refine e_aloadn (pc := 111) (i := 0) dX12_atom_111 rfl rfl ?_
              refine e_bipush (pc := 112) dX12_atom_112 (by decide +kernel) (x_R rfl) ?_
              obtain ⟨v38, S39, hq39, hr36⟩ := x_bd2 hr36
              refine e_invV (pc := 114) (K1 := 0) (S1 := 0) (K := 0) (S := 0) (dd2 := 2) (av := [x_i 41]) (st := []) (id := 16 * 32 + 0) dX12_atom_114 xmX12_189 rfl (Or.inl ⟨10, 27, TX12, (sa_32_0 hs), rfl, by decide⟩) (f_cal (M := M) (us2 := [32]) [0] hn rfl (And.intro rfl trivial) rfl rfl rfl (c_X12_isSign hst hs   hq39)) (by omega) (Nat.le_of_ble_eq_true rfl) (Or.inl rfl) ?_
              show Ev g _ _ _ _ _ _ 117 [some (x_r (16 * 32 + 0)), some (x_i v1), some (x_i v4), some (x_i v33)] [x_i v38] (al, ro, fl (ml M [32] [S39])) _ _ _ _
              refine e_if_ne (pc := 117) (tgt := 128) dX12_atom_117 (by decide) (fun hb => ?_) (fun hb => ?_)
              · rw [if_neg hb] at hr36
                cases hr36
                exact hjhr36
              · rw [if_pos hb] at hr36
                refine e_aloadn (pc := 120) (i := 0) dX12_atom_120 rfl rfl ?_
                refine e_aloadn (pc := 121) (i := 0) dX12_atom_121 rfl rfl ?_
                refine f_geti (pc := 122) (k := 0) (u := 32) (q := 0) dX12_atom_122 xf12_82 (sa_32_0 hs) rfl hn rfl rfl (by decide) ?_
                show Ev g _ _ _ _ _ _ 125 [some (x_r (16 * 32 + 0)), some (x_i v1), some (x_i v4), some (x_i v33)] [x_i (S39 0 11), x_r (16 * 32 + 0)] (al, ro, fl (ml M [32] [S39])) _ _ _ _
                obtain ⟨S41, hq41, hr36⟩ := x_bd1 hr36
                refine e_invV (pc := 125) (K1 := 0) (S1 := 0) (K := 0) (S := 0) (dd2 := 0) (av := [x_i (S39 0 11)]) (st := []) (id := 16 * 32 + 0) dX12_atom_125 xmX12_108 rfl (Or.inl ⟨10, 27, TX12, (sa_32_0 hs), rfl, by decide⟩) (f_cal (M := M) (us2 := [32]) [0] hn rfl (And.intro rfl trivial) rfl rfl rfl (c_X12_wrong hst hs   hq41)) (by omega) (Nat.le_of_ble_eq_true rfl) (Or.inl rfl) ?_
                show Ev g _ _ _ _ _ _ 128 [some (x_r (16 * 32 + 0)), some (x_i v1), some (x_i v4), some (x_i v33)] [] (al, ro, fl (ml M [32] [S41])) _ _ _ _
                cases hr36
                exact hjhr36
          · rw [if_neg hb] at hr31
            refine e_aloadn (pc := 72) (i := 0) dX12_atom_72 rfl rfl ?_
            obtain ⟨v43, S44, hq44, hr31⟩ := x_bd2 hr31
            refine e_invV (pc := 73) (K1 := 0) (S1 := 0) (K := 0) (S := 0) (dd2 := dn) (av := []) (st := []) (id := 16 * 32 + 0) dX12_atom_73 xmX12_236 rfl (Or.inl ⟨10, 27, TX12, (sa_32_0 hs), rfl, by decide⟩) (f_cal (M := M) (us2 := [32]) [0] hn rfl (And.intro rfl trivial) rfl rfl rfl (hR0 hq44)) (Nat.le_refl _) (Nat.le_of_ble_eq_true rfl) (Or.inl rfl) ?_
            show Ev g _ _ _ _ _ _ 76 [some (x_r (16 * 32 + 0)), some (x_i v1), some (x_i v4), some (x_i 0)] [x_i v43] (al, ro, fl (ml M [32] [S44])) _ _ _ _
            obtain ⟨v46, hr46, hr31⟩ := x_bd1 hr31
            have hjhr46 : Ev g yX12_atom cX12_atom 4 (some .boolean) [] (dn + 1) 84 [some (x_r (16 * 32 + 0)), some (x_i v1), some (x_i v4), some (x_i 0)] [x_i v46] (al, ro, fl (ml M [32] [S44])) 0 0 (.inl (some (x_i t.1))) (al, ro, fl (ml M [32] [t.2])) := by
              refine e_istoren (pc := 84) (i := 3) dX12_atom_84 rfl (by decide) rfl ?_
              show Ev g _ _ _ _ _ _ 85 [some (x_r (16 * 32 + 0)), some (x_i v1), some (x_i v4), some (x_i v46)] [] (al, ro, fl (ml M [32] [S44])) _ _ _ _
              refine e_goto (pc := 85) (tgt := 138) dX12_atom_85 (by decide) ?_
              cases hr31
              exact hjhr31
            clear hr31
            refine e_if_ne (pc := 76) (tgt := 83) dX12_atom_76 (by decide) (fun hb => ?_) (fun hb => ?_)
            · rw [if_neg hb] at hr46
              refine e_iconst (pc := 83) dX12_atom_83 (x_R rfl) ?_
              cases hr46
              exact hjhr46
            · rw [if_pos hb] at hr46
              refine e_iconst (pc := 79) dX12_atom_79 (x_R rfl) ?_
              refine e_goto (pc := 80) (tgt := 84) dX12_atom_80 (by decide) ?_
              cases hr46
              exact hjhr46
        · rw [if_pos hb] at hG
          refine e_aloadn (pc := 49) (i := 0) dX12_atom_49 rfl rfl ?_
          refine e_iloadn (pc := 50) (i := 1) dX12_atom_50 rfl rfl ?_
          obtain ⟨S48, hq48, hG⟩ := x_bd1 hG
          refine e_invV (pc := 51) (K1 := 0) (S1 := 0) (K := 0) (S := 0) (dd2 := 0) (av := [x_i v1]) (st := []) (id := 16 * 32 + 0) dX12_atom_51 xmX12_108 rfl (Or.inl ⟨10, 27, TX12, (sa_32_0 hs), rfl, by decide⟩) (f_cal (M := M) (us2 := [32]) [0] hn rfl (And.intro rfl trivial) rfl rfl rfl (c_X12_wrong hst hs   hq48)) (by omega) (Nat.le_of_ble_eq_true rfl) (Or.inl rfl) ?_
          show Ev g _ _ _ _ _ _ 54 [some (x_r (16 * 32 + 0)), some (x_i v1), some (x_i v4), none] [] (al, ro, fl (ml M [32] [S48])) _ _ _ _
          refine e_iconst (pc := 54) dX12_atom_54 (x_R rfl) ?_
          cases hG
          exact (e_ireturn rfl dX12_atom_55 (x_bool (by decide)).1)
      · rw [if_pos hb] at hG
        refine e_aloadn (pc := 35) (i := 0) dX12_atom_35 rfl rfl ?_
        obtain ⟨v50, S51, hq51, hG⟩ := x_bd2 hG
        refine e_invV (pc := 36) (K1 := 0) (S1 := 0) (K := 0) (S := 0) (dd2 := 9) (av := []) (st := []) (id := 16 * 32 + 0) dX12_atom_36 xmX12_232 rfl (Or.inl ⟨10, 27, TX12, (sa_32_0 hs), rfl, by decide⟩) (f_cal (M := M) (us2 := [32]) [0] hn rfl (And.intro rfl trivial) rfl rfl rfl (c_X12_plain hst hs   hq51)) (by omega) (Nat.le_of_ble_eq_true rfl) (Or.inl rfl) ?_
        show Ev g _ _ _ _ _ _ 39 [some (x_r (16 * 32 + 0)), some (x_i v1), some (x_i v4), none] [x_i v50] (al, ro, fl (ml M [32] [S51])) _ _ _ _
        obtain ⟨hc0, hG⟩ := x_gd_some hG
        cases hG
        exact (e_ireturn rfl dX12_atom_39 (x_bool hc0).1)
  · rw [if_neg hb] at hG
    refine e_iconst (pc := 8) dX12_atom_8 (x_R rfl) ?_
    cases hG
    exact (e_ireturn rfl dX12_atom_9 (x_bool (by decide)).1)
set_option maxRecDepth 100000 in
set_option maxHeartbeats 4000000 in
theorem c_X12_every_b {g : xG} {al : List (Nat × Nat × Nat)} {ro : Nat → Nat → Option Nat} (hst : g.1.stackTraces = false) (hs : SH al ro) {dn : Nat} (hdn : 10 ≤ dn) {M : Nat → xU} {R0 : xU → Option (Int × xU)} {R1 : xU → Option (Int × xU)} {R2 : xU → Option (Int × xU)} {S : xU} (hR0 : ∀ {M : Nat → xU}  {S : xU} {t : (Int × xU)}, R0 S = some t → Cal g yX12_atom cX12_atom 4 (some .boolean) dn [x_r (16 * 32 + 0)] (al, ro, fl (ml M [32] [S])) 0 0 (.inl (some (x_i t.1))) (al, ro, fl (ml M [32] [t.2]))) (hR1 : ∀ {M : Nat → xU}  {S : xU} {t : (Int × xU)}, R1 S = some t → Cal g yX12_every cX12_every 3 (some .boolean) dn [x_r (16 * 32 + 0)] (al, ro, fl (ml M [32] [S])) 0 0 (.inl (some (x_i t.1))) (al, ro, fl (ml M [32] [t.2]))) (hR2 : ∀ {M : Nat → xU}  {S : xU} {t : (Int × xU)}, R2 S = some t → Cal g yX12_some cX12_some 3 (some .boolean) dn [x_r (16 * 32 + 0)] (al, ro, fl (ml M [32] [S])) 0 0 (.inl (some (x_i t.1))) (al, ro, fl (ml M [32] [t.2]))) {t : (Int × xU)} (hG : G12_every_b R0 R1 R2 S = some t) :
    Cal g yX12_every cX12_every 3 (some .boolean) (dn + 1) [x_r (16 * 32 + 0)] (al, ro, fl (ml M [32] [S])) 0 0 (.inl (some (x_i t.1))) (al, ro, fl (ml M [32] [t.2])) := by
  have hn : ([32] : List Nat).Nodup := by decide
  refine cal_of_ev (plainFor_of_name (by decide)) (x_c1 rfl) (Nat.le_of_ble_eq_true rfl) hst ?_
  show Ev g _ _ _ _ _ _ 0 [some (x_r (16 * 32 + 0)), none, none] [] (al, ro, fl (ml M [32] [S])) _ _ _ _
  rw [G12_every_b] at hG
  refine e_aloadn (pc := 0) (i := 0) dX12_every_0 rfl rfl ?_
  obtain ⟨v1, S2, hq2, hG⟩ := x_bd2 hG
  refine e_invV (pc := 1) (K1 := 0) (S1 := 0) (K := 0) (S := 0) (dd2 := dn) (av := []) (st := []) (id := 16 * 32 + 0) dX12_every_1 xmX12_236 rfl (Or.inl ⟨10, 27, TX12, (sa_32_0 hs), rfl, by decide⟩) (f_cal (M := M) (us2 := [32]) [0] hn rfl (And.intro rfl trivial) rfl rfl rfl (hR0 hq2)) (Nat.le_refl _) (Nat.le_of_ble_eq_true rfl) (Or.inl rfl) ?_
  show Ev g _ _ _ _ _ _ 4 [some (x_r (16 * 32 + 0)), none, none] [x_i v1] (al, ro, fl (ml M [32] [S2])) _ _ _ _
  refine e_istoren (pc := 4) (i := 1) dX12_every_4 rfl (by decide) rfl ?_
  show Ev g _ _ _ _ _ _ 5 [some (x_r (16 * 32 + 0)), some (x_i v1), none] [] (al, ro, fl (ml M [32] [S2])) _ _ _ _
  obtain ⟨v6, S7, hl8, hG⟩ := x_bd2 hG
  have hk8 : ∀ q : (Int × xU), q = (v6, S7) → Ev g yX12_every cX12_every 3 (some .boolean) [] (dn + 1) 44 [some (x_r (16 * 32 + 0)), some (x_i q.1), none] [] (al, ro, fl (ml M [32] [q.2])) 0 0 (.inl (some (x_i t.1))) (al, ro, fl (ml M [32] [t.2])) := by
    intro q hq
    cases hq
    refine e_iloadn (pc := 44) (i := 1) dX12_every_44 rfl rfl ?_
    obtain ⟨hc0, hG⟩ := x_gd_some hG
    cases hG
    exact (e_ireturn rfl dX12_every_45 (x_bool hc0).1)
  clear hG
  refine e_whl (G12_every_b_L5 R0) (fun z : (Int × xU) => Ev g yX12_every cX12_every 3 (some .boolean) [] (dn + 1) 5 [some (x_r (16 * 32 + 0)), some (x_i z.1), none] [] (al, ro, fl (ml M [32] [z.2])) 0 0 (.inl (some (x_i t.1))) (al, ro, fl (ml M [32] [t.2]))) (fun q => q = (v6, S7)) ?_ xFU (v1, S2) _ hl8 rfl
  intro z t8 hf8 hi8 hx8
  obtain ⟨v4, S5⟩ := z
  rw [G12_every_b_L5] at hf8
  show Ev g _ _ _ _ _ _ 5 [some (x_r (16 * 32 + 0)), some (x_i v4), none] [] (al, ro, fl (ml M [32] [S5])) _ _ _ _
  refine e_aloadn (pc := 5) (i := 0) dX12_every_5 rfl rfl ?_
  refine f_geti (pc := 6) (k := 0) (u := 32) (q := 0) dX12_every_6 xf12_25 (sa_32_0 hs) rfl hn rfl rfl (by decide) ?_
  show Ev g _ _ _ _ _ _ 9 [some (x_r (16 * 32 + 0)), some (x_i v4), none] [x_i (S5 0 12)] (al, ro, fl (ml M [32] [S5])) _ _ _ _
  refine e_iconst (pc := 9) dX12_every_9 (x_R rfl) ?_
  refine e_icmp_ne (pc := 10) (tgt := 44) dX12_every_10 (by decide) (fun hb => ?_) (fun hb => ?_)
  · rw [if_neg hb] at hf8
    cases hf8
    have hh := hk8 _ (hx8 _ rfl)
    try dsimp only at hh
    exact hh
  · rw [if_pos hb] at hf8
    refine e_aloadn (pc := 13) (i := 0) dX12_every_13 rfl rfl ?_
    refine e_ldcS (pc := 14) (i := 22) (tx := "and") dX12_every_14 (List.mem_of_getElem? (i := 47) rfl) (by decide) ?_
    obtain ⟨v10, S11, hq11, hf8⟩ := x_bd2 hf8
    refine e_invV (pc := 16) (K1 := 0) (S1 := 0) (K := 0) (S := 0) (dd2 := 6) (av := [x_r (x_s0 + 22)]) (st := []) (id := 16 * 32 + 0) dX12_every_16 xmX12_112 rfl (Or.inl ⟨10, 27, TX12, (sa_32_0 hs), rfl, by decide⟩) (f_cal (M := M) (us2 := [32]) [0] hn rfl (And.intro rfl trivial) rfl rfl rfl (c_X12_has hst hs  (by decide) hq11)) (by omega) (Nat.le_of_ble_eq_true rfl) (Or.inl rfl) ?_
    show Ev g _ _ _ _ _ _ 19 [some (x_r (16 * 32 + 0)), some (x_i v4), none] [x_i v10] (al, ro, fl (ml M [32] [S11])) _ _ _ _
    refine e_if_eq (pc := 19) (tgt := 44) dX12_every_19 (by decide) (fun hb => ?_) (fun hb => ?_)
    · rw [if_pos hb] at hf8
      cases hf8
      have hh := hk8 _ (hx8 _ rfl)
      try dsimp only at hh
      exact hh
    · rw [if_neg hb] at hf8
      refine e_aloadn (pc := 22) (i := 0) dX12_every_22 rfl rfl ?_
      obtain ⟨v13, S14, hq14, hf8⟩ := x_bd2 hf8
      refine e_invV (pc := 23) (K1 := 0) (S1 := 0) (K := 0) (S := 0) (dd2 := dn) (av := []) (st := []) (id := 16 * 32 + 0) dX12_every_23 xmX12_236 rfl (Or.inl ⟨10, 27, TX12, (sa_32_0 hs), rfl, by decide⟩) (f_cal (M := M) (us2 := [32]) [0] hn rfl (And.intro rfl trivial) rfl rfl rfl (hR0 hq14)) (Nat.le_refl _) (Nat.le_of_ble_eq_true rfl) (Or.inl rfl) ?_
      show Ev g _ _ _ _ _ _ 26 [some (x_r (16 * 32 + 0)), some (x_i v4), none] [x_i v13] (al, ro, fl (ml M [32] [S14])) _ _ _ _
      refine e_istoren (pc := 26) (i := 2) dX12_every_26 rfl (by decide) rfl ?_
      show Ev g _ _ _ _ _ _ 27 [some (x_r (16 * 32 + 0)), some (x_i v4), some (x_i v13)] [] (al, ro, fl (ml M [32] [S14])) _ _ _ _
      refine e_iloadn (pc := 27) (i := 1) dX12_every_27 rfl rfl ?_
      obtain ⟨v16, hr16, hf8⟩ := x_bd1 hf8
      have hjhr16 : Ev g yX12_every cX12_every 3 (some .boolean) [] (dn + 1) 40 [some (x_r (16 * 32 + 0)), some (x_i v4), some (x_i v13)] [x_i v16] (al, ro, fl (ml M [32] [S14])) 0 0 (.inl (some (x_i t.1))) (al, ro, fl (ml M [32] [t.2])) := by
        refine e_istoren (pc := 40) (i := 1) dX12_every_40 rfl (by decide) rfl ?_
        show Ev g _ _ _ _ _ _ 41 [some (x_r (16 * 32 + 0)), some (x_i v16), some (x_i v13)] [] (al, ro, fl (ml M [32] [S14])) _ _ _ _
        refine e_goto (pc := 41) (tgt := 5) dX12_every_41 (by decide) ?_
        cases hf8
        refine e_drop (i := 2) ?_
        have hh := hi8 _ rfl
        try dsimp only at hh
        exact hh
      clear hf8
      refine e_if_eq (pc := 28) (tgt := 39) dX12_every_28 (by decide) (fun hb => ?_) (fun hb => ?_)
      · rw [if_pos hb] at hr16
        refine e_iconst (pc := 39) dX12_every_39 (x_R rfl) ?_
        cases hr16
        exact hjhr16
      · rw [if_neg hb] at hr16
        refine e_iloadn (pc := 31) (i := 2) dX12_every_31 rfl rfl ?_
        refine e_if_eq (pc := 32) (tgt := 39) dX12_every_32 (by decide) (fun hb => ?_) (fun hb => ?_)
        · rw [if_pos hb] at hr16
          refine e_iconst (pc := 39) dX12_every_39 (x_R rfl) ?_
          cases hr16
          exact hjhr16
        · rw [if_neg hb] at hr16
          refine e_iconst (pc := 35) dX12_every_35 (x_R rfl) ?_
          refine e_goto (pc := 36) (tgt := 40) dX12_every_36 (by decide) ?_
          cases hr16
          exact hjhr16
set_option maxRecDepth 100000 in
set_option maxHeartbeats 4000000 in
theorem c_X12_some_b {g : xG} {al : List (Nat × Nat × Nat)} {ro : Nat → Nat → Option Nat} (hst : g.1.stackTraces = false) (hs : SH al ro) {dn : Nat} (hdn : 10 ≤ dn) {M : Nat → xU} {R0 : xU → Option (Int × xU)} {R1 : xU → Option (Int × xU)} {R2 : xU → Option (Int × xU)} {S : xU} (hR0 : ∀ {M : Nat → xU}  {S : xU} {t : (Int × xU)}, R0 S = some t → Cal g yX12_atom cX12_atom 4 (some .boolean) dn [x_r (16 * 32 + 0)] (al, ro, fl (ml M [32] [S])) 0 0 (.inl (some (x_i t.1))) (al, ro, fl (ml M [32] [t.2]))) (hR1 : ∀ {M : Nat → xU}  {S : xU} {t : (Int × xU)}, R1 S = some t → Cal g yX12_every cX12_every 3 (some .boolean) dn [x_r (16 * 32 + 0)] (al, ro, fl (ml M [32] [S])) 0 0 (.inl (some (x_i t.1))) (al, ro, fl (ml M [32] [t.2]))) (hR2 : ∀ {M : Nat → xU}  {S : xU} {t : (Int × xU)}, R2 S = some t → Cal g yX12_some cX12_some 3 (some .boolean) dn [x_r (16 * 32 + 0)] (al, ro, fl (ml M [32] [S])) 0 0 (.inl (some (x_i t.1))) (al, ro, fl (ml M [32] [t.2]))) {t : (Int × xU)} (hG : G12_some_b R0 R1 R2 S = some t) :
    Cal g yX12_some cX12_some 3 (some .boolean) (dn + 1) [x_r (16 * 32 + 0)] (al, ro, fl (ml M [32] [S])) 0 0 (.inl (some (x_i t.1))) (al, ro, fl (ml M [32] [t.2])) := by
  have hn : ([32] : List Nat).Nodup := by decide
  refine cal_of_ev (plainFor_of_name (by decide)) (x_c1 rfl) (Nat.le_of_ble_eq_true rfl) hst ?_
  show Ev g _ _ _ _ _ _ 0 [some (x_r (16 * 32 + 0)), none, none] [] (al, ro, fl (ml M [32] [S])) _ _ _ _
  rw [G12_some_b] at hG
  refine e_aloadn (pc := 0) (i := 0) dX12_some_0 rfl rfl ?_
  obtain ⟨v1, S2, hq2, hG⟩ := x_bd2 hG
  refine e_invV (pc := 1) (K1 := 0) (S1 := 0) (K := 0) (S := 0) (dd2 := dn) (av := []) (st := []) (id := 16 * 32 + 0) dX12_some_1 xmX12_244 rfl (Or.inl ⟨10, 27, TX12, (sa_32_0 hs), rfl, by decide⟩) (f_cal (M := M) (us2 := [32]) [0] hn rfl (And.intro rfl trivial) rfl rfl rfl (hR1 hq2)) (Nat.le_refl _) (Nat.le_of_ble_eq_true rfl) (Or.inl rfl) ?_
  show Ev g _ _ _ _ _ _ 4 [some (x_r (16 * 32 + 0)), none, none] [x_i v1] (al, ro, fl (ml M [32] [S2])) _ _ _ _
  refine e_istoren (pc := 4) (i := 1) dX12_some_4 rfl (by decide) rfl ?_
  show Ev g _ _ _ _ _ _ 5 [some (x_r (16 * 32 + 0)), some (x_i v1), none] [] (al, ro, fl (ml M [32] [S2])) _ _ _ _
  obtain ⟨v6, S7, hl8, hG⟩ := x_bd2 hG
  have hk8 : ∀ q : (Int × xU), q = (v6, S7) → Ev g yX12_some cX12_some 3 (some .boolean) [] (dn + 1) 44 [some (x_r (16 * 32 + 0)), some (x_i q.1), none] [] (al, ro, fl (ml M [32] [q.2])) 0 0 (.inl (some (x_i t.1))) (al, ro, fl (ml M [32] [t.2])) := by
    intro q hq
    cases hq
    refine e_iloadn (pc := 44) (i := 1) dX12_some_44 rfl rfl ?_
    obtain ⟨hc0, hG⟩ := x_gd_some hG
    cases hG
    exact (e_ireturn rfl dX12_some_45 (x_bool hc0).1)
  clear hG
  refine e_whl (G12_some_b_L5 R1) (fun z : (Int × xU) => Ev g yX12_some cX12_some 3 (some .boolean) [] (dn + 1) 5 [some (x_r (16 * 32 + 0)), some (x_i z.1), none] [] (al, ro, fl (ml M [32] [z.2])) 0 0 (.inl (some (x_i t.1))) (al, ro, fl (ml M [32] [t.2]))) (fun q => q = (v6, S7)) ?_ xFU (v1, S2) _ hl8 rfl
  intro z t8 hf8 hi8 hx8
  obtain ⟨v4, S5⟩ := z
  rw [G12_some_b_L5] at hf8
  show Ev g _ _ _ _ _ _ 5 [some (x_r (16 * 32 + 0)), some (x_i v4), none] [] (al, ro, fl (ml M [32] [S5])) _ _ _ _
  refine e_aloadn (pc := 5) (i := 0) dX12_some_5 rfl rfl ?_
  refine f_geti (pc := 6) (k := 0) (u := 32) (q := 0) dX12_some_6 xf12_25 (sa_32_0 hs) rfl hn rfl rfl (by decide) ?_
  show Ev g _ _ _ _ _ _ 9 [some (x_r (16 * 32 + 0)), some (x_i v4), none] [x_i (S5 0 12)] (al, ro, fl (ml M [32] [S5])) _ _ _ _
  refine e_iconst (pc := 9) dX12_some_9 (x_R rfl) ?_
  refine e_icmp_ne (pc := 10) (tgt := 44) dX12_some_10 (by decide) (fun hb => ?_) (fun hb => ?_)
  · rw [if_neg hb] at hf8
    cases hf8
    have hh := hk8 _ (hx8 _ rfl)
    try dsimp only at hh
    exact hh
  · rw [if_pos hb] at hf8
    refine e_aloadn (pc := 13) (i := 0) dX12_some_13 rfl rfl ?_
    refine e_ldcS (pc := 14) (i := 21) (tx := "or") dX12_some_14 (List.mem_of_getElem? (i := 48) rfl) (by decide) ?_
    obtain ⟨v10, S11, hq11, hf8⟩ := x_bd2 hf8
    refine e_invV (pc := 16) (K1 := 0) (S1 := 0) (K := 0) (S := 0) (dd2 := 6) (av := [x_r (x_s0 + 21)]) (st := []) (id := 16 * 32 + 0) dX12_some_16 xmX12_112 rfl (Or.inl ⟨10, 27, TX12, (sa_32_0 hs), rfl, by decide⟩) (f_cal (M := M) (us2 := [32]) [0] hn rfl (And.intro rfl trivial) rfl rfl rfl (c_X12_has hst hs  (by decide) hq11)) (by omega) (Nat.le_of_ble_eq_true rfl) (Or.inl rfl) ?_
    show Ev g _ _ _ _ _ _ 19 [some (x_r (16 * 32 + 0)), some (x_i v4), none] [x_i v10] (al, ro, fl (ml M [32] [S11])) _ _ _ _
    refine e_if_eq (pc := 19) (tgt := 44) dX12_some_19 (by decide) (fun hb => ?_) (fun hb => ?_)
    · rw [if_pos hb] at hf8
      cases hf8
      have hh := hk8 _ (hx8 _ rfl)
      try dsimp only at hh
      exact hh
    · rw [if_neg hb] at hf8
      refine e_aloadn (pc := 22) (i := 0) dX12_some_22 rfl rfl ?_
      obtain ⟨v13, S14, hq14, hf8⟩ := x_bd2 hf8
      refine e_invV (pc := 23) (K1 := 0) (S1 := 0) (K := 0) (S := 0) (dd2 := dn) (av := []) (st := []) (id := 16 * 32 + 0) dX12_some_23 xmX12_244 rfl (Or.inl ⟨10, 27, TX12, (sa_32_0 hs), rfl, by decide⟩) (f_cal (M := M) (us2 := [32]) [0] hn rfl (And.intro rfl trivial) rfl rfl rfl (hR1 hq14)) (Nat.le_refl _) (Nat.le_of_ble_eq_true rfl) (Or.inl rfl) ?_
      show Ev g _ _ _ _ _ _ 26 [some (x_r (16 * 32 + 0)), some (x_i v4), none] [x_i v13] (al, ro, fl (ml M [32] [S14])) _ _ _ _
      refine e_istoren (pc := 26) (i := 2) dX12_some_26 rfl (by decide) rfl ?_
      show Ev g _ _ _ _ _ _ 27 [some (x_r (16 * 32 + 0)), some (x_i v4), some (x_i v13)] [] (al, ro, fl (ml M [32] [S14])) _ _ _ _
      refine e_iloadn (pc := 27) (i := 1) dX12_some_27 rfl rfl ?_
      obtain ⟨v16, hr16, hf8⟩ := x_bd1 hf8
      have hjhr16 : Ev g yX12_some cX12_some 3 (some .boolean) [] (dn + 1) 40 [some (x_r (16 * 32 + 0)), some (x_i v4), some (x_i v13)] [x_i v16] (al, ro, fl (ml M [32] [S14])) 0 0 (.inl (some (x_i t.1))) (al, ro, fl (ml M [32] [t.2])) := by
        refine e_istoren (pc := 40) (i := 1) dX12_some_40 rfl (by decide) rfl ?_
        show Ev g _ _ _ _ _ _ 41 [some (x_r (16 * 32 + 0)), some (x_i v16), some (x_i v13)] [] (al, ro, fl (ml M [32] [S14])) _ _ _ _
        refine e_goto (pc := 41) (tgt := 5) dX12_some_41 (by decide) ?_
        cases hf8
        refine e_drop (i := 2) ?_
        have hh := hi8 _ rfl
        try dsimp only at hh
        exact hh
      clear hf8
      refine e_if_ne (pc := 28) (tgt := 35) dX12_some_28 (by decide) (fun hb => ?_) (fun hb => ?_)
      · rw [if_neg hb] at hr16
        refine e_iconst (pc := 35) dX12_some_35 (x_R rfl) ?_
        refine e_goto (pc := 36) (tgt := 40) dX12_some_36 (by decide) ?_
        cases hr16
        exact hjhr16
      · rw [if_pos hb] at hr16
        refine e_iloadn (pc := 31) (i := 2) dX12_some_31 rfl rfl ?_
        refine e_if_eq (pc := 32) (tgt := 39) dX12_some_32 (by decide) (fun hb => ?_) (fun hb => ?_)
        · rw [if_pos hb] at hr16
          refine e_iconst (pc := 39) dX12_some_39 (x_R rfl) ?_
          cases hr16
          exact hjhr16
        · rw [if_neg hb] at hr16
          refine e_iconst (pc := 35) dX12_some_35 (x_R rfl) ?_
          refine e_goto (pc := 36) (tgt := 40) dX12_some_36 (by decide) ?_
          cases hr16
          exact hjhr16
theorem c_rec12 {g : xG} {al : List (Nat × Nat × Nat)} {ro : Nat → Nat → Option Nat} (hst : g.1.stackTraces = false) (hs : SH al ro) : ∀ n : Nat, (∀ (M : Nat → xU)  (S : xU) (t : (Int × xU)), G12_rec n 0 S = some t → Cal g yX12_atom cX12_atom 4 (some .boolean) (10 + n) [x_r (16 * 32 + 0)] (al, ro, fl (ml M [32] [S])) 0 0 (.inl (some (x_i t.1))) (al, ro, fl (ml M [32] [t.2]))) ∧ (∀ (M : Nat → xU)  (S : xU) (t : (Int × xU)), G12_rec n 1 S = some t → Cal g yX12_every cX12_every 3 (some .boolean) (10 + n) [x_r (16 * 32 + 0)] (al, ro, fl (ml M [32] [S])) 0 0 (.inl (some (x_i t.1))) (al, ro, fl (ml M [32] [t.2]))) ∧ (∀ (M : Nat → xU)  (S : xU) (t : (Int × xU)), G12_rec n 2 S = some t → Cal g yX12_some cX12_some 3 (some .boolean) (10 + n) [x_r (16 * 32 + 0)] (al, ro, fl (ml M [32] [S])) 0 0 (.inl (some (x_i t.1))) (al, ro, fl (ml M [32] [t.2]))) := by
  intro n
  induction n with
  | zero => exact ⟨(fun M S t h => by cases h), (fun M S t h => by cases h), (fun M S t h => by cases h)⟩
  | succ n ih =>
    refine ⟨fun M S t h => ?_, fun M S t h => ?_, fun M S t h => ?_⟩
    · exact c_X12_atom_b hst hs (dn := 10 + n) (Nat.le_add_right _ _) (fun {M S t} q => ih.1 M S t q) (fun {M S t} q => ih.2.1 M S t q) (fun {M S t} q => ih.2.2 M S t q) (M := M) h
    · exact c_X12_every_b hst hs (dn := 10 + n) (Nat.le_add_right _ _) (fun {M S t} q => ih.1 M S t q) (fun {M S t} q => ih.2.1 M S t q) (fun {M S t} q => ih.2.2 M S t q) (M := M) h
    · exact c_X12_some_b hst hs (dn := 10 + n) (Nat.le_add_right _ _) (fun {M S t} q => ih.1 M S t q) (fun {M S t} q => ih.2.1 M S t q) (fun {M S t} q => ih.2.2 M S t q) (M := M) h
theorem c_X12_atom {g : xG} {al : List (Nat × Nat × Nat)} {ro : Nat → Nat → Option Nat} (hst : g.1.stackTraces = false) (hs : SH al ro) {M : Nat → xU}  {S : xU} {t : (Int × xU)} (hG : G12_atom S = some t) : Cal g yX12_atom cX12_atom 4 (some .boolean) 40 [x_r (16 * 32 + 0)] (al, ro, fl (ml M [32] [S])) 0 0 (.inl (some (x_i t.1))) (al, ro, fl (ml M [32] [t.2])) := (c_rec12 hst hs 30).1 M S t hG
theorem c_X12_every {g : xG} {al : List (Nat × Nat × Nat)} {ro : Nat → Nat → Option Nat} (hst : g.1.stackTraces = false) (hs : SH al ro) {M : Nat → xU}  {S : xU} {t : (Int × xU)} (hG : G12_every S = some t) : Cal g yX12_every cX12_every 3 (some .boolean) 40 [x_r (16 * 32 + 0)] (al, ro, fl (ml M [32] [S])) 0 0 (.inl (some (x_i t.1))) (al, ro, fl (ml M [32] [t.2])) := (c_rec12 hst hs 30).2.1 M S t hG
theorem c_X12_some {g : xG} {al : List (Nat × Nat × Nat)} {ro : Nat → Nat → Option Nat} (hst : g.1.stackTraces = false) (hs : SH al ro) {M : Nat → xU}  {S : xU} {t : (Int × xU)} (hG : G12_some S = some t) : Cal g yX12_some cX12_some 3 (some .boolean) 40 [x_r (16 * 32 + 0)] (al, ro, fl (ml M [32] [S])) 0 0 (.inl (some (x_i t.1))) (al, ro, fl (ml M [32] [t.2])) := (c_rec12 hst hs 30).2.2 M S t hG
set_option maxRecDepth 100000 in
set_option maxHeartbeats 4000000 in
theorem c_X10_isRight {g : xG} {al : List (Nat × Nat × Nat)} {ro : Nat → Nat → Option Nat} (hst : g.1.stackTraces = false) (hs : SH al ro) {M : Nat → xU} {T : xU}  {t : Int} (hG : G10_isRight T = some t) :
    Cal g yX10_isRight cX10_isRight 1 (some .boolean) 0 [x_r (16 * 2 + 0)] (al, ro, fl (ml M [2] [T])) 0 0 (.inl (some (x_i t))) (al, ro, fl (ml M [2] [T])) := by
  have hn : ([2] : List Nat).Nodup := by decide
  refine cal_of_ev (plainFor_of_name (by decide)) (x_c1 rfl) (Nat.le_of_ble_eq_true rfl) hst ?_
  show Ev g _ _ _ _ _ _ 0 [some (x_r (16 * 2 + 0))] [] (al, ro, fl (ml M [2] [T])) _ _ _ _
  rw [G10_isRight] at hG
  refine e_aloadn (pc := 0) (i := 0) dX10_isRight_0 rfl rfl ?_
  refine f_geti (pc := 1) (k := 0) (u := 2) (q := 0) dX10_isRight_1 xf10_18 (sa_2_0 hs) rfl hn rfl rfl (by decide) ?_
  show Ev g _ _ _ _ _ _ 4 [some (x_r (16 * 2 + 0))] [x_i (T 0 7)] (al, ro, fl (ml M [2] [T])) _ _ _ _
  refine e_iconst (pc := 4) dX10_isRight_4 (x_R rfl) ?_
  obtain ⟨v1, hr1, hG⟩ := x_bd1 hG
  have hjhr1 : Ev g yX10_isRight cX10_isRight 1 (some .boolean) [] 0 13 [some (x_r (16 * 2 + 0))] [x_i v1] (al, ro, fl (ml M [2] [T])) 0 0 (.inl (some (x_i t))) (al, ro, fl (ml M [2] [T])) := by
    obtain ⟨hc0, hG⟩ := x_gd_some hG
    cases hG
    exact (e_ireturn rfl dX10_isRight_13 (x_bool hc0).1)
  clear hG
  refine e_icmp_ne (pc := 5) (tgt := 12) dX10_isRight_5 (by decide) (fun hb => ?_) (fun hb => ?_)
  · rw [if_neg hb] at hr1
    refine e_iconst (pc := 12) dX10_isRight_12 (x_R rfl) ?_
    cases hr1
    exact hjhr1
  · rw [if_pos hb] at hr1
    refine e_iconst (pc := 8) dX10_isRight_8 (x_R rfl) ?_
    refine e_goto (pc := 9) (tgt := 13) dX10_isRight_9 (by decide) ?_
    cases hr1
    exact hjhr1
set_option maxRecDepth 100000 in
set_option maxHeartbeats 4000000 in
theorem c_X10_isWord {g : xG} {al : List (Nat × Nat × Nat)} {ro : Nat → Nat → Option Nat} (hst : g.1.stackTraces = false) (hs : SH al ro) {M : Nat → xU} {w : Nat} {T : xU} (hw : w < x_nS)  {t : Int} (hG : G10_isWord w T = some t) :
    Cal g yX10_isWord cX10_isWord 4 (some .boolean) 6 [x_r (16 * 2 + 0), x_r (x_s0 + w)] (al, ro, fl (ml M [2] [T])) 0 0 (.inl (some (x_i t))) (al, ro, fl (ml M [2] [T])) := by
  have hn : ([2] : List Nat).Nodup := by decide
  refine cal_of_ev (plainFor_of_name (by decide)) (x_c1 rfl) (Nat.le_of_ble_eq_true rfl) hst ?_
  show Ev g _ _ _ _ _ _ 0 [some (x_r (16 * 2 + 0)), some (x_r (x_s0 + w)), none, none] [] (al, ro, fl (ml M [2] [T])) _ _ _ _
  rw [G10_isWord] at hG
  refine e_aloadn (pc := 0) (i := 0) dX10_isWord_0 rfl rfl ?_
  refine f_geti (pc := 1) (k := 0) (u := 2) (q := 0) dX10_isWord_1 xf10_52 (sa_2_0 hs) rfl hn rfl rfl (by decide) ?_
  show Ev g _ _ _ _ _ _ 4 [some (x_r (16 * 2 + 0)), some (x_r (x_s0 + w)), none, none] [x_i (T 0 5)] (al, ro, fl (ml M [2] [T])) _ _ _ _
  refine e_iconst (pc := 4) dX10_isWord_4 (x_R rfl) ?_
  refine e_icmp_ne (pc := 5) (tgt := 24) dX10_isWord_5 (by decide) (fun hb => ?_) (fun hb => ?_)
  · rw [if_neg hb] at hG
    refine e_iconst (pc := 24) dX10_isWord_24 (x_R rfl) ?_
    cases hG
    exact (e_ireturn rfl dX10_isWord_25 (x_bool (by decide)).1)
  · rw [if_pos hb] at hG
    refine e_aloadn (pc := 8) (i := 1) dX10_isWord_8 rfl rfl ?_
    refine e_invV (pc := 9) (K1 := 0) (S1 := 0) (K := 0) (S := 0) (dd2 := 5) (av := []) (st := []) (id := x_s0 + w) dX10_isWord_9 xmX10_58 rfl (Or.inr ⟨w, hw, rfl, rfl⟩) (p_length hst hs hw) (by decide) (Nat.le_of_ble_eq_true rfl) (Or.inl rfl) ?_
    show Ev g _ _ _ _ _ _ 12 [some (x_r (16 * 2 + 0)), some (x_r (x_s0 + w)), none, none] [x_i ((x_sl.getD w 0 : Nat) : Int)] (al, ro, fl (ml M [2] [T])) _ _ _ _
    refine e_aloadn (pc := 12) (i := 0) dX10_isWord_12 rfl rfl ?_
    refine f_geti (pc := 13) (k := 0) (u := 2) (q := 0) dX10_isWord_13 xf10_29 (sa_2_0 hs) rfl hn rfl rfl (by decide) ?_
    show Ev g _ _ _ _ _ _ 16 [some (x_r (16 * 2 + 0)), some (x_r (x_s0 + w)), none, none] [x_i (T 0 4), x_i ((x_sl.getD w 0 : Nat) : Int)] (al, ro, fl (ml M [2] [T])) _ _ _ _
    refine e_aloadn (pc := 16) (i := 0) dX10_isWord_16 rfl rfl ?_
    refine f_geti (pc := 17) (k := 0) (u := 2) (q := 0) dX10_isWord_17 xf10_49 (sa_2_0 hs) rfl hn rfl rfl (by decide) ?_
    show Ev g _ _ _ _ _ _ 20 [some (x_r (16 * 2 + 0)), some (x_r (x_s0 + w)), none, none] [x_i (T 0 3), x_i (T 0 4), x_i ((x_sl.getD w 0 : Nat) : Int)] (al, ro, fl (ml M [2] [T])) _ _ _ _
    refine e_isub (pc := 20) dX10_isWord_20 ?_
    refine e_icmp_eq (pc := 21) (tgt := 26) dX10_isWord_21 (by decide) (fun hb => ?_) (fun hb => ?_)
    · rw [if_pos hb] at hG
      refine e_iconst (pc := 26) dX10_isWord_26 (x_R rfl) ?_
      refine e_istoren (pc := 27) (i := 2) dX10_isWord_27 rfl (by decide) rfl ?_
      show Ev g _ _ _ _ _ _ 28 [some (x_r (16 * 2 + 0)), some (x_r (x_s0 + w)), some (x_i 0), none] [] (al, ro, fl (ml M [2] [T])) _ _ _ _
      obtain ⟨r2, hl2, hG⟩ := x_lrd hG
      have hk2 : ∀ q : Unit, r2 = .inl q → Ev g yX10_isWord cX10_isWord 4 (some .boolean) [] 6 76 [some (x_r (16 * 2 + 0)), some (x_r (x_s0 + w)), none, none] [] (al, ro, fl (ml M [2] [T])) 0 0 (.inl (some (x_i t))) (al, ro, fl (ml M [2] [T])) := by
        intro q hq
        subst hq
        replace hG := x_lr_l hG
        replace hG := x_ed1 hG
        refine e_iconst (pc := 76) dX10_isWord_76 (x_R rfl) ?_
        cases hG
        exact (e_ireturn rfl dX10_isWord_77 (x_bool (by decide)).1)
      have hv2 : ∀ q : Int, r2 = .inr q → some q = some t := by
        intro q hq
        subst hq
        exact x_lr_r hG
      clear hG
      refine e_whl (G10_isWord_L28 w T) (fun z : Int => Ev g yX10_isWord cX10_isWord 4 (some .boolean) [] 6 28 [some (x_r (16 * 2 + 0)), some (x_r (x_s0 + w)), some (x_i z), none] [] (al, ro, fl (ml M [2] [T])) 0 0 (.inl (some (x_i t))) (al, ro, fl (ml M [2] [T]))) (fun q => q = r2) ?_ xFU 0 _ hl2 rfl
      intro z t2 hf2 hi2 hx2
      obtain ⟨v1, hzz⟩ : ∃ y, y = z := ⟨z, rfl⟩
      subst hzz
      rw [G10_isWord_L28] at hf2
      show Ev g _ _ _ _ _ _ 28 [some (x_r (16 * 2 + 0)), some (x_r (x_s0 + w)), some (x_i v1), none] [] (al, ro, fl (ml M [2] [T])) _ _ _ _
      refine e_iloadn (pc := 28) (i := 2) dX10_isWord_28 rfl rfl ?_
      refine e_aloadn (pc := 29) (i := 1) dX10_isWord_29 rfl rfl ?_
      refine e_invV (pc := 30) (K1 := 0) (S1 := 0) (K := 0) (S := 0) (dd2 := 5) (av := []) (st := [x_i v1]) (id := x_s0 + w) dX10_isWord_30 xmX10_58 rfl (Or.inr ⟨w, hw, rfl, rfl⟩) (p_length hst hs hw) (by decide) (Nat.le_of_ble_eq_true rfl) (Or.inl rfl) ?_
      show Ev g _ _ _ _ _ _ 33 [some (x_r (16 * 2 + 0)), some (x_r (x_s0 + w)), some (x_i v1), none] [x_i ((x_sl.getD w 0 : Nat) : Int), x_i v1] (al, ro, fl (ml M [2] [T])) _ _ _ _
      refine e_icmp_ge (pc := 33) (tgt := 76) dX10_isWord_33 (by decide) (fun hb => ?_) (fun hb => ?_)
      · rw [if_pos hb] at hf2
        cases hf2
        refine e_drop (i := 2) ?_
        have hh := hk2 _ (hx2 _ rfl).symm
        try dsimp only at hh
        exact hh
      · rw [if_neg hb] at hf2
        refine e_aloadn (pc := 36) (i := 0) dX10_isWord_36 rfl rfl ?_
        refine f_geti (pc := 37) (k := 0) (u := 2) (q := 0) dX10_isWord_37 xf10_49 (sa_2_0 hs) rfl hn rfl rfl (by decide) ?_
        show Ev g _ _ _ _ _ _ 40 [some (x_r (16 * 2 + 0)), some (x_r (x_s0 + w)), some (x_i v1), none] [x_i (T 0 3)] (al, ro, fl (ml M [2] [T])) _ _ _ _
        refine e_iloadn (pc := 40) (i := 2) dX10_isWord_40 rfl rfl ?_
        refine e_iadd (pc := 41) dX10_isWord_41 ?_
        refine e_istoren (pc := 42) (i := 3) dX10_isWord_42 rfl (by decide) rfl ?_
        show Ev g _ _ _ _ _ _ 43 [some (x_r (16 * 2 + 0)), some (x_r (x_s0 + w)), some (x_i v1), some (x_i (x_add (T 0 3) v1))] [] (al, ro, fl (ml M [2] [T])) _ _ _ _
        refine e_iloadn (pc := 43) (i := 3) dX10_isWord_43 rfl rfl ?_
        refine e_if_lt (pc := 44) (tgt := 68) dX10_isWord_44 (by decide) (fun hb => ?_) (fun hb => ?_)
        · rw [if_pos hb] at hf2
          refine e_iconst (pc := 68) dX10_isWord_68 (x_R rfl) ?_
          cases hf2
          have hz := hv2 _ (hx2 _ rfl).symm
          cases hz
          exact (e_ireturn rfl dX10_isWord_69 (x_bool (by decide)).1)
        · rw [if_neg hb] at hf2
          refine e_iloadn (pc := 47) (i := 3) dX10_isWord_47 rfl rfl ?_
          refine e_sipush (pc := 48) dX10_isWord_48 (by decide +kernel) (x_R rfl) ?_
          refine e_icmp_ge (pc := 51) (tgt := 68) dX10_isWord_51 (by decide) (fun hb => ?_) (fun hb => ?_)
          · rw [if_pos hb] at hf2
            refine e_iconst (pc := 68) dX10_isWord_68 (x_R rfl) ?_
            cases hf2
            have hz := hv2 _ (hx2 _ rfl).symm
            cases hz
            exact (e_ireturn rfl dX10_isWord_69 (x_bool (by decide)).1)
          · rw [if_neg hb] at hf2
            refine e_aloadn (pc := 54) (i := 1) dX10_isWord_54 rfl rfl ?_
            refine e_iloadn (pc := 55) (i := 2) dX10_isWord_55 rfl rfl ?_
            obtain ⟨hc0, hf2⟩ := x_gd_some hf2
            refine e_invV (pc := 56) (K1 := 0) (S1 := 0) (K := 0) (S := 0) (dd2 := 5) (av := [x_i v1]) (st := []) (id := x_s0 + w) dX10_isWord_56 xmX10_64 rfl (Or.inr ⟨w, hw, rfl, rfl⟩) (p_charAt hst hs hw hc0) (by decide) (Nat.le_of_ble_eq_true rfl) (Or.inl rfl) ?_
            show Ev g _ _ _ _ _ _ 59 [some (x_r (16 * 2 + 0)), some (x_r (x_s0 + w)), some (x_i v1), some (x_i (x_add (T 0 3) v1))] [x_i (x_ch w v1)] (al, ro, fl (ml M [2] [T])) _ _ _ _
            refine e_aloadn (pc := 59) (i := 0) dX10_isWord_59 rfl rfl ?_
            refine f_getr (pc := 60) (u := 2) (q := 0) dX10_isWord_60 xf10_9 (sa_2_0 hs) rfl (sr_2_0_0 hs) ?_
            refine e_iloadn (pc := 63) (i := 3) dX10_isWord_63 rfl rfl ?_
            obtain ⟨hc0, hf2⟩ := x_gd_some hf2
            refine f_iald (pc := 64) (k := 0) (u := 2) (q := 1) (len := 400) dX10_isWord_64 (sa_2_1 hs) hc0 hn rfl rfl (by decide) ?_
            show Ev g _ _ _ _ _ _ 65 [some (x_r (16 * 2 + 0)), some (x_r (x_s0 + w)), some (x_i v1), some (x_i (x_add (T 0 3) v1))] [x_i (T 1 ((x_add (T 0 3) v1)).toNat), x_i (x_ch w v1)] (al, ro, fl (ml M [2] [T])) _ _ _ _
            refine e_icmp_eq (pc := 65) (tgt := 70) dX10_isWord_65 (by decide) (fun hb => ?_) (fun hb => ?_)
            · rw [if_pos hb] at hf2
              refine e_iinc (pc := 70) dX10_isWord_70 rfl (by decide) rfl ?_
              show Ev g _ _ _ _ _ _ 73 [some (x_r (16 * 2 + 0)), some (x_r (x_s0 + w)), some (x_i (x_add v1 1)), some (x_i (x_add (T 0 3) v1))] [] (al, ro, fl (ml M [2] [T])) _ _ _ _
              refine e_goto (pc := 73) (tgt := 28) dX10_isWord_73 (by decide) ?_
              cases hf2
              refine e_drop (i := 3) ?_
              have hh := hi2 _ rfl
              try dsimp only at hh
              exact hh
            · rw [if_neg hb] at hf2
              refine e_iconst (pc := 68) dX10_isWord_68 (x_R rfl) ?_
              cases hf2
              have hz := hv2 _ (hx2 _ rfl).symm
              cases hz
              exact (e_ireturn rfl dX10_isWord_69 (x_bool (by decide)).1)
    · rw [if_neg hb] at hG
      refine e_iconst (pc := 24) dX10_isWord_24 (x_R rfl) ?_
      cases hG
      exact (e_ireturn rfl dX10_isWord_25 (x_bool (by decide)).1)
