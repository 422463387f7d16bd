set_option maxRecDepth 100000 in
set_option maxHeartbeats 4000000 in
theorem c_X4_strideOf {g : xG} {al : List (Nat × Nat × Nat)} {ro : Nat → Nat → Option Nat} (hst : g.1.stackTraces = false) (hs : SH al ro) {u : Nat} (hu : 3 ≤ u ∧ u ≤ 18) {M : Nat → xU} {a : Int} {C : xU} {La : xU}  {t : (Int × xU)} (hG : G4_strideOf a C La = some t) :
    Cal g yX4_strideOf cX4_strideOf 6 (some .int) 2 [x_r (16 * 19 + 0), x_r (16 * u + 0), x_i a] (al, ro, fl (ml M [u, 19] [C, La])) 0 0 (.inl (some (x_i t.1))) (al, ro, fl (ml M [u, 19] [C, t.2])) := by
  have hn : ([u, 19] : List Nat).Nodup := by simp <;> omega
  refine cal_of_ev (plainFor_of_name (by decide)) (x_c1 rfl) (Nat.le_of_ble_eq_true rfl) hst ?_
  show Ev g _ _ _ _ _ _ 0 [some (x_r (16 * 19 + 0)), some (x_r (16 * u + 0)), some (x_i a), none, none, none] [] (al, ro, fl (ml M [u, 19] [C, La])) _ _ _ _
  rw [G4_strideOf] at hG
  refine e_aloadn (pc := 0) (i := 1) dX4_strideOf_0 rfl rfl ?_
  refine e_iconst (pc := 1) dX4_strideOf_1 (x_R rfl) ?_
  refine e_iloadn (pc := 2) (i := 2) dX4_strideOf_2 rfl rfl ?_
  obtain ⟨v1, hq1, hG⟩ := x_bd1 hG
  refine e_invV (pc := 3) (K1 := 0) (S1 := 0) (K := 0) (S := 0) (dd2 := 0) (av := [x_i 1, x_i a]) (st := []) (id := 16 * u + 0) dX4_strideOf_3 xmX4_38 rfl (Or.inl ⟨1, 12, TX1, (sc_a0 hs hu), rfl, by decide⟩) (f_cal (M := M) (us2 := [u]) [0] hn rfl (And.intro rfl trivial) rfl rfl rfl (c_X1_of hst hs hu  hq1)) (by decide) (Nat.le_of_ble_eq_true rfl) (Or.inl rfl) ?_
  show Ev g _ _ _ _ _ _ 6 [some (x_r (16 * 19 + 0)), some (x_r (16 * u + 0)), some (x_i a), none, none, none] [x_i v1] (al, ro, fl (ml M [u, 19] [C, La])) _ _ _ _
  refine e_istoren (pc := 6) (i := 3) dX4_strideOf_6 rfl (by decide) rfl ?_
  show Ev g _ _ _ _ _ _ 7 [some (x_r (16 * 19 + 0)), some (x_r (16 * u + 0)), some (x_i a), some (x_i v1), none, none] [] (al, ro, fl (ml M [u, 19] [C, La])) _ _ _ _
  refine e_aloadn (pc := 7) (i := 0) dX4_strideOf_7 rfl rfl ?_
  refine f_geti (pc := 8) (k := 1) (u := 19) (q := 0) dX4_strideOf_8 xf4_27 (sa_19_0 hs) rfl hn rfl rfl (by decide) ?_
  show Ev g _ _ _ _ _ _ 11 [some (x_r (16 * 19 + 0)), some (x_r (16 * u + 0)), some (x_i a), some (x_i v1), none, none] [x_i (La 0 6)] (al, ro, fl (ml M [u, 19] [C, La])) _ _ _ _
  refine e_iconst (pc := 11) dX4_strideOf_11 (x_R rfl) ?_
  refine e_icmp_ne (pc := 12) (tgt := 53) dX4_strideOf_12 (by decide) (fun hb => ?_) (fun hb => ?_)
  · rw [if_neg hb] at hG
    refine e_aloadn (pc := 53) (i := 0) dX4_strideOf_53 rfl rfl ?_
    refine e_aloadn (pc := 54) (i := 1) dX4_strideOf_54 rfl rfl ?_
    refine e_iloadn (pc := 55) (i := 2) dX4_strideOf_55 rfl rfl ?_
    obtain ⟨La3, hq3, hG⟩ := x_bd1 hG
    refine e_invV (pc := 56) (K1 := 0) (S1 := 0) (K := 0) (S := 0) (dd2 := 1) (av := [x_r (16 * u + 0), x_i a]) (st := []) (id := 16 * 19 + 0) dX4_strideOf_56 xmX4_53 rfl (Or.inl ⟨3, 7, TX4, (sa_19_0 hs), rfl, by decide⟩) (f_cal (M := M) (us2 := [u, 19]) [0, 1] hn rfl (And.intro rfl (And.intro rfl trivial)) rfl rfl rfl (c_X4_lookAt hst hs hu  hq3)) (by decide) (Nat.le_of_ble_eq_true rfl) (Or.inl rfl) ?_
    show Ev g _ _ _ _ _ _ 59 [some (x_r (16 * 19 + 0)), some (x_r (16 * u + 0)), some (x_i a), some (x_i v1), none, none] [] (al, ro, fl (ml M [u, 19] [C, La3])) _ _ _ _
    refine e_iconst (pc := 59) dX4_strideOf_59 (x_R rfl) ?_
    refine e_istore (pc := 60) (i := 4) dX4_strideOf_60 (by decide) rfl ?_
    show Ev g _ _ _ _ _ _ 62 [some (x_r (16 * 19 + 0)), some (x_r (16 * u + 0)), some (x_i a), some (x_i v1), some (x_i 0), none] [] (al, ro, fl (ml M [u, 19] [C, La3])) _ _ _ _
    refine e_iconst (pc := 62) dX4_strideOf_62 (x_R rfl) ?_
    refine e_istore (pc := 63) (i := 5) dX4_strideOf_63 (by decide) rfl ?_
    show Ev g _ _ _ _ _ _ 65 [some (x_r (16 * 19 + 0)), some (x_r (16 * u + 0)), some (x_i a), some (x_i v1), some (x_i 0), some (x_i 0)] [] (al, ro, fl (ml M [u, 19] [C, La3])) _ _ _ _
    obtain ⟨r9, hl9, hG⟩ := x_lrd hG
    have hk9 : ∀ q : Int, r9 = .inl q → Ev g yX4_strideOf cX4_strideOf 6 (some .int) [] 2 157 [some (x_r (16 * 19 + 0)), some (x_r (16 * u + 0)), some (x_i a), some (x_i q), none, none] [] (al, ro, fl (ml M [u, 19] [C, La3])) 0 0 (.inl (some (x_i t.1))) (al, ro, fl (ml M [u, 19] [C, t.2])) := by
      intro q hq
      subst hq
      replace hG := x_lr_l hG
      obtain ⟨v8, hqq⟩ : ∃ z, z = q := ⟨q, rfl⟩
      subst hqq
      replace hG := x_ed1 hG
      refine e_bipush (pc := 157) dX4_strideOf_157 (by decide +kernel) (x_R rfl) ?_
      refine e_iconst (pc := 159) dX4_strideOf_159 (x_R rfl) ?_
      refine e_iloadn (pc := 160) (i := 3) dX4_strideOf_160 rfl rfl ?_
      refine e_invS (pc := 161) (K1 := 0) (S1 := 0) (K := 0) (S := 0) (dd2 := 0) (av := [x_i 0, x_i v8]) (st := [x_i 15]) dX4_strideOf_161 xmX4_48 rfl (p_max hst hs) (by decide) (Nat.le_of_ble_eq_true rfl) (Or.inl rfl) ?_
      show Ev g _ _ _ _ _ _ 164 [some (x_r (16 * 19 + 0)), some (x_r (16 * u + 0)), some (x_i a), some (x_i v8), none, none] [x_i (max 0 v8), x_i 15] (al, ro, fl (ml M [u, 19] [C, La3])) _ _ _ _
      refine e_invS (pc := 164) (K1 := 0) (S1 := 0) (K := 0) (S := 0) (dd2 := 0) (av := [x_i 15, x_i (max 0 v8)]) (st := []) dX4_strideOf_164 xmX4_61 rfl (p_min hst hs) (by decide) (Nat.le_of_ble_eq_true rfl) (Or.inl rfl) ?_
      show Ev g _ _ _ _ _ _ 167 [some (x_r (16 * 19 + 0)), some (x_r (16 * u + 0)), some (x_i a), some (x_i v8), none, none] [x_i (min 15 (max 0 v8))] (al, ro, fl (ml M [u, 19] [C, La3])) _ _ _ _
      cases hG
      exact (e_ireturn rfl dX4_strideOf_167 rfl)
    have hv9 : ∀ q : (Int × xU), r9 = .inr q → some q = some t := by
      intro q hq
      subst hq
      exact x_lr_r hG
    clear hG
    refine e_whl (G4_strideOf_L65 La3) (fun z : (Int × Int × Int) => Ev g yX4_strideOf cX4_strideOf 6 (some .int) [] 2 65 [some (x_r (16 * 19 + 0)), some (x_r (16 * u + 0)), some (x_i a), some (x_i z.1), some (x_i z.2.1), some (x_i z.2.2)] [] (al, ro, fl (ml M [u, 19] [C, La3])) 0 0 (.inl (some (x_i t.1))) (al, ro, fl (ml M [u, 19] [C, t.2]))) (fun q => q = r9) ?_ xFU (v1, 0, 0) _ hl9 rfl
    intro z t9 hf9 hi9 hx9
    obtain ⟨v5, v6, v7⟩ := z
    rw [G4_strideOf_L65] at hf9
    show Ev g _ _ _ _ _ _ 65 [some (x_r (16 * 19 + 0)), some (x_r (16 * u + 0)), some (x_i a), some (x_i v5), some (x_i v6), some (x_i v7)] [] (al, ro, fl (ml M [u, 19] [C, La3])) _ _ _ _
    refine e_iload (pc := 65) dX4_strideOf_65 rfl ?_
    refine e_aloadn (pc := 67) (i := 0) dX4_strideOf_67 rfl rfl ?_
    refine f_geti (pc := 68) (k := 1) (u := 19) (q := 0) dX4_strideOf_68 xf4_27 (sa_19_0 hs) rfl hn rfl rfl (by decide) ?_
    show Ev g _ _ _ _ _ _ 71 [some (x_r (16 * 19 + 0)), some (x_r (16 * u + 0)), some (x_i a), some (x_i v5), some (x_i v6), some (x_i v7)] [x_i (La3 0 6), x_i v7] (al, ro, fl (ml M [u, 19] [C, La3])) _ _ _ _
    refine e_icmp_ge (pc := 71) (tgt := 157) dX4_strideOf_71 (by decide) (fun hb => ?_) (fun hb => ?_)
    · rw [if_pos hb] at hf9
      cases hf9
      refine e_drop (i := 4) ?_
      refine e_drop (i := 5) ?_
      exact hk9 _ (hx9 _ rfl).symm
    · rw [if_neg hb] at hf9
      refine e_iload (pc := 74) dX4_strideOf_74 rfl ?_
      refine e_bipush (pc := 76) dX4_strideOf_76 (by decide +kernel) (x_R rfl) ?_
      refine e_icmp_ge (pc := 78) (tgt := 157) dX4_strideOf_78 (by decide) (fun hb => ?_) (fun hb => ?_)
      · rw [if_pos hb] at hf9
        cases hf9
        refine e_drop (i := 4) ?_
        refine e_drop (i := 5) ?_
        exact hk9 _ (hx9 _ rfl).symm
      · rw [if_neg hb] at hf9
        refine e_aloadn (pc := 81) (i := 0) dX4_strideOf_81 rfl rfl ?_
        refine e_iload (pc := 82) dX4_strideOf_82 rfl ?_
        refine e_aloadn (pc := 84) (i := 0) dX4_strideOf_84 rfl rfl ?_
        refine f_getr (pc := 85) (u := 19) (q := 0) dX4_strideOf_85 xf4_18 (sa_19_0 hs) rfl (sr_19_0_2 hs) ?_
        refine e_iload (pc := 88) dX4_strideOf_88 rfl ?_
        obtain ⟨hc0, hf9⟩ := x_gd_some hf9
        refine f_iald (pc := 90) (k := 1) (u := 19) (q := 3) (len := 12) dX4_strideOf_90 (sa_19_3 hs) hc0 hn rfl rfl (by decide) ?_
        show Ev g _ _ _ _ _ _ 91 [some (x_r (16 * 19 + 0)), some (x_r (16 * u + 0)), some (x_i a), some (x_i v5), some (x_i v6), some (x_i v7)] [x_i (La3 3 (v7).toNat), x_i v6, x_r (16 * 19 + 0)] (al, ro, fl (ml M [u, 19] [C, La3])) _ _ _ _
        obtain ⟨v11, hq11, hf9⟩ := x_bd1 hf9
        refine e_invV (pc := 91) (K1 := 0) (S1 := 0) (K := 0) (S := 0) (dd2 := 0) (av := [x_i v6, x_i (La3 3 (v7).toNat)]) (st := []) (id := 16 * 19 + 0) dX4_strideOf_91 xmX4_57 rfl (Or.inl ⟨3, 7, TX4, (sa_19_0 hs), rfl, by decide⟩) (f_cal (M := M) (us2 := [19]) [1] hn rfl (And.intro rfl trivial) rfl rfl rfl (c_X4_holds hst hs   hq11)) (by decide) (Nat.le_of_ble_eq_true rfl) (Or.inl rfl) ?_
        show Ev g _ _ _ _ _ _ 94 [some (x_r (16 * 19 + 0)), some (x_r (16 * u + 0)), some (x_i a), some (x_i v5), some (x_i v6), some (x_i v7)] [x_i v11] (al, ro, fl (ml M [u, 19] [C, La3])) _ _ _ _
        refine e_if_eq (pc := 94) (tgt := 142) dX4_strideOf_94 (by decide) (fun hb => ?_) (fun hb => ?_)
        · rw [if_pos hb] at hf9
          refine e_aloadn (pc := 142) (i := 0) dX4_strideOf_142 rfl rfl ?_
          refine f_getr (pc := 143) (u := 19) (q := 0) dX4_strideOf_143 xf4_18 (sa_19_0 hs) rfl (sr_19_0_2 hs) ?_
          refine e_iload (pc := 146) dX4_strideOf_146 rfl ?_
          obtain ⟨hc0, hf9⟩ := x_gd_some hf9
          refine f_iald (pc := 148) (k := 1) (u := 19) (q := 3) (len := 12) dX4_strideOf_148 (sa_19_3 hs) hc0 hn rfl rfl (by decide) ?_
          show Ev g _ _ _ _ _ _ 149 [some (x_r (16 * 19 + 0)), some (x_r (16 * u + 0)), some (x_i a), some (x_i v5), some (x_i v6), some (x_i v7)] [x_i (La3 3 (v7).toNat)] (al, ro, fl (ml M [u, 19] [C, La3])) _ _ _ _
          refine e_istore (pc := 149) (i := 4) dX4_strideOf_149 (by decide) rfl ?_
          show Ev g _ _ _ _ _ _ 151 [some (x_r (16 * 19 + 0)), some (x_r (16 * u + 0)), some (x_i a), some (x_i v5), some (x_i (La3 3 (v7).toNat)), some (x_i v7)] [] (al, ro, fl (ml M [u, 19] [C, La3])) _ _ _ _
          refine e_iinc (pc := 151) dX4_strideOf_151 rfl (by decide) rfl ?_
          show Ev g _ _ _ _ _ _ 154 [some (x_r (16 * 19 + 0)), some (x_r (16 * u + 0)), some (x_i a), some (x_i v5), some (x_i (La3 3 (v7).toNat)), some (x_i (x_add v7 1))] [] (al, ro, fl (ml M [u, 19] [C, La3])) _ _ _ _
          refine e_goto (pc := 154) (tgt := 65) dX4_strideOf_154 (by decide) ?_
          cases hf9
          exact hi9 _ rfl
        · rw [if_neg hb] at hf9
          refine e_aloadn (pc := 97) (i := 0) dX4_strideOf_97 rfl rfl ?_
          refine f_getr (pc := 98) (u := 19) (q := 0) dX4_strideOf_98 xf4_11 (sa_19_0 hs) rfl (sr_19_0_0 hs) ?_
          refine e_iload (pc := 101) dX4_strideOf_101 rfl ?_
          obtain ⟨hc0, hf9⟩ := x_gd_some hf9
          refine f_iald (pc := 103) (k := 1) (u := 19) (q := 1) (len := 12) dX4_strideOf_103 (sa_19_1 hs) hc0 hn rfl rfl (by decide) ?_
          show Ev g _ _ _ _ _ _ 104 [some (x_r (16 * 19 + 0)), some (x_r (16 * u + 0)), some (x_i a), some (x_i v5), some (x_i v6), some (x_i v7)] [x_i (La3 1 (v7).toNat)] (al, ro, fl (ml M [u, 19] [C, La3])) _ _ _ _
          refine e_iconst (pc := 104) dX4_strideOf_104 (x_R rfl) ?_
          refine e_icmp_ne (pc := 105) (tgt := 110) dX4_strideOf_105 (by decide) (fun hb => ?_) (fun hb => ?_)
          · rw [if_neg hb] at hf9
            refine e_iloadn (pc := 110) (i := 3) dX4_strideOf_110 rfl rfl ?_
            refine e_aloadn (pc := 111) (i := 0) dX4_strideOf_111 rfl rfl ?_
            refine f_getr (pc := 112) (u := 19) (q := 0) dX4_strideOf_112 xf4_11 (sa_19_0 hs) rfl (sr_19_0_0 hs) ?_
            refine e_iload (pc := 115) dX4_strideOf_115 rfl ?_
            obtain ⟨hc0, hf9⟩ := x_gd_some hf9
            refine f_iald (pc := 117) (k := 1) (u := 19) (q := 1) (len := 12) dX4_strideOf_117 (sa_19_1 hs) hc0 hn rfl rfl (by decide) ?_
            show Ev g _ _ _ _ _ _ 118 [some (x_r (16 * 19 + 0)), some (x_r (16 * u + 0)), some (x_i a), some (x_i v5), some (x_i v6), some (x_i v7)] [x_i (La3 1 (v7).toNat), x_i v5] (al, ro, fl (ml M [u, 19] [C, La3])) _ _ _ _
            refine e_iconst (pc := 118) dX4_strideOf_118 (x_R rfl) ?_
            obtain ⟨v13, hr13, hf9⟩ := x_bd1 hf9
            have hjhr13 : Ev g yX4_strideOf cX4_strideOf 6 (some .int) [] 2 140 [some (x_r (16 * 19 + 0)), some (x_r (16 * u + 0)), some (x_i a), some (x_i v5), some (x_i v6), some (x_i v7)] [x_i v13, x_i v5] (al, ro, fl (ml M [u, 19] [C, La3])) 0 0 (.inl (some (x_i t.1))) (al, ro, fl (ml M [u, 19] [C, t.2])) := by
              refine e_iadd (pc := 140) dX4_strideOf_140 ?_
              refine e_istoren (pc := 141) (i := 3) dX4_strideOf_141 rfl (by decide) rfl ?_
              show Ev g _ _ _ _ _ _ 142 [some (x_r (16 * 19 + 0)), some (x_r (16 * u + 0)), some (x_i a), some (x_i (x_add v5 v13)), some (x_i v6), some (x_i v7)] [] (al, ro, fl (ml M [u, 19] [C, La3])) _ _ _ _
              refine e_aloadn (pc := 142) (i := 0) dX4_strideOf_142 rfl rfl ?_
              refine f_getr (pc := 143) (u := 19) (q := 0) dX4_strideOf_143 xf4_18 (sa_19_0 hs) rfl (sr_19_0_2 hs) ?_
              refine e_iload (pc := 146) dX4_strideOf_146 rfl ?_
              obtain ⟨hc0, hf9⟩ := x_gd_some hf9
              refine f_iald (pc := 148) (k := 1) (u := 19) (q := 3) (len := 12) dX4_strideOf_148 (sa_19_3 hs) hc0 hn rfl rfl (by decide) ?_
              show Ev g _ _ _ _ _ _ 149 [some (x_r (16 * 19 + 0)), some (x_r (16 * u + 0)), some (x_i a), some (x_i (x_add v5 v13)), some (x_i v6), some (x_i v7)] [x_i (La3 3 (v7).toNat)] (al, ro, fl (ml M [u, 19] [C, La3])) _ _ _ _
              refine e_istore (pc := 149) (i := 4) dX4_strideOf_149 (by decide) rfl ?_
              show Ev g _ _ _ _ _ _ 151 [some (x_r (16 * 19 + 0)), some (x_r (16 * u + 0)), some (x_i a), some (x_i (x_add v5 v13)), some (x_i (La3 3 (v7).toNat)), some (x_i v7)] [] (al, ro, fl (ml M [u, 19] [C, La3])) _ _ _ _
              refine e_iinc (pc := 151) dX4_strideOf_151 rfl (by decide) rfl ?_
              show Ev g _ _ _ _ _ _ 154 [some (x_r (16 * 19 + 0)), some (x_r (16 * u + 0)), some (x_i a), some (x_i (x_add v5 v13)), some (x_i (La3 3 (v7).toNat)), some (x_i (x_add v7 1))] [] (al, ro, fl (ml M [u, 19] [C, La3])) _ _ _ _
              refine e_goto (pc := 154) (tgt := 65) dX4_strideOf_154 (by decide) ?_
              cases hf9
              exact hi9 _ rfl
            clear hf9
            refine e_icmp_ne (pc := 119) (tgt := 132) dX4_strideOf_119 (by decide) (fun hb => ?_) (fun hb => ?_)
            · rw [if_neg hb] at hr13
              refine e_aloadn (pc := 132) (i := 0) dX4_strideOf_132 rfl rfl ?_
              refine f_getr (pc := 133) (u := 19) (q := 0) dX4_strideOf_133 xf4_15 (sa_19_0 hs) rfl (sr_19_0_1 hs) ?_
              refine e_iload (pc := 136) dX4_strideOf_136 rfl ?_
              obtain ⟨hc0, hr13⟩ := x_gd_some hr13
              refine f_iald (pc := 138) (k := 1) (u := 19) (q := 2) (len := 12) dX4_strideOf_138 (sa_19_2 hs) hc0 hn rfl rfl (by decide) ?_
              show Ev g _ _ _ _ _ _ 139 [some (x_r (16 * 19 + 0)), some (x_r (16 * u + 0)), some (x_i a), some (x_i v5), some (x_i v6), some (x_i v7)] [x_i (La3 2 (v7).toNat), x_i v5] (al, ro, fl (ml M [u, 19] [C, La3])) _ _ _ _
              refine e_ineg (pc := 139) dX4_strideOf_139 ?_
              cases hr13
              exact hjhr13
            · rw [if_pos hb] at hr13
              refine e_aloadn (pc := 122) (i := 0) dX4_strideOf_122 rfl rfl ?_
              refine f_getr (pc := 123) (u := 19) (q := 0) dX4_strideOf_123 xf4_15 (sa_19_0 hs) rfl (sr_19_0_1 hs) ?_
              refine e_iload (pc := 126) dX4_strideOf_126 rfl ?_
              obtain ⟨hc0, hr13⟩ := x_gd_some hr13
              refine f_iald (pc := 128) (k := 1) (u := 19) (q := 2) (len := 12) dX4_strideOf_128 (sa_19_2 hs) hc0 hn rfl rfl (by decide) ?_
              show Ev g _ _ _ _ _ _ 129 [some (x_r (16 * 19 + 0)), some (x_r (16 * u + 0)), some (x_i a), some (x_i v5), some (x_i v6), some (x_i v7)] [x_i (La3 2 (v7).toNat), x_i v5] (al, ro, fl (ml M [u, 19] [C, La3])) _ _ _ _
              refine e_goto (pc := 129) (tgt := 140) dX4_strideOf_129 (by decide) ?_
              cases hr13
              exact hjhr13
          · rw [if_pos hb] at hf9
            refine e_iconst (pc := 108) dX4_strideOf_108 (x_R rfl) ?_
            cases hf9
            have hz := hv9 _ (hx9 _ rfl).symm
            cases hz
            exact (e_ireturn rfl dX4_strideOf_109 rfl)
  · rw [if_pos hb] at hG
    refine e_aloadn (pc := 15) (i := 1) dX4_strideOf_15 rfl rfl ?_
    refine e_aloadn (pc := 16) (i := 1) dX4_strideOf_16 rfl rfl ?_
    refine e_iconst (pc := 17) dX4_strideOf_17 (x_R rfl) ?_
    refine e_iloadn (pc := 18) (i := 2) dX4_strideOf_18 rfl rfl ?_
    obtain ⟨v15, hq15, hG⟩ := x_bd1 hG
    refine e_invV (pc := 19) (K1 := 0) (S1 := 0) (K := 0) (S := 0) (dd2 := 0) (av := [x_i 0, x_i a]) (st := [x_r (16 * u + 0)]) (id := 16 * u + 0) dX4_strideOf_19 xmX4_38 rfl (Or.inl ⟨1, 12, TX1, (sc_a0 hs hu), rfl, by decide⟩) (f_cal (M := M) (us2 := [u]) [0] hn rfl (And.intro rfl trivial) rfl rfl rfl (c_X1_of hst hs hu  hq15)) (by decide) (Nat.le_of_ble_eq_true rfl) (Or.inl rfl) ?_
    show Ev g _ _ _ _ _ _ 22 [some (x_r (16 * 19 + 0)), some (x_r (16 * u + 0)), some (x_i a), some (x_i v1), none, none] [x_i v15, x_r (16 * u + 0)] (al, ro, fl (ml M [u, 19] [C, La])) _ _ _ _
    obtain ⟨v17, hq17, hG⟩ := x_bd1 hG
    refine e_invV (pc := 22) (K1 := 0) (S1 := 0) (K := 0) (S := 0) (dd2 := 0) (av := [x_i v15]) (st := []) (id := 16 * u + 0) dX4_strideOf_22 xmX4_44 rfl (Or.inl ⟨1, 12, TX1, (sc_a0 hs hu), rfl, by decide⟩) (f_cal (M := M) (us2 := [u]) [0] hn rfl (And.intro rfl trivial) rfl rfl rfl (c_X1_seasonOf hst hs hu  hq17)) (by decide) (Nat.le_of_ble_eq_true rfl) (Or.inl rfl) ?_
    show Ev g _ _ _ _ _ _ 25 [some (x_r (16 * 19 + 0)), some (x_r (16 * u + 0)), some (x_i a), some (x_i v1), none, none] [x_i v17] (al, ro, fl (ml M [u, 19] [C, La])) _ _ _ _
    refine e_iconst (pc := 25) dX4_strideOf_25 (x_R rfl) ?_
    obtain ⟨v19, hr19, hG⟩ := x_bd1 hG
    have hjhr19 : Ev g yX4_strideOf cX4_strideOf 6 (some .int) [] 2 34 [some (x_r (16 * 19 + 0)), some (x_r (16 * u + 0)), some (x_i a), some (x_i v1), none, none] [x_i v19] (al, ro, fl (ml M [u, 19] [C, La])) 0 0 (.inl (some (x_i t.1))) (al, ro, fl (ml M [u, 19] [C, t.2])) := by
      refine e_istore (pc := 34) (i := 4) dX4_strideOf_34 (by decide) rfl ?_
      show Ev g _ _ _ _ _ _ 36 [some (x_r (16 * 19 + 0)), some (x_r (16 * u + 0)), some (x_i a), some (x_i v1), some (x_i v19), none] [] (al, ro, fl (ml M [u, 19] [C, La])) _ _ _ _
      refine e_iload (pc := 36) dX4_strideOf_36 rfl ?_
      obtain ⟨v21, hr21, hG⟩ := x_bd1 hG
      have hjhr21 : Ev g yX4_strideOf cX4_strideOf 6 (some .int) [] 2 52 [some (x_r (16 * 19 + 0)), some (x_r (16 * u + 0)), some (x_i a), some (x_i v1), some (x_i v19), none] [x_i v21] (al, ro, fl (ml M [u, 19] [C, La])) 0 0 (.inl (some (x_i t.1))) (al, ro, fl (ml M [u, 19] [C, t.2])) := by
        cases hG
        exact (e_ireturn rfl dX4_strideOf_52 rfl)
      clear hG
      refine e_if_eq (pc := 38) (tgt := 51) dX4_strideOf_38 (by decide) (fun hb => ?_) (fun hb => ?_)
      · rw [if_pos hb] at hr21
        refine e_iloadn (pc := 51) (i := 3) dX4_strideOf_51 rfl rfl ?_
        cases hr21
        exact hjhr21
      · rw [if_neg hb] at hr21
        refine e_iconst (pc := 41) dX4_strideOf_41 (x_R rfl) ?_
        refine e_iloadn (pc := 42) (i := 3) dX4_strideOf_42 rfl rfl ?_
        refine e_iconst (pc := 43) dX4_strideOf_43 (x_R rfl) ?_
        refine e_isub (pc := 44) dX4_strideOf_44 ?_
        refine e_invS (pc := 45) (K1 := 0) (S1 := 0) (K := 0) (S := 0) (dd2 := 0) (av := [x_i 0, x_i (x_sub v1 1)]) (st := []) dX4_strideOf_45 xmX4_48 rfl (p_max hst hs) (by decide) (Nat.le_of_ble_eq_true rfl) (Or.inl rfl) ?_
        show Ev g _ _ _ _ _ _ 48 [some (x_r (16 * 19 + 0)), some (x_r (16 * u + 0)), some (x_i a), some (x_i v1), some (x_i v19), none] [x_i (max 0 (x_sub v1 1))] (al, ro, fl (ml M [u, 19] [C, La])) _ _ _ _
        refine e_goto (pc := 48) (tgt := 52) dX4_strideOf_48 (by decide) ?_
        cases hr21
        exact hjhr21
    clear hG
    refine e_icmp_ne (pc := 26) (tgt := 33) dX4_strideOf_26 (by decide) (fun hb => ?_) (fun hb => ?_)
    · rw [if_neg hb] at hr19
      refine e_iconst (pc := 33) dX4_strideOf_33 (x_R rfl) ?_
      cases hr19
      exact hjhr19
    · rw [if_pos hb] at hr19
      refine e_iconst (pc := 29) dX4_strideOf_29 (x_R rfl) ?_
      refine e_goto (pc := 30) (tgt := 34) dX4_strideOf_30 (by decide) ?_
      cases hr19
      exact hjhr19
set_option maxRecDepth 100000 in
set_option maxHeartbeats 4000000 in
theorem c_X6_add {g : xG} {al : List (Nat × Nat × Nat)} {ro : Nat → Nat → Option Nat} (hst : g.1.stackTraces = false) (hs : SH al ro) {u : Nat} (hu : 3 ≤ u ∧ u ≤ 18) {M : Nat → xU} {a : Int} {b : Int} {c : Int} {d : Int} {e : Int} {C : xU}  {t : xU} (hG : G6_add a b c d e C = some t) :
    Cal g yX6_add cX6_add 6 none 1 [x_r (16 * u + 3), x_i a, x_i b, x_i c, x_i d, x_i e] (al, ro, fl (ml M [u] [C])) 0 0 (.inl none) (al, ro, fl (ml M [u] [t])) := by
  have hn : ([u] : List Nat).Nodup := by simp
  refine cal_of_ev (plainFor_of_name (by decide)) (x_c1 rfl) (Nat.le_of_ble_eq_true rfl) hst ?_
  show Ev g _ _ _ _ _ _ 0 [some (x_r (16 * u + 3)), some (x_i a), some (x_i b), some (x_i c), some (x_i d), some (x_i e)] [] (al, ro, fl (ml M [u] [C])) _ _ _ _
  rw [G6_add] at hG
  refine e_aloadn (pc := 0) (i := 0) dX6_add_0 rfl rfl ?_
  refine f_geti (pc := 1) (k := 0) (u := u) (q := 3) dX6_add_1 xf6_23 (sc_a3 hs hu) rfl hn rfl rfl (by decide) ?_
  show Ev g _ _ _ _ _ _ 4 [some (x_r (16 * u + 3)), some (x_i a), some (x_i b), some (x_i c), some (x_i d), some (x_i e)] [x_i (C 3 2)] (al, ro, fl (ml M [u] [C])) _ _ _ _
  obtain ⟨C1, hr1, hG⟩ := x_bd1 hG
  have hjhr1 : Ev g yX6_add cX6_add 6 none [] 1 75 [some (x_r (16 * u + 3)), some (x_i a), some (x_i b), some (x_i c), some (x_i d), some (x_i e)] [] (al, ro, fl (ml M [u] [C1])) 0 0 (.inl none) (al, ro, fl (ml M [u] [t])) := by
    cases hG
    exact (e_return rfl dX6_add_75)
  clear hG
  refine e_if_lt (pc := 4) (tgt := 75) dX6_add_4 (by decide) (fun hb => ?_) (fun hb => ?_)
  · rw [if_pos hb] at hr1
    cases hr1
    exact hjhr1
  · rw [if_neg hb] at hr1
    refine e_aloadn (pc := 7) (i := 0) dX6_add_7 rfl rfl ?_
    refine f_geti (pc := 8) (k := 0) (u := u) (q := 3) dX6_add_8 xf6_23 (sc_a3 hs hu) rfl hn rfl rfl (by decide) ?_
    show Ev g _ _ _ _ _ _ 11 [some (x_r (16 * u + 3)), some (x_i a), some (x_i b), some (x_i c), some (x_i d), some (x_i e)] [x_i (C 3 2)] (al, ro, fl (ml M [u] [C])) _ _ _ _
    refine e_bipush (pc := 11) dX6_add_11 (by decide +kernel) (x_R rfl) ?_
    refine e_icmp_ge (pc := 13) (tgt := 75) dX6_add_13 (by decide) (fun hb => ?_) (fun hb => ?_)
    · rw [if_pos hb] at hr1
      cases hr1
      exact hjhr1
    · rw [if_neg hb] at hr1
      refine e_aloadn (pc := 16) (i := 0) dX6_add_16 rfl rfl ?_
      refine f_getr (pc := 17) (u := u) (q := 3) dX6_add_17 xf6_11 (sc_a3 hs hu) rfl (sc_r3_0 hs hu) ?_
      refine e_aloadn (pc := 20) (i := 0) dX6_add_20 rfl rfl ?_
      refine f_geti (pc := 21) (k := 0) (u := u) (q := 3) dX6_add_21 xf6_23 (sc_a3 hs hu) rfl hn rfl rfl (by decide) ?_
      show Ev g _ _ _ _ _ _ 24 [some (x_r (16 * u + 3)), some (x_i a), some (x_i b), some (x_i c), some (x_i d), some (x_i e)] [x_i (C 3 2), x_r (16 * u + 4)] (al, ro, fl (ml M [u] [C])) _ _ _ _
      refine e_iloadn (pc := 24) (i := 1) dX6_add_24 rfl rfl ?_
      refine e_bipush (pc := 25) dX6_add_25 (by decide +kernel) (x_R rfl) ?_
      refine e_ishl (pc := 27) dX6_add_27 ?_
      refine e_iloadn (pc := 28) (i := 2) dX6_add_28 rfl rfl ?_
      refine e_bipush (pc := 29) dX6_add_29 (by decide +kernel) (x_R rfl) ?_
      refine e_ishl (pc := 31) dX6_add_31 ?_
      refine e_ior (pc := 32) dX6_add_32 ?_
      refine e_iloadn (pc := 33) (i := 3) dX6_add_33 rfl rfl ?_
      refine e_bipush (pc := 34) dX6_add_34 (by decide +kernel) (x_R rfl) ?_
      refine e_ishl (pc := 36) dX6_add_36 ?_
      refine e_ior (pc := 37) dX6_add_37 ?_
      refine e_iload (pc := 38) dX6_add_38 rfl ?_
      refine e_iconst (pc := 40) dX6_add_40 (x_R rfl) ?_
      refine e_ishl (pc := 41) dX6_add_41 ?_
      refine e_ior (pc := 42) dX6_add_42 ?_
      refine e_iload (pc := 43) dX6_add_43 rfl ?_
      refine e_ior (pc := 45) dX6_add_45 ?_
      obtain ⟨hc0, hr1⟩ := x_gd_some hr1
      refine f_iast (pc := 46) (k := 0) (u := u) (q := 4) (len := 60) dX6_add_46 (sc_a4 hs hu) hc0 hn rfl rfl rfl (by decide) ?_
      show Ev g _ _ _ _ _ _ 47 [some (x_r (16 * u + 3)), some (x_i a), some (x_i b), some (x_i c), some (x_i d), some (x_i e)] [] (al, ro, fl (ml M [u] [(x_up C 4 ((C 3 2)).toNat (x_or (x_or (x_or (x_or (x_shl a 13) (x_shl b 8)) (x_shl c 7)) (x_shl d 4)) e))])) _ _ _ _
      refine e_aloadn (pc := 47) (i := 0) dX6_add_47 rfl rfl ?_
      refine e_aloadn (pc := 48) (i := 0) dX6_add_48 rfl rfl ?_
      refine f_geti (pc := 49) (k := 0) (u := u) (q := 3) dX6_add_49 xf6_23 (sc_a3 hs hu) rfl hn rfl rfl (by decide) ?_
      show Ev g _ _ _ _ _ _ 52 [some (x_r (16 * u + 3)), some (x_i a), some (x_i b), some (x_i c), some (x_i d), some (x_i e)] [x_i ((x_up C 4 ((C 3 2)).toNat (x_or (x_or (x_or (x_or (x_shl a 13) (x_shl b 8)) (x_shl c 7)) (x_shl d 4)) e)) 3 2), x_r (16 * u + 3)] (al, ro, fl (ml M [u] [(x_up C 4 ((C 3 2)).toNat (x_or (x_or (x_or (x_or (x_shl a 13) (x_shl b 8)) (x_shl c 7)) (x_shl d 4)) e))])) _ _ _ _
      refine e_iconst (pc := 52) dX6_add_52 (x_R rfl) ?_
      refine e_iadd (pc := 53) dX6_add_53 ?_
      refine e_bipush (pc := 54) dX6_add_54 (by decide +kernel) (x_R rfl) ?_
      refine e_irem (pc := 56) dX6_add_56 (by decide) ?_
      refine f_puti (pc := 57) (k := 0) (u := u) (q := 3) dX6_add_57 xf6_23 xw4_2 (sc_a3 hs hu) hn rfl rfl rfl (by decide) ?_
      show Ev g _ _ _ _ _ _ 60 [some (x_r (16 * u + 3)), some (x_i a), some (x_i b), some (x_i c), some (x_i d), some (x_i e)] [] (al, ro, fl (ml M [u] [(x_up (x_up C 4 ((C 3 2)).toNat (x_or (x_or (x_or (x_or (x_shl a 13) (x_shl b 8)) (x_shl c 7)) (x_shl d 4)) e)) 3 2 (x_rem (x_add ((x_up C 4 ((C 3 2)).toNat (x_or (x_or (x_or (x_or (x_shl a 13) (x_shl b 8)) (x_shl c 7)) (x_shl d 4)) e)) 3 2) 1) 60))])) _ _ _ _
      refine e_aloadn (pc := 60) (i := 0) dX6_add_60 rfl rfl ?_
      refine e_bipush (pc := 61) dX6_add_61 (by decide +kernel) (x_R rfl) ?_
      refine e_aloadn (pc := 63) (i := 0) dX6_add_63 rfl rfl ?_
      refine f_geti (pc := 64) (k := 0) (u := u) (q := 3) dX6_add_64 xf6_19 (sc_a3 hs hu) rfl hn rfl rfl (by decide) ?_
      show Ev g _ _ _ _ _ _ 67 [some (x_r (16 * u + 3)), some (x_i a), some (x_i b), some (x_i c), some (x_i d), some (x_i e)] [x_i ((x_up (x_up C 4 ((C 3 2)).toNat (x_or (x_or (x_or (x_or (x_shl a 13) (x_shl b 8)) (x_shl c 7)) (x_shl d 4)) e)) 3 2 (x_rem (x_add ((x_up C 4 ((C 3 2)).toNat (x_or (x_or (x_or (x_or (x_shl a 13) (x_shl b 8)) (x_shl c 7)) (x_shl d 4)) e)) 3 2) 1) 60)) 3 1), x_i 60, x_r (16 * u + 3)] (al, ro, fl (ml M [u] [(x_up (x_up C 4 ((C 3 2)).toNat (x_or (x_or (x_or (x_or (x_shl a 13) (x_shl b 8)) (x_shl c 7)) (x_shl d 4)) e)) 3 2 (x_rem (x_add ((x_up C 4 ((C 3 2)).toNat (x_or (x_or (x_or (x_or (x_shl a 13) (x_shl b 8)) (x_shl c 7)) (x_shl d 4)) e)) 3 2) 1) 60))])) _ _ _ _
      refine e_iconst (pc := 67) dX6_add_67 (x_R rfl) ?_
      refine e_iadd (pc := 68) dX6_add_68 ?_
      refine e_invS (pc := 69) (K1 := 0) (S1 := 0) (K := 0) (S := 0) (dd2 := 0) (av := [x_i 60, x_i (x_add ((x_up (x_up C 4 ((C 3 2)).toNat (x_or (x_or (x_or (x_or (x_shl a 13) (x_shl b 8)) (x_shl c 7)) (x_shl d 4)) e)) 3 2 (x_rem (x_add ((x_up C 4 ((C 3 2)).toNat (x_or (x_or (x_or (x_or (x_shl a 13) (x_shl b 8)) (x_shl c 7)) (x_shl d 4)) e)) 3 2) 1) 60)) 3 1) 1)]) (st := [x_r (16 * u + 3)]) dX6_add_69 xmX6_26 rfl (p_min hst hs) (by decide) (Nat.le_of_ble_eq_true rfl) (Or.inl rfl) ?_
      show Ev g _ _ _ _ _ _ 72 [some (x_r (16 * u + 3)), some (x_i a), some (x_i b), some (x_i c), some (x_i d), some (x_i e)] [x_i (min 60 (x_add ((x_up (x_up C 4 ((C 3 2)).toNat (x_or (x_or (x_or (x_or (x_shl a 13) (x_shl b 8)) (x_shl c 7)) (x_shl d 4)) e)) 3 2 (x_rem (x_add ((x_up C 4 ((C 3 2)).toNat (x_or (x_or (x_or (x_or (x_shl a 13) (x_shl b 8)) (x_shl c 7)) (x_shl d 4)) e)) 3 2) 1) 60)) 3 1) 1)), x_r (16 * u + 3)] (al, ro, fl (ml M [u] [(x_up (x_up C 4 ((C 3 2)).toNat (x_or (x_or (x_or (x_or (x_shl a 13) (x_shl b 8)) (x_shl c 7)) (x_shl d 4)) e)) 3 2 (x_rem (x_add ((x_up C 4 ((C 3 2)).toNat (x_or (x_or (x_or (x_or (x_shl a 13) (x_shl b 8)) (x_shl c 7)) (x_shl d 4)) e)) 3 2) 1) 60))])) _ _ _ _
      refine f_puti (pc := 72) (k := 0) (u := u) (q := 3) dX6_add_72 xf6_19 xw4_1 (sc_a3 hs hu) hn rfl rfl rfl (by decide) ?_
      show Ev g _ _ _ _ _ _ 75 [some (x_r (16 * u + 3)), some (x_i a), some (x_i b), some (x_i c), some (x_i d), some (x_i e)] [] (al, ro, fl (ml M [u] [(x_up (x_up (x_up C 4 ((C 3 2)).toNat (x_or (x_or (x_or (x_or (x_shl a 13) (x_shl b 8)) (x_shl c 7)) (x_shl d 4)) e)) 3 2 (x_rem (x_add ((x_up C 4 ((C 3 2)).toNat (x_or (x_or (x_or (x_or (x_shl a 13) (x_shl b 8)) (x_shl c 7)) (x_shl d 4)) e)) 3 2) 1) 60)) 3 1 (min 60 (x_add ((x_up (x_up C 4 ((C 3 2)).toNat (x_or (x_or (x_or (x_or (x_shl a 13) (x_shl b 8)) (x_shl c 7)) (x_shl d 4)) e)) 3 2 (x_rem (x_add ((x_up C 4 ((C 3 2)).toNat (x_or (x_or (x_or (x_or (x_shl a 13) (x_shl b 8)) (x_shl c 7)) (x_shl d 4)) e)) 3 2) 1) 60)) 3 1) 1)))])) _ _ _ _
      cases hr1
      exact hjhr1
set_option maxRecDepth 100000 in
set_option maxHeartbeats 4000000 in
theorem c_X1_goOn {g : xG} {al : List (Nat × Nat × Nat)} {ro : Nat → Nat → Option Nat} (hst : g.1.stackTraces = false) (hs : SH al ro) {u : Nat} (hu : 3 ≤ u ∧ u ≤ 18) {M : Nat → xU} {a : Int} {C : xU} {La : xU}  {t : (xU × xU)} (hG : G1_goOn a C La = some t) :
    Cal g yX1_goOn cX1_goOn 4 none 3 [x_r (16 * u + 0), x_i a, x_r (16 * 19 + 0)] (al, ro, fl (ml M [u, 19] [C, La])) 0 0 (.inl none) (al, ro, fl (ml M [u, 19] [t.1, t.2])) := by
  have hn : ([u, 19] : List Nat).Nodup := by simp <;> omega
  refine cal_of_ev (plainFor_of_name (by decide)) (x_c1 rfl) (Nat.le_of_ble_eq_true rfl) hst ?_
  show Ev g _ _ _ _ _ _ 0 [some (x_r (16 * u + 0)), some (x_i a), some (x_r (16 * 19 + 0)), none] [] (al, ro, fl (ml M [u, 19] [C, La])) _ _ _ _
  rw [G1_goOn] at hG
  refine e_aloadn (pc := 0) (i := 0) dX1_goOn_0 rfl rfl ?_
  refine e_iloadn (pc := 1) (i := 1) dX1_goOn_1 rfl rfl ?_
  obtain ⟨v1, hq1, hG⟩ := x_bd1 hG
  refine e_invV (pc := 2) (K1 := 0) (S1 := 0) (K := 0) (S := 0) (dd2 := 1) (av := [x_i a]) (st := []) (id := 16 * u + 0) dX1_goOn_2 xmX1_122 rfl (Or.inl ⟨1, 12, TX1, (sc_a0 hs hu), rfl, by decide⟩) (f_cal (M := M) (us2 := [u]) [0] hn rfl (And.intro rfl trivial) rfl rfl rfl (c_X1_isLost hst hs hu  hq1)) (by decide) (Nat.le_of_ble_eq_true rfl) (Or.inl rfl) ?_
  show Ev g _ _ _ _ _ _ 5 [some (x_r (16 * u + 0)), some (x_i a), some (x_r (16 * 19 + 0)), none] [x_i v1] (al, ro, fl (ml M [u, 19] [C, La])) _ _ _ _
  refine e_if_eq (pc := 5) (tgt := 23) dX1_goOn_5 (by decide) (fun hb => ?_) (fun hb => ?_)
  · rw [if_pos hb] at hG
    refine e_aloadn (pc := 23) (i := 0) dX1_goOn_23 rfl rfl ?_
    refine e_iconst (pc := 24) dX1_goOn_24 (x_R rfl) ?_
    refine e_iloadn (pc := 25) (i := 1) dX1_goOn_25 rfl rfl ?_
    obtain ⟨v3, hq3, hG⟩ := x_bd1 hG
    refine e_invV (pc := 26) (K1 := 0) (S1 := 0) (K := 0) (S := 0) (dd2 := 0) (av := [x_i 0, x_i a]) (st := []) (id := 16 * u + 0) dX1_goOn_26 xmX1_79 rfl (Or.inl ⟨1, 12, TX1, (sc_a0 hs hu), rfl, by decide⟩) (f_cal (M := M) (us2 := [u]) [0] hn rfl (And.intro rfl trivial) rfl rfl rfl (c_X1_of hst hs hu  hq3)) (by decide) (Nat.le_of_ble_eq_true rfl) (Or.inl rfl) ?_
    show Ev g _ _ _ _ _ _ 29 [some (x_r (16 * u + 0)), some (x_i a), some (x_r (16 * 19 + 0)), none] [x_i v3] (al, ro, fl (ml M [u, 19] [C, La])) _ _ _ _
    refine e_aloadn (pc := 29) (i := 2) dX1_goOn_29 rfl rfl ?_
    refine e_aloadn (pc := 30) (i := 0) dX1_goOn_30 rfl rfl ?_
    refine e_iloadn (pc := 31) (i := 1) dX1_goOn_31 rfl rfl ?_
    obtain ⟨v5, La6, hq6, hG⟩ := x_bd2 hG
    refine e_invV (pc := 32) (K1 := 0) (S1 := 0) (K := 0) (S := 0) (dd2 := 2) (av := [x_r (16 * u + 0), x_i a]) (st := [x_i v3]) (id := 16 * 19 + 0) dX1_goOn_32 xmX1_126 rfl (Or.inl ⟨3, 7, TX4, (sa_19_0 hs), rfl, by decide⟩) (f_cal (M := M) (us2 := [u, 19]) [0, 1] hn rfl (And.intro rfl (And.intro rfl trivial)) rfl rfl rfl (c_X4_strideOf hst hs hu  hq6)) (by decide) (Nat.le_of_ble_eq_true rfl) (Or.inl rfl) ?_
    show Ev g _ _ _ _ _ _ 35 [some (x_r (16 * u + 0)), some (x_i a), some (x_r (16 * 19 + 0)), none] [x_i v5, x_i v3] (al, ro, fl (ml M [u, 19] [C, La6])) _ _ _ _
    refine e_iadd (pc := 35) dX1_goOn_35 ?_
    refine e_istoren (pc := 36) (i := 3) dX1_goOn_36 rfl (by decide) rfl ?_
    show Ev g _ _ _ _ _ _ 37 [some (x_r (16 * u + 0)), some (x_i a), some (x_r (16 * 19 + 0)), some (x_i (x_add v3 v5))] [] (al, ro, fl (ml M [u, 19] [C, La6])) _ _ _ _
    refine e_aloadn (pc := 37) (i := 0) dX1_goOn_37 rfl rfl ?_
    refine e_iconst (pc := 38) dX1_goOn_38 (x_R rfl) ?_
    refine e_iloadn (pc := 39) (i := 1) dX1_goOn_39 rfl rfl ?_
    refine e_iloadn (pc := 40) (i := 3) dX1_goOn_40 rfl rfl ?_
    refine e_bipush (pc := 41) dX1_goOn_41 (by decide +kernel) (x_R rfl) ?_
    refine e_irem (pc := 43) dX1_goOn_43 (by decide) ?_
    obtain ⟨C8, hq8, hG⟩ := x_bd1 hG
    refine e_invV (pc := 44) (K1 := 0) (S1 := 0) (K := 0) (S := 0) (dd2 := 0) (av := [x_i 0, x_i a, x_i (x_rem (x_add v3 v5) 16)]) (st := []) (id := 16 * u + 0) dX1_goOn_44 xmX1_75 rfl (Or.inl ⟨1, 12, TX1, (sc_a0 hs hu), rfl, by decide⟩) (f_cal (M := M) (us2 := [u]) [0] hn rfl (And.intro rfl trivial) rfl rfl rfl (c_X1_put hst hs hu  hq8)) (by decide) (Nat.le_of_ble_eq_true rfl) (Or.inl rfl) ?_
    show Ev g _ _ _ _ _ _ 47 [some (x_r (16 * u + 0)), some (x_i a), some (x_r (16 * 19 + 0)), some (x_i (x_add v3 v5))] [] (al, ro, fl (ml M [u, 19] [C8, La6])) _ _ _ _
    refine e_iloadn (pc := 47) (i := 3) dX1_goOn_47 rfl rfl ?_
    refine e_bipush (pc := 48) dX1_goOn_48 (by decide +kernel) (x_R rfl) ?_
    obtain ⟨C10, hr10, hG⟩ := x_bd1 hG
    have hjhr10 : Ev g yX1_goOn cX1_goOn 4 none [] 3 96 [some (x_r (16 * u + 0)), some (x_i a), some (x_r (16 * 19 + 0)), some (x_i (x_add v3 v5))] [] (al, ro, fl (ml M [u, 19] [C10, La6])) 0 0 (.inl none) (al, ro, fl (ml M [u, 19] [t.1, t.2])) := by
      cases hG
      exact (e_return rfl dX1_goOn_96)
    clear hG
    refine e_icmp_lt (pc := 50) (tgt := 96) dX1_goOn_50 (by decide) (fun hb => ?_) (fun hb => ?_)
    · rw [if_pos hb] at hr10
      cases hr10
      exact hjhr10
    · rw [if_neg hb] at hr10
      refine e_aloadn (pc := 53) (i := 0) dX1_goOn_53 rfl rfl ?_
      refine e_bipush (pc := 54) dX1_goOn_54 (by decide +kernel) (x_R rfl) ?_
      refine e_iloadn (pc := 56) (i := 1) dX1_goOn_56 rfl rfl ?_
      refine e_sipush (pc := 57) dX1_goOn_57 (by decide +kernel) (x_R rfl) ?_
      refine e_aloadn (pc := 60) (i := 0) dX1_goOn_60 rfl rfl ?_
      refine e_bipush (pc := 61) dX1_goOn_61 (by decide +kernel) (x_R rfl) ?_
      refine e_iloadn (pc := 63) (i := 1) dX1_goOn_63 rfl rfl ?_
      obtain ⟨v12, hq12, hr10⟩ := x_bd1 hr10
      refine e_invV (pc := 64) (K1 := 0) (S1 := 0) (K := 0) (S := 0) (dd2 := 0) (av := [x_i 7, x_i a]) (st := [x_i 999, x_i a, x_i 7, x_r (16 * u + 0)]) (id := 16 * u + 0) dX1_goOn_64 xmX1_79 rfl (Or.inl ⟨1, 12, TX1, (sc_a0 hs hu), rfl, by decide⟩) (f_cal (M := M) (us2 := [u]) [0] hn rfl (And.intro rfl trivial) rfl rfl rfl (c_X1_of hst hs hu  hq12)) (by decide) (Nat.le_of_ble_eq_true rfl) (Or.inl rfl) ?_
      show Ev g _ _ _ _ _ _ 67 [some (x_r (16 * u + 0)), some (x_i a), some (x_r (16 * 19 + 0)), some (x_i (x_add v3 v5))] [x_i v12, x_i 999, x_i a, x_i 7, x_r (16 * u + 0)] (al, ro, fl (ml M [u, 19] [C8, La6])) _ _ _ _
      refine e_iconst (pc := 67) dX1_goOn_67 (x_R rfl) ?_
      refine e_iadd (pc := 68) dX1_goOn_68 ?_
      refine e_invS (pc := 69) (K1 := 0) (S1 := 0) (K := 0) (S := 0) (dd2 := 0) (av := [x_i 999, x_i (x_add v12 1)]) (st := [x_i a, x_i 7, x_r (16 * u + 0)]) dX1_goOn_69 xmX1_65 rfl (p_min hst hs) (by decide) (Nat.le_of_ble_eq_true rfl) (Or.inl rfl) ?_
      show Ev g _ _ _ _ _ _ 72 [some (x_r (16 * u + 0)), some (x_i a), some (x_r (16 * 19 + 0)), some (x_i (x_add v3 v5))] [x_i (min 999 (x_add v12 1)), x_i a, x_i 7, x_r (16 * u + 0)] (al, ro, fl (ml M [u, 19] [C8, La6])) _ _ _ _
      obtain ⟨C14, hq14, hr10⟩ := x_bd1 hr10
      refine e_invV (pc := 72) (K1 := 0) (S1 := 0) (K := 0) (S := 0) (dd2 := 0) (av := [x_i 7, x_i a, x_i (min 999 (x_add v12 1))]) (st := []) (id := 16 * u + 0) dX1_goOn_72 xmX1_75 rfl (Or.inl ⟨1, 12, TX1, (sc_a0 hs hu), rfl, by decide⟩) (f_cal (M := M) (us2 := [u]) [0] hn rfl (And.intro rfl trivial) rfl rfl rfl (c_X1_put hst hs hu  hq14)) (by decide) (Nat.le_of_ble_eq_true rfl) (Or.inl rfl) ?_
      show Ev g _ _ _ _ _ _ 75 [some (x_r (16 * u + 0)), some (x_i a), some (x_r (16 * 19 + 0)), some (x_i (x_add v3 v5))] [] (al, ro, fl (ml M [u, 19] [C14, La6])) _ _ _ _
      refine e_aloadn (pc := 75) (i := 0) dX1_goOn_75 rfl rfl ?_
      refine f_getr (pc := 76) (u := u) (q := 0) dX1_goOn_76 xf1_21 (sc_a0 hs hu) rfl (sc_r0_2 hs hu) ?_
      refine e_aloadn (pc := 79) (i := 0) dX1_goOn_79 rfl rfl ?_
      refine f_geti (pc := 80) (k := 0) (u := u) (q := 0) dX1_goOn_80 xf1_52 (sc_a0 hs hu) rfl hn rfl rfl (by decide) ?_
      show Ev g _ _ _ _ _ _ 83 [some (x_r (16 * u + 0)), some (x_i a), some (x_r (16 * 19 + 0)), some (x_i (x_add v3 v5))] [x_i (C14 0 6), x_r (16 * u + 3)] (al, ro, fl (ml M [u, 19] [C14, La6])) _ _ _ _
      refine e_aloadn (pc := 83) (i := 0) dX1_goOn_83 rfl rfl ?_
      refine f_geti (pc := 84) (k := 0) (u := u) (q := 0) dX1_goOn_84 xf1_49 (sc_a0 hs hu) rfl hn rfl rfl (by decide) ?_
      show Ev g _ _ _ _ _ _ 87 [some (x_r (16 * u + 0)), some (x_i a), some (x_r (16 * 19 + 0)), some (x_i (x_add v3 v5))] [x_i (C14 0 5), x_i (C14 0 6), x_r (16 * u + 3)] (al, ro, fl (ml M [u, 19] [C14, La6])) _ _ _ _
      refine e_iconst (pc := 87) dX1_goOn_87 (x_R rfl) ?_
      refine e_iloadn (pc := 88) (i := 1) dX1_goOn_88 rfl rfl ?_
      refine e_iloadn (pc := 89) (i := 3) dX1_goOn_89 rfl rfl ?_
      refine e_bipush (pc := 90) dX1_goOn_90 (by decide +kernel) (x_R rfl) ?_
      refine e_irem (pc := 92) dX1_goOn_92 (by decide) ?_
      obtain ⟨C16, hq16, hr10⟩ := x_bd1 hr10
      refine e_invV (pc := 93) (K1 := 0) (S1 := 0) (K := 0) (S := 0) (dd2 := 1) (av := [x_i (C14 0 6), x_i (C14 0 5), x_i 1, x_i a, x_i (x_rem (x_add v3 v5) 16)]) (st := []) (id := 16 * u + 3) dX1_goOn_93 xmX1_132 rfl (Or.inl ⟨4, 3, TX6, (sc_a3 hs hu), rfl, by decide⟩) (f_cal (M := M) (us2 := [u]) [0] hn rfl (And.intro rfl trivial) rfl rfl rfl (c_X6_add hst hs hu  hq16)) (by decide) (Nat.le_of_ble_eq_true rfl) (Or.inl rfl) ?_
      show Ev g _ _ _ _ _ _ 96 [some (x_r (16 * u + 0)), some (x_i a), some (x_r (16 * 19 + 0)), some (x_i (x_add v3 v5))] [] (al, ro, fl (ml M [u, 19] [C16, La6])) _ _ _ _
      cases hr10
      exact hjhr10
  · rw [if_neg hb] at hG
    refine e_aloadn (pc := 8) (i := 0) dX1_goOn_8 rfl rfl ?_
    refine e_iconst (pc := 9) dX1_goOn_9 (x_R rfl) ?_
    refine e_iloadn (pc := 10) (i := 1) dX1_goOn_10 rfl rfl ?_
    refine e_aloadn (pc := 11) (i := 0) dX1_goOn_11 rfl rfl ?_
    refine e_iconst (pc := 12) dX1_goOn_12 (x_R rfl) ?_
    refine e_iloadn (pc := 13) (i := 1) dX1_goOn_13 rfl rfl ?_
    obtain ⟨v18, hq18, hG⟩ := x_bd1 hG
    refine e_invV (pc := 14) (K1 := 0) (S1 := 0) (K := 0) (S := 0) (dd2 := 0) (av := [x_i 4, x_i a]) (st := [x_i a, x_i 4, x_r (16 * u + 0)]) (id := 16 * u + 0) dX1_goOn_14 xmX1_79 rfl (Or.inl ⟨1, 12, TX1, (sc_a0 hs hu), rfl, by decide⟩) (f_cal (M := M) (us2 := [u]) [0] hn rfl (And.intro rfl trivial) rfl rfl rfl (c_X1_of hst hs hu  hq18)) (by decide) (Nat.le_of_ble_eq_true rfl) (Or.inl rfl) ?_
    show Ev g _ _ _ _ _ _ 17 [some (x_r (16 * u + 0)), some (x_i a), some (x_r (16 * 19 + 0)), none] [x_i v18, x_i a, x_i 4, x_r (16 * u + 0)] (al, ro, fl (ml M [u, 19] [C, La])) _ _ _ _
    refine e_iconst (pc := 17) dX1_goOn_17 (x_R rfl) ?_
    refine e_isub (pc := 18) dX1_goOn_18 ?_
    obtain ⟨C20, hq20, hG⟩ := x_bd1 hG
    refine e_invV (pc := 19) (K1 := 0) (S1 := 0) (K := 0) (S := 0) (dd2 := 0) (av := [x_i 4, x_i a, x_i (x_sub v18 1)]) (st := []) (id := 16 * u + 0) dX1_goOn_19 xmX1_75 rfl (Or.inl ⟨1, 12, TX1, (sc_a0 hs hu), rfl, by decide⟩) (f_cal (M := M) (us2 := [u]) [0] hn rfl (And.intro rfl trivial) rfl rfl rfl (c_X1_put hst hs hu  hq20)) (by decide) (Nat.le_of_ble_eq_true rfl) (Or.inl rfl) ?_
    show Ev g _ _ _ _ _ _ 22 [some (x_r (16 * u + 0)), some (x_i a), some (x_r (16 * 19 + 0)), none] [] (al, ro, fl (ml M [u, 19] [C20, La])) _ _ _ _
    cases hG
    exact (e_return rfl dX1_goOn_22)
set_option maxRecDepth 100000 in
set_option maxHeartbeats 4000000 in
theorem c_X1_eat {g : xG} {al : List (Nat × Nat × Nat)} {ro : Nat → Nat → Option Nat} (hst : g.1.stackTraces = false) (hs : SH al ro) {u : Nat} (hu : 3 ≤ u ∧ u ≤ 18) {M : Nat → xU} {a : Int} {C : xU}  {t : xU} (hG : G1_eat a C = some t) :
    Cal g yX1_eat cX1_eat 3 none 2 [x_r (16 * u + 0), x_i a] (al, ro, fl (ml M [u] [C])) 0 0 (.inl none) (al, ro, fl (ml M [u] [t])) := by
  have hn : ([u] : List Nat).Nodup := by simp
  refine cal_of_ev (plainFor_of_name (by decide)) (x_c1 rfl) (Nat.le_of_ble_eq_true rfl) hst ?_
  show Ev g _ _ _ _ _ _ 0 [some (x_r (16 * u + 0)), some (x_i a), none] [] (al, ro, fl (ml M [u] [C])) _ _ _ _
  rw [G1_eat] at hG
  refine e_aloadn (pc := 0) (i := 0) dX1_eat_0 rfl rfl ?_
  refine e_iloadn (pc := 1) (i := 1) dX1_eat_1 rfl rfl ?_
  obtain ⟨v1, hq1, hG⟩ := x_bd1 hG
  refine e_invV (pc := 2) (K1 := 0) (S1 := 0) (K := 0) (S := 0) (dd2 := 1) (av := [x_i a]) (st := []) (id := 16 * u + 0) dX1_eat_2 xmX1_122 rfl (Or.inl ⟨1, 12, TX1, (sc_a0 hs hu), rfl, by decide⟩) (f_cal (M := M) (us2 := [u]) [0] hn rfl (And.intro rfl trivial) rfl rfl rfl (c_X1_isLost hst hs hu  hq1)) (by decide) (Nat.le_of_ble_eq_true rfl) (Or.inl rfl) ?_
  show Ev g _ _ _ _ _ _ 5 [some (x_r (16 * u + 0)), some (x_i a), none] [x_i v1] (al, ro, fl (ml M [u] [C])) _ _ _ _
  refine e_if_eq (pc := 5) (tgt := 9) dX1_eat_5 (by decide) (fun hb => ?_) (fun hb => ?_)
  · rw [if_pos hb] at hG
    refine e_aloadn (pc := 9) (i := 0) dX1_eat_9 rfl rfl ?_
    refine e_iloadn (pc := 10) (i := 1) dX1_eat_10 rfl rfl ?_
    obtain ⟨v3, hq3, hG⟩ := x_bd1 hG
    refine e_invV (pc := 11) (K1 := 0) (S1 := 0) (K := 0) (S := 0) (dd2 := 1) (av := [x_i a]) (st := []) (id := 16 * u + 0) dX1_eat_11 xmX1_86 rfl (Or.inl ⟨1, 12, TX1, (sc_a0 hs hu), rfl, by decide⟩) (f_cal (M := M) (us2 := [u]) [0] hn rfl (And.intro rfl trivial) rfl rfl rfl (c_X1_walkOf hst hs hu  hq3)) (by decide) (Nat.le_of_ble_eq_true rfl) (Or.inl rfl) ?_
    show Ev g _ _ _ _ _ _ 14 [some (x_r (16 * u + 0)), some (x_i a), none] [x_i v3] (al, ro, fl (ml M [u] [C])) _ _ _ _
    refine e_istoren (pc := 14) (i := 2) dX1_eat_14 rfl (by decide) rfl ?_
    show Ev g _ _ _ _ _ _ 15 [some (x_r (16 * u + 0)), some (x_i a), some (x_i v3)] [] (al, ro, fl (ml M [u] [C])) _ _ _ _
    refine e_aloadn (pc := 15) (i := 0) dX1_eat_15 rfl rfl ?_
    refine e_iloadn (pc := 16) (i := 2) dX1_eat_16 rfl rfl ?_
    obtain ⟨v5, hq5, hG⟩ := x_bd1 hG
    refine e_invV (pc := 17) (K1 := 0) (S1 := 0) (K := 0) (S := 0) (dd2 := 0) (av := [x_i v3]) (st := []) (id := 16 * u + 0) dX1_eat_17 xmX1_61 rfl (Or.inl ⟨1, 12, TX1, (sc_a0 hs hu), rfl, by decide⟩) (f_cal (M := M) (us2 := [u]) [0] hn rfl (And.intro rfl trivial) rfl rfl rfl (c_X1_storeOf hst hs hu  hq5)) (by decide) (Nat.le_of_ble_eq_true rfl) (Or.inl rfl) ?_
    show Ev g _ _ _ _ _ _ 20 [some (x_r (16 * u + 0)), some (x_i a), some (x_i v3)] [x_i v5] (al, ro, fl (ml M [u] [C])) _ _ _ _
    obtain ⟨C7, hr7, hG⟩ := x_bd1 hG
    have hjhr7 : Ev g yX1_eat cX1_eat 3 none [] 2 61 [some (x_r (16 * u + 0)), some (x_i a), some (x_i v3)] [] (al, ro, fl (ml M [u] [C7])) 0 0 (.inl none) (al, ro, fl (ml M [u] [t])) := by
      cases hG
      exact (e_return rfl dX1_eat_61)
    clear hG
    refine e_if_le (pc := 20) (tgt := 40) dX1_eat_20 (by decide) (fun hb => ?_) (fun hb => ?_)
    · rw [if_pos hb] at hr7
      refine e_aloadn (pc := 40) (i := 0) dX1_eat_40 rfl rfl ?_
      refine e_bipush (pc := 41) dX1_eat_41 (by decide +kernel) (x_R rfl) ?_
      refine e_iloadn (pc := 43) (i := 1) dX1_eat_43 rfl rfl ?_
      refine e_bipush (pc := 44) dX1_eat_44 (by decide +kernel) (x_R rfl) ?_
      refine e_aloadn (pc := 46) (i := 0) dX1_eat_46 rfl rfl ?_
      refine e_bipush (pc := 47) dX1_eat_47 (by decide +kernel) (x_R rfl) ?_
      refine e_iloadn (pc := 49) (i := 1) dX1_eat_49 rfl rfl ?_
      obtain ⟨v9, hq9, hr7⟩ := x_bd1 hr7
      refine e_invV (pc := 50) (K1 := 0) (S1 := 0) (K := 0) (S := 0) (dd2 := 0) (av := [x_i 6, x_i a]) (st := [x_i 99, x_i a, x_i 6, x_r (16 * u + 0)]) (id := 16 * u + 0) dX1_eat_50 xmX1_79 rfl (Or.inl ⟨1, 12, TX1, (sc_a0 hs hu), rfl, by decide⟩) (f_cal (M := M) (us2 := [u]) [0] hn rfl (And.intro rfl trivial) rfl rfl rfl (c_X1_of hst hs hu  hq9)) (by decide) (Nat.le_of_ble_eq_true rfl) (Or.inl rfl) ?_
      show Ev g _ _ _ _ _ _ 53 [some (x_r (16 * u + 0)), some (x_i a), some (x_i v3)] [x_i v9, x_i 99, x_i a, x_i 6, x_r (16 * u + 0)] (al, ro, fl (ml M [u] [C])) _ _ _ _
      refine e_iconst (pc := 53) dX1_eat_53 (x_R rfl) ?_
      refine e_iadd (pc := 54) dX1_eat_54 ?_
      refine e_invS (pc := 55) (K1 := 0) (S1 := 0) (K := 0) (S := 0) (dd2 := 0) (av := [x_i 99, x_i (x_add v9 1)]) (st := [x_i a, x_i 6, x_r (16 * u + 0)]) dX1_eat_55 xmX1_65 rfl (p_min hst hs) (by decide) (Nat.le_of_ble_eq_true rfl) (Or.inl rfl) ?_
      show Ev g _ _ _ _ _ _ 58 [some (x_r (16 * u + 0)), some (x_i a), some (x_i v3)] [x_i (min 99 (x_add v9 1)), x_i a, x_i 6, x_r (16 * u + 0)] (al, ro, fl (ml M [u] [C])) _ _ _ _
      obtain ⟨C11, hq11, hr7⟩ := x_bd1 hr7
      refine e_invV (pc := 58) (K1 := 0) (S1 := 0) (K := 0) (S := 0) (dd2 := 0) (av := [x_i 6, x_i a, x_i (min 99 (x_add v9 1))]) (st := []) (id := 16 * u + 0) dX1_eat_58 xmX1_75 rfl (Or.inl ⟨1, 12, TX1, (sc_a0 hs hu), rfl, by decide⟩) (f_cal (M := M) (us2 := [u]) [0] hn rfl (And.intro rfl trivial) rfl rfl rfl (c_X1_put hst hs hu  hq11)) (by decide) (Nat.le_of_ble_eq_true rfl) (Or.inl rfl) ?_
      show Ev g _ _ _ _ _ _ 61 [some (x_r (16 * u + 0)), some (x_i a), some (x_i v3)] [] (al, ro, fl (ml M [u] [C11])) _ _ _ _
      cases hr7
      exact hjhr7
    · rw [if_neg hb] at hr7
      refine e_aloadn (pc := 23) (i := 0) dX1_eat_23 rfl rfl ?_
      refine e_iloadn (pc := 24) (i := 2) dX1_eat_24 rfl rfl ?_
      refine e_iconst (pc := 25) dX1_eat_25 (x_R rfl) ?_
      obtain ⟨C13, hq13, hr7⟩ := x_bd1 hr7
      refine e_invV (pc := 26) (K1 := 0) (S1 := 0) (K := 0) (S := 0) (dd2 := 1) (av := [x_i v3, x_i (-1)]) (st := []) (id := 16 * u + 0) dX1_eat_26 xmX1_98 rfl (Or.inl ⟨1, 12, TX1, (sc_a0 hs hu), rfl, by decide⟩) (f_cal (M := M) (us2 := [u]) [0] hn rfl (And.intro rfl trivial) rfl rfl rfl (c_X1_addStore hst hs hu  hq13)) (by decide) (Nat.le_of_ble_eq_true rfl) (Or.inl rfl) ?_
      show Ev g _ _ _ _ _ _ 29 [some (x_r (16 * u + 0)), some (x_i a), some (x_i v3)] [] (al, ro, fl (ml M [u] [C13])) _ _ _ _
      refine e_aloadn (pc := 29) (i := 0) dX1_eat_29 rfl rfl ?_
      refine e_bipush (pc := 30) dX1_eat_30 (by decide +kernel) (x_R rfl) ?_
      refine e_iloadn (pc := 32) (i := 1) dX1_eat_32 rfl rfl ?_
      refine e_iconst (pc := 33) dX1_eat_33 (x_R rfl) ?_
      obtain ⟨C15, hq15, hr7⟩ := x_bd1 hr7
      refine e_invV (pc := 34) (K1 := 0) (S1 := 0) (K := 0) (S := 0) (dd2 := 0) (av := [x_i 6, x_i a, x_i 0]) (st := []) (id := 16 * u + 0) dX1_eat_34 xmX1_75 rfl (Or.inl ⟨1, 12, TX1, (sc_a0 hs hu), rfl, by decide⟩) (f_cal (M := M) (us2 := [u]) [0] hn rfl (And.intro rfl trivial) rfl rfl rfl (c_X1_put hst hs hu  hq15)) (by decide) (Nat.le_of_ble_eq_true rfl) (Or.inl rfl) ?_
      show Ev g _ _ _ _ _ _ 37 [some (x_r (16 * u + 0)), some (x_i a), some (x_i v3)] [] (al, ro, fl (ml M [u] [C15])) _ _ _ _
      refine e_goto (pc := 37) (tgt := 61) dX1_eat_37 (by decide) ?_
      cases hr7
      exact hjhr7
  · rw [if_neg hb] at hG
    cases hG
    exact (e_return rfl dX1_eat_8)
set_option maxRecDepth 100000 in
set_option maxHeartbeats 4000000 in
theorem c_X1_holdOffice {g : xG} {al : List (Nat × Nat × Nat)} {ro : Nat → Nat → Option Nat} (hst : g.1.stackTraces = false) (hs : SH al ro) {u : Nat} (hu : 3 ≤ u ∧ u ≤ 18) {M : Nat → xU} {C : xU}  {t : (Int × xU)} (hG : G1_holdOffice C = some t) :
    Cal g yX1_holdOffice cX1_holdOffice 3 (some .int) 2 [x_r (16 * u + 0)] (al, ro, fl (ml M [u] [C])) 0 0 (.inl (some (x_i t.1))) (al, ro, fl (ml M [u] [t.2])) := by
  have hn : ([u] : List Nat).Nodup := by simp
  refine cal_of_ev (plainFor_of_name (by decide)) (x_c1 rfl) (Nat.le_of_ble_eq_true rfl) hst ?_
  show Ev g _ _ _ _ _ _ 0 [some (x_r (16 * u + 0)), none, none] [] (al, ro, fl (ml M [u] [C])) _ _ _ _
  rw [G1_holdOffice] at hG
  refine e_iconst (pc := 0) dX1_holdOffice_0 (x_R rfl) ?_
  refine e_istoren (pc := 1) (i := 1) dX1_holdOffice_1 rfl (by decide) rfl ?_
  show Ev g _ _ _ _ _ _ 2 [some (x_r (16 * u + 0)), some (x_i 0), none] [] (al, ro, fl (ml M [u] [C])) _ _ _ _
  refine e_iconst (pc := 2) dX1_holdOffice_2 (x_R rfl) ?_
  refine e_istoren (pc := 3) (i := 2) dX1_holdOffice_3 rfl (by decide) rfl ?_
  show Ev g _ _ _ _ _ _ 4 [some (x_r (16 * u + 0)), some (x_i 0), some (x_i 0)] [] (al, ro, fl (ml M [u] [C])) _ _ _ _
  obtain ⟨v4, C5, hl6, hG⟩ := x_bd2 hG
  have hk6 : ∀ q : (Int × xU), q = (v4, C5) → Ev g yX1_holdOffice cX1_holdOffice 3 (some .int) [] 2 79 [some (x_r (16 * u + 0)), some (x_i q.1), none] [] (al, ro, fl (ml M [u] [q.2])) 0 0 (.inl (some (x_i t.1))) (al, ro, fl (ml M [u] [t.2])) := by
    intro q hq
    cases hq
    refine e_iloadn (pc := 79) (i := 1) dX1_holdOffice_79 rfl rfl ?_
    cases hG
    exact (e_ireturn rfl dX1_holdOffice_80 rfl)
  clear hG
  refine e_whl G1_holdOffice_L4 (fun z : (Int × Int × xU) => Ev g yX1_holdOffice cX1_holdOffice 3 (some .int) [] 2 4 [some (x_r (16 * u + 0)), some (x_i z.1), some (x_i z.2.1)] [] (al, ro, fl (ml M [u] [z.2.2])) 0 0 (.inl (some (x_i t.1))) (al, ro, fl (ml M [u] [t.2]))) (fun q => q = (v4, C5)) ?_ xFU (0, 0, C) _ hl6 rfl
  intro z t6 hf6 hi6 hx6
  obtain ⟨v1, v2, C3⟩ := z
  rw [G1_holdOffice_L4] at hf6
  show Ev g _ _ _ _ _ _ 4 [some (x_r (16 * u + 0)), some (x_i v1), some (x_i v2)] [] (al, ro, fl (ml M [u] [C3])) _ _ _ _
  refine e_iloadn (pc := 4) (i := 2) dX1_holdOffice_4 rfl rfl ?_
  refine e_aloadn (pc := 5) (i := 0) dX1_holdOffice_5 rfl rfl ?_
  refine f_geti (pc := 6) (k := 0) (u := u) (q := 0) dX1_holdOffice_6 xf1_43 (sc_a0 hs hu) rfl hn rfl rfl (by decide) ?_
  show Ev g _ _ _ _ _ _ 9 [some (x_r (16 * u + 0)), some (x_i v1), some (x_i v2)] [x_i (C3 0 3), x_i v2] (al, ro, fl (ml M [u] [C3])) _ _ _ _
  refine e_icmp_ge (pc := 9) (tgt := 79) dX1_holdOffice_9 (by decide) (fun hb => ?_) (fun hb => ?_)
  · rw [if_pos hb] at hf6
    cases hf6
    refine e_drop (i := 2) ?_
    exact hk6 _ (hx6 _ rfl)
  · rw [if_neg hb] at hf6
    refine e_aloadn (pc := 12) (i := 0) dX1_holdOffice_12 rfl rfl ?_
    refine e_iloadn (pc := 13) (i := 2) dX1_holdOffice_13 rfl rfl ?_
    refine e_aloadn (pc := 14) (i := 0) dX1_holdOffice_14 rfl rfl ?_
    refine f_geti (pc := 15) (k := 0) (u := u) (q := 0) dX1_holdOffice_15 xf1_55 (sc_a0 hs hu) rfl hn rfl rfl (by decide) ?_
    show Ev g _ _ _ _ _ _ 18 [some (x_r (16 * u + 0)), some (x_i v1), some (x_i v2)] [x_i (C3 0 7), x_i v2, x_r (16 * u + 0)] (al, ro, fl (ml M [u] [C3])) _ _ _ _
    obtain ⟨v8, hq8, hf6⟩ := x_bd1 hf6
    refine e_invV (pc := 18) (K1 := 0) (S1 := 0) (K := 0) (S := 0) (dd2 := 1) (av := [x_i v2, x_i (C3 0 7)]) (st := []) (id := 16 * u + 0) dX1_holdOffice_18 xmX1_136 rfl (Or.inl ⟨1, 12, TX1, (sc_a0 hs hu), rfl, by decide⟩) (f_cal (M := M) (us2 := [u]) [0] hn rfl (And.intro rfl trivial) rfl rfl rfl (c_X1_isAt hst hs hu  hq8)) (by decide) (Nat.le_of_ble_eq_true rfl) (Or.inl rfl) ?_
    show Ev g _ _ _ _ _ _ 21 [some (x_r (16 * u + 0)), some (x_i v1), some (x_i v2)] [x_i v8] (al, ro, fl (ml M [u] [C3])) _ _ _ _
    obtain ⟨v10, C11, hr11, hf6⟩ := x_bd2 hf6
    have hjhr11 : Ev g yX1_holdOffice cX1_holdOffice 3 (some .int) [] 2 73 [some (x_r (16 * u + 0)), some (x_i v10), some (x_i v2)] [] (al, ro, fl (ml M [u] [C11])) 0 0 (.inl (some (x_i t.1))) (al, ro, fl (ml M [u] [t.2])) := by
      refine e_iinc (pc := 73) dX1_holdOffice_73 rfl (by decide) rfl ?_
      show Ev g _ _ _ _ _ _ 76 [some (x_r (16 * u + 0)), some (x_i v10), some (x_i (x_add v2 1))] [] (al, ro, fl (ml M [u] [C11])) _ _ _ _
      refine e_goto (pc := 76) (tgt := 4) dX1_holdOffice_76 (by decide) ?_
      cases hf6
      exact hi6 _ rfl
    clear hf6
    refine e_if_ne (pc := 21) (tgt := 73) dX1_holdOffice_21 (by decide) (fun hb => ?_) (fun hb => ?_)
    · rw [if_neg hb] at hr11
      cases hr11
      exact hjhr11
    · rw [if_pos hb] at hr11
      refine e_iloadn (pc := 24) (i := 1) dX1_holdOffice_24 rfl rfl ?_
      refine e_iconst (pc := 25) dX1_holdOffice_25 (x_R rfl) ?_
      refine e_iloadn (pc := 26) (i := 2) dX1_holdOffice_26 rfl rfl ?_
      refine e_ishl (pc := 27) dX1_holdOffice_27 ?_
      refine e_ior (pc := 28) dX1_holdOffice_28 ?_
      refine e_istoren (pc := 29) (i := 1) dX1_holdOffice_29 rfl (by decide) rfl ?_
      show Ev g _ _ _ _ _ _ 30 [some (x_r (16 * u + 0)), some (x_i (x_or v1 (x_shl 1 v2))), some (x_i v2)] [] (al, ro, fl (ml M [u] [C3])) _ _ _ _
      refine e_aloadn (pc := 30) (i := 0) dX1_holdOffice_30 rfl rfl ?_
      refine e_iconst (pc := 31) dX1_holdOffice_31 (x_R rfl) ?_
      refine e_iloadn (pc := 32) (i := 2) dX1_holdOffice_32 rfl rfl ?_
      refine e_sipush (pc := 33) dX1_holdOffice_33 (by decide +kernel) (x_R rfl) ?_
      refine e_aloadn (pc := 36) (i := 0) dX1_holdOffice_36 rfl rfl ?_
      refine e_iconst (pc := 37) dX1_holdOffice_37 (x_R rfl) ?_
      refine e_iloadn (pc := 38) (i := 2) dX1_holdOffice_38 rfl rfl ?_
      obtain ⟨v13, hq13, hr11⟩ := x_bd1 hr11
      refine e_invV (pc := 39) (K1 := 0) (S1 := 0) (K := 0) (S := 0) (dd2 := 0) (av := [x_i 5, x_i v2]) (st := [x_i 999, x_i v2, x_i 5, x_r (16 * u + 0)]) (id := 16 * u + 0) dX1_holdOffice_39 xmX1_79 rfl (Or.inl ⟨1, 12, TX1, (sc_a0 hs hu), rfl, by decide⟩) (f_cal (M := M) (us2 := [u]) [0] hn rfl (And.intro rfl trivial) rfl rfl rfl (c_X1_of hst hs hu  hq13)) (by decide) (Nat.le_of_ble_eq_true rfl) (Or.inl rfl) ?_
      show Ev g _ _ _ _ _ _ 42 [some (x_r (16 * u + 0)), some (x_i (x_or v1 (x_shl 1 v2))), some (x_i v2)] [x_i v13, x_i 999, x_i v2, x_i 5, x_r (16 * u + 0)] (al, ro, fl (ml M [u] [C3])) _ _ _ _
      refine e_iconst (pc := 42) dX1_holdOffice_42 (x_R rfl) ?_
      refine e_iadd (pc := 43) dX1_holdOffice_43 ?_
      refine e_invS (pc := 44) (K1 := 0) (S1 := 0) (K := 0) (S := 0) (dd2 := 0) (av := [x_i 999, x_i (x_add v13 1)]) (st := [x_i v2, x_i 5, x_r (16 * u + 0)]) dX1_holdOffice_44 xmX1_65 rfl (p_min hst hs) (by decide) (Nat.le_of_ble_eq_true rfl) (Or.inl rfl) ?_
      show Ev g _ _ _ _ _ _ 47 [some (x_r (16 * u + 0)), some (x_i (x_or v1 (x_shl 1 v2))), some (x_i v2)] [x_i (min 999 (x_add v13 1)), x_i v2, x_i 5, x_r (16 * u + 0)] (al, ro, fl (ml M [u] [C3])) _ _ _ _
      obtain ⟨C15, hq15, hr11⟩ := x_bd1 hr11
      refine e_invV (pc := 47) (K1 := 0) (S1 := 0) (K := 0) (S := 0) (dd2 := 0) (av := [x_i 5, x_i v2, x_i (min 999 (x_add v13 1))]) (st := []) (id := 16 * u + 0) dX1_holdOffice_47 xmX1_75 rfl (Or.inl ⟨1, 12, TX1, (sc_a0 hs hu), rfl, by decide⟩) (f_cal (M := M) (us2 := [u]) [0] hn rfl (And.intro rfl trivial) rfl rfl rfl (c_X1_put hst hs hu  hq15)) (by decide) (Nat.le_of_ble_eq_true rfl) (Or.inl rfl) ?_
      show Ev g _ _ _ _ _ _ 50 [some (x_r (16 * u + 0)), some (x_i (x_or v1 (x_shl 1 v2))), some (x_i v2)] [] (al, ro, fl (ml M [u] [C15])) _ _ _ _
      refine e_aloadn (pc := 50) (i := 0) dX1_holdOffice_50 rfl rfl ?_
      refine f_getr (pc := 51) (u := u) (q := 0) dX1_holdOffice_51 xf1_21 (sc_a0 hs hu) rfl (sc_r0_2 hs hu) ?_
      refine e_aloadn (pc := 54) (i := 0) dX1_holdOffice_54 rfl rfl ?_
      refine f_geti (pc := 55) (k := 0) (u := u) (q := 0) dX1_holdOffice_55 xf1_52 (sc_a0 hs hu) rfl hn rfl rfl (by decide) ?_
      show Ev g _ _ _ _ _ _ 58 [some (x_r (16 * u + 0)), some (x_i (x_or v1 (x_shl 1 v2))), some (x_i v2)] [x_i (C15 0 6), x_r (16 * u + 3)] (al, ro, fl (ml M [u] [C15])) _ _ _ _
      refine e_aloadn (pc := 58) (i := 0) dX1_holdOffice_58 rfl rfl ?_
      refine f_geti (pc := 59) (k := 0) (u := u) (q := 0) dX1_holdOffice_59 xf1_49 (sc_a0 hs hu) rfl hn rfl rfl (by decide) ?_
      show Ev g _ _ _ _ _ _ 62 [some (x_r (16 * u + 0)), some (x_i (x_or v1 (x_shl 1 v2))), some (x_i v2)] [x_i (C15 0 5), x_i (C15 0 6), x_r (16 * u + 3)] (al, ro, fl (ml M [u] [C15])) _ _ _ _
      refine e_iconst (pc := 62) dX1_holdOffice_62 (x_R rfl) ?_
      refine e_iloadn (pc := 63) (i := 2) dX1_holdOffice_63 rfl rfl ?_
      refine e_aloadn (pc := 64) (i := 0) dX1_holdOffice_64 rfl rfl ?_
      refine e_iconst (pc := 65) dX1_holdOffice_65 (x_R rfl) ?_
      refine e_iloadn (pc := 66) (i := 2) dX1_holdOffice_66 rfl rfl ?_
      obtain ⟨v17, hq17, hr11⟩ := x_bd1 hr11
      refine e_invV (pc := 67) (K1 := 0) (S1 := 0) (K := 0) (S := 0) (dd2 := 0) (av := [x_i 0, x_i v2]) (st := [x_i v2, x_i 0, x_i (C15 0 5), x_i (C15 0 6), x_r (16 * u + 3)]) (id := 16 * u + 0) dX1_holdOffice_67 xmX1_79 rfl (Or.inl ⟨1, 12, TX1, (sc_a0 hs hu), rfl, by decide⟩) (f_cal (M := M) (us2 := [u]) [0] hn rfl (And.intro rfl trivial) rfl rfl rfl (c_X1_of hst hs hu  hq17)) (by decide) (Nat.le_of_ble_eq_true rfl) (Or.inl rfl) ?_
      show Ev g _ _ _ _ _ _ 70 [some (x_r (16 * u + 0)), some (x_i (x_or v1 (x_shl 1 v2))), some (x_i v2)] [x_i v17, x_i v2, x_i 0, x_i (C15 0 5), x_i (C15 0 6), x_r (16 * u + 3)] (al, ro, fl (ml M [u] [C15])) _ _ _ _
      obtain ⟨C19, hq19, hr11⟩ := x_bd1 hr11
      refine e_invV (pc := 70) (K1 := 0) (S1 := 0) (K := 0) (S := 0) (dd2 := 1) (av := [x_i (C15 0 6), x_i (C15 0 5), x_i 0, x_i v2, x_i v17]) (st := []) (id := 16 * u + 3) dX1_holdOffice_70 xmX1_132 rfl (Or.inl ⟨4, 3, TX6, (sc_a3 hs hu), rfl, by decide⟩) (f_cal (M := M) (us2 := [u]) [0] hn rfl (And.intro rfl trivial) rfl rfl rfl (c_X6_add hst hs hu  hq19)) (by decide) (Nat.le_of_ble_eq_true rfl) (Or.inl rfl) ?_
      show Ev g _ _ _ _ _ _ 73 [some (x_r (16 * u + 0)), some (x_i (x_or v1 (x_shl 1 v2))), some (x_i v2)] [] (al, ro, fl (ml M [u] [C19])) _ _ _ _
      cases hr11
      exact hjhr11
set_option maxRecDepth 100000 in
set_option maxHeartbeats 4000000 in
theorem c_X1_harvest {g : xG} {al : List (Nat × Nat × Nat)} {ro : Nat → Nat → Option Nat} (hst : g.1.stackTraces = false) (hs : SH al ro) {u : Nat} (hu : 3 ≤ u ∧ u ≤ 18) {M : Nat → xU} {C : xU}  {t : xU} (hG : G1_harvest C = some t) :
    Cal g yX1_harvest cX1_harvest 2 none 2 [x_r (16 * u + 0)] (al, ro, fl (ml M [u] [C])) 0 0 (.inl none) (al, ro, fl (ml M [u] [t])) := by
  have hn : ([u] : List Nat).Nodup := by simp
  refine cal_of_ev (plainFor_of_name (by decide)) (x_c1 rfl) (Nat.le_of_ble_eq_true rfl) hst ?_
  show Ev g _ _ _ _ _ _ 0 [some (x_r (16 * u + 0)), none] [] (al, ro, fl (ml M [u] [C])) _ _ _ _
  rw [G1_harvest] at hG
  refine e_iconst (pc := 0) dX1_harvest_0 (x_R rfl) ?_
  refine e_istoren (pc := 1) (i := 1) dX1_harvest_1 rfl (by decide) rfl ?_
  show Ev g _ _ _ _ _ _ 2 [some (x_r (16 * u + 0)), some (x_i 0)] [] (al, ro, fl (ml M [u] [C])) _ _ _ _
  obtain ⟨C3, hl4, hG⟩ := x_bd1 hG
  have hk4 : ∀ q : xU, q = C3 → Ev g yX1_harvest cX1_harvest 2 none [] 2 30 [some (x_r (16 * u + 0)), none] [] (al, ro, fl (ml M [u] [q])) 0 0 (.inl none) (al, ro, fl (ml M [u] [t])) := by
    intro q hq
    replace hq := hq.symm
    subst hq
    cases hG
    exact (e_return rfl dX1_harvest_30)
  clear hG
  refine e_whl G1_harvest_L2 (fun z : (Int × xU) => Ev g yX1_harvest cX1_harvest 2 none [] 2 2 [some (x_r (16 * u + 0)), some (x_i z.1)] [] (al, ro, fl (ml M [u] [z.2])) 0 0 (.inl none) (al, ro, fl (ml M [u] [t]))) (fun q => q = C3) ?_ xFU (0, C) _ hl4 rfl
  intro z t4 hf4 hi4 hx4
  obtain ⟨v1, C2⟩ := z
  rw [G1_harvest_L2] at hf4
  show Ev g _ _ _ _ _ _ 2 [some (x_r (16 * u + 0)), some (x_i v1)] [] (al, ro, fl (ml M [u] [C2])) _ _ _ _
  refine e_iloadn (pc := 2) (i := 1) dX1_harvest_2 rfl rfl ?_
  refine e_iconst (pc := 3) dX1_harvest_3 (x_R rfl) ?_
  refine e_icmp_ge (pc := 4) (tgt := 30) dX1_harvest_4 (by decide) (fun hb => ?_) (fun hb => ?_)
  · rw [if_pos hb] at hf4
    cases hf4
    refine e_drop (i := 1) ?_
    exact hk4 _ (hx4 _ rfl)
  · rw [if_neg hb] at hf4
    refine e_aloadn (pc := 7) (i := 0) dX1_harvest_7 rfl rfl ?_
    refine e_iloadn (pc := 8) (i := 1) dX1_harvest_8 rfl rfl ?_
    refine e_iconst (pc := 9) dX1_harvest_9 (x_R rfl) ?_
    refine e_imul (pc := 10) dX1_harvest_10 ?_
    obtain ⟨v6, hq6, hf4⟩ := x_bd1 hf4
    refine e_invV (pc := 11) (K1 := 0) (S1 := 0) (K := 0) (S := 0) (dd2 := 0) (av := [x_i (x_mul v1 4)]) (st := []) (id := 16 * u + 0) dX1_harvest_11 xmX1_140 rfl (Or.inl ⟨1, 12, TX1, (sc_a0 hs hu), rfl, by decide⟩) (f_cal (M := M) (us2 := [u]) [0] hn rfl (And.intro rfl trivial) rfl rfl rfl (c_X1_seasonOf hst hs hu  hq6)) (by decide) (Nat.le_of_ble_eq_true rfl) (Or.inl rfl) ?_
    show Ev g _ _ _ _ _ _ 14 [some (x_r (16 * u + 0)), some (x_i v1)] [x_i v6] (al, ro, fl (ml M [u] [C2])) _ _ _ _
    refine e_iconst (pc := 14) dX1_harvest_14 (x_R rfl) ?_
    obtain ⟨C8, hr8, hf4⟩ := x_bd1 hf4
    have hjhr8 : Ev g yX1_harvest cX1_harvest 2 none [] 2 24 [some (x_r (16 * u + 0)), some (x_i v1)] [] (al, ro, fl (ml M [u] [C8])) 0 0 (.inl none) (al, ro, fl (ml M [u] [t])) := by
      refine e_iinc (pc := 24) dX1_harvest_24 rfl (by decide) rfl ?_
      show Ev g _ _ _ _ _ _ 27 [some (x_r (16 * u + 0)), some (x_i (x_add v1 1))] [] (al, ro, fl (ml M [u] [C8])) _ _ _ _
      refine e_goto (pc := 27) (tgt := 2) dX1_harvest_27 (by decide) ?_
      cases hf4
      exact hi4 _ rfl
    clear hf4
    refine e_icmp_ne (pc := 15) (tgt := 24) dX1_harvest_15 (by decide) (fun hb => ?_) (fun hb => ?_)
    · rw [if_neg hb] at hr8
      cases hr8
      exact hjhr8
    · rw [if_pos hb] at hr8
      refine e_aloadn (pc := 18) (i := 0) dX1_harvest_18 rfl rfl ?_
      refine e_iloadn (pc := 19) (i := 1) dX1_harvest_19 rfl rfl ?_
      refine e_iconst (pc := 20) dX1_harvest_20 (x_R rfl) ?_
      obtain ⟨C10, hq10, hr8⟩ := x_bd1 hr8
      refine e_invV (pc := 21) (K1 := 0) (S1 := 0) (K := 0) (S := 0) (dd2 := 1) (av := [x_i v1, x_i 2]) (st := []) (id := 16 * u + 0) dX1_harvest_21 xmX1_98 rfl (Or.inl ⟨1, 12, TX1, (sc_a0 hs hu), rfl, by decide⟩) (f_cal (M := M) (us2 := [u]) [0] hn rfl (And.intro rfl trivial) rfl rfl rfl (c_X1_addStore hst hs hu  hq10)) (by decide) (Nat.le_of_ble_eq_true rfl) (Or.inl rfl) ?_
      show Ev g _ _ _ _ _ _ 24 [some (x_r (16 * u + 0)), some (x_i v1)] [] (al, ro, fl (ml M [u] [C10])) _ _ _ _
      cases hr8
      exact hjhr8
set_option maxRecDepth 100000 in
set_option maxHeartbeats 4000000 in
theorem c_X1_draw {g : xG} {al : List (Nat × Nat × Nat)} {ro : Nat → Nat → Option Nat} (hst : g.1.stackTraces = false) (hs : SH al ro) {u : Nat} (hu : 3 ≤ u ∧ u ≤ 18) {M : Nat → xU} {C : xU}  {t : (Int × xU)} (hG : G1_draw C = some t) :
    Cal g yX1_draw cX1_draw 1 (some .int) 0 [x_r (16 * u + 0)] (al, ro, fl (ml M [u] [C])) 0 0 (.inl (some (x_i t.1))) (al, ro, fl (ml M [u] [t.2])) := by
  have hn : ([u] : List Nat).Nodup := by simp
  refine cal_of_ev (plainFor_of_name (by decide)) (x_c1 rfl) (Nat.le_of_ble_eq_true rfl) hst ?_
  show Ev g _ _ _ _ _ _ 0 [some (x_r (16 * u + 0))] [] (al, ro, fl (ml M [u] [C])) _ _ _ _
  rw [G1_draw] at hG
  refine e_aloadn (pc := 0) (i := 0) dX1_draw_0 rfl rfl ?_
  refine e_ldc (pc := 1) dX1_draw_1 xkX1_139 (x_R rfl) ?_
  refine e_aloadn (pc := 3) (i := 0) dX1_draw_3 rfl rfl ?_
  refine f_geti (pc := 4) (k := 0) (u := u) (q := 0) dX1_draw_4 xf1_32 (sc_a0 hs hu) rfl hn rfl rfl (by decide) ?_
  show Ev g _ _ _ _ _ _ 7 [some (x_r (16 * u + 0))] [x_i (C 0 11), x_i 1103515245, x_r (16 * u + 0)] (al, ro, fl (ml M [u] [C])) _ _ _ _
  refine e_imul (pc := 7) dX1_draw_7 ?_
  refine e_sipush (pc := 8) dX1_draw_8 (by decide +kernel) (x_R rfl) ?_
  refine e_iadd (pc := 11) dX1_draw_11 ?_
  refine f_puti (pc := 12) (k := 0) (u := u) (q := 0) dX1_draw_12 xf1_32 xw1_11 (sc_a0 hs hu) hn rfl rfl rfl (by decide) ?_
  show Ev g _ _ _ _ _ _ 15 [some (x_r (16 * u + 0))] [] (al, ro, fl (ml M [u] [(x_up C 0 11 (x_add (x_mul 1103515245 (C 0 11)) 12345))])) _ _ _ _
  refine e_aloadn (pc := 15) (i := 0) dX1_draw_15 rfl rfl ?_
  refine f_geti (pc := 16) (k := 0) (u := u) (q := 0) dX1_draw_16 xf1_32 (sc_a0 hs hu) rfl hn rfl rfl (by decide) ?_
  show Ev g _ _ _ _ _ _ 19 [some (x_r (16 * u + 0))] [x_i ((x_up C 0 11 (x_add (x_mul 1103515245 (C 0 11)) 12345)) 0 11)] (al, ro, fl (ml M [u] [(x_up C 0 11 (x_add (x_mul 1103515245 (C 0 11)) 12345))])) _ _ _ _
  refine e_bipush (pc := 19) dX1_draw_19 (by decide +kernel) (x_R rfl) ?_
  refine e_iushr (pc := 21) dX1_draw_21 ?_
  refine e_sipush (pc := 22) dX1_draw_22 (by decide +kernel) (x_R rfl) ?_
  refine e_iand (pc := 25) dX1_draw_25 ?_
  cases hG
  exact (e_ireturn rfl dX1_draw_26 rfl)
set_option maxRecDepth 100000 in
set_option maxHeartbeats 4000000 in
theorem c_X1_turnClock {g : xG} {al : List (Nat × Nat × Nat)} {ro : Nat → Nat → Option Nat} (hst : g.1.stackTraces = false) (hs : SH al ro) {u : Nat} (hu : 3 ≤ u ∧ u ≤ 18) {M : Nat → xU} {C : xU}  {t : xU} (hG : G1_turnClock C = some t) :
    Cal g yX1_turnClock cX1_turnClock 1 none 1 [x_r (16 * u + 0)] (al, ro, fl (ml M [u] [C])) 0 0 (.inl none) (al, ro, fl (ml M [u] [t])) := by
  have hn : ([u] : List Nat).Nodup := by simp
  refine cal_of_ev (plainFor_of_name (by decide)) (x_c1 rfl) (Nat.le_of_ble_eq_true rfl) hst ?_
  show Ev g _ _ _ _ _ _ 0 [some (x_r (16 * u + 0))] [] (al, ro, fl (ml M [u] [C])) _ _ _ _
  rw [G1_turnClock] at hG
  refine e_aloadn (pc := 0) (i := 0) dX1_turnClock_0 rfl rfl ?_
  refine e_dup (pc := 1) dX1_turnClock_1 rfl ?_
  refine f_geti (pc := 2) (k := 0) (u := u) (q := 0) dX1_turnClock_2 xf1_49 (sc_a0 hs hu) rfl hn rfl rfl (by decide) ?_
  show Ev g _ _ _ _ _ _ 5 [some (x_r (16 * u + 0))] [x_i (C 0 5), x_r (16 * u + 0)] (al, ro, fl (ml M [u] [C])) _ _ _ _
  refine e_iconst (pc := 5) dX1_turnClock_5 (x_R rfl) ?_
  refine e_iadd (pc := 6) dX1_turnClock_6 ?_
  refine f_puti (pc := 7) (k := 0) (u := u) (q := 0) dX1_turnClock_7 xf1_49 xw1_5 (sc_a0 hs hu) hn rfl rfl rfl (by decide) ?_
  show Ev g _ _ _ _ _ _ 10 [some (x_r (16 * u + 0))] [] (al, ro, fl (ml M [u] [(x_up C 0 5 (x_add (C 0 5) 1))])) _ _ _ _
  refine e_aloadn (pc := 10) (i := 0) dX1_turnClock_10 rfl rfl ?_
  refine f_geti (pc := 11) (k := 0) (u := u) (q := 0) dX1_turnClock_11 xf1_49 (sc_a0 hs hu) rfl hn rfl rfl (by decide) ?_
  show Ev g _ _ _ _ _ _ 14 [some (x_r (16 * u + 0))] [x_i ((x_up C 0 5 (x_add (C 0 5) 1)) 0 5)] (al, ro, fl (ml M [u] [(x_up C 0 5 (x_add (C 0 5) 1))])) _ _ _ _
  refine e_bipush (pc := 14) dX1_turnClock_14 (by decide +kernel) (x_R rfl) ?_
  obtain ⟨C1, hr1, hG⟩ := x_bd1 hG
  have hjhr1 : Ev g yX1_turnClock cX1_turnClock 1 none [] 1 40 [some (x_r (16 * u + 0))] [] (al, ro, fl (ml M [u] [C1])) 0 0 (.inl none) (al, ro, fl (ml M [u] [t])) := by
    cases hG
    exact (e_return rfl dX1_turnClock_40)
  clear hG
  refine e_icmp_lt (pc := 16) (tgt := 40) dX1_turnClock_16 (by decide) (fun hb => ?_) (fun hb => ?_)
  · rw [if_pos hb] at hr1
    cases hr1
    exact hjhr1
  · rw [if_neg hb] at hr1
    refine e_aloadn (pc := 19) (i := 0) dX1_turnClock_19 rfl rfl ?_
    refine e_iconst (pc := 20) dX1_turnClock_20 (x_R rfl) ?_
    refine f_puti (pc := 21) (k := 0) (u := u) (q := 0) dX1_turnClock_21 xf1_49 xw1_5 (sc_a0 hs hu) hn rfl rfl rfl (by decide) ?_
    show Ev g _ _ _ _ _ _ 24 [some (x_r (16 * u + 0))] [] (al, ro, fl (ml M [u] [(x_up (x_up C 0 5 (x_add (C 0 5) 1)) 0 5 0)])) _ _ _ _
    refine e_aloadn (pc := 24) (i := 0) dX1_turnClock_24 rfl rfl ?_
    refine e_sipush (pc := 25) dX1_turnClock_25 (by decide +kernel) (x_R rfl) ?_
    refine e_aloadn (pc := 28) (i := 0) dX1_turnClock_28 rfl rfl ?_
    refine f_geti (pc := 29) (k := 0) (u := u) (q := 0) dX1_turnClock_29 xf1_52 (sc_a0 hs hu) rfl hn rfl rfl (by decide) ?_
    show Ev g _ _ _ _ _ _ 32 [some (x_r (16 * u + 0))] [x_i ((x_up (x_up C 0 5 (x_add (C 0 5) 1)) 0 5 0) 0 6), x_i 9999, x_r (16 * u + 0)] (al, ro, fl (ml M [u] [(x_up (x_up C 0 5 (x_add (C 0 5) 1)) 0 5 0)])) _ _ _ _
    refine e_iconst (pc := 32) dX1_turnClock_32 (x_R rfl) ?_
    refine e_iadd (pc := 33) dX1_turnClock_33 ?_
    refine e_invS (pc := 34) (K1 := 0) (S1 := 0) (K := 0) (S := 0) (dd2 := 0) (av := [x_i 9999, x_i (x_add ((x_up (x_up C 0 5 (x_add (C 0 5) 1)) 0 5 0) 0 6) 1)]) (st := [x_r (16 * u + 0)]) dX1_turnClock_34 xmX1_65 rfl (p_min hst hs) (by decide) (Nat.le_of_ble_eq_true rfl) (Or.inl rfl) ?_
    show Ev g _ _ _ _ _ _ 37 [some (x_r (16 * u + 0))] [x_i (min 9999 (x_add ((x_up (x_up C 0 5 (x_add (C 0 5) 1)) 0 5 0) 0 6) 1)), x_r (16 * u + 0)] (al, ro, fl (ml M [u] [(x_up (x_up C 0 5 (x_add (C 0 5) 1)) 0 5 0)])) _ _ _ _
    refine f_puti (pc := 37) (k := 0) (u := u) (q := 0) dX1_turnClock_37 xf1_52 xw1_6 (sc_a0 hs hu) hn rfl rfl rfl (by decide) ?_
    show Ev g _ _ _ _ _ _ 40 [some (x_r (16 * u + 0))] [] (al, ro, fl (ml M [u] [(x_up (x_up (x_up C 0 5 (x_add (C 0 5) 1)) 0 5 0) 0 6 (min 9999 (x_add ((x_up (x_up C 0 5 (x_add (C 0 5) 1)) 0 5 0) 0 6) 1)))])) _ _ _ _
    cases hr1
    exact hjhr1
