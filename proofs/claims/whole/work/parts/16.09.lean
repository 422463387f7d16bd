set_option maxRecDepth 100000 in
set_option maxHeartbeats 4000000 in
theorem c_X4_holds {g : xG} {al : List (Nat × Nat × Nat)} {ro : Nat → Nat → Option Nat} (hst : g.1.stackTraces = false) (hs : SH al ro) {M : Nat → xU} {a : Int} {b : Int} {La : xU}  {t : Int} (hG : G4_holds a b La = some t) :
    Cal g yX4_holds cX4_holds 8 (some .boolean) 0 [x_r (16 * 19 + 0), x_i a, x_i b] (al, ro, fl (ml M [19] [La])) 0 0 (.inl (some (x_i t))) (al, ro, fl (ml M [19] [La])) := by
  have hn : ([19] : List Nat).Nodup := by decide
  refine cal_of_ev (plainFor_of_name (by decide)) (x_c1 rfl) (Nat.le_of_ble_eq_true rfl) hst ?_
  show Ev g _ _ _ _ _ _ 0 [some (x_r (16 * 19 + 0)), some (x_i a), some (x_i b), none, none, none, none, none] [] (al, ro, fl (ml M [19] [La])) _ _ _ _
  rw [G4_holds] at hG
  refine e_iconst (pc := 0) dX4_holds_0 (x_R rfl) ?_
  refine e_istoren (pc := 1) (i := 3) dX4_holds_1 rfl (by decide) rfl ?_
  show Ev g _ _ _ _ _ _ 2 [some (x_r (16 * 19 + 0)), some (x_i a), some (x_i b), some (x_i 1), none, none, none, none] [] (al, ro, fl (ml M [19] [La])) _ _ _ _
  refine e_iconst (pc := 2) dX4_holds_2 (x_R rfl) ?_
  refine e_istore (pc := 3) (i := 4) dX4_holds_3 (by decide) rfl ?_
  show Ev g _ _ _ _ _ _ 5 [some (x_r (16 * 19 + 0)), some (x_i a), some (x_i b), some (x_i 1), some (x_i 0), none, none, none] [] (al, ro, fl (ml M [19] [La])) _ _ _ _
  refine e_iconst (pc := 5) dX4_holds_5 (x_R rfl) ?_
  refine e_istore (pc := 6) (i := 5) dX4_holds_6 (by decide) rfl ?_
  show Ev g _ _ _ _ _ _ 8 [some (x_r (16 * 19 + 0)), some (x_i a), some (x_i b), some (x_i 1), some (x_i 0), some (x_i 0), none, none] [] (al, ro, fl (ml M [19] [La])) _ _ _ _
  refine e_iloadn (pc := 8) (i := 1) dX4_holds_8 rfl rfl ?_
  refine e_istore (pc := 9) (i := 6) dX4_holds_9 (by decide) rfl ?_
  show Ev g _ _ _ _ _ _ 11 [some (x_r (16 * 19 + 0)), some (x_i a), some (x_i b), some (x_i 1), some (x_i 0), some (x_i 0), some (x_i a), none] [] (al, ro, fl (ml M [19] [La])) _ _ _ _
  obtain ⟨v5, hl6, hG⟩ := x_bd1 hG
  have hk6 : ∀ q : Int, q = v5 → Ev g yX4_holds cX4_holds 8 (some .boolean) [] 0 281 [some (x_r (16 * 19 + 0)), some (x_i a), some (x_i b), some (x_i q), none, none, none, none] [] (al, ro, fl (ml M [19] [La])) 0 0 (.inl (some (x_i t))) (al, ro, fl (ml M [19] [La])) := by
    intro q hq
    replace hq := hq.symm
    subst hq
    refine e_iloadn (pc := 281) (i := 3) dX4_holds_281 rfl rfl ?_
    refine e_iconst (pc := 282) dX4_holds_282 (x_R rfl) ?_
    refine e_iand (pc := 283) dX4_holds_283 ?_
    obtain ⟨v22, hr22, hG⟩ := x_bd1 hG
    have hjhr22 : Ev g yX4_holds cX4_holds 8 (some .boolean) [] 0 292 [some (x_r (16 * 19 + 0)), some (x_i a), some (x_i b), some (x_i v5), none, none, none, none] [x_i v22] (al, ro, fl (ml M [19] [La])) 0 0 (.inl (some (x_i t))) (al, ro, fl (ml M [19] [La])) := by
      obtain ⟨hc0, hG⟩ := x_gd_some hG
      cases hG
      exact (e_ireturn rfl dX4_holds_292 (x_bool hc0).1)
    clear hG
    refine e_if_eq (pc := 284) (tgt := 291) dX4_holds_284 (by decide) (fun hb => ?_) (fun hb => ?_)
    · rw [if_pos hb] at hr22
      refine e_iconst (pc := 291) dX4_holds_291 (x_R rfl) ?_
      cases hr22
      exact hjhr22
    · rw [if_neg hb] at hr22
      refine e_iconst (pc := 287) dX4_holds_287 (x_R rfl) ?_
      refine e_goto (pc := 288) (tgt := 292) dX4_holds_288 (by decide) ?_
      cases hr22
      exact hjhr22
  clear hG
  refine e_whl (G4_holds_L11 b La) (fun z : (Int × Int × Int × Int) => Ev g yX4_holds cX4_holds 8 (some .boolean) [] 0 11 [some (x_r (16 * 19 + 0)), some (x_i a), some (x_i b), some (x_i z.1), some (x_i z.2.1), some (x_i z.2.2.1), some (x_i z.2.2.2), none] [] (al, ro, fl (ml M [19] [La])) 0 0 (.inl (some (x_i t))) (al, ro, fl (ml M [19] [La]))) (fun q => q = v5) ?_ xFU (1, 0, 0, a) _ hl6 rfl
  intro z t6 hf6 hi6 hx6
  obtain ⟨v1, v2, v3, v4⟩ := z
  rw [G4_holds_L11] at hf6
  show Ev g _ _ _ _ _ _ 11 [some (x_r (16 * 19 + 0)), some (x_i a), some (x_i b), some (x_i v1), some (x_i v2), some (x_i v3), some (x_i v4), none] [] (al, ro, fl (ml M [19] [La])) _ _ _ _
  refine e_iload (pc := 11) dX4_holds_11 rfl ?_
  refine e_if_lt (pc := 13) (tgt := 281) dX4_holds_13 (by decide) (fun hb => ?_) (fun hb => ?_)
  · rw [if_pos hb] at hf6
    cases hf6
    refine e_drop (i := 4) ?_
    refine e_drop (i := 5) ?_
    refine e_drop (i := 6) ?_
    have hh := hk6 _ (hx6 _ rfl)
    try dsimp only at hh
    exact hh
  · rw [if_neg hb] at hf6
    refine e_iload (pc := 16) dX4_holds_16 rfl ?_
    refine e_iloadn (pc := 18) (i := 2) dX4_holds_18 rfl rfl ?_
    refine e_icmp_ge (pc := 19) (tgt := 281) dX4_holds_19 (by decide) (fun hb => ?_) (fun hb => ?_)
    · rw [if_pos hb] at hf6
      cases hf6
      refine e_drop (i := 4) ?_
      refine e_drop (i := 5) ?_
      refine e_drop (i := 6) ?_
      have hh := hk6 _ (hx6 _ rfl)
      try dsimp only at hh
      exact hh
    · rw [if_neg hb] at hf6
      refine e_iload (pc := 22) dX4_holds_22 rfl ?_
      refine e_aloadn (pc := 24) (i := 0) dX4_holds_24 rfl rfl ?_
      refine f_getr (pc := 25) (u := 19) (q := 0) dX4_holds_25 xf4_21 (sa_19_0 hs) rfl (sr_19_0_3 hs) ?_
      refine e_alen_i (pc := 28) (id := 16 * 19 + 4) (len := 400) dX4_holds_28 (sa_19_4 hs) (by decide) ?_
      show Ev g _ _ _ _ _ _ 29 [some (x_r (16 * 19 + 0)), some (x_i a), some (x_i b), some (x_i v1), some (x_i v2), some (x_i v3), some (x_i v4), none] [x_i 400, x_i v4] (al, ro, fl (ml M [19] [La])) _ _ _ _
      refine e_icmp_ge (pc := 29) (tgt := 281) dX4_holds_29 (by decide) (fun hb => ?_) (fun hb => ?_)
      · rw [if_pos hb] at hf6
        cases hf6
        refine e_drop (i := 4) ?_
        refine e_drop (i := 5) ?_
        refine e_drop (i := 6) ?_
        have hh := hk6 _ (hx6 _ rfl)
        try dsimp only at hh
        exact hh
      · rw [if_neg hb] at hf6
        refine e_aloadn (pc := 32) (i := 0) dX4_holds_32 rfl rfl ?_
        refine f_getr (pc := 33) (u := 19) (q := 0) dX4_holds_33 xf4_21 (sa_19_0 hs) rfl (sr_19_0_3 hs) ?_
        refine e_iload (pc := 36) dX4_holds_36 rfl ?_
        obtain ⟨hc0, hf6⟩ := x_gd_some hf6
        refine f_iald (pc := 38) (k := 0) (u := 19) (q := 4) (len := 400) dX4_holds_38 (sa_19_4 hs) hc0 hn rfl rfl (by decide) ?_
        show Ev g _ _ _ _ _ _ 39 [some (x_r (16 * 19 + 0)), some (x_i a), some (x_i b), some (x_i v1), some (x_i v2), some (x_i v3), some (x_i v4), none] [x_i (La 4 (v4).toNat)] (al, ro, fl (ml M [19] [La])) _ _ _ _
        refine e_iconst (pc := 39) dX4_holds_39 (x_R rfl) ?_
        refine e_ishr (pc := 40) dX4_holds_40 ?_
        refine e_istore (pc := 41) (i := 7) dX4_holds_41 (by decide) rfl ?_
        show Ev g _ _ _ _ _ _ 43 [some (x_r (16 * 19 + 0)), some (x_i a), some (x_i b), some (x_i v1), some (x_i v2), some (x_i v3), some (x_i v4), some (x_i (x_shr (La 4 (v4).toNat) 4))] [] (al, ro, fl (ml M [19] [La])) _ _ _ _
        refine e_aloadn (pc := 43) (i := 0) dX4_holds_43 rfl rfl ?_
        refine f_getr (pc := 44) (u := 19) (q := 0) dX4_holds_44 xf4_21 (sa_19_0 hs) rfl (sr_19_0_3 hs) ?_
        refine e_iload (pc := 47) dX4_holds_47 rfl ?_
        obtain ⟨hc0, hf6⟩ := x_gd_some hf6
        refine f_iald (pc := 49) (k := 0) (u := 19) (q := 4) (len := 400) dX4_holds_49 (sa_19_4 hs) hc0 hn rfl rfl (by decide) ?_
        show Ev g _ _ _ _ _ _ 50 [some (x_r (16 * 19 + 0)), some (x_i a), some (x_i b), some (x_i v1), some (x_i v2), some (x_i v3), some (x_i v4), some (x_i (x_shr (La 4 (v4).toNat) 4))] [x_i (La 4 (v4).toNat)] (al, ro, fl (ml M [19] [La])) _ _ _ _
        refine e_bipush (pc := 50) dX4_holds_50 (by decide +kernel) (x_R rfl) ?_
        refine e_iand (pc := 52) dX4_holds_52 ?_
        obtain ⟨v8, v9, v10, hr10, hf6⟩ := x_bd3 hf6
        have hjhr10 : Ev g yX4_holds cX4_holds 8 (some .boolean) [] 0 275 [some (x_r (16 * 19 + 0)), some (x_i a), some (x_i b), some (x_i v8), some (x_i v9), some (x_i v10), some (x_i v4), some (x_i (x_shr (La 4 (v4).toNat) 4))] [] (al, ro, fl (ml M [19] [La])) 0 0 (.inl (some (x_i t))) (al, ro, fl (ml M [19] [La])) := by
          refine e_iinc (pc := 275) dX4_holds_275 rfl (by decide) rfl ?_
          show Ev g _ _ _ _ _ _ 278 [some (x_r (16 * 19 + 0)), some (x_i a), some (x_i b), some (x_i v8), some (x_i v9), some (x_i v10), some (x_i (x_add v4 1)), some (x_i (x_shr (La 4 (v4).toNat) 4))] [] (al, ro, fl (ml M [19] [La])) _ _ _ _
          refine e_goto (pc := 278) (tgt := 11) dX4_holds_278 (by decide) ?_
          cases hf6
          refine e_drop (i := 7) ?_
          have hh := hi6 _ rfl
          try dsimp only at hh
          exact hh
        clear hf6
        by_cases hb0 : (x_and (La 4 (v4).toNat) 15) = 0
        · rw [if_pos hb0] at hr10
          refine e_tabIn (pc := 53) (tgt := 104) dX4_holds_53 (by omega) (by omega) (by rw [hb0]; rfl) (by decide) ?_
          refine e_iload (pc := 104) dX4_holds_104 rfl ?_
          refine e_iload (pc := 106) dX4_holds_106 rfl ?_
          refine e_iadd (pc := 108) dX4_holds_108 ?_
          refine e_istore (pc := 109) (i := 4) dX4_holds_109 (by decide) rfl ?_
          show Ev g _ _ _ _ _ _ 111 [some (x_r (16 * 19 + 0)), some (x_i a), some (x_i b), some (x_i v1), some (x_i (x_add v2 (x_shr (La 4 (v4).toNat) 4))), some (x_i v3), some (x_i v4), some (x_i (x_shr (La 4 (v4).toNat) 4))] [] (al, ro, fl (ml M [19] [La])) _ _ _ _
          refine e_goto (pc := 111) (tgt := 275) dX4_holds_111 (by decide) ?_
          cases hr10
          exact hjhr10
        rw [if_neg hb0] at hr10
        by_cases hb1 : (x_and (La 4 (v4).toNat) 15) = 1
        · rw [if_pos hb1] at hr10
          refine e_tabIn (pc := 53) (tgt := 114) dX4_holds_53 (by omega) (by omega) (by rw [hb1]; rfl) (by decide) ?_
          refine e_iload (pc := 114) dX4_holds_114 rfl ?_
          refine e_iload (pc := 116) dX4_holds_116 rfl ?_
          obtain ⟨v12, hr12, hr10⟩ := x_bd1 hr10
          have hjhr12 : Ev g yX4_holds cX4_holds 8 (some .boolean) [] 0 139 [some (x_r (16 * 19 + 0)), some (x_i a), some (x_i b), some (x_i v1), some (x_i v2), some (x_i v3), some (x_i v4), some (x_i (x_shr (La 4 (v4).toNat) 4))] [x_i v12, x_i v2] (al, ro, fl (ml M [19] [La])) 0 0 (.inl (some (x_i t))) (al, ro, fl (ml M [19] [La])) := by
            refine e_iadd (pc := 139) dX4_holds_139 ?_
            refine e_istore (pc := 140) (i := 4) dX4_holds_140 (by decide) rfl ?_
            show Ev g _ _ _ _ _ _ 142 [some (x_r (16 * 19 + 0)), some (x_i a), some (x_i b), some (x_i v1), some (x_i (x_add v2 v12)), some (x_i v3), some (x_i v4), some (x_i (x_shr (La 4 (v4).toNat) 4))] [] (al, ro, fl (ml M [19] [La])) _ _ _ _
            refine e_goto (pc := 142) (tgt := 275) dX4_holds_142 (by decide) ?_
            cases hr10
            exact hjhr10
          clear hr10
          refine e_if_lt (pc := 118) (tgt := 138) dX4_holds_118 (by decide) (fun hb => ?_) (fun hb => ?_)
          · rw [if_pos hb] at hr12
            refine e_iconst (pc := 138) dX4_holds_138 (x_R rfl) ?_
            cases hr12
            exact hjhr12
          · rw [if_neg hb] at hr12
            refine e_iload (pc := 121) dX4_holds_121 rfl ?_
            refine e_bipush (pc := 123) dX4_holds_123 (by decide +kernel) (x_R rfl) ?_
            refine e_icmp_ge (pc := 125) (tgt := 138) dX4_holds_125 (by decide) (fun hb => ?_) (fun hb => ?_)
            · rw [if_pos hb] at hr12
              refine e_iconst (pc := 138) dX4_holds_138 (x_R rfl) ?_
              cases hr12
              exact hjhr12
            · rw [if_neg hb] at hr12
              refine e_aloadn (pc := 128) (i := 0) dX4_holds_128 rfl rfl ?_
              refine f_getr (pc := 129) (u := 19) (q := 0) dX4_holds_129 xf4_24 (sa_19_0 hs) rfl (sr_19_0_4 hs) ?_
              refine e_iload (pc := 132) dX4_holds_132 rfl ?_
              obtain ⟨hc0, hr12⟩ := x_gd_some hr12
              refine f_iald (pc := 134) (k := 0) (u := 19) (q := 5) (len := 8) dX4_holds_134 (sa_19_5 hs) hc0 hn rfl rfl (by decide) ?_
              show Ev g _ _ _ _ _ _ 135 [some (x_r (16 * 19 + 0)), some (x_i a), some (x_i b), some (x_i v1), some (x_i v2), some (x_i v3), some (x_i v4), some (x_i (x_shr (La 4 (v4).toNat) 4))] [x_i (La 5 ((x_shr (La 4 (v4).toNat) 4)).toNat), x_i v2] (al, ro, fl (ml M [19] [La])) _ _ _ _
              refine e_goto (pc := 135) (tgt := 139) dX4_holds_135 (by decide) ?_
              cases hr12
              exact hjhr12
        rw [if_neg hb1] at hr10
        by_cases hb2 : (x_and (La 4 (v4).toNat) 15) = 2
        · rw [if_pos hb2] at hr10
          refine e_tabIn (pc := 53) (tgt := 145) dX4_holds_53 (by omega) (by omega) (by rw [hb2]; rfl) (by decide) ?_
          refine e_iload (pc := 145) dX4_holds_145 rfl ?_
          refine e_istore (pc := 147) (i := 5) dX4_holds_147 (by decide) rfl ?_
          show Ev g _ _ _ _ _ _ 149 [some (x_r (16 * 19 + 0)), some (x_i a), some (x_i b), some (x_i v1), some (x_i v2), some (x_i v2), some (x_i v4), some (x_i (x_shr (La 4 (v4).toNat) 4))] [] (al, ro, fl (ml M [19] [La])) _ _ _ _
          refine e_iconst (pc := 149) dX4_holds_149 (x_R rfl) ?_
          refine e_istore (pc := 150) (i := 4) dX4_holds_150 (by decide) rfl ?_
          show Ev g _ _ _ _ _ _ 152 [some (x_r (16 * 19 + 0)), some (x_i a), some (x_i b), some (x_i v1), some (x_i 0), some (x_i v2), some (x_i v4), some (x_i (x_shr (La 4 (v4).toNat) 4))] [] (al, ro, fl (ml M [19] [La])) _ _ _ _
          refine e_goto (pc := 152) (tgt := 275) dX4_holds_152 (by decide) ?_
          cases hr10
          exact hjhr10
        rw [if_neg hb2] at hr10
        by_cases hb3 : (x_and (La 4 (v4).toNat) 15) = 3
        · rw [if_pos hb3] at hr10
          refine e_tabIn (pc := 53) (tgt := 155) dX4_holds_53 (by omega) (by omega) (by rw [hb3]; rfl) (by decide) ?_
          refine e_iloadn (pc := 155) (i := 3) dX4_holds_155 rfl rfl ?_
          refine e_iconst (pc := 156) dX4_holds_156 (x_R rfl) ?_
          refine e_ishl (pc := 157) dX4_holds_157 ?_
          refine e_iload (pc := 158) dX4_holds_158 rfl ?_
          refine e_iload (pc := 160) dX4_holds_160 rfl ?_
          obtain ⟨v14, hr14, hr10⟩ := x_bd1 hr10
          have hjhr14 : Ev g yX4_holds cX4_holds 8 (some .boolean) [] 0 170 [some (x_r (16 * 19 + 0)), some (x_i a), some (x_i b), some (x_i v1), some (x_i v2), some (x_i v3), some (x_i v4), some (x_i (x_shr (La 4 (v4).toNat) 4))] [x_i v14, x_i (x_shl v1 1)] (al, ro, fl (ml M [19] [La])) 0 0 (.inl (some (x_i t))) (al, ro, fl (ml M [19] [La])) := by
            refine e_ior (pc := 170) dX4_holds_170 ?_
            refine e_istoren (pc := 171) (i := 3) dX4_holds_171 rfl (by decide) rfl ?_
            show Ev g _ _ _ _ _ _ 172 [some (x_r (16 * 19 + 0)), some (x_i a), some (x_i b), some (x_i (x_or (x_shl v1 1) v14)), some (x_i v2), some (x_i v3), some (x_i v4), some (x_i (x_shr (La 4 (v4).toNat) 4))] [] (al, ro, fl (ml M [19] [La])) _ _ _ _
            refine e_iconst (pc := 172) dX4_holds_172 (x_R rfl) ?_
            refine e_istore (pc := 173) (i := 4) dX4_holds_173 (by decide) rfl ?_
            show Ev g _ _ _ _ _ _ 175 [some (x_r (16 * 19 + 0)), some (x_i a), some (x_i b), some (x_i (x_or (x_shl v1 1) v14)), some (x_i 0), some (x_i v3), some (x_i v4), some (x_i (x_shr (La 4 (v4).toNat) 4))] [] (al, ro, fl (ml M [19] [La])) _ _ _ _
            refine e_goto (pc := 175) (tgt := 275) dX4_holds_175 (by decide) ?_
            cases hr10
            exact hjhr10
          clear hr10
          refine e_icmp_ge (pc := 162) (tgt := 169) dX4_holds_162 (by decide) (fun hb => ?_) (fun hb => ?_)
          · rw [if_pos hb] at hr14
            refine e_iconst (pc := 169) dX4_holds_169 (x_R rfl) ?_
            cases hr14
            exact hjhr14
          · rw [if_neg hb] at hr14
            refine e_iconst (pc := 165) dX4_holds_165 (x_R rfl) ?_
            refine e_goto (pc := 166) (tgt := 170) dX4_holds_166 (by decide) ?_
            cases hr14
            exact hjhr14
        rw [if_neg hb3] at hr10
        by_cases hb4 : (x_and (La 4 (v4).toNat) 15) = 4
        · rw [if_pos hb4] at hr10
          refine e_tabIn (pc := 53) (tgt := 178) dX4_holds_53 (by omega) (by omega) (by rw [hb4]; rfl) (by decide) ?_
          refine e_iloadn (pc := 178) (i := 3) dX4_holds_178 rfl rfl ?_
          refine e_iconst (pc := 179) dX4_holds_179 (x_R rfl) ?_
          refine e_ishl (pc := 180) dX4_holds_180 ?_
          refine e_iload (pc := 181) dX4_holds_181 rfl ?_
          refine e_iload (pc := 183) dX4_holds_183 rfl ?_
          obtain ⟨v16, hr16, hr10⟩ := x_bd1 hr10
          have hjhr16 : Ev g yX4_holds cX4_holds 8 (some .boolean) [] 0 193 [some (x_r (16 * 19 + 0)), some (x_i a), some (x_i b), some (x_i v1), some (x_i v2), some (x_i v3), some (x_i v4), some (x_i (x_shr (La 4 (v4).toNat) 4))] [x_i v16, x_i (x_shl v1 1)] (al, ro, fl (ml M [19] [La])) 0 0 (.inl (some (x_i t))) (al, ro, fl (ml M [19] [La])) := by
            refine e_ior (pc := 193) dX4_holds_193 ?_
            refine e_istoren (pc := 194) (i := 3) dX4_holds_194 rfl (by decide) rfl ?_
            show Ev g _ _ _ _ _ _ 195 [some (x_r (16 * 19 + 0)), some (x_i a), some (x_i b), some (x_i (x_or (x_shl v1 1) v16)), some (x_i v2), some (x_i v3), some (x_i v4), some (x_i (x_shr (La 4 (v4).toNat) 4))] [] (al, ro, fl (ml M [19] [La])) _ _ _ _
            refine e_iconst (pc := 195) dX4_holds_195 (x_R rfl) ?_
            refine e_istore (pc := 196) (i := 4) dX4_holds_196 (by decide) rfl ?_
            show Ev g _ _ _ _ _ _ 198 [some (x_r (16 * 19 + 0)), some (x_i a), some (x_i b), some (x_i (x_or (x_shl v1 1) v16)), some (x_i 0), some (x_i v3), some (x_i v4), some (x_i (x_shr (La 4 (v4).toNat) 4))] [] (al, ro, fl (ml M [19] [La])) _ _ _ _
            refine e_goto (pc := 198) (tgt := 275) dX4_holds_198 (by decide) ?_
            cases hr10
            exact hjhr10
          clear hr10
          refine e_icmp_le (pc := 185) (tgt := 192) dX4_holds_185 (by decide) (fun hb => ?_) (fun hb => ?_)
          · rw [if_pos hb] at hr16
            refine e_iconst (pc := 192) dX4_holds_192 (x_R rfl) ?_
            cases hr16
            exact hjhr16
          · rw [if_neg hb] at hr16
            refine e_iconst (pc := 188) dX4_holds_188 (x_R rfl) ?_
            refine e_goto (pc := 189) (tgt := 193) dX4_holds_189 (by decide) ?_
            cases hr16
            exact hjhr16
        rw [if_neg hb4] at hr10
        by_cases hb5 : (x_and (La 4 (v4).toNat) 15) = 5
        · rw [if_pos hb5] at hr10
          refine e_tabIn (pc := 53) (tgt := 201) dX4_holds_53 (by omega) (by omega) (by rw [hb5]; rfl) (by decide) ?_
          refine e_iloadn (pc := 201) (i := 3) dX4_holds_201 rfl rfl ?_
          refine e_iconst (pc := 202) dX4_holds_202 (x_R rfl) ?_
          refine e_ishl (pc := 203) dX4_holds_203 ?_
          refine e_aloadn (pc := 204) (i := 0) dX4_holds_204 rfl rfl ?_
          refine f_getr (pc := 205) (u := 19) (q := 0) dX4_holds_205 xf4_24 (sa_19_0 hs) rfl (sr_19_0_4 hs) ?_
          refine e_iconst (pc := 208) dX4_holds_208 (x_R rfl) ?_
          refine f_iald (pc := 209) (k := 0) (u := 19) (q := 5) (len := 8) dX4_holds_209 (sa_19_5 hs) (by decide) hn rfl rfl (by decide) ?_
          show Ev g _ _ _ _ _ _ 210 [some (x_r (16 * 19 + 0)), some (x_i a), some (x_i b), some (x_i v1), some (x_i v2), some (x_i v3), some (x_i v4), some (x_i (x_shr (La 4 (v4).toNat) 4))] [x_i (La 5 1), x_i (x_shl v1 1)] (al, ro, fl (ml M [19] [La])) _ _ _ _
          refine e_iconst (pc := 210) dX4_holds_210 (x_R rfl) ?_
          refine e_irem (pc := 211) dX4_holds_211 (by decide) ?_
          obtain ⟨v18, hr18, hr10⟩ := x_bd1 hr10
          have hjhr18 : Ev g yX4_holds cX4_holds 8 (some .boolean) [] 0 220 [some (x_r (16 * 19 + 0)), some (x_i a), some (x_i b), some (x_i v1), some (x_i v2), some (x_i v3), some (x_i v4), some (x_i (x_shr (La 4 (v4).toNat) 4))] [x_i v18, x_i (x_shl v1 1)] (al, ro, fl (ml M [19] [La])) 0 0 (.inl (some (x_i t))) (al, ro, fl (ml M [19] [La])) := by
            refine e_ior (pc := 220) dX4_holds_220 ?_
            refine e_istoren (pc := 221) (i := 3) dX4_holds_221 rfl (by decide) rfl ?_
            show Ev g _ _ _ _ _ _ 222 [some (x_r (16 * 19 + 0)), some (x_i a), some (x_i b), some (x_i (x_or (x_shl v1 1) v18)), some (x_i v2), some (x_i v3), some (x_i v4), some (x_i (x_shr (La 4 (v4).toNat) 4))] [] (al, ro, fl (ml M [19] [La])) _ _ _ _
            refine e_goto (pc := 222) (tgt := 275) dX4_holds_222 (by decide) ?_
            cases hr10
            exact hjhr10
          clear hr10
          refine e_if_ne (pc := 212) (tgt := 219) dX4_holds_212 (by decide) (fun hb => ?_) (fun hb => ?_)
          · rw [if_neg hb] at hr18
            refine e_iconst (pc := 219) dX4_holds_219 (x_R rfl) ?_
            cases hr18
            exact hjhr18
          · rw [if_pos hb] at hr18
            refine e_iconst (pc := 215) dX4_holds_215 (x_R rfl) ?_
            refine e_goto (pc := 216) (tgt := 220) dX4_holds_216 (by decide) ?_
            cases hr18
            exact hjhr18
        rw [if_neg hb5] at hr10
        by_cases hb6 : (x_and (La 4 (v4).toNat) 15) = 6
        · rw [if_pos hb6] at hr10
          refine e_tabIn (pc := 53) (tgt := 225) dX4_holds_53 (by omega) (by omega) (by rw [hb6]; rfl) (by decide) ?_
          refine e_iloadn (pc := 225) (i := 3) dX4_holds_225 rfl rfl ?_
          refine e_iconst (pc := 226) dX4_holds_226 (x_R rfl) ?_
          refine e_ishl (pc := 227) dX4_holds_227 ?_
          refine e_aloadn (pc := 228) (i := 0) dX4_holds_228 rfl rfl ?_
          refine f_getr (pc := 229) (u := 19) (q := 0) dX4_holds_229 xf4_24 (sa_19_0 hs) rfl (sr_19_0_4 hs) ?_
          refine e_bipush (pc := 232) dX4_holds_232 (by decide +kernel) (x_R rfl) ?_
          refine f_iald (pc := 234) (k := 0) (u := 19) (q := 5) (len := 8) dX4_holds_234 (sa_19_5 hs) (by decide) hn rfl rfl (by decide) ?_
          show Ev g _ _ _ _ _ _ 235 [some (x_r (16 * 19 + 0)), some (x_i a), some (x_i b), some (x_i v1), some (x_i v2), some (x_i v3), some (x_i v4), some (x_i (x_shr (La 4 (v4).toNat) 4))] [x_i (La 5 7), x_i (x_shl v1 1)] (al, ro, fl (ml M [19] [La])) _ _ _ _
          obtain ⟨v20, hr20, hr10⟩ := x_bd1 hr10
          have hjhr20 : Ev g yX4_holds cX4_holds 8 (some .boolean) [] 0 243 [some (x_r (16 * 19 + 0)), some (x_i a), some (x_i b), some (x_i v1), some (x_i v2), some (x_i v3), some (x_i v4), some (x_i (x_shr (La 4 (v4).toNat) 4))] [x_i v20, x_i (x_shl v1 1)] (al, ro, fl (ml M [19] [La])) 0 0 (.inl (some (x_i t))) (al, ro, fl (ml M [19] [La])) := by
            refine e_ior (pc := 243) dX4_holds_243 ?_
            refine e_istoren (pc := 244) (i := 3) dX4_holds_244 rfl (by decide) rfl ?_
            show Ev g _ _ _ _ _ _ 245 [some (x_r (16 * 19 + 0)), some (x_i a), some (x_i b), some (x_i (x_or (x_shl v1 1) v20)), some (x_i v2), some (x_i v3), some (x_i v4), some (x_i (x_shr (La 4 (v4).toNat) 4))] [] (al, ro, fl (ml M [19] [La])) _ _ _ _
            refine e_goto (pc := 245) (tgt := 275) dX4_holds_245 (by decide) ?_
            cases hr10
            exact hjhr10
          clear hr10
          refine e_if_le (pc := 235) (tgt := 242) dX4_holds_235 (by decide) (fun hb => ?_) (fun hb => ?_)
          · rw [if_pos hb] at hr20
            refine e_iconst (pc := 242) dX4_holds_242 (x_R rfl) ?_
            cases hr20
            exact hjhr20
          · rw [if_neg hb] at hr20
            refine e_iconst (pc := 238) dX4_holds_238 (x_R rfl) ?_
            refine e_goto (pc := 239) (tgt := 243) dX4_holds_239 (by decide) ?_
            cases hr20
            exact hjhr20
        rw [if_neg hb6] at hr10
        by_cases hb7 : (x_and (La 4 (v4).toNat) 15) = 7
        · rw [if_pos hb7] at hr10
          refine e_tabIn (pc := 53) (tgt := 248) dX4_holds_53 (by omega) (by omega) (by rw [hb7]; rfl) (by decide) ?_
          refine e_iloadn (pc := 248) (i := 3) dX4_holds_248 rfl rfl ?_
          refine e_iconst (pc := 249) dX4_holds_249 (x_R rfl) ?_
          refine e_ixor (pc := 250) dX4_holds_250 ?_
          refine e_istoren (pc := 251) (i := 3) dX4_holds_251 rfl (by decide) rfl ?_
          show Ev g _ _ _ _ _ _ 252 [some (x_r (16 * 19 + 0)), some (x_i a), some (x_i b), some (x_i (x_xor v1 1)), some (x_i v2), some (x_i v3), some (x_i v4), some (x_i (x_shr (La 4 (v4).toNat) 4))] [] (al, ro, fl (ml M [19] [La])) _ _ _ _
          refine e_goto (pc := 252) (tgt := 275) dX4_holds_252 (by decide) ?_
          cases hr10
          exact hjhr10
        rw [if_neg hb7] at hr10
        by_cases hb8 : (x_and (La 4 (v4).toNat) 15) = 8
        · rw [if_pos hb8] at hr10
          refine e_tabIn (pc := 53) (tgt := 255) dX4_holds_53 (by omega) (by omega) (by rw [hb8]; rfl) (by decide) ?_
          refine e_iloadn (pc := 255) (i := 3) dX4_holds_255 rfl rfl ?_
          refine e_iconst (pc := 256) dX4_holds_256 (x_R rfl) ?_
          refine e_ishr (pc := 257) dX4_holds_257 ?_
          refine e_iloadn (pc := 258) (i := 3) dX4_holds_258 rfl rfl ?_
          refine e_bipush (pc := 259) dX4_holds_259 (by decide +kernel) (x_R rfl) ?_
          refine e_ior (pc := 261) dX4_holds_261 ?_
          refine e_iand (pc := 262) dX4_holds_262 ?_
          refine e_istoren (pc := 263) (i := 3) dX4_holds_263 rfl (by decide) rfl ?_
          show Ev g _ _ _ _ _ _ 264 [some (x_r (16 * 19 + 0)), some (x_i a), some (x_i b), some (x_i (x_and (x_shr v1 1) (x_or v1 (-2)))), some (x_i v2), some (x_i v3), some (x_i v4), some (x_i (x_shr (La 4 (v4).toNat) 4))] [] (al, ro, fl (ml M [19] [La])) _ _ _ _
          refine e_goto (pc := 264) (tgt := 275) dX4_holds_264 (by decide) ?_
          cases hr10
          exact hjhr10
        rw [if_neg hb8] at hr10
        refine e_tabOut (pc := 53) (tgt := 267) dX4_holds_53 (by omega) (by decide) ?_
        refine e_iloadn (pc := 267) (i := 3) dX4_holds_267 rfl rfl ?_
        refine e_iconst (pc := 268) dX4_holds_268 (x_R rfl) ?_
        refine e_ishr (pc := 269) dX4_holds_269 ?_
        refine e_iloadn (pc := 270) (i := 3) dX4_holds_270 rfl rfl ?_
        refine e_iconst (pc := 271) dX4_holds_271 (x_R rfl) ?_
        refine e_iand (pc := 272) dX4_holds_272 ?_
        refine e_ior (pc := 273) dX4_holds_273 ?_
        refine e_istoren (pc := 274) (i := 3) dX4_holds_274 rfl (by decide) rfl ?_
        show Ev g _ _ _ _ _ _ 275 [some (x_r (16 * 19 + 0)), some (x_i a), some (x_i b), some (x_i (x_or (x_shr v1 1) (x_and v1 1))), some (x_i v2), some (x_i v3), some (x_i v4), some (x_i (x_shr (La 4 (v4).toNat) 4))] [] (al, ro, fl (ml M [19] [La])) _ _ _ _
        cases hr10
        exact hjhr10
set_option maxRecDepth 100000 in
set_option maxHeartbeats 4000000 in
theorem c_X4_strideOf {g : xG} {al : List (Nat × Nat × Nat)} {ro : Nat → Nat → Option Nat} (hst : g.1.stackTraces = false) (hs : SH al ro) {u : Nat} (hu : 3 ≤ u ∧ u ≤ 18) {M : Nat → xU} {a : Int} {C : xU} {La : xU}  {t : (Int × xU)} (hG : G4_strideOf a C La = some t) :
    Cal g yX4_strideOf cX4_strideOf 6 (some .int) 2 [x_r (16 * 19 + 0), x_r (16 * u + 0), x_i a] (al, ro, fl (ml M [u, 19] [C, La])) 0 0 (.inl (some (x_i t.1))) (al, ro, fl (ml M [u, 19] [C, t.2])) := by
  have hn : ([u, 19] : List Nat).Nodup := by simp <;> omega
  refine cal_of_ev (plainFor_of_name (by decide)) (x_c1 rfl) (Nat.le_of_ble_eq_true rfl) hst ?_
  show Ev g _ _ _ _ _ _ 0 [some (x_r (16 * 19 + 0)), some (x_r (16 * u + 0)), some (x_i a), none, none, none] [] (al, ro, fl (ml M [u, 19] [C, La])) _ _ _ _
  rw [G4_strideOf] at hG
  refine e_aloadn (pc := 0) (i := 1) dX4_strideOf_0 rfl rfl ?_
  refine e_iconst (pc := 1) dX4_strideOf_1 (x_R rfl) ?_
  refine e_iloadn (pc := 2) (i := 2) dX4_strideOf_2 rfl rfl ?_
  obtain ⟨v1, hq1, hG⟩ := x_bd1 hG
  refine e_invV (pc := 3) (K1 := 0) (S1 := 0) (K := 0) (S := 0) (dd2 := 0) (av := [x_i 1, x_i a]) (st := []) (id := 16 * u + 0) dX4_strideOf_3 xmX4_38 rfl (Or.inl ⟨1, 12, TX1, (sc_a0 hs hu), rfl, by decide⟩) (f_cal (M := M) (us2 := [u]) [0] hn rfl (And.intro rfl trivial) rfl rfl rfl (c_X1_of hst hs hu  hq1)) (by decide) (Nat.le_of_ble_eq_true rfl) (Or.inl rfl) ?_
  show Ev g _ _ _ _ _ _ 6 [some (x_r (16 * 19 + 0)), some (x_r (16 * u + 0)), some (x_i a), none, none, none] [x_i v1] (al, ro, fl (ml M [u, 19] [C, La])) _ _ _ _
  refine e_istoren (pc := 6) (i := 3) dX4_strideOf_6 rfl (by decide) rfl ?_
  show Ev g _ _ _ _ _ _ 7 [some (x_r (16 * 19 + 0)), some (x_r (16 * u + 0)), some (x_i a), some (x_i v1), none, none] [] (al, ro, fl (ml M [u, 19] [C, La])) _ _ _ _
  refine e_aloadn (pc := 7) (i := 0) dX4_strideOf_7 rfl rfl ?_
  refine f_geti (pc := 8) (k := 1) (u := 19) (q := 0) dX4_strideOf_8 xf4_27 (sa_19_0 hs) rfl hn rfl rfl (by decide) ?_
  show Ev g _ _ _ _ _ _ 11 [some (x_r (16 * 19 + 0)), some (x_r (16 * u + 0)), some (x_i a), some (x_i v1), none, none] [x_i (La 0 6)] (al, ro, fl (ml M [u, 19] [C, La])) _ _ _ _
  refine e_iconst (pc := 11) dX4_strideOf_11 (x_R rfl) ?_
  refine e_icmp_ne (pc := 12) (tgt := 53) dX4_strideOf_12 (by decide) (fun hb => ?_) (fun hb => ?_)
  · rw [if_neg hb] at hG
    refine e_aloadn (pc := 53) (i := 0) dX4_strideOf_53 rfl rfl ?_
    refine e_aloadn (pc := 54) (i := 1) dX4_strideOf_54 rfl rfl ?_
    refine e_iloadn (pc := 55) (i := 2) dX4_strideOf_55 rfl rfl ?_
    obtain ⟨La3, hq3, hG⟩ := x_bd1 hG
    refine e_invV (pc := 56) (K1 := 0) (S1 := 0) (K := 0) (S := 0) (dd2 := 1) (av := [x_r (16 * u + 0), x_i a]) (st := []) (id := 16 * 19 + 0) dX4_strideOf_56 xmX4_53 rfl (Or.inl ⟨3, 7, TX4, (sa_19_0 hs), rfl, by decide⟩) (f_cal (M := M) (us2 := [u, 19]) [0, 1] hn rfl (And.intro rfl (And.intro rfl trivial)) rfl rfl rfl (c_X4_lookAt hst hs hu  hq3)) (by decide) (Nat.le_of_ble_eq_true rfl) (Or.inl rfl) ?_
    show Ev g _ _ _ _ _ _ 59 [some (x_r (16 * 19 + 0)), some (x_r (16 * u + 0)), some (x_i a), some (x_i v1), none, none] [] (al, ro, fl (ml M [u, 19] [C, La3])) _ _ _ _
    refine e_iconst (pc := 59) dX4_strideOf_59 (x_R rfl) ?_
    refine e_istore (pc := 60) (i := 4) dX4_strideOf_60 (by decide) rfl ?_
    show Ev g _ _ _ _ _ _ 62 [some (x_r (16 * 19 + 0)), some (x_r (16 * u + 0)), some (x_i a), some (x_i v1), some (x_i 0), none] [] (al, ro, fl (ml M [u, 19] [C, La3])) _ _ _ _
    refine e_iconst (pc := 62) dX4_strideOf_62 (x_R rfl) ?_
    refine e_istore (pc := 63) (i := 5) dX4_strideOf_63 (by decide) rfl ?_
    show Ev g _ _ _ _ _ _ 65 [some (x_r (16 * 19 + 0)), some (x_r (16 * u + 0)), some (x_i a), some (x_i v1), some (x_i 0), some (x_i 0)] [] (al, ro, fl (ml M [u, 19] [C, La3])) _ _ _ _
    obtain ⟨r9, hl9, hG⟩ := x_lrd hG
    have hk9 : ∀ q : Int, r9 = .inl q → Ev g yX4_strideOf cX4_strideOf 6 (some .int) [] 2 157 [some (x_r (16 * 19 + 0)), some (x_r (16 * u + 0)), some (x_i a), some (x_i q), none, none] [] (al, ro, fl (ml M [u, 19] [C, La3])) 0 0 (.inl (some (x_i t.1))) (al, ro, fl (ml M [u, 19] [C, t.2])) := by
      intro q hq
      subst hq
      replace hG := x_lr_l hG
      obtain ⟨v8, hqq⟩ : ∃ z, z = q := ⟨q, rfl⟩
      subst hqq
      replace hG := x_ed1 hG
      refine e_bipush (pc := 157) dX4_strideOf_157 (by decide +kernel) (x_R rfl) ?_
      refine e_iconst (pc := 159) dX4_strideOf_159 (x_R rfl) ?_
      refine e_iloadn (pc := 160) (i := 3) dX4_strideOf_160 rfl rfl ?_
      refine e_invS (pc := 161) (K1 := 0) (S1 := 0) (K := 0) (S := 0) (dd2 := 0) (av := [x_i 0, x_i v8]) (st := [x_i 15]) dX4_strideOf_161 xmX4_48 rfl (p_max hst hs) (by decide) (Nat.le_of_ble_eq_true rfl) (Or.inl rfl) ?_
      show Ev g _ _ _ _ _ _ 164 [some (x_r (16 * 19 + 0)), some (x_r (16 * u + 0)), some (x_i a), some (x_i v8), none, none] [x_i (max 0 v8), x_i 15] (al, ro, fl (ml M [u, 19] [C, La3])) _ _ _ _
      refine e_invS (pc := 164) (K1 := 0) (S1 := 0) (K := 0) (S := 0) (dd2 := 0) (av := [x_i 15, x_i (max 0 v8)]) (st := []) dX4_strideOf_164 xmX4_61 rfl (p_min hst hs) (by decide) (Nat.le_of_ble_eq_true rfl) (Or.inl rfl) ?_
      show Ev g _ _ _ _ _ _ 167 [some (x_r (16 * 19 + 0)), some (x_r (16 * u + 0)), some (x_i a), some (x_i v8), none, none] [x_i (min 15 (max 0 v8))] (al, ro, fl (ml M [u, 19] [C, La3])) _ _ _ _
      cases hG
      exact (e_ireturn rfl dX4_strideOf_167 rfl)
    have hv9 : ∀ q : (Int × xU), r9 = .inr q → some q = some t := by
      intro q hq
      subst hq
      exact x_lr_r hG
    clear hG
    refine e_whl (G4_strideOf_L65 La3) (fun z : (Int × Int × Int) => Ev g yX4_strideOf cX4_strideOf 6 (some .int) [] 2 65 [some (x_r (16 * 19 + 0)), some (x_r (16 * u + 0)), some (x_i a), some (x_i z.1), some (x_i z.2.1), some (x_i z.2.2)] [] (al, ro, fl (ml M [u, 19] [C, La3])) 0 0 (.inl (some (x_i t.1))) (al, ro, fl (ml M [u, 19] [C, t.2]))) (fun q => q = r9) ?_ xFU (v1, 0, 0) _ hl9 rfl
    intro z t9 hf9 hi9 hx9
    obtain ⟨v5, v6, v7⟩ := z
    rw [G4_strideOf_L65] at hf9
    show Ev g _ _ _ _ _ _ 65 [some (x_r (16 * 19 + 0)), some (x_r (16 * u + 0)), some (x_i a), some (x_i v5), some (x_i v6), some (x_i v7)] [] (al, ro, fl (ml M [u, 19] [C, La3])) _ _ _ _
    refine e_iload (pc := 65) dX4_strideOf_65 rfl ?_
    refine e_aloadn (pc := 67) (i := 0) dX4_strideOf_67 rfl rfl ?_
    refine f_geti (pc := 68) (k := 1) (u := 19) (q := 0) dX4_strideOf_68 xf4_27 (sa_19_0 hs) rfl hn rfl rfl (by decide) ?_
    show Ev g _ _ _ _ _ _ 71 [some (x_r (16 * 19 + 0)), some (x_r (16 * u + 0)), some (x_i a), some (x_i v5), some (x_i v6), some (x_i v7)] [x_i (La3 0 6), x_i v7] (al, ro, fl (ml M [u, 19] [C, La3])) _ _ _ _
    refine e_icmp_ge (pc := 71) (tgt := 157) dX4_strideOf_71 (by decide) (fun hb => ?_) (fun hb => ?_)
    · rw [if_pos hb] at hf9
      cases hf9
      refine e_drop (i := 4) ?_
      refine e_drop (i := 5) ?_
      have hh := hk9 _ (hx9 _ rfl).symm
      try dsimp only at hh
      exact hh
    · rw [if_neg hb] at hf9
      refine e_iload (pc := 74) dX4_strideOf_74 rfl ?_
      refine e_bipush (pc := 76) dX4_strideOf_76 (by decide +kernel) (x_R rfl) ?_
      refine e_icmp_ge (pc := 78) (tgt := 157) dX4_strideOf_78 (by decide) (fun hb => ?_) (fun hb => ?_)
      · rw [if_pos hb] at hf9
        cases hf9
        refine e_drop (i := 4) ?_
        refine e_drop (i := 5) ?_
        have hh := hk9 _ (hx9 _ rfl).symm
        try dsimp only at hh
        exact hh
      · rw [if_neg hb] at hf9
        refine e_aloadn (pc := 81) (i := 0) dX4_strideOf_81 rfl rfl ?_
        refine e_iload (pc := 82) dX4_strideOf_82 rfl ?_
        refine e_aloadn (pc := 84) (i := 0) dX4_strideOf_84 rfl rfl ?_
        refine f_getr (pc := 85) (u := 19) (q := 0) dX4_strideOf_85 xf4_18 (sa_19_0 hs) rfl (sr_19_0_2 hs) ?_
        refine e_iload (pc := 88) dX4_strideOf_88 rfl ?_
        obtain ⟨hc0, hf9⟩ := x_gd_some hf9
        refine f_iald (pc := 90) (k := 1) (u := 19) (q := 3) (len := 12) dX4_strideOf_90 (sa_19_3 hs) hc0 hn rfl rfl (by decide) ?_
        show Ev g _ _ _ _ _ _ 91 [some (x_r (16 * 19 + 0)), some (x_r (16 * u + 0)), some (x_i a), some (x_i v5), some (x_i v6), some (x_i v7)] [x_i (La3 3 (v7).toNat), x_i v6, x_r (16 * 19 + 0)] (al, ro, fl (ml M [u, 19] [C, La3])) _ _ _ _
        obtain ⟨v11, hq11, hf9⟩ := x_bd1 hf9
        refine e_invV (pc := 91) (K1 := 0) (S1 := 0) (K := 0) (S := 0) (dd2 := 0) (av := [x_i v6, x_i (La3 3 (v7).toNat)]) (st := []) (id := 16 * 19 + 0) dX4_strideOf_91 xmX4_57 rfl (Or.inl ⟨3, 7, TX4, (sa_19_0 hs), rfl, by decide⟩) (f_cal (M := M) (us2 := [19]) [1] hn rfl (And.intro rfl trivial) rfl rfl rfl (c_X4_holds hst hs   hq11)) (by decide) (Nat.le_of_ble_eq_true rfl) (Or.inl rfl) ?_
        show Ev g _ _ _ _ _ _ 94 [some (x_r (16 * 19 + 0)), some (x_r (16 * u + 0)), some (x_i a), some (x_i v5), some (x_i v6), some (x_i v7)] [x_i v11] (al, ro, fl (ml M [u, 19] [C, La3])) _ _ _ _
        refine e_if_eq (pc := 94) (tgt := 142) dX4_strideOf_94 (by decide) (fun hb => ?_) (fun hb => ?_)
        · rw [if_pos hb] at hf9
          refine e_aloadn (pc := 142) (i := 0) dX4_strideOf_142 rfl rfl ?_
          refine f_getr (pc := 143) (u := 19) (q := 0) dX4_strideOf_143 xf4_18 (sa_19_0 hs) rfl (sr_19_0_2 hs) ?_
          refine e_iload (pc := 146) dX4_strideOf_146 rfl ?_
          obtain ⟨hc0, hf9⟩ := x_gd_some hf9
          refine f_iald (pc := 148) (k := 1) (u := 19) (q := 3) (len := 12) dX4_strideOf_148 (sa_19_3 hs) hc0 hn rfl rfl (by decide) ?_
          show Ev g _ _ _ _ _ _ 149 [some (x_r (16 * 19 + 0)), some (x_r (16 * u + 0)), some (x_i a), some (x_i v5), some (x_i v6), some (x_i v7)] [x_i (La3 3 (v7).toNat)] (al, ro, fl (ml M [u, 19] [C, La3])) _ _ _ _
          refine e_istore (pc := 149) (i := 4) dX4_strideOf_149 (by decide) rfl ?_
          show Ev g _ _ _ _ _ _ 151 [some (x_r (16 * 19 + 0)), some (x_r (16 * u + 0)), some (x_i a), some (x_i v5), some (x_i (La3 3 (v7).toNat)), some (x_i v7)] [] (al, ro, fl (ml M [u, 19] [C, La3])) _ _ _ _
          refine e_iinc (pc := 151) dX4_strideOf_151 rfl (by decide) rfl ?_
          show Ev g _ _ _ _ _ _ 154 [some (x_r (16 * 19 + 0)), some (x_r (16 * u + 0)), some (x_i a), some (x_i v5), some (x_i (La3 3 (v7).toNat)), some (x_i (x_add v7 1))] [] (al, ro, fl (ml M [u, 19] [C, La3])) _ _ _ _
          refine e_goto (pc := 154) (tgt := 65) dX4_strideOf_154 (by decide) ?_
          cases hf9
          have hh := hi9 _ rfl
          try dsimp only at hh
          exact hh
        · rw [if_neg hb] at hf9
          refine e_aloadn (pc := 97) (i := 0) dX4_strideOf_97 rfl rfl ?_
          refine f_getr (pc := 98) (u := 19) (q := 0) dX4_strideOf_98 xf4_11 (sa_19_0 hs) rfl (sr_19_0_0 hs) ?_
          refine e_iload (pc := 101) dX4_strideOf_101 rfl ?_
          obtain ⟨hc0, hf9⟩ := x_gd_some hf9
          refine f_iald (pc := 103) (k := 1) (u := 19) (q := 1) (len := 12) dX4_strideOf_103 (sa_19_1 hs) hc0 hn rfl rfl (by decide) ?_
          show Ev g _ _ _ _ _ _ 104 [some (x_r (16 * 19 + 0)), some (x_r (16 * u + 0)), some (x_i a), some (x_i v5), some (x_i v6), some (x_i v7)] [x_i (La3 1 (v7).toNat)] (al, ro, fl (ml M [u, 19] [C, La3])) _ _ _ _
          refine e_iconst (pc := 104) dX4_strideOf_104 (x_R rfl) ?_
          refine e_icmp_ne (pc := 105) (tgt := 110) dX4_strideOf_105 (by decide) (fun hb => ?_) (fun hb => ?_)
          · rw [if_neg hb] at hf9
            refine e_iloadn (pc := 110) (i := 3) dX4_strideOf_110 rfl rfl ?_
            refine e_aloadn (pc := 111) (i := 0) dX4_strideOf_111 rfl rfl ?_
            refine f_getr (pc := 112) (u := 19) (q := 0) dX4_strideOf_112 xf4_11 (sa_19_0 hs) rfl (sr_19_0_0 hs) ?_
            refine e_iload (pc := 115) dX4_strideOf_115 rfl ?_
            obtain ⟨hc0, hf9⟩ := x_gd_some hf9
            refine f_iald (pc := 117) (k := 1) (u := 19) (q := 1) (len := 12) dX4_strideOf_117 (sa_19_1 hs) hc0 hn rfl rfl (by decide) ?_
            show Ev g _ _ _ _ _ _ 118 [some (x_r (16 * 19 + 0)), some (x_r (16 * u + 0)), some (x_i a), some (x_i v5), some (x_i v6), some (x_i v7)] [x_i (La3 1 (v7).toNat), x_i v5] (al, ro, fl (ml M [u, 19] [C, La3])) _ _ _ _
            refine e_iconst (pc := 118) dX4_strideOf_118 (x_R rfl) ?_
            obtain ⟨v13, hr13, hf9⟩ := x_bd1 hf9
            have hjhr13 : Ev g yX4_strideOf cX4_strideOf 6 (some .int) [] 2 140 [some (x_r (16 * 19 + 0)), some (x_r (16 * u + 0)), some (x_i a), some (x_i v5), some (x_i v6), some (x_i v7)] [x_i v13, x_i v5] (al, ro, fl (ml M [u, 19] [C, La3])) 0 0 (.inl (some (x_i t.1))) (al, ro, fl (ml M [u, 19] [C, t.2])) := by
              refine e_iadd (pc := 140) dX4_strideOf_140 ?_
              refine e_istoren (pc := 141) (i := 3) dX4_strideOf_141 rfl (by decide) rfl ?_
              show Ev g _ _ _ _ _ _ 142 [some (x_r (16 * 19 + 0)), some (x_r (16 * u + 0)), some (x_i a), some (x_i (x_add v5 v13)), some (x_i v6), some (x_i v7)] [] (al, ro, fl (ml M [u, 19] [C, La3])) _ _ _ _
              refine e_aloadn (pc := 142) (i := 0) dX4_strideOf_142 rfl rfl ?_
              refine f_getr (pc := 143) (u := 19) (q := 0) dX4_strideOf_143 xf4_18 (sa_19_0 hs) rfl (sr_19_0_2 hs) ?_
              refine e_iload (pc := 146) dX4_strideOf_146 rfl ?_
              obtain ⟨hc0, hf9⟩ := x_gd_some hf9
              refine f_iald (pc := 148) (k := 1) (u := 19) (q := 3) (len := 12) dX4_strideOf_148 (sa_19_3 hs) hc0 hn rfl rfl (by decide) ?_
              show Ev g _ _ _ _ _ _ 149 [some (x_r (16 * 19 + 0)), some (x_r (16 * u + 0)), some (x_i a), some (x_i (x_add v5 v13)), some (x_i v6), some (x_i v7)] [x_i (La3 3 (v7).toNat)] (al, ro, fl (ml M [u, 19] [C, La3])) _ _ _ _
              refine e_istore (pc := 149) (i := 4) dX4_strideOf_149 (by decide) rfl ?_
              show Ev g _ _ _ _ _ _ 151 [some (x_r (16 * 19 + 0)), some (x_r (16 * u + 0)), some (x_i a), some (x_i (x_add v5 v13)), some (x_i (La3 3 (v7).toNat)), some (x_i v7)] [] (al, ro, fl (ml M [u, 19] [C, La3])) _ _ _ _
              refine e_iinc (pc := 151) dX4_strideOf_151 rfl (by decide) rfl ?_
              show Ev g _ _ _ _ _ _ 154 [some (x_r (16 * 19 + 0)), some (x_r (16 * u + 0)), some (x_i a), some (x_i (x_add v5 v13)), some (x_i (La3 3 (v7).toNat)), some (x_i (x_add v7 1))] [] (al, ro, fl (ml M [u, 19] [C, La3])) _ _ _ _
              refine e_goto (pc := 154) (tgt := 65) dX4_strideOf_154 (by decide) ?_
              cases hf9
              have hh := hi9 _ rfl
              try dsimp only at hh
              exact hh
            clear hf9
            refine e_icmp_ne (pc := 119) (tgt := 132) dX4_strideOf_119 (by decide) (fun hb => ?_) (fun hb => ?_)
            · rw [if_neg hb] at hr13
              refine e_aloadn (pc := 132) (i := 0) dX4_strideOf_132 rfl rfl ?_
              refine f_getr (pc := 133) (u := 19) (q := 0) dX4_strideOf_133 xf4_15 (sa_19_0 hs) rfl (sr_19_0_1 hs) ?_
              refine e_iload (pc := 136) dX4_strideOf_136 rfl ?_
              obtain ⟨hc0, hr13⟩ := x_gd_some hr13
              refine f_iald (pc := 138) (k := 1) (u := 19) (q := 2) (len := 12) dX4_strideOf_138 (sa_19_2 hs) hc0 hn rfl rfl (by decide) ?_
              show Ev g _ _ _ _ _ _ 139 [some (x_r (16 * 19 + 0)), some (x_r (16 * u + 0)), some (x_i a), some (x_i v5), some (x_i v6), some (x_i v7)] [x_i (La3 2 (v7).toNat), x_i v5] (al, ro, fl (ml M [u, 19] [C, La3])) _ _ _ _
              refine e_ineg (pc := 139) dX4_strideOf_139 ?_
              cases hr13
              exact hjhr13
            · rw [if_pos hb] at hr13
              refine e_aloadn (pc := 122) (i := 0) dX4_strideOf_122 rfl rfl ?_
              refine f_getr (pc := 123) (u := 19) (q := 0) dX4_strideOf_123 xf4_15 (sa_19_0 hs) rfl (sr_19_0_1 hs) ?_
              refine e_iload (pc := 126) dX4_strideOf_126 rfl ?_
              obtain ⟨hc0, hr13⟩ := x_gd_some hr13
              refine f_iald (pc := 128) (k := 1) (u := 19) (q := 2) (len := 12) dX4_strideOf_128 (sa_19_2 hs) hc0 hn rfl rfl (by decide) ?_
              show Ev g _ _ _ _ _ _ 129 [some (x_r (16 * 19 + 0)), some (x_r (16 * u + 0)), some (x_i a), some (x_i v5), some (x_i v6), some (x_i v7)] [x_i (La3 2 (v7).toNat), x_i v5] (al, ro, fl (ml M [u, 19] [C, La3])) _ _ _ _
              refine e_goto (pc := 129) (tgt := 140) dX4_strideOf_129 (by decide) ?_
              cases hr13
              exact hjhr13
          · rw [if_pos hb] at hf9
            refine e_iconst (pc := 108) dX4_strideOf_108 (x_R rfl) ?_
            cases hf9
            have hz := hv9 _ (hx9 _ rfl).symm
            cases hz
            exact (e_ireturn rfl dX4_strideOf_109 rfl)
  · rw [if_pos hb] at hG
    refine e_aloadn (pc := 15) (i := 1) dX4_strideOf_15 rfl rfl ?_
    refine e_aloadn (pc := 16) (i := 1) dX4_strideOf_16 rfl rfl ?_
    refine e_iconst (pc := 17) dX4_strideOf_17 (x_R rfl) ?_
    refine e_iloadn (pc := 18) (i := 2) dX4_strideOf_18 rfl rfl ?_
    obtain ⟨v15, hq15, hG⟩ := x_bd1 hG
    refine e_invV (pc := 19) (K1 := 0) (S1 := 0) (K := 0) (S := 0) (dd2 := 0) (av := [x_i 0, x_i a]) (st := [x_r (16 * u + 0)]) (id := 16 * u + 0) dX4_strideOf_19 xmX4_38 rfl (Or.inl ⟨1, 12, TX1, (sc_a0 hs hu), rfl, by decide⟩) (f_cal (M := M) (us2 := [u]) [0] hn rfl (And.intro rfl trivial) rfl rfl rfl (c_X1_of hst hs hu  hq15)) (by decide) (Nat.le_of_ble_eq_true rfl) (Or.inl rfl) ?_
    show Ev g _ _ _ _ _ _ 22 [some (x_r (16 * 19 + 0)), some (x_r (16 * u + 0)), some (x_i a), some (x_i v1), none, none] [x_i v15, x_r (16 * u + 0)] (al, ro, fl (ml M [u, 19] [C, La])) _ _ _ _
    obtain ⟨v17, hq17, hG⟩ := x_bd1 hG
    refine e_invV (pc := 22) (K1 := 0) (S1 := 0) (K := 0) (S := 0) (dd2 := 0) (av := [x_i v15]) (st := []) (id := 16 * u + 0) dX4_strideOf_22 xmX4_44 rfl (Or.inl ⟨1, 12, TX1, (sc_a0 hs hu), rfl, by decide⟩) (f_cal (M := M) (us2 := [u]) [0] hn rfl (And.intro rfl trivial) rfl rfl rfl (c_X1_seasonOf hst hs hu  hq17)) (by decide) (Nat.le_of_ble_eq_true rfl) (Or.inl rfl) ?_
    show Ev g _ _ _ _ _ _ 25 [some (x_r (16 * 19 + 0)), some (x_r (16 * u + 0)), some (x_i a), some (x_i v1), none, none] [x_i v17] (al, ro, fl (ml M [u, 19] [C, La])) _ _ _ _
    refine e_iconst (pc := 25) dX4_strideOf_25 (x_R rfl) ?_
    obtain ⟨v19, hr19, hG⟩ := x_bd1 hG
    have hjhr19 : Ev g yX4_strideOf cX4_strideOf 6 (some .int) [] 2 34 [some (x_r (16 * 19 + 0)), some (x_r (16 * u + 0)), some (x_i a), some (x_i v1), none, none] [x_i v19] (al, ro, fl (ml M [u, 19] [C, La])) 0 0 (.inl (some (x_i t.1))) (al, ro, fl (ml M [u, 19] [C, t.2])) := by
      refine e_istore (pc := 34) (i := 4) dX4_strideOf_34 (by decide) rfl ?_
      show Ev g _ _ _ _ _ _ 36 [some (x_r (16 * 19 + 0)), some (x_r (16 * u + 0)), some (x_i a), some (x_i v1), some (x_i v19), none] [] (al, ro, fl (ml M [u, 19] [C, La])) _ _ _ _
      refine e_iload (pc := 36) dX4_strideOf_36 rfl ?_
      obtain ⟨v21, hr21, hG⟩ := x_bd1 hG
      have hjhr21 : Ev g yX4_strideOf cX4_strideOf 6 (some .int) [] 2 52 [some (x_r (16 * 19 + 0)), some (x_r (16 * u + 0)), some (x_i a), some (x_i v1), some (x_i v19), none] [x_i v21] (al, ro, fl (ml M [u, 19] [C, La])) 0 0 (.inl (some (x_i t.1))) (al, ro, fl (ml M [u, 19] [C, t.2])) := by
        cases hG
        exact (e_ireturn rfl dX4_strideOf_52 rfl)
      clear hG
      refine e_if_eq (pc := 38) (tgt := 51) dX4_strideOf_38 (by decide) (fun hb => ?_) (fun hb => ?_)
      · rw [if_pos hb] at hr21
        refine e_iloadn (pc := 51) (i := 3) dX4_strideOf_51 rfl rfl ?_
        cases hr21
        exact hjhr21
      · rw [if_neg hb] at hr21
        refine e_iconst (pc := 41) dX4_strideOf_41 (x_R rfl) ?_
        refine e_iloadn (pc := 42) (i := 3) dX4_strideOf_42 rfl rfl ?_
        refine e_iconst (pc := 43) dX4_strideOf_43 (x_R rfl) ?_
        refine e_isub (pc := 44) dX4_strideOf_44 ?_
        refine e_invS (pc := 45) (K1 := 0) (S1 := 0) (K := 0) (S := 0) (dd2 := 0) (av := [x_i 0, x_i (x_sub v1 1)]) (st := []) dX4_strideOf_45 xmX4_48 rfl (p_max hst hs) (by decide) (Nat.le_of_ble_eq_true rfl) (Or.inl rfl) ?_
        show Ev g _ _ _ _ _ _ 48 [some (x_r (16 * 19 + 0)), some (x_r (16 * u + 0)), some (x_i a), some (x_i v1), some (x_i v19), none] [x_i (max 0 (x_sub v1 1))] (al, ro, fl (ml M [u, 19] [C, La])) _ _ _ _
        refine e_goto (pc := 48) (tgt := 52) dX4_strideOf_48 (by decide) ?_
        cases hr21
        exact hjhr21
    clear hG
    refine e_icmp_ne (pc := 26) (tgt := 33) dX4_strideOf_26 (by decide) (fun hb => ?_) (fun hb => ?_)
    · rw [if_neg hb] at hr19
      refine e_iconst (pc := 33) dX4_strideOf_33 (x_R rfl) ?_
      cases hr19
      exact hjhr19
    · rw [if_pos hb] at hr19
      refine e_iconst (pc := 29) dX4_strideOf_29 (x_R rfl) ?_
      refine e_goto (pc := 30) (tgt := 34) dX4_strideOf_30 (by decide) ?_
      cases hr19
      exact hjhr19
set_option maxRecDepth 100000 in
set_option maxHeartbeats 4000000 in
theorem c_X6_add {g : xG} {al : List (Nat × Nat × Nat)} {ro : Nat → Nat → Option Nat} (hst : g.1.stackTraces = false) (hs : SH al ro) {u : Nat} (hu : 3 ≤ u ∧ u ≤ 18) {M : Nat → xU} {a : Int} {b : Int} {c : Int} {d : Int} {e : Int} {C : xU}  {t : xU} (hG : G6_add a b c d e C = some t) :
    Cal g yX6_add cX6_add 6 none 1 [x_r (16 * u + 3), x_i a, x_i b, x_i c, x_i d, x_i e] (al, ro, fl (ml M [u] [C])) 0 0 (.inl none) (al, ro, fl (ml M [u] [t])) := by
  have hn : ([u] : List Nat).Nodup := by simp
  refine cal_of_ev (plainFor_of_name (by decide)) (x_c1 rfl) (Nat.le_of_ble_eq_true rfl) hst ?_
  show Ev g _ _ _ _ _ _ 0 [some (x_r (16 * u + 3)), some (x_i a), some (x_i b), some (x_i c), some (x_i d), some (x_i e)] [] (al, ro, fl (ml M [u] [C])) _ _ _ _
  rw [G6_add] at hG
  refine e_aloadn (pc := 0) (i := 0) dX6_add_0 rfl rfl ?_
  refine f_geti (pc := 1) (k := 0) (u := u) (q := 3) dX6_add_1 xf6_23 (sc_a3 hs hu) rfl hn rfl rfl (by decide) ?_
  show Ev g _ _ _ _ _ _ 4 [some (x_r (16 * u + 3)), some (x_i a), some (x_i b), some (x_i c), some (x_i d), some (x_i e)] [x_i (C 3 2)] (al, ro, fl (ml M [u] [C])) _ _ _ _
  obtain ⟨C1, hr1, hG⟩ := x_bd1 hG
  have hjhr1 : Ev g yX6_add cX6_add 6 none [] 1 75 [some (x_r (16 * u + 3)), some (x_i a), some (x_i b), some (x_i c), some (x_i d), some (x_i e)] [] (al, ro, fl (ml M [u] [C1])) 0 0 (.inl none) (al, ro, fl (ml M [u] [t])) := by
    cases hG
    exact (e_return rfl dX6_add_75)
  clear hG
  refine e_if_lt (pc := 4) (tgt := 75) dX6_add_4 (by decide) (fun hb => ?_) (fun hb => ?_)
  · rw [if_pos hb] at hr1
    cases hr1
    exact hjhr1
  · rw [if_neg hb] at hr1
    refine e_aloadn (pc := 7) (i := 0) dX6_add_7 rfl rfl ?_
    refine f_geti (pc := 8) (k := 0) (u := u) (q := 3) dX6_add_8 xf6_23 (sc_a3 hs hu) rfl hn rfl rfl (by decide) ?_
    show Ev g _ _ _ _ _ _ 11 [some (x_r (16 * u + 3)), some (x_i a), some (x_i b), some (x_i c), some (x_i d), some (x_i e)] [x_i (C 3 2)] (al, ro, fl (ml M [u] [C])) _ _ _ _
    refine e_bipush (pc := 11) dX6_add_11 (by decide +kernel) (x_R rfl) ?_
    refine e_icmp_ge (pc := 13) (tgt := 75) dX6_add_13 (by decide) (fun hb => ?_) (fun hb => ?_)
    · rw [if_pos hb] at hr1
      cases hr1
      exact hjhr1
    · rw [if_neg hb] at hr1
      refine e_aloadn (pc := 16) (i := 0) dX6_add_16 rfl rfl ?_
      refine f_getr (pc := 17) (u := u) (q := 3) dX6_add_17 xf6_11 (sc_a3 hs hu) rfl (sc_r3_0 hs hu) ?_
      refine e_aloadn (pc := 20) (i := 0) dX6_add_20 rfl rfl ?_
      refine f_geti (pc := 21) (k := 0) (u := u) (q := 3) dX6_add_21 xf6_23 (sc_a3 hs hu) rfl hn rfl rfl (by decide) ?_
      show Ev g _ _ _ _ _ _ 24 [some (x_r (16 * u + 3)), some (x_i a), some (x_i b), some (x_i c), some (x_i d), some (x_i e)] [x_i (C 3 2), x_r (16 * u + 4)] (al, ro, fl (ml M [u] [C])) _ _ _ _
      refine e_iloadn (pc := 24) (i := 1) dX6_add_24 rfl rfl ?_
      refine e_bipush (pc := 25) dX6_add_25 (by decide +kernel) (x_R rfl) ?_
      refine e_ishl (pc := 27) dX6_add_27 ?_
      refine e_iloadn (pc := 28) (i := 2) dX6_add_28 rfl rfl ?_
      refine e_bipush (pc := 29) dX6_add_29 (by decide +kernel) (x_R rfl) ?_
      refine e_ishl (pc := 31) dX6_add_31 ?_
      refine e_ior (pc := 32) dX6_add_32 ?_
      refine e_iloadn (pc := 33) (i := 3) dX6_add_33 rfl rfl ?_
      refine e_bipush (pc := 34) dX6_add_34 (by decide +kernel) (x_R rfl) ?_
      refine e_ishl (pc := 36) dX6_add_36 ?_
      refine e_ior (pc := 37) dX6_add_37 ?_
      refine e_iload (pc := 38) dX6_add_38 rfl ?_
      refine e_iconst (pc := 40) dX6_add_40 (x_R rfl) ?_
      refine e_ishl (pc := 41) dX6_add_41 ?_
      refine e_ior (pc := 42) dX6_add_42 ?_
      refine e_iload (pc := 43) dX6_add_43 rfl ?_
      refine e_ior (pc := 45) dX6_add_45 ?_
      obtain ⟨hc0, hr1⟩ := x_gd_some hr1
      refine f_iast (pc := 46) (k := 0) (u := u) (q := 4) (len := 60) dX6_add_46 (sc_a4 hs hu) hc0 hn rfl rfl rfl (by decide) ?_
      show Ev g _ _ _ _ _ _ 47 [some (x_r (16 * u + 3)), some (x_i a), some (x_i b), some (x_i c), some (x_i d), some (x_i e)] [] (al, ro, fl (ml M [u] [(x_up C 4 ((C 3 2)).toNat (x_or (x_or (x_or (x_or (x_shl a 13) (x_shl b 8)) (x_shl c 7)) (x_shl d 4)) e))])) _ _ _ _
      refine e_aloadn (pc := 47) (i := 0) dX6_add_47 rfl rfl ?_
      refine e_aloadn (pc := 48) (i := 0) dX6_add_48 rfl rfl ?_
      refine f_geti (pc := 49) (k := 0) (u := u) (q := 3) dX6_add_49 xf6_23 (sc_a3 hs hu) rfl hn rfl rfl (by decide) ?_
      show Ev g _ _ _ _ _ _ 52 [some (x_r (16 * u + 3)), some (x_i a), some (x_i b), some (x_i c), some (x_i d), some (x_i e)] [x_i ((x_up C 4 ((C 3 2)).toNat (x_or (x_or (x_or (x_or (x_shl a 13) (x_shl b 8)) (x_shl c 7)) (x_shl d 4)) e)) 3 2), x_r (16 * u + 3)] (al, ro, fl (ml M [u] [(x_up C 4 ((C 3 2)).toNat (x_or (x_or (x_or (x_or (x_shl a 13) (x_shl b 8)) (x_shl c 7)) (x_shl d 4)) e))])) _ _ _ _
      refine e_iconst (pc := 52) dX6_add_52 (x_R rfl) ?_
      refine e_iadd (pc := 53) dX6_add_53 ?_
      refine e_bipush (pc := 54) dX6_add_54 (by decide +kernel) (x_R rfl) ?_
      refine e_irem (pc := 56) dX6_add_56 (by decide) ?_
      refine f_puti (pc := 57) (k := 0) (u := u) (q := 3) dX6_add_57 xf6_23 xw4_2 (sc_a3 hs hu) hn rfl rfl rfl (by decide) ?_
      show Ev g _ _ _ _ _ _ 60 [some (x_r (16 * u + 3)), some (x_i a), some (x_i b), some (x_i c), some (x_i d), some (x_i e)] [] (al, ro, fl (ml M [u] [(x_up (x_up C 4 ((C 3 2)).toNat (x_or (x_or (x_or (x_or (x_shl a 13) (x_shl b 8)) (x_shl c 7)) (x_shl d 4)) e)) 3 2 (x_rem (x_add ((x_up C 4 ((C 3 2)).toNat (x_or (x_or (x_or (x_or (x_shl a 13) (x_shl b 8)) (x_shl c 7)) (x_shl d 4)) e)) 3 2) 1) 60))])) _ _ _ _
      refine e_aloadn (pc := 60) (i := 0) dX6_add_60 rfl rfl ?_
      refine e_bipush (pc := 61) dX6_add_61 (by decide +kernel) (x_R rfl) ?_
      refine e_aloadn (pc := 63) (i := 0) dX6_add_63 rfl rfl ?_
      refine f_geti (pc := 64) (k := 0) (u := u) (q := 3) dX6_add_64 xf6_19 (sc_a3 hs hu) rfl hn rfl rfl (by decide) ?_
      show Ev g _ _ _ _ _ _ 67 [some (x_r (16 * u + 3)), some (x_i a), some (x_i b), some (x_i c), some (x_i d), some (x_i e)] [x_i ((x_up (x_up C 4 ((C 3 2)).toNat (x_or (x_or (x_or (x_or (x_shl a 13) (x_shl b 8)) (x_shl c 7)) (x_shl d 4)) e)) 3 2 (x_rem (x_add ((x_up C 4 ((C 3 2)).toNat (x_or (x_or (x_or (x_or (x_shl a 13) (x_shl b 8)) (x_shl c 7)) (x_shl d 4)) e)) 3 2) 1) 60)) 3 1), x_i 60, x_r (16 * u + 3)] (al, ro, fl (ml M [u] [(x_up (x_up C 4 ((C 3 2)).toNat (x_or (x_or (x_or (x_or (x_shl a 13) (x_shl b 8)) (x_shl c 7)) (x_shl d 4)) e)) 3 2 (x_rem (x_add ((x_up C 4 ((C 3 2)).toNat (x_or (x_or (x_or (x_or (x_shl a 13) (x_shl b 8)) (x_shl c 7)) (x_shl d 4)) e)) 3 2) 1) 60))])) _ _ _ _
      refine e_iconst (pc := 67) dX6_add_67 (x_R rfl) ?_
      refine e_iadd (pc := 68) dX6_add_68 ?_
      refine e_invS (pc := 69) (K1 := 0) (S1 := 0) (K := 0) (S := 0) (dd2 := 0) (av := [x_i 60, x_i (x_add ((x_up (x_up C 4 ((C 3 2)).toNat (x_or (x_or (x_or (x_or (x_shl a 13) (x_shl b 8)) (x_shl c 7)) (x_shl d 4)) e)) 3 2 (x_rem (x_add ((x_up C 4 ((C 3 2)).toNat (x_or (x_or (x_or (x_or (x_shl a 13) (x_shl b 8)) (x_shl c 7)) (x_shl d 4)) e)) 3 2) 1) 60)) 3 1) 1)]) (st := [x_r (16 * u + 3)]) dX6_add_69 xmX6_26 rfl (p_min hst hs) (by decide) (Nat.le_of_ble_eq_true rfl) (Or.inl rfl) ?_
      show Ev g _ _ _ _ _ _ 72 [some (x_r (16 * u + 3)), some (x_i a), some (x_i b), some (x_i c), some (x_i d), some (x_i e)] [x_i (min 60 (x_add ((x_up (x_up C 4 ((C 3 2)).toNat (x_or (x_or (x_or (x_or (x_shl a 13) (x_shl b 8)) (x_shl c 7)) (x_shl d 4)) e)) 3 2 (x_rem (x_add ((x_up C 4 ((C 3 2)).toNat (x_or (x_or (x_or (x_or (x_shl a 13) (x_shl b 8)) (x_shl c 7)) (x_shl d 4)) e)) 3 2) 1) 60)) 3 1) 1)), x_r (16 * u + 3)] (al, ro, fl (ml M [u] [(x_up (x_up C 4 ((C 3 2)).toNat (x_or (x_or (x_or (x_or (x_shl a 13) (x_shl b 8)) (x_shl c 7)) (x_shl d 4)) e)) 3 2 (x_rem (x_add ((x_up C 4 ((C 3 2)).toNat (x_or (x_or (x_or (x_or (x_shl a 13) (x_shl b 8)) (x_shl c 7)) (x_shl d 4)) e)) 3 2) 1) 60))])) _ _ _ _
      refine f_puti (pc := 72) (k := 0) (u := u) (q := 3) dX6_add_72 xf6_19 xw4_1 (sc_a3 hs hu) hn rfl rfl rfl (by decide) ?_
      show Ev g _ _ _ _ _ _ 75 [some (x_r (16 * u + 3)), some (x_i a), some (x_i b), some (x_i c), some (x_i d), some (x_i e)] [] (al, ro, fl (ml M [u] [(x_up (x_up (x_up C 4 ((C 3 2)).toNat (x_or (x_or (x_or (x_or (x_shl a 13) (x_shl b 8)) (x_shl c 7)) (x_shl d 4)) e)) 3 2 (x_rem (x_add ((x_up C 4 ((C 3 2)).toNat (x_or (x_or (x_or (x_or (x_shl a 13) (x_shl b 8)) (x_shl c 7)) (x_shl d 4)) e)) 3 2) 1) 60)) 3 1 (min 60 (x_add ((x_up (x_up C 4 ((C 3 2)).toNat (x_or (x_or (x_or (x_or (x_shl a 13) (x_shl b 8)) (x_shl c 7)) (x_shl d 4)) e)) 3 2 (x_rem (x_add ((x_up C 4 ((C 3 2)).toNat (x_or (x_or (x_or (x_or (x_shl a 13) (x_shl b 8)) (x_shl c 7)) (x_shl d 4)) e)) 3 2) 1) 60)) 3 1) 1)))])) _ _ _ _
      cases hr1
      exact hjhr1
set_option maxRecDepth 100000 in
set_option maxHeartbeats 4000000 in
theorem c_X1_goOn {g : xG} {al : List (Nat × Nat × Nat)} {ro : Nat → Nat → Option Nat} (hst : g.1.stackTraces = false) (hs : SH al ro) {u : Nat} (hu : 3 ≤ u ∧ u ≤ 18) {M : Nat → xU} {a : Int} {C : xU} {La : xU}  {t : (xU × xU)} (hG : G1_goOn a C La = some t) :
    Cal g yX1_goOn cX1_goOn 4 none 3 [x_r (16 * u + 0), x_i a, x_r (16 * 19 + 0)] (al, ro, fl (ml M [u, 19] [C, La])) 0 0 (.inl none) (al, ro, fl (ml M [u, 19] [t.1, t.2])) := by
  have hn : ([u, 19] : List Nat).Nodup := by simp <;> omega
  refine cal_of_ev (plainFor_of_name (by decide)) (x_c1 rfl) (Nat.le_of_ble_eq_true rfl) hst ?_
  show Ev g _ _ _ _ _ _ 0 [some (x_r (16 * u + 0)), some (x_i a), some (x_r (16 * 19 + 0)), none] [] (al, ro, fl (ml M [u, 19] [C, La])) _ _ _ _
  rw [G1_goOn] at hG
  refine e_aloadn (pc := 0) (i := 0) dX1_goOn_0 rfl rfl ?_
  refine e_iloadn (pc := 1) (i := 1) dX1_goOn_1 rfl rfl ?_
  obtain ⟨v1, hq1, hG⟩ := x_bd1 hG
  refine e_invV (pc := 2) (K1 := 0) (S1 := 0) (K := 0) (S := 0) (dd2 := 1) (av := [x_i a]) (st := []) (id := 16 * u + 0) dX1_goOn_2 xmX1_122 rfl (Or.inl ⟨1, 12, TX1, (sc_a0 hs hu), rfl, by decide⟩) (f_cal (M := M) (us2 := [u]) [0] hn rfl (And.intro rfl trivial) rfl rfl rfl (c_X1_isLost hst hs hu  hq1)) (by decide) (Nat.le_of_ble_eq_true rfl) (Or.inl rfl) ?_
  show Ev g _ _ _ _ _ _ 5 [some (x_r (16 * u + 0)), some (x_i a), some (x_r (16 * 19 + 0)), none] [x_i v1] (al, ro, fl (ml M [u, 19] [C, La])) _ _ _ _
  refine e_if_eq (pc := 5) (tgt := 23) dX1_goOn_5 (by decide) (fun hb => ?_) (fun hb => ?_)
  · rw [if_pos hb] at hG
    refine e_aloadn (pc := 23) (i := 0) dX1_goOn_23 rfl rfl ?_
    refine e_iconst (pc := 24) dX1_goOn_24 (x_R rfl) ?_
    refine e_iloadn (pc := 25) (i := 1) dX1_goOn_25 rfl rfl ?_
    obtain ⟨v3, hq3, hG⟩ := x_bd1 hG
    refine e_invV (pc := 26) (K1 := 0) (S1 := 0) (K := 0) (S := 0) (dd2 := 0) (av := [x_i 0, x_i a]) (st := []) (id := 16 * u + 0) dX1_goOn_26 xmX1_79 rfl (Or.inl ⟨1, 12, TX1, (sc_a0 hs hu), rfl, by decide⟩) (f_cal (M := M) (us2 := [u]) [0] hn rfl (And.intro rfl trivial) rfl rfl rfl (c_X1_of hst hs hu  hq3)) (by decide) (Nat.le_of_ble_eq_true rfl) (Or.inl rfl) ?_
    show Ev g _ _ _ _ _ _ 29 [some (x_r (16 * u + 0)), some (x_i a), some (x_r (16 * 19 + 0)), none] [x_i v3] (al, ro, fl (ml M [u, 19] [C, La])) _ _ _ _
    refine e_aloadn (pc := 29) (i := 2) dX1_goOn_29 rfl rfl ?_
    refine e_aloadn (pc := 30) (i := 0) dX1_goOn_30 rfl rfl ?_
    refine e_iloadn (pc := 31) (i := 1) dX1_goOn_31 rfl rfl ?_
    obtain ⟨v5, La6, hq6, hG⟩ := x_bd2 hG
    refine e_invV (pc := 32) (K1 := 0) (S1 := 0) (K := 0) (S := 0) (dd2 := 2) (av := [x_r (16 * u + 0), x_i a]) (st := [x_i v3]) (id := 16 * 19 + 0) dX1_goOn_32 xmX1_126 rfl (Or.inl ⟨3, 7, TX4, (sa_19_0 hs), rfl, by decide⟩) (f_cal (M := M) (us2 := [u, 19]) [0, 1] hn rfl (And.intro rfl (And.intro rfl trivial)) rfl rfl rfl (c_X4_strideOf hst hs hu  hq6)) (by decide) (Nat.le_of_ble_eq_true rfl) (Or.inl rfl) ?_
    show Ev g _ _ _ _ _ _ 35 [some (x_r (16 * u + 0)), some (x_i a), some (x_r (16 * 19 + 0)), none] [x_i v5, x_i v3] (al, ro, fl (ml M [u, 19] [C, La6])) _ _ _ _
    refine e_iadd (pc := 35) dX1_goOn_35 ?_
    refine e_istoren (pc := 36) (i := 3) dX1_goOn_36 rfl (by decide) rfl ?_
    show Ev g _ _ _ _ _ _ 37 [some (x_r (16 * u + 0)), some (x_i a), some (x_r (16 * 19 + 0)), some (x_i (x_add v3 v5))] [] (al, ro, fl (ml M [u, 19] [C, La6])) _ _ _ _
    refine e_aloadn (pc := 37) (i := 0) dX1_goOn_37 rfl rfl ?_
    refine e_iconst (pc := 38) dX1_goOn_38 (x_R rfl) ?_
    refine e_iloadn (pc := 39) (i := 1) dX1_goOn_39 rfl rfl ?_
    refine e_iloadn (pc := 40) (i := 3) dX1_goOn_40 rfl rfl ?_
    refine e_bipush (pc := 41) dX1_goOn_41 (by decide +kernel) (x_R rfl) ?_
    refine e_irem (pc := 43) dX1_goOn_43 (by decide) ?_
    obtain ⟨C8, hq8, hG⟩ := x_bd1 hG
    refine e_invV (pc := 44) (K1 := 0) (S1 := 0) (K := 0) (S := 0) (dd2 := 0) (av := [x_i 0, x_i a, x_i (x_rem (x_add v3 v5) 16)]) (st := []) (id := 16 * u + 0) dX1_goOn_44 xmX1_75 rfl (Or.inl ⟨1, 12, TX1, (sc_a0 hs hu), rfl, by decide⟩) (f_cal (M := M) (us2 := [u]) [0] hn rfl (And.intro rfl trivial) rfl rfl rfl (c_X1_put hst hs hu  hq8)) (by decide) (Nat.le_of_ble_eq_true rfl) (Or.inl rfl) ?_
    show Ev g _ _ _ _ _ _ 47 [some (x_r (16 * u + 0)), some (x_i a), some (x_r (16 * 19 + 0)), some (x_i (x_add v3 v5))] [] (al, ro, fl (ml M [u, 19] [C8, La6])) _ _ _ _
    refine e_iloadn (pc := 47) (i := 3) dX1_goOn_47 rfl rfl ?_
    refine e_bipush (pc := 48) dX1_goOn_48 (by decide +kernel) (x_R rfl) ?_
    obtain ⟨C10, hr10, hG⟩ := x_bd1 hG
    have hjhr10 : Ev g yX1_goOn cX1_goOn 4 none [] 3 96 [some (x_r (16 * u + 0)), some (x_i a), some (x_r (16 * 19 + 0)), some (x_i (x_add v3 v5))] [] (al, ro, fl (ml M [u, 19] [C10, La6])) 0 0 (.inl none) (al, ro, fl (ml M [u, 19] [t.1, t.2])) := by
      cases hG
      exact (e_return rfl dX1_goOn_96)
    clear hG
    refine e_icmp_lt (pc := 50) (tgt := 96) dX1_goOn_50 (by decide) (fun hb => ?_) (fun hb => ?_)
    · rw [if_pos hb] at hr10
      cases hr10
      exact hjhr10
    · rw [if_neg hb] at hr10
      refine e_aloadn (pc := 53) (i := 0) dX1_goOn_53 rfl rfl ?_
      refine e_bipush (pc := 54) dX1_goOn_54 (by decide +kernel) (x_R rfl) ?_
      refine e_iloadn (pc := 56) (i := 1) dX1_goOn_56 rfl rfl ?_
      refine e_sipush (pc := 57) dX1_goOn_57 (by decide +kernel) (x_R rfl) ?_
      refine e_aloadn (pc := 60) (i := 0) dX1_goOn_60 rfl rfl ?_
      refine e_bipush (pc := 61) dX1_goOn_61 (by decide +kernel) (x_R rfl) ?_
      refine e_iloadn (pc := 63) (i := 1) dX1_goOn_63 rfl rfl ?_
      obtain ⟨v12, hq12, hr10⟩ := x_bd1 hr10
      refine e_invV (pc := 64) (K1 := 0) (S1 := 0) (K := 0) (S := 0) (dd2 := 0) (av := [x_i 7, x_i a]) (st := [x_i 999, x_i a, x_i 7, x_r (16 * u + 0)]) (id := 16 * u + 0) dX1_goOn_64 xmX1_79 rfl (Or.inl ⟨1, 12, TX1, (sc_a0 hs hu), rfl, by decide⟩) (f_cal (M := M) (us2 := [u]) [0] hn rfl (And.intro rfl trivial) rfl rfl rfl (c_X1_of hst hs hu  hq12)) (by decide) (Nat.le_of_ble_eq_true rfl) (Or.inl rfl) ?_
      show Ev g _ _ _ _ _ _ 67 [some (x_r (16 * u + 0)), some (x_i a), some (x_r (16 * 19 + 0)), some (x_i (x_add v3 v5))] [x_i v12, x_i 999, x_i a, x_i 7, x_r (16 * u + 0)] (al, ro, fl (ml M [u, 19] [C8, La6])) _ _ _ _
      refine e_iconst (pc := 67) dX1_goOn_67 (x_R rfl) ?_
      refine e_iadd (pc := 68) dX1_goOn_68 ?_
      refine e_invS (pc := 69) (K1 := 0) (S1 := 0) (K := 0) (S := 0) (dd2 := 0) (av := [x_i 999, x_i (x_add v12 1)]) (st := [x_i a, x_i 7, x_r (16 * u + 0)]) dX1_goOn_69 xmX1_65 rfl (p_min hst hs) (by decide) (Nat.le_of_ble_eq_true rfl) (Or.inl rfl) ?_
      show Ev g _ _ _ _ _ _ 72 [some (x_r (16 * u + 0)), some (x_i a), some (x_r (16 * 19 + 0)), some (x_i (x_add v3 v5))] [x_i (min 999 (x_add v12 1)), x_i a, x_i 7, x_r (16 * u + 0)] (al, ro, fl (ml M [u, 19] [C8, La6])) _ _ _ _
      obtain ⟨C14, hq14, hr10⟩ := x_bd1 hr10
      refine e_invV (pc := 72) (K1 := 0) (S1 := 0) (K := 0) (S := 0) (dd2 := 0) (av := [x_i 7, x_i a, x_i (min 999 (x_add v12 1))]) (st := []) (id := 16 * u + 0) dX1_goOn_72 xmX1_75 rfl (Or.inl ⟨1, 12, TX1, (sc_a0 hs hu), rfl, by decide⟩) (f_cal (M := M) (us2 := [u]) [0] hn rfl (And.intro rfl trivial) rfl rfl rfl (c_X1_put hst hs hu  hq14)) (by decide) (Nat.le_of_ble_eq_true rfl) (Or.inl rfl) ?_
      show Ev g _ _ _ _ _ _ 75 [some (x_r (16 * u + 0)), some (x_i a), some (x_r (16 * 19 + 0)), some (x_i (x_add v3 v5))] [] (al, ro, fl (ml M [u, 19] [C14, La6])) _ _ _ _
      refine e_aloadn (pc := 75) (i := 0) dX1_goOn_75 rfl rfl ?_
      refine f_getr (pc := 76) (u := u) (q := 0) dX1_goOn_76 xf1_21 (sc_a0 hs hu) rfl (sc_r0_2 hs hu) ?_
      refine e_aloadn (pc := 79) (i := 0) dX1_goOn_79 rfl rfl ?_
      refine f_geti (pc := 80) (k := 0) (u := u) (q := 0) dX1_goOn_80 xf1_52 (sc_a0 hs hu) rfl hn rfl rfl (by decide) ?_
      show Ev g _ _ _ _ _ _ 83 [some (x_r (16 * u + 0)), some (x_i a), some (x_r (16 * 19 + 0)), some (x_i (x_add v3 v5))] [x_i (C14 0 6), x_r (16 * u + 3)] (al, ro, fl (ml M [u, 19] [C14, La6])) _ _ _ _
      refine e_aloadn (pc := 83) (i := 0) dX1_goOn_83 rfl rfl ?_
      refine f_geti (pc := 84) (k := 0) (u := u) (q := 0) dX1_goOn_84 xf1_49 (sc_a0 hs hu) rfl hn rfl rfl (by decide) ?_
      show Ev g _ _ _ _ _ _ 87 [some (x_r (16 * u + 0)), some (x_i a), some (x_r (16 * 19 + 0)), some (x_i (x_add v3 v5))] [x_i (C14 0 5), x_i (C14 0 6), x_r (16 * u + 3)] (al, ro, fl (ml M [u, 19] [C14, La6])) _ _ _ _
      refine e_iconst (pc := 87) dX1_goOn_87 (x_R rfl) ?_
      refine e_iloadn (pc := 88) (i := 1) dX1_goOn_88 rfl rfl ?_
      refine e_iloadn (pc := 89) (i := 3) dX1_goOn_89 rfl rfl ?_
      refine e_bipush (pc := 90) dX1_goOn_90 (by decide +kernel) (x_R rfl) ?_
      refine e_irem (pc := 92) dX1_goOn_92 (by decide) ?_
      obtain ⟨C16, hq16, hr10⟩ := x_bd1 hr10
      refine e_invV (pc := 93) (K1 := 0) (S1 := 0) (K := 0) (S := 0) (dd2 := 1) (av := [x_i (C14 0 6), x_i (C14 0 5), x_i 1, x_i a, x_i (x_rem (x_add v3 v5) 16)]) (st := []) (id := 16 * u + 3) dX1_goOn_93 xmX1_132 rfl (Or.inl ⟨4, 3, TX6, (sc_a3 hs hu), rfl, by decide⟩) (f_cal (M := M) (us2 := [u]) [0] hn rfl (And.intro rfl trivial) rfl rfl rfl (c_X6_add hst hs hu  hq16)) (by decide) (Nat.le_of_ble_eq_true rfl) (Or.inl rfl) ?_
      show Ev g _ _ _ _ _ _ 96 [some (x_r (16 * u + 0)), some (x_i a), some (x_r (16 * 19 + 0)), some (x_i (x_add v3 v5))] [] (al, ro, fl (ml M [u, 19] [C16, La6])) _ _ _ _
      cases hr10
      exact hjhr10
  · rw [if_neg hb] at hG
    refine e_aloadn (pc := 8) (i := 0) dX1_goOn_8 rfl rfl ?_
    refine e_iconst (pc := 9) dX1_goOn_9 (x_R rfl) ?_
    refine e_iloadn (pc := 10) (i := 1) dX1_goOn_10 rfl rfl ?_
    refine e_aloadn (pc := 11) (i := 0) dX1_goOn_11 rfl rfl ?_
    refine e_iconst (pc := 12) dX1_goOn_12 (x_R rfl) ?_
    refine e_iloadn (pc := 13) (i := 1) dX1_goOn_13 rfl rfl ?_
    obtain ⟨v18, hq18, hG⟩ := x_bd1 hG
    refine e_invV (pc := 14) (K1 := 0) (S1 := 0) (K := 0) (S := 0) (dd2 := 0) (av := [x_i 4, x_i a]) (st := [x_i a, x_i 4, x_r (16 * u + 0)]) (id := 16 * u + 0) dX1_goOn_14 xmX1_79 rfl (Or.inl ⟨1, 12, TX1, (sc_a0 hs hu), rfl, by decide⟩) (f_cal (M := M) (us2 := [u]) [0] hn rfl (And.intro rfl trivial) rfl rfl rfl (c_X1_of hst hs hu  hq18)) (by decide) (Nat.le_of_ble_eq_true rfl) (Or.inl rfl) ?_
    show Ev g _ _ _ _ _ _ 17 [some (x_r (16 * u + 0)), some (x_i a), some (x_r (16 * 19 + 0)), none] [x_i v18, x_i a, x_i 4, x_r (16 * u + 0)] (al, ro, fl (ml M [u, 19] [C, La])) _ _ _ _
    refine e_iconst (pc := 17) dX1_goOn_17 (x_R rfl) ?_
    refine e_isub (pc := 18) dX1_goOn_18 ?_
    obtain ⟨C20, hq20, hG⟩ := x_bd1 hG
    refine e_invV (pc := 19) (K1 := 0) (S1 := 0) (K := 0) (S := 0) (dd2 := 0) (av := [x_i 4, x_i a, x_i (x_sub v18 1)]) (st := []) (id := 16 * u + 0) dX1_goOn_19 xmX1_75 rfl (Or.inl ⟨1, 12, TX1, (sc_a0 hs hu), rfl, by decide⟩) (f_cal (M := M) (us2 := [u]) [0] hn rfl (And.intro rfl trivial) rfl rfl rfl (c_X1_put hst hs hu  hq20)) (by decide) (Nat.le_of_ble_eq_true rfl) (Or.inl rfl) ?_
    show Ev g _ _ _ _ _ _ 22 [some (x_r (16 * u + 0)), some (x_i a), some (x_r (16 * 19 + 0)), none] [] (al, ro, fl (ml M [u, 19] [C20, La])) _ _ _ _
    cases hG
    exact (e_return rfl dX1_goOn_22)
