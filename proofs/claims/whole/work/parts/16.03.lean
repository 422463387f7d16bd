set_option maxRecDepth 100000 in
set_option maxHeartbeats 4000000 in
theorem c_X10_readNext {g : xG} {al : List (Nat × Nat × Nat)} {ro : Nat → Nat → Option Nat} (hst : g.1.stackTraces = false) (hs : SH al ro) {M : Nat → xU} {T : xU}  {t : xU} (hG : G10_readNext T = some t) :
    Cal g yX10_readNext cX10_readNext 1 none 0 [x_r (16 * 2 + 0)] (al, ro, fl (ml M [2] [T])) 0 0 (.inl none) (al, ro, fl (ml M [2] [t])) := by
  have hn : ([2] : List Nat).Nodup := by decide
  refine cal_of_ev (plainFor_of_name (by decide)) (x_c1 rfl) (Nat.le_of_ble_eq_true rfl) hst ?_
  show Ev g _ _ _ _ _ _ 0 [some (x_r (16 * 2 + 0))] [] (al, ro, fl (ml M [2] [T])) _ _ _ _
  rw [G10_readNext] at hG
  refine e_aloadn (pc := 0) (i := 0) dX10_readNext_0 rfl rfl ?_
  refine e_aloadn (pc := 1) (i := 0) dX10_readNext_1 rfl rfl ?_
  refine f_geti (pc := 2) (k := 0) (u := 2) (q := 0) dX10_readNext_2 xf10_29 (sa_2_0 hs) rfl hn rfl rfl (by decide) ?_
  show Ev g _ _ _ _ _ _ 5 [some (x_r (16 * 2 + 0))] [x_i (T 0 4), x_r (16 * 2 + 0)] (al, ro, fl (ml M [2] [T])) _ _ _ _
  refine f_puti (pc := 5) (k := 0) (u := 2) (q := 0) dX10_readNext_5 xf10_49 xw8_3 (sa_2_0 hs) hn rfl rfl rfl (by decide) ?_
  show Ev g _ _ _ _ _ _ 8 [some (x_r (16 * 2 + 0))] [] (al, ro, fl (ml M [2] [(x_up T 0 3 (T 0 4))])) _ _ _ _
  obtain ⟨T2, hl3, hG⟩ := x_bd1 hG
  have hk3 : ∀ q : xU, q = T2 → Ev g yX10_readNext cX10_readNext 1 none [] 0 62 [some (x_r (16 * 2 + 0))] [] (al, ro, fl (ml M [2] [q])) 0 0 (.inl none) (al, ro, fl (ml M [2] [t])) := by
    intro q hq
    replace hq := hq.symm
    subst hq
    refine e_aloadn (pc := 62) (i := 0) dX10_readNext_62 rfl rfl ?_
    refine e_aloadn (pc := 63) (i := 0) dX10_readNext_63 rfl rfl ?_
    refine f_geti (pc := 64) (k := 0) (u := 2) (q := 0) dX10_readNext_64 xf10_49 (sa_2_0 hs) rfl hn rfl rfl (by decide) ?_
    show Ev g _ _ _ _ _ _ 67 [some (x_r (16 * 2 + 0))] [x_i (T2 0 3), x_r (16 * 2 + 0)] (al, ro, fl (ml M [2] [T2])) _ _ _ _
    refine f_puti (pc := 67) (k := 0) (u := 2) (q := 0) dX10_readNext_67 xf10_29 xw8_4 (sa_2_0 hs) hn rfl rfl rfl (by decide) ?_
    show Ev g _ _ _ _ _ _ 70 [some (x_r (16 * 2 + 0))] [] (al, ro, fl (ml M [2] [(x_up T2 0 4 (T2 0 3))])) _ _ _ _
    refine e_aloadn (pc := 70) (i := 0) dX10_readNext_70 rfl rfl ?_
    refine e_iconst (pc := 71) dX10_readNext_71 (x_R rfl) ?_
    refine f_puti (pc := 72) (k := 0) (u := 2) (q := 0) dX10_readNext_72 xf10_52 xw8_5 (sa_2_0 hs) hn rfl rfl rfl (by decide) ?_
    show Ev g _ _ _ _ _ _ 75 [some (x_r (16 * 2 + 0))] [] (al, ro, fl (ml M [2] [(x_up (x_up T2 0 4 (T2 0 3)) 0 5 0)])) _ _ _ _
    refine e_aloadn (pc := 75) (i := 0) dX10_readNext_75 rfl rfl ?_
    refine e_iconst (pc := 76) dX10_readNext_76 (x_R rfl) ?_
    refine f_puti (pc := 77) (k := 0) (u := 2) (q := 0) dX10_readNext_77 xf10_55 xw8_6 (sa_2_0 hs) hn rfl rfl rfl (by decide) ?_
    show Ev g _ _ _ _ _ _ 80 [some (x_r (16 * 2 + 0))] [] (al, ro, fl (ml M [2] [(x_up (x_up (x_up T2 0 4 (T2 0 3)) 0 5 0) 0 6 (-1))])) _ _ _ _
    refine e_aloadn (pc := 80) (i := 0) dX10_readNext_80 rfl rfl ?_
    refine f_geti (pc := 81) (k := 0) (u := 2) (q := 0) dX10_readNext_81 xf10_49 (sa_2_0 hs) rfl hn rfl rfl (by decide) ?_
    show Ev g _ _ _ _ _ _ 84 [some (x_r (16 * 2 + 0))] [x_i ((x_up (x_up (x_up T2 0 4 (T2 0 3)) 0 5 0) 0 6 (-1)) 0 3)] (al, ro, fl (ml M [2] [(x_up (x_up (x_up T2 0 4 (T2 0 3)) 0 5 0) 0 6 (-1))])) _ _ _ _
    obtain ⟨T5, hr5, hG⟩ := x_bd1 hG
    have hjhr5 : Ev g yX10_readNext cX10_readNext 1 none [] 0 146 [some (x_r (16 * 2 + 0))] [] (al, ro, fl (ml M [2] [T5])) 0 0 (.inl none) (al, ro, fl (ml M [2] [t])) := by
      refine e_aloadn (pc := 146) (i := 0) dX10_readNext_146 rfl rfl ?_
      refine f_geti (pc := 147) (k := 0) (u := 2) (q := 0) dX10_readNext_147 xf10_52 (sa_2_0 hs) rfl hn rfl rfl (by decide) ?_
      show Ev g _ _ _ _ _ _ 150 [some (x_r (16 * 2 + 0))] [x_i (T5 0 5)] (al, ro, fl (ml M [2] [T5])) _ _ _ _
      refine e_iconst (pc := 150) dX10_readNext_150 (x_R rfl) ?_
      obtain ⟨T9, hr9, hG⟩ := x_bd1 hG
      have hjhr9 : Ev g yX10_readNext cX10_readNext 1 none [] 0 224 [some (x_r (16 * 2 + 0))] [] (al, ro, fl (ml M [2] [T9])) 0 0 (.inl none) (al, ro, fl (ml M [2] [t])) := by
        cases hG
        exact (e_return rfl dX10_readNext_224)
      clear hG
      refine e_icmp_ne (pc := 151) (tgt := 167) dX10_readNext_151 (by decide) (fun hb => ?_) (fun hb => ?_)
      · rw [if_neg hb] at hr9
        refine e_aloadn (pc := 167) (i := 0) dX10_readNext_167 rfl rfl ?_
        refine f_geti (pc := 168) (k := 0) (u := 2) (q := 0) dX10_readNext_168 xf10_52 (sa_2_0 hs) rfl hn rfl rfl (by decide) ?_
        show Ev g _ _ _ _ _ _ 171 [some (x_r (16 * 2 + 0))] [x_i (T5 0 5)] (al, ro, fl (ml M [2] [T5])) _ _ _ _
        refine e_if_eq (pc := 171) (tgt := 224) dX10_readNext_171 (by decide) (fun hb => ?_) (fun hb => ?_)
        · rw [if_pos hb] at hr9
          cases hr9
          exact hjhr9
        · rw [if_neg hb] at hr9
          obtain ⟨T12, hl13, hr9⟩ := x_bd1 hr9
          have hk13 : ∀ q : xU, q = T12 → Ev g yX10_readNext cX10_readNext 1 none [] 0 224 [some (x_r (16 * 2 + 0))] [] (al, ro, fl (ml M [2] [q])) 0 0 (.inl none) (al, ro, fl (ml M [2] [t])) := by
            intro q hq
            replace hq := hq.symm
            subst hq
            cases hr9
            exact hjhr9
          clear hr9
          refine e_whl G10_readNext_L174 (fun z : xU => Ev g yX10_readNext cX10_readNext 1 none [] 0 174 [some (x_r (16 * 2 + 0))] [] (al, ro, fl (ml M [2] [z])) 0 0 (.inl none) (al, ro, fl (ml M [2] [t]))) (fun q => q = T12) ?_ xFU T5 _ hl13 rfl
          intro z t13 hf13 hi13 hx13
          obtain ⟨T11, hzz⟩ : ∃ y, y = z := ⟨z, rfl⟩
          subst hzz
          rw [G10_readNext_L174] at hf13
          show Ev g _ _ _ _ _ _ 174 [some (x_r (16 * 2 + 0))] [] (al, ro, fl (ml M [2] [T11])) _ _ _ _
          refine e_aloadn (pc := 174) (i := 0) dX10_readNext_174 rfl rfl ?_
          refine f_geti (pc := 175) (k := 0) (u := 2) (q := 0) dX10_readNext_175 xf10_29 (sa_2_0 hs) rfl hn rfl rfl (by decide) ?_
          show Ev g _ _ _ _ _ _ 178 [some (x_r (16 * 2 + 0))] [x_i (T11 0 4)] (al, ro, fl (ml M [2] [T11])) _ _ _ _
          refine e_aloadn (pc := 178) (i := 0) dX10_readNext_178 rfl rfl ?_
          refine f_geti (pc := 179) (k := 0) (u := 2) (q := 0) dX10_readNext_179 xf10_22 (sa_2_0 hs) rfl hn rfl rfl (by decide) ?_
          show Ev g _ _ _ _ _ _ 182 [some (x_r (16 * 2 + 0))] [x_i (T11 0 2), x_i (T11 0 4)] (al, ro, fl (ml M [2] [T11])) _ _ _ _
          refine e_icmp_ge (pc := 182) (tgt := 224) dX10_readNext_182 (by decide) (fun hb => ?_) (fun hb => ?_)
          · rw [if_pos hb] at hf13
            cases hf13
            have hh := hk13 _ (hx13 _ rfl)
            try dsimp only at hh
            exact hh
          · rw [if_neg hb] at hf13
            refine e_aloadn (pc := 185) (i := 0) dX10_readNext_185 rfl rfl ?_
            refine f_geti (pc := 186) (k := 0) (u := 2) (q := 0) dX10_readNext_186 xf10_29 (sa_2_0 hs) rfl hn rfl rfl (by decide) ?_
            show Ev g _ _ _ _ _ _ 189 [some (x_r (16 * 2 + 0))] [x_i (T11 0 4)] (al, ro, fl (ml M [2] [T11])) _ _ _ _
            refine e_sipush (pc := 189) dX10_readNext_189 (by decide +kernel) (x_R rfl) ?_
            refine e_icmp_ge (pc := 192) (tgt := 224) dX10_readNext_192 (by decide) (fun hb => ?_) (fun hb => ?_)
            · rw [if_pos hb] at hf13
              cases hf13
              have hh := hk13 _ (hx13 _ rfl)
              try dsimp only at hh
              exact hh
            · rw [if_neg hb] at hf13
              refine e_aloadn (pc := 195) (i := 0) dX10_readNext_195 rfl rfl ?_
              refine f_getr (pc := 196) (u := 2) (q := 0) dX10_readNext_196 xf10_15 (sa_2_0 hs) rfl (sr_2_0_1 hs) ?_
              refine e_aloadn (pc := 199) (i := 0) dX10_readNext_199 rfl rfl ?_
              refine f_geti (pc := 200) (k := 0) (u := 2) (q := 0) dX10_readNext_200 xf10_29 (sa_2_0 hs) rfl hn rfl rfl (by decide) ?_
              show Ev g _ _ _ _ _ _ 203 [some (x_r (16 * 2 + 0))] [x_i (T11 0 4), x_r (16 * 2 + 2)] (al, ro, fl (ml M [2] [T11])) _ _ _ _
              obtain ⟨hc0, hf13⟩ := x_gd_some hf13
              refine f_iald (pc := 203) (k := 0) (u := 2) (q := 2) (len := 400) dX10_readNext_203 (sa_2_2 hs) hc0 hn rfl rfl (by decide) ?_
              show Ev g _ _ _ _ _ _ 204 [some (x_r (16 * 2 + 0))] [x_i (T11 2 ((T11 0 4)).toNat)] (al, ro, fl (ml M [2] [T11])) _ _ _ _
              refine e_aloadn (pc := 204) (i := 0) dX10_readNext_204 rfl rfl ?_
              refine f_geti (pc := 205) (k := 0) (u := 2) (q := 0) dX10_readNext_205 xf10_52 (sa_2_0 hs) rfl hn rfl rfl (by decide) ?_
              show Ev g _ _ _ _ _ _ 208 [some (x_r (16 * 2 + 0))] [x_i (T11 0 5), x_i (T11 2 ((T11 0 4)).toNat)] (al, ro, fl (ml M [2] [T11])) _ _ _ _
              refine e_icmp_ne (pc := 208) (tgt := 224) dX10_readNext_208 (by decide) (fun hb => ?_) (fun hb => ?_)
              · rw [if_neg hb] at hf13
                cases hf13
                have hh := hk13 _ (hx13 _ rfl)
                try dsimp only at hh
                exact hh
              · rw [if_pos hb] at hf13
                refine e_aloadn (pc := 211) (i := 0) dX10_readNext_211 rfl rfl ?_
                refine e_dup (pc := 212) dX10_readNext_212 rfl ?_
                refine f_geti (pc := 213) (k := 0) (u := 2) (q := 0) dX10_readNext_213 xf10_29 (sa_2_0 hs) rfl hn rfl rfl (by decide) ?_
                show Ev g _ _ _ _ _ _ 216 [some (x_r (16 * 2 + 0))] [x_i (T11 0 4), x_r (16 * 2 + 0)] (al, ro, fl (ml M [2] [T11])) _ _ _ _
                refine e_iconst (pc := 216) dX10_readNext_216 (x_R rfl) ?_
                refine e_iadd (pc := 217) dX10_readNext_217 ?_
                refine f_puti (pc := 218) (k := 0) (u := 2) (q := 0) dX10_readNext_218 xf10_29 xw8_4 (sa_2_0 hs) hn rfl rfl rfl (by decide) ?_
                show Ev g _ _ _ _ _ _ 221 [some (x_r (16 * 2 + 0))] [] (al, ro, fl (ml M [2] [(x_up T11 0 4 (x_add (T11 0 4) 1))])) _ _ _ _
                refine e_goto (pc := 221) (tgt := 174) dX10_readNext_221 (by decide) ?_
                cases hf13
                have hh := hi13 _ rfl
                try dsimp only at hh
                exact hh
      · rw [if_pos hb] at hr9
        refine e_aloadn (pc := 154) (i := 0) dX10_readNext_154 rfl rfl ?_
        refine e_dup (pc := 155) dX10_readNext_155 rfl ?_
        refine f_geti (pc := 156) (k := 0) (u := 2) (q := 0) dX10_readNext_156 xf10_29 (sa_2_0 hs) rfl hn rfl rfl (by decide) ?_
        show Ev g _ _ _ _ _ _ 159 [some (x_r (16 * 2 + 0))] [x_i (T5 0 4), x_r (16 * 2 + 0)] (al, ro, fl (ml M [2] [T5])) _ _ _ _
        refine e_iconst (pc := 159) dX10_readNext_159 (x_R rfl) ?_
        refine e_iadd (pc := 160) dX10_readNext_160 ?_
        refine f_puti (pc := 161) (k := 0) (u := 2) (q := 0) dX10_readNext_161 xf10_29 xw8_4 (sa_2_0 hs) hn rfl rfl rfl (by decide) ?_
        show Ev g _ _ _ _ _ _ 164 [some (x_r (16 * 2 + 0))] [] (al, ro, fl (ml M [2] [(x_up T5 0 4 (x_add (T5 0 4) 1))])) _ _ _ _
        refine e_goto (pc := 164) (tgt := 224) dX10_readNext_164 (by decide) ?_
        cases hr9
        exact hjhr9
    clear hG
    refine e_if_lt (pc := 84) (tgt := 146) dX10_readNext_84 (by decide) (fun hb => ?_) (fun hb => ?_)
    · rw [if_pos hb] at hr5
      cases hr5
      exact hjhr5
    · rw [if_neg hb] at hr5
      refine e_aloadn (pc := 87) (i := 0) dX10_readNext_87 rfl rfl ?_
      refine f_geti (pc := 88) (k := 0) (u := 2) (q := 0) dX10_readNext_88 xf10_49 (sa_2_0 hs) rfl hn rfl rfl (by decide) ?_
      show Ev g _ _ _ _ _ _ 91 [some (x_r (16 * 2 + 0))] [x_i ((x_up (x_up (x_up T2 0 4 (T2 0 3)) 0 5 0) 0 6 (-1)) 0 3)] (al, ro, fl (ml M [2] [(x_up (x_up (x_up T2 0 4 (T2 0 3)) 0 5 0) 0 6 (-1))])) _ _ _ _
      refine e_aloadn (pc := 91) (i := 0) dX10_readNext_91 rfl rfl ?_
      refine f_geti (pc := 92) (k := 0) (u := 2) (q := 0) dX10_readNext_92 xf10_22 (sa_2_0 hs) rfl hn rfl rfl (by decide) ?_
      show Ev g _ _ _ _ _ _ 95 [some (x_r (16 * 2 + 0))] [x_i ((x_up (x_up (x_up T2 0 4 (T2 0 3)) 0 5 0) 0 6 (-1)) 0 2), x_i ((x_up (x_up (x_up T2 0 4 (T2 0 3)) 0 5 0) 0 6 (-1)) 0 3)] (al, ro, fl (ml M [2] [(x_up (x_up (x_up T2 0 4 (T2 0 3)) 0 5 0) 0 6 (-1))])) _ _ _ _
      refine e_icmp_ge (pc := 95) (tgt := 146) dX10_readNext_95 (by decide) (fun hb => ?_) (fun hb => ?_)
      · rw [if_pos hb] at hr5
        cases hr5
        exact hjhr5
      · rw [if_neg hb] at hr5
        refine e_aloadn (pc := 98) (i := 0) dX10_readNext_98 rfl rfl ?_
        refine f_geti (pc := 99) (k := 0) (u := 2) (q := 0) dX10_readNext_99 xf10_49 (sa_2_0 hs) rfl hn rfl rfl (by decide) ?_
        show Ev g _ _ _ _ _ _ 102 [some (x_r (16 * 2 + 0))] [x_i ((x_up (x_up (x_up T2 0 4 (T2 0 3)) 0 5 0) 0 6 (-1)) 0 3)] (al, ro, fl (ml M [2] [(x_up (x_up (x_up T2 0 4 (T2 0 3)) 0 5 0) 0 6 (-1))])) _ _ _ _
        refine e_sipush (pc := 102) dX10_readNext_102 (by decide +kernel) (x_R rfl) ?_
        refine e_icmp_ge (pc := 105) (tgt := 146) dX10_readNext_105 (by decide) (fun hb => ?_) (fun hb => ?_)
        · rw [if_pos hb] at hr5
          cases hr5
          exact hjhr5
        · rw [if_neg hb] at hr5
          refine e_aloadn (pc := 108) (i := 0) dX10_readNext_108 rfl rfl ?_
          refine e_aloadn (pc := 109) (i := 0) dX10_readNext_109 rfl rfl ?_
          refine f_getr (pc := 110) (u := 2) (q := 0) dX10_readNext_110 xf10_15 (sa_2_0 hs) rfl (sr_2_0_1 hs) ?_
          refine e_aloadn (pc := 113) (i := 0) dX10_readNext_113 rfl rfl ?_
          refine f_geti (pc := 114) (k := 0) (u := 2) (q := 0) dX10_readNext_114 xf10_49 (sa_2_0 hs) rfl hn rfl rfl (by decide) ?_
          show Ev g _ _ _ _ _ _ 117 [some (x_r (16 * 2 + 0))] [x_i ((x_up (x_up (x_up T2 0 4 (T2 0 3)) 0 5 0) 0 6 (-1)) 0 3), x_r (16 * 2 + 2), x_r (16 * 2 + 0)] (al, ro, fl (ml M [2] [(x_up (x_up (x_up T2 0 4 (T2 0 3)) 0 5 0) 0 6 (-1))])) _ _ _ _
          obtain ⟨hc0, hr5⟩ := x_gd_some hr5
          refine f_iald (pc := 117) (k := 0) (u := 2) (q := 2) (len := 400) dX10_readNext_117 (sa_2_2 hs) hc0 hn rfl rfl (by decide) ?_
          show Ev g _ _ _ _ _ _ 118 [some (x_r (16 * 2 + 0))] [x_i ((x_up (x_up (x_up T2 0 4 (T2 0 3)) 0 5 0) 0 6 (-1)) 2 (((x_up (x_up (x_up T2 0 4 (T2 0 3)) 0 5 0) 0 6 (-1)) 0 3)).toNat), x_r (16 * 2 + 0)] (al, ro, fl (ml M [2] [(x_up (x_up (x_up T2 0 4 (T2 0 3)) 0 5 0) 0 6 (-1))])) _ _ _ _
          refine f_puti (pc := 118) (k := 0) (u := 2) (q := 0) dX10_readNext_118 xf10_52 xw8_5 (sa_2_0 hs) hn rfl rfl rfl (by decide) ?_
          show Ev g _ _ _ _ _ _ 121 [some (x_r (16 * 2 + 0))] [] (al, ro, fl (ml M [2] [(x_up (x_up (x_up (x_up T2 0 4 (T2 0 3)) 0 5 0) 0 6 (-1)) 0 5 ((x_up (x_up (x_up T2 0 4 (T2 0 3)) 0 5 0) 0 6 (-1)) 2 (((x_up (x_up (x_up T2 0 4 (T2 0 3)) 0 5 0) 0 6 (-1)) 0 3)).toNat))])) _ _ _ _
          refine e_aloadn (pc := 121) (i := 0) dX10_readNext_121 rfl rfl ?_
          refine e_aloadn (pc := 122) (i := 0) dX10_readNext_122 rfl rfl ?_
          refine f_geti (pc := 123) (k := 0) (u := 2) (q := 0) dX10_readNext_123 xf10_52 (sa_2_0 hs) rfl hn rfl rfl (by decide) ?_
          show Ev g _ _ _ _ _ _ 126 [some (x_r (16 * 2 + 0))] [x_i ((x_up (x_up (x_up (x_up T2 0 4 (T2 0 3)) 0 5 0) 0 6 (-1)) 0 5 ((x_up (x_up (x_up T2 0 4 (T2 0 3)) 0 5 0) 0 6 (-1)) 2 (((x_up (x_up (x_up T2 0 4 (T2 0 3)) 0 5 0) 0 6 (-1)) 0 3)).toNat)) 0 5), x_r (16 * 2 + 0)] (al, ro, fl (ml M [2] [(x_up (x_up (x_up (x_up T2 0 4 (T2 0 3)) 0 5 0) 0 6 (-1)) 0 5 ((x_up (x_up (x_up T2 0 4 (T2 0 3)) 0 5 0) 0 6 (-1)) 2 (((x_up (x_up (x_up T2 0 4 (T2 0 3)) 0 5 0) 0 6 (-1)) 0 3)).toNat))])) _ _ _ _
          refine e_iconst (pc := 126) dX10_readNext_126 (x_R rfl) ?_
          obtain ⟨v7, hr7, hr5⟩ := x_bd1 hr5
          have hjhr7 : Ev g yX10_readNext cX10_readNext 1 none [] 0 143 [some (x_r (16 * 2 + 0))] [x_i v7, x_r (16 * 2 + 0)] (al, ro, fl (ml M [2] [(x_up (x_up (x_up (x_up T2 0 4 (T2 0 3)) 0 5 0) 0 6 (-1)) 0 5 ((x_up (x_up (x_up T2 0 4 (T2 0 3)) 0 5 0) 0 6 (-1)) 2 (((x_up (x_up (x_up T2 0 4 (T2 0 3)) 0 5 0) 0 6 (-1)) 0 3)).toNat))])) 0 0 (.inl none) (al, ro, fl (ml M [2] [t])) := by
            refine f_puti (pc := 143) (k := 0) (u := 2) (q := 0) dX10_readNext_143 xf10_55 xw8_6 (sa_2_0 hs) hn rfl rfl rfl (by decide) ?_
            show Ev g _ _ _ _ _ _ 146 [some (x_r (16 * 2 + 0))] [] (al, ro, fl (ml M [2] [(x_up (x_up (x_up (x_up (x_up T2 0 4 (T2 0 3)) 0 5 0) 0 6 (-1)) 0 5 ((x_up (x_up (x_up T2 0 4 (T2 0 3)) 0 5 0) 0 6 (-1)) 2 (((x_up (x_up (x_up T2 0 4 (T2 0 3)) 0 5 0) 0 6 (-1)) 0 3)).toNat)) 0 6 v7)])) _ _ _ _
            cases hr5
            exact hjhr5
          clear hr5
          refine e_icmp_ne (pc := 127) (tgt := 142) dX10_readNext_127 (by decide) (fun hb => ?_) (fun hb => ?_)
          · rw [if_neg hb] at hr7
            refine e_iconst (pc := 142) dX10_readNext_142 (x_R rfl) ?_
            cases hr7
            exact hjhr7
          · rw [if_pos hb] at hr7
            refine e_aloadn (pc := 130) (i := 0) dX10_readNext_130 rfl rfl ?_
            refine f_getr (pc := 131) (u := 2) (q := 0) dX10_readNext_131 xf10_9 (sa_2_0 hs) rfl (sr_2_0_0 hs) ?_
            refine e_aloadn (pc := 134) (i := 0) dX10_readNext_134 rfl rfl ?_
            refine f_geti (pc := 135) (k := 0) (u := 2) (q := 0) dX10_readNext_135 xf10_49 (sa_2_0 hs) rfl hn rfl rfl (by decide) ?_
            show Ev g _ _ _ _ _ _ 138 [some (x_r (16 * 2 + 0))] [x_i ((x_up (x_up (x_up (x_up T2 0 4 (T2 0 3)) 0 5 0) 0 6 (-1)) 0 5 ((x_up (x_up (x_up T2 0 4 (T2 0 3)) 0 5 0) 0 6 (-1)) 2 (((x_up (x_up (x_up T2 0 4 (T2 0 3)) 0 5 0) 0 6 (-1)) 0 3)).toNat)) 0 3), x_r (16 * 2 + 1), x_r (16 * 2 + 0)] (al, ro, fl (ml M [2] [(x_up (x_up (x_up (x_up T2 0 4 (T2 0 3)) 0 5 0) 0 6 (-1)) 0 5 ((x_up (x_up (x_up T2 0 4 (T2 0 3)) 0 5 0) 0 6 (-1)) 2 (((x_up (x_up (x_up T2 0 4 (T2 0 3)) 0 5 0) 0 6 (-1)) 0 3)).toNat))])) _ _ _ _
            obtain ⟨hc0, hr7⟩ := x_gd_some hr7
            refine f_iald (pc := 138) (k := 0) (u := 2) (q := 1) (len := 400) dX10_readNext_138 (sa_2_1 hs) hc0 hn rfl rfl (by decide) ?_
            show Ev g _ _ _ _ _ _ 139 [some (x_r (16 * 2 + 0))] [x_i ((x_up (x_up (x_up (x_up T2 0 4 (T2 0 3)) 0 5 0) 0 6 (-1)) 0 5 ((x_up (x_up (x_up T2 0 4 (T2 0 3)) 0 5 0) 0 6 (-1)) 2 (((x_up (x_up (x_up T2 0 4 (T2 0 3)) 0 5 0) 0 6 (-1)) 0 3)).toNat)) 1 (((x_up (x_up (x_up (x_up T2 0 4 (T2 0 3)) 0 5 0) 0 6 (-1)) 0 5 ((x_up (x_up (x_up T2 0 4 (T2 0 3)) 0 5 0) 0 6 (-1)) 2 (((x_up (x_up (x_up T2 0 4 (T2 0 3)) 0 5 0) 0 6 (-1)) 0 3)).toNat)) 0 3)).toNat), x_r (16 * 2 + 0)] (al, ro, fl (ml M [2] [(x_up (x_up (x_up (x_up T2 0 4 (T2 0 3)) 0 5 0) 0 6 (-1)) 0 5 ((x_up (x_up (x_up T2 0 4 (T2 0 3)) 0 5 0) 0 6 (-1)) 2 (((x_up (x_up (x_up T2 0 4 (T2 0 3)) 0 5 0) 0 6 (-1)) 0 3)).toNat))])) _ _ _ _
            refine e_goto (pc := 139) (tgt := 143) dX10_readNext_139 (by decide) ?_
            cases hr7
            exact hjhr7
  clear hG
  refine e_whl G10_readNext_L8 (fun z : xU => Ev g yX10_readNext cX10_readNext 1 none [] 0 8 [some (x_r (16 * 2 + 0))] [] (al, ro, fl (ml M [2] [z])) 0 0 (.inl none) (al, ro, fl (ml M [2] [t]))) (fun q => q = T2) ?_ xFU (x_up T 0 3 (T 0 4)) _ hl3 rfl
  intro z t3 hf3 hi3 hx3
  obtain ⟨T1, hzz⟩ : ∃ y, y = z := ⟨z, rfl⟩
  subst hzz
  rw [G10_readNext_L8] at hf3
  show Ev g _ _ _ _ _ _ 8 [some (x_r (16 * 2 + 0))] [] (al, ro, fl (ml M [2] [T1])) _ _ _ _
  refine e_aloadn (pc := 8) (i := 0) dX10_readNext_8 rfl rfl ?_
  refine f_geti (pc := 9) (k := 0) (u := 2) (q := 0) dX10_readNext_9 xf10_49 (sa_2_0 hs) rfl hn rfl rfl (by decide) ?_
  show Ev g _ _ _ _ _ _ 12 [some (x_r (16 * 2 + 0))] [x_i (T1 0 3)] (al, ro, fl (ml M [2] [T1])) _ _ _ _
  refine e_if_lt (pc := 12) (tgt := 62) dX10_readNext_12 (by decide) (fun hb => ?_) (fun hb => ?_)
  · rw [if_pos hb] at hf3
    cases hf3
    have hh := hk3 _ (hx3 _ rfl)
    try dsimp only at hh
    exact hh
  · rw [if_neg hb] at hf3
    refine e_aloadn (pc := 15) (i := 0) dX10_readNext_15 rfl rfl ?_
    refine f_geti (pc := 16) (k := 0) (u := 2) (q := 0) dX10_readNext_16 xf10_49 (sa_2_0 hs) rfl hn rfl rfl (by decide) ?_
    show Ev g _ _ _ _ _ _ 19 [some (x_r (16 * 2 + 0))] [x_i (T1 0 3)] (al, ro, fl (ml M [2] [T1])) _ _ _ _
    refine e_aloadn (pc := 19) (i := 0) dX10_readNext_19 rfl rfl ?_
    refine f_geti (pc := 20) (k := 0) (u := 2) (q := 0) dX10_readNext_20 xf10_22 (sa_2_0 hs) rfl hn rfl rfl (by decide) ?_
    show Ev g _ _ _ _ _ _ 23 [some (x_r (16 * 2 + 0))] [x_i (T1 0 2), x_i (T1 0 3)] (al, ro, fl (ml M [2] [T1])) _ _ _ _
    refine e_icmp_ge (pc := 23) (tgt := 62) dX10_readNext_23 (by decide) (fun hb => ?_) (fun hb => ?_)
    · rw [if_pos hb] at hf3
      cases hf3
      have hh := hk3 _ (hx3 _ rfl)
      try dsimp only at hh
      exact hh
    · rw [if_neg hb] at hf3
      refine e_aloadn (pc := 26) (i := 0) dX10_readNext_26 rfl rfl ?_
      refine f_geti (pc := 27) (k := 0) (u := 2) (q := 0) dX10_readNext_27 xf10_49 (sa_2_0 hs) rfl hn rfl rfl (by decide) ?_
      show Ev g _ _ _ _ _ _ 30 [some (x_r (16 * 2 + 0))] [x_i (T1 0 3)] (al, ro, fl (ml M [2] [T1])) _ _ _ _
      refine e_sipush (pc := 30) dX10_readNext_30 (by decide +kernel) (x_R rfl) ?_
      refine e_icmp_ge (pc := 33) (tgt := 62) dX10_readNext_33 (by decide) (fun hb => ?_) (fun hb => ?_)
      · rw [if_pos hb] at hf3
        cases hf3
        have hh := hk3 _ (hx3 _ rfl)
        try dsimp only at hh
        exact hh
      · rw [if_neg hb] at hf3
        refine e_aloadn (pc := 36) (i := 0) dX10_readNext_36 rfl rfl ?_
        refine f_getr (pc := 37) (u := 2) (q := 0) dX10_readNext_37 xf10_15 (sa_2_0 hs) rfl (sr_2_0_1 hs) ?_
        refine e_aloadn (pc := 40) (i := 0) dX10_readNext_40 rfl rfl ?_
        refine f_geti (pc := 41) (k := 0) (u := 2) (q := 0) dX10_readNext_41 xf10_49 (sa_2_0 hs) rfl hn rfl rfl (by decide) ?_
        show Ev g _ _ _ _ _ _ 44 [some (x_r (16 * 2 + 0))] [x_i (T1 0 3), x_r (16 * 2 + 2)] (al, ro, fl (ml M [2] [T1])) _ _ _ _
        obtain ⟨hc0, hf3⟩ := x_gd_some hf3
        refine f_iald (pc := 44) (k := 0) (u := 2) (q := 2) (len := 400) dX10_readNext_44 (sa_2_2 hs) hc0 hn rfl rfl (by decide) ?_
        show Ev g _ _ _ _ _ _ 45 [some (x_r (16 * 2 + 0))] [x_i (T1 2 ((T1 0 3)).toNat)] (al, ro, fl (ml M [2] [T1])) _ _ _ _
        refine e_iconst (pc := 45) dX10_readNext_45 (x_R rfl) ?_
        refine e_icmp_ne (pc := 46) (tgt := 62) dX10_readNext_46 (by decide) (fun hb => ?_) (fun hb => ?_)
        · rw [if_neg hb] at hf3
          cases hf3
          have hh := hk3 _ (hx3 _ rfl)
          try dsimp only at hh
          exact hh
        · rw [if_pos hb] at hf3
          refine e_aloadn (pc := 49) (i := 0) dX10_readNext_49 rfl rfl ?_
          refine e_dup (pc := 50) dX10_readNext_50 rfl ?_
          refine f_geti (pc := 51) (k := 0) (u := 2) (q := 0) dX10_readNext_51 xf10_49 (sa_2_0 hs) rfl hn rfl rfl (by decide) ?_
          show Ev g _ _ _ _ _ _ 54 [some (x_r (16 * 2 + 0))] [x_i (T1 0 3), x_r (16 * 2 + 0)] (al, ro, fl (ml M [2] [T1])) _ _ _ _
          refine e_iconst (pc := 54) dX10_readNext_54 (x_R rfl) ?_
          refine e_iadd (pc := 55) dX10_readNext_55 ?_
          refine f_puti (pc := 56) (k := 0) (u := 2) (q := 0) dX10_readNext_56 xf10_49 xw8_3 (sa_2_0 hs) hn rfl rfl rfl (by decide) ?_
          show Ev g _ _ _ _ _ _ 59 [some (x_r (16 * 2 + 0))] [] (al, ro, fl (ml M [2] [(x_up T1 0 3 (x_add (T1 0 3) 1))])) _ _ _ _
          refine e_goto (pc := 59) (tgt := 8) dX10_readNext_59 (by decide) ?_
          cases hf3
          have hh := hi3 _ rfl
          try dsimp only at hh
          exact hh
set_option maxRecDepth 100000 in
set_option maxHeartbeats 4000000 in
theorem c_X10_takeWord {g : xG} {al : List (Nat × Nat × Nat)} {ro : Nat → Nat → Option Nat} (hst : g.1.stackTraces = false) (hs : SH al ro) {M : Nat → xU} {w : Nat} {T : xU} (hw : w < x_nS)  {t : (Int × xU)} (hG : G10_takeWord w T = some t) :
    Cal g yX10_takeWord cX10_takeWord 3 (some .boolean) 7 [x_r (16 * 2 + 0), x_r (x_s0 + w)] (al, ro, fl (ml M [2] [T])) 0 0 (.inl (some (x_i t.1))) (al, ro, fl (ml M [2] [t.2])) := by
  have hn : ([2] : List Nat).Nodup := by decide
  refine cal_of_ev (plainFor_of_name (by decide)) (x_c1 rfl) (Nat.le_of_ble_eq_true rfl) hst ?_
  show Ev g _ _ _ _ _ _ 0 [some (x_r (16 * 2 + 0)), some (x_r (x_s0 + w)), none] [] (al, ro, fl (ml M [2] [T])) _ _ _ _
  rw [G10_takeWord] at hG
  refine e_aloadn (pc := 0) (i := 0) dX10_takeWord_0 rfl rfl ?_
  refine e_aloadn (pc := 1) (i := 1) dX10_takeWord_1 rfl rfl ?_
  obtain ⟨v1, hq1, hG⟩ := x_bd1 hG
  refine e_invV (pc := 2) (K1 := 0) (S1 := 0) (K := 0) (S := 0) (dd2 := 6) (av := [x_r (x_s0 + w)]) (st := []) (id := 16 * 2 + 0) dX10_takeWord_2 xmX10_68 rfl (Or.inl ⟨8, 8, TX10, (sa_2_0 hs), rfl, by decide⟩) (f_cal (M := M) (us2 := [2]) [0] hn rfl (And.intro rfl trivial) rfl rfl rfl (c_X10_isWord hst hs  hw hq1)) (by decide) (Nat.le_of_ble_eq_true rfl) (Or.inl rfl) ?_
  show Ev g _ _ _ _ _ _ 5 [some (x_r (16 * 2 + 0)), some (x_r (x_s0 + w)), none] [x_i v1] (al, ro, fl (ml M [2] [T])) _ _ _ _
  refine e_istoren (pc := 5) (i := 2) dX10_takeWord_5 rfl (by decide) rfl ?_
  show Ev g _ _ _ _ _ _ 6 [some (x_r (16 * 2 + 0)), some (x_r (x_s0 + w)), some (x_i v1)] [] (al, ro, fl (ml M [2] [T])) _ _ _ _
  refine e_iloadn (pc := 6) (i := 2) dX10_takeWord_6 rfl rfl ?_
  obtain ⟨T3, hr3, hG⟩ := x_bd1 hG
  have hjhr3 : Ev g yX10_takeWord cX10_takeWord 3 (some .boolean) [] 7 14 [some (x_r (16 * 2 + 0)), some (x_r (x_s0 + w)), some (x_i v1)] [] (al, ro, fl (ml M [2] [T3])) 0 0 (.inl (some (x_i t.1))) (al, ro, fl (ml M [2] [t.2])) := by
    refine e_iloadn (pc := 14) (i := 2) dX10_takeWord_14 rfl rfl ?_
    obtain ⟨hc0, hG⟩ := x_gd_some hG
    cases hG
    exact (e_ireturn rfl dX10_takeWord_15 (x_bool hc0).1)
  clear hG
  refine e_if_eq (pc := 7) (tgt := 14) dX10_takeWord_7 (by decide) (fun hb => ?_) (fun hb => ?_)
  · rw [if_pos hb] at hr3
    cases hr3
    exact hjhr3
  · rw [if_neg hb] at hr3
    refine e_aloadn (pc := 10) (i := 0) dX10_takeWord_10 rfl rfl ?_
    obtain ⟨T5, hq5, hr3⟩ := x_bd1 hr3
    refine e_invV (pc := 11) (K1 := 0) (S1 := 0) (K := 0) (S := 0) (dd2 := 0) (av := []) (st := []) (id := 16 * 2 + 0) dX10_takeWord_11 xmX10_32 rfl (Or.inl ⟨8, 8, TX10, (sa_2_0 hs), rfl, by decide⟩) (f_cal (M := M) (us2 := [2]) [0] hn rfl (And.intro rfl trivial) rfl rfl rfl (c_X10_readNext hst hs   hq5)) (by decide) (Nat.le_of_ble_eq_true rfl) (Or.inl rfl) ?_
    show Ev g _ _ _ _ _ _ 14 [some (x_r (16 * 2 + 0)), some (x_r (x_s0 + w)), some (x_i v1)] [] (al, ro, fl (ml M [2] [T5])) _ _ _ _
    cases hr3
    exact hjhr3
set_option maxRecDepth 100000 in
set_option maxHeartbeats 4000000 in
theorem c_X4_addStep {g : xG} {al : List (Nat × Nat × Nat)} {ro : Nat → Nat → Option Nat} (hst : g.1.stackTraces = false) (hs : SH al ro) {M : Nat → xU} {a : Int} {b : Int} {Lb : xU}  {t : xU} (hG : G4_addStep a b Lb = some t) :
    Cal g yX4_addStep cX4_addStep 3 none 0 [x_r (16 * 20 + 0), x_i a, x_i b] (al, ro, fl (ml M [20] [Lb])) 0 0 (.inl none) (al, ro, fl (ml M [20] [t])) := by
  have hn : ([20] : List Nat).Nodup := by decide
  refine cal_of_ev (plainFor_of_name (by decide)) (x_c1 rfl) (Nat.le_of_ble_eq_true rfl) hst ?_
  show Ev g _ _ _ _ _ _ 0 [some (x_r (16 * 20 + 0)), some (x_i a), some (x_i b)] [] (al, ro, fl (ml M [20] [Lb])) _ _ _ _
  rw [G4_addStep] at hG
  refine e_aloadn (pc := 0) (i := 0) dX4_addStep_0 rfl rfl ?_
  refine f_geti (pc := 1) (k := 0) (u := 20) (q := 0) dX4_addStep_1 xf4_31 (sa_20_0 hs) rfl hn rfl rfl (by decide) ?_
  show Ev g _ _ _ _ _ _ 4 [some (x_r (16 * 20 + 0)), some (x_i a), some (x_i b)] [x_i (Lb 0 5)] (al, ro, fl (ml M [20] [Lb])) _ _ _ _
  obtain ⟨Lb1, hr1, hG⟩ := x_bd1 hG
  have hjhr1 : Ev g yX4_addStep cX4_addStep 3 none [] 0 43 [some (x_r (16 * 20 + 0)), some (x_i a), some (x_i b)] [] (al, ro, fl (ml M [20] [Lb1])) 0 0 (.inl none) (al, ro, fl (ml M [20] [t])) := by
    cases hG
    exact (e_return rfl dX4_addStep_43)
  clear hG
  refine e_if_lt (pc := 4) (tgt := 43) dX4_addStep_4 (by decide) (fun hb => ?_) (fun hb => ?_)
  · rw [if_pos hb] at hr1
    cases hr1
    exact hjhr1
  · rw [if_neg hb] at hr1
    refine e_aloadn (pc := 7) (i := 0) dX4_addStep_7 rfl rfl ?_
    refine f_geti (pc := 8) (k := 0) (u := 20) (q := 0) dX4_addStep_8 xf4_31 (sa_20_0 hs) rfl hn rfl rfl (by decide) ?_
    show Ev g _ _ _ _ _ _ 11 [some (x_r (16 * 20 + 0)), some (x_i a), some (x_i b)] [x_i (Lb 0 5)] (al, ro, fl (ml M [20] [Lb])) _ _ _ _
    refine e_aloadn (pc := 11) (i := 0) dX4_addStep_11 rfl rfl ?_
    refine f_getr (pc := 12) (u := 20) (q := 0) dX4_addStep_12 xf4_21 (sa_20_0 hs) rfl (sr_20_0_3 hs) ?_
    refine e_alen_i (pc := 15) (id := 16 * 20 + 4) (len := 400) dX4_addStep_15 (sa_20_4 hs) (by decide) ?_
    show Ev g _ _ _ _ _ _ 16 [some (x_r (16 * 20 + 0)), some (x_i a), some (x_i b)] [x_i 400, x_i (Lb 0 5)] (al, ro, fl (ml M [20] [Lb])) _ _ _ _
    refine e_icmp_ge (pc := 16) (tgt := 43) dX4_addStep_16 (by decide) (fun hb => ?_) (fun hb => ?_)
    · rw [if_pos hb] at hr1
      cases hr1
      exact hjhr1
    · rw [if_neg hb] at hr1
      refine e_aloadn (pc := 19) (i := 0) dX4_addStep_19 rfl rfl ?_
      refine f_getr (pc := 20) (u := 20) (q := 0) dX4_addStep_20 xf4_21 (sa_20_0 hs) rfl (sr_20_0_3 hs) ?_
      refine e_aloadn (pc := 23) (i := 0) dX4_addStep_23 rfl rfl ?_
      refine f_geti (pc := 24) (k := 0) (u := 20) (q := 0) dX4_addStep_24 xf4_31 (sa_20_0 hs) rfl hn rfl rfl (by decide) ?_
      show Ev g _ _ _ _ _ _ 27 [some (x_r (16 * 20 + 0)), some (x_i a), some (x_i b)] [x_i (Lb 0 5), x_r (16 * 20 + 4)] (al, ro, fl (ml M [20] [Lb])) _ _ _ _
      refine e_iloadn (pc := 27) (i := 2) dX4_addStep_27 rfl rfl ?_
      refine e_iconst (pc := 28) dX4_addStep_28 (x_R rfl) ?_
      refine e_ishl (pc := 29) dX4_addStep_29 ?_
      refine e_iloadn (pc := 30) (i := 1) dX4_addStep_30 rfl rfl ?_
      refine e_ior (pc := 31) dX4_addStep_31 ?_
      obtain ⟨hc0, hr1⟩ := x_gd_some hr1
      refine f_iast (pc := 32) (k := 0) (u := 20) (q := 4) (len := 400) dX4_addStep_32 (sa_20_4 hs) hc0 hn rfl rfl rfl (by decide) ?_
      show Ev g _ _ _ _ _ _ 33 [some (x_r (16 * 20 + 0)), some (x_i a), some (x_i b)] [] (al, ro, fl (ml M [20] [(x_up Lb 4 ((Lb 0 5)).toNat (x_or (x_shl b 4) a))])) _ _ _ _
      refine e_aloadn (pc := 33) (i := 0) dX4_addStep_33 rfl rfl ?_
      refine e_dup (pc := 34) dX4_addStep_34 rfl ?_
      refine f_geti (pc := 35) (k := 0) (u := 20) (q := 0) dX4_addStep_35 xf4_31 (sa_20_0 hs) rfl hn rfl rfl (by decide) ?_
      show Ev g _ _ _ _ _ _ 38 [some (x_r (16 * 20 + 0)), some (x_i a), some (x_i b)] [x_i ((x_up Lb 4 ((Lb 0 5)).toNat (x_or (x_shl b 4) a)) 0 5), x_r (16 * 20 + 0)] (al, ro, fl (ml M [20] [(x_up Lb 4 ((Lb 0 5)).toNat (x_or (x_shl b 4) a))])) _ _ _ _
      refine e_iconst (pc := 38) dX4_addStep_38 (x_R rfl) ?_
      refine e_iadd (pc := 39) dX4_addStep_39 ?_
      refine f_puti (pc := 40) (k := 0) (u := 20) (q := 0) dX4_addStep_40 xf4_31 xw3_5 (sa_20_0 hs) hn rfl rfl rfl (by decide) ?_
      show Ev g _ _ _ _ _ _ 43 [some (x_r (16 * 20 + 0)), some (x_i a), some (x_i b)] [] (al, ro, fl (ml M [20] [(x_up (x_up Lb 4 ((Lb 0 5)).toNat (x_or (x_shl b 4) a)) 0 5 (x_add ((x_up Lb 4 ((Lb 0 5)).toNat (x_or (x_shl b 4) a)) 0 5) 1))])) _ _ _ _
      cases hr1
      exact hjhr1
set_option maxRecDepth 100000 in
set_option maxHeartbeats 4000000 in
theorem c_X10_isSign {g : xG} {al : List (Nat × Nat × Nat)} {ro : Nat → Nat → Option Nat} (hst : g.1.stackTraces = false) (hs : SH al ro) {M : Nat → xU} {a : Int} {T : xU}  {t : Int} (hG : G10_isSign a T = some t) :
    Cal g yX10_isSign cX10_isSign 2 (some .boolean) 0 [x_r (16 * 2 + 0), x_i a] (al, ro, fl (ml M [2] [T])) 0 0 (.inl (some (x_i t))) (al, ro, fl (ml M [2] [T])) := by
  have hn : ([2] : List Nat).Nodup := by decide
  refine cal_of_ev (plainFor_of_name (by decide)) (x_c1 rfl) (Nat.le_of_ble_eq_true rfl) hst ?_
  show Ev g _ _ _ _ _ _ 0 [some (x_r (16 * 2 + 0)), some (x_i a)] [] (al, ro, fl (ml M [2] [T])) _ _ _ _
  rw [G10_isSign] at hG
  refine e_aloadn (pc := 0) (i := 0) dX10_isSign_0 rfl rfl ?_
  refine f_geti (pc := 1) (k := 0) (u := 2) (q := 0) dX10_isSign_1 xf10_55 (sa_2_0 hs) rfl hn rfl rfl (by decide) ?_
  show Ev g _ _ _ _ _ _ 4 [some (x_r (16 * 2 + 0)), some (x_i a)] [x_i (T 0 6)] (al, ro, fl (ml M [2] [T])) _ _ _ _
  refine e_iloadn (pc := 4) (i := 1) dX10_isSign_4 rfl rfl ?_
  obtain ⟨v1, hr1, hG⟩ := x_bd1 hG
  have hjhr1 : Ev g yX10_isSign cX10_isSign 2 (some .boolean) [] 0 13 [some (x_r (16 * 2 + 0)), some (x_i a)] [x_i v1] (al, ro, fl (ml M [2] [T])) 0 0 (.inl (some (x_i t))) (al, ro, fl (ml M [2] [T])) := by
    obtain ⟨hc0, hG⟩ := x_gd_some hG
    cases hG
    exact (e_ireturn rfl dX10_isSign_13 (x_bool hc0).1)
  clear hG
  refine e_icmp_ne (pc := 5) (tgt := 12) dX10_isSign_5 (by decide) (fun hb => ?_) (fun hb => ?_)
  · rw [if_neg hb] at hr1
    refine e_iconst (pc := 12) dX10_isSign_12 (x_R rfl) ?_
    cases hr1
    exact hjhr1
  · rw [if_pos hb] at hr1
    refine e_iconst (pc := 8) dX10_isSign_8 (x_R rfl) ?_
    refine e_goto (pc := 9) (tgt := 13) dX10_isSign_9 (by decide) ?_
    cases hr1
    exact hjhr1
set_option maxRecDepth 100000 in
set_option maxHeartbeats 4000000 in
theorem c_X10_refuse {g : xG} {al : List (Nat × Nat × Nat)} {ro : Nat → Nat → Option Nat} (hst : g.1.stackTraces = false) (hs : SH al ro) {M : Nat → xU} {T : xU}  {t : xU} (hG : G10_refuse T = some t) :
    Cal g yX10_refuse cX10_refuse 1 none 0 [x_r (16 * 2 + 0)] (al, ro, fl (ml M [2] [T])) 0 0 (.inl none) (al, ro, fl (ml M [2] [t])) := by
  have hn : ([2] : List Nat).Nodup := by decide
  refine cal_of_ev (plainFor_of_name (by decide)) (x_c1 rfl) (Nat.le_of_ble_eq_true rfl) hst ?_
  show Ev g _ _ _ _ _ _ 0 [some (x_r (16 * 2 + 0))] [] (al, ro, fl (ml M [2] [T])) _ _ _ _
  rw [G10_refuse] at hG
  refine e_aloadn (pc := 0) (i := 0) dX10_refuse_0 rfl rfl ?_
  refine f_geti (pc := 1) (k := 0) (u := 2) (q := 0) dX10_refuse_1 xf10_18 (sa_2_0 hs) rfl hn rfl rfl (by decide) ?_
  show Ev g _ _ _ _ _ _ 4 [some (x_r (16 * 2 + 0))] [x_i (T 0 7)] (al, ro, fl (ml M [2] [T])) _ _ _ _
  refine e_iconst (pc := 4) dX10_refuse_4 (x_R rfl) ?_
  obtain ⟨T1, hr1, hG⟩ := x_bd1 hG
  have hjhr1 : Ev g yX10_refuse cX10_refuse 1 none [] 0 16 [some (x_r (16 * 2 + 0))] [] (al, ro, fl (ml M [2] [T1])) 0 0 (.inl none) (al, ro, fl (ml M [2] [t])) := by
    cases hG
    exact (e_return rfl dX10_refuse_16)
  clear hG
  refine e_icmp_ne (pc := 5) (tgt := 16) dX10_refuse_5 (by decide) (fun hb => ?_) (fun hb => ?_)
  · rw [if_neg hb] at hr1
    cases hr1
    exact hjhr1
  · rw [if_pos hb] at hr1
    refine e_aloadn (pc := 8) (i := 0) dX10_refuse_8 rfl rfl ?_
    refine e_aloadn (pc := 9) (i := 0) dX10_refuse_9 rfl rfl ?_
    refine f_geti (pc := 10) (k := 0) (u := 2) (q := 0) dX10_refuse_10 xf10_49 (sa_2_0 hs) rfl hn rfl rfl (by decide) ?_
    show Ev g _ _ _ _ _ _ 13 [some (x_r (16 * 2 + 0))] [x_i (T 0 3), x_r (16 * 2 + 0)] (al, ro, fl (ml M [2] [T])) _ _ _ _
    refine f_puti (pc := 13) (k := 0) (u := 2) (q := 0) dX10_refuse_13 xf10_18 xw8_7 (sa_2_0 hs) hn rfl rfl rfl (by decide) ?_
    show Ev g _ _ _ _ _ _ 16 [some (x_r (16 * 2 + 0))] [] (al, ro, fl (ml M [2] [(x_up T 0 7 (T 0 3))])) _ _ _ _
    cases hr1
    exact hjhr1
set_option maxRecDepth 100000 in
set_option maxHeartbeats 4000000 in
theorem c_X5_partHere {g : xG} {al : List (Nat × Nat × Nat)} {ro : Nat → Nat → Option Nat} (hst : g.1.stackTraces = false) (hs : SH al ro) {M : Nat → xU} {T : xU}  {t : Int} (hG : G5_partHere T = some t) :
    Cal g yX5_partHere cX5_partHere 1 (some .int) 7 [x_r (16 * 2 + 0)] (al, ro, fl (ml M [2] [T])) 0 0 (.inl (some (x_i t))) (al, ro, fl (ml M [2] [T])) := by
  have hn : ([2] : List Nat).Nodup := by decide
  refine cal_of_ev (plainFor_of_name (by decide)) (x_c1 rfl) (Nat.le_of_ble_eq_true rfl) hst ?_
  show Ev g _ _ _ _ _ _ 0 [some (x_r (16 * 2 + 0))] [] (al, ro, fl (ml M [2] [T])) _ _ _ _
  rw [G5_partHere] at hG
  refine e_aloadn (pc := 0) (i := 0) dX5_partHere_0 rfl rfl ?_
  refine e_ldcS (pc := 1) (i := 0) (tx := "monk") dX5_partHere_1 (List.mem_of_getElem? (i := 26) rfl) (by decide) ?_
  obtain ⟨v1, hq1, hG⟩ := x_bd1 hG
  refine e_invV (pc := 3) (K1 := 0) (S1 := 0) (K := 0) (S := 0) (dd2 := 6) (av := [x_r (x_s0 + 0)]) (st := []) (id := 16 * 2 + 0) dX5_partHere_3 xmX5_78 rfl (Or.inl ⟨8, 8, TX10, (sa_2_0 hs), rfl, by decide⟩) (f_cal (M := M) (us2 := [2]) [0] hn rfl (And.intro rfl trivial) rfl rfl rfl (c_X10_isWord hst hs  (by decide) hq1)) (by decide) (Nat.le_of_ble_eq_true rfl) (Or.inl rfl) ?_
  show Ev g _ _ _ _ _ _ 6 [some (x_r (16 * 2 + 0))] [x_i v1] (al, ro, fl (ml M [2] [T])) _ _ _ _
  refine e_if_eq (pc := 6) (tgt := 11) dX5_partHere_6 (by decide) (fun hb => ?_) (fun hb => ?_)
  · rw [if_pos hb] at hG
    refine e_aloadn (pc := 11) (i := 0) dX5_partHere_11 rfl rfl ?_
    refine e_ldcS (pc := 12) (i := 26) (tx := "flag") dX5_partHere_12 (List.mem_of_getElem? (i := 27) rfl) (by decide) ?_
    obtain ⟨v3, hq3, hG⟩ := x_bd1 hG
    refine e_invV (pc := 14) (K1 := 0) (S1 := 0) (K := 0) (S := 0) (dd2 := 6) (av := [x_r (x_s0 + 26)]) (st := []) (id := 16 * 2 + 0) dX5_partHere_14 xmX5_78 rfl (Or.inl ⟨8, 8, TX10, (sa_2_0 hs), rfl, by decide⟩) (f_cal (M := M) (us2 := [2]) [0] hn rfl (And.intro rfl trivial) rfl rfl rfl (c_X10_isWord hst hs  (by decide) hq3)) (by decide) (Nat.le_of_ble_eq_true rfl) (Or.inl rfl) ?_
    show Ev g _ _ _ _ _ _ 17 [some (x_r (16 * 2 + 0))] [x_i v3] (al, ro, fl (ml M [2] [T])) _ _ _ _
    refine e_if_eq (pc := 17) (tgt := 22) dX5_partHere_17 (by decide) (fun hb => ?_) (fun hb => ?_)
    · rw [if_pos hb] at hG
      refine e_aloadn (pc := 22) (i := 0) dX5_partHere_22 rfl rfl ?_
      refine e_ldcS (pc := 23) (i := 3) (tx := "pace") dX5_partHere_23 (List.mem_of_getElem? (i := 28) rfl) (by decide) ?_
      obtain ⟨v5, hq5, hG⟩ := x_bd1 hG
      refine e_invV (pc := 25) (K1 := 0) (S1 := 0) (K := 0) (S := 0) (dd2 := 6) (av := [x_r (x_s0 + 3)]) (st := []) (id := 16 * 2 + 0) dX5_partHere_25 xmX5_78 rfl (Or.inl ⟨8, 8, TX10, (sa_2_0 hs), rfl, by decide⟩) (f_cal (M := M) (us2 := [2]) [0] hn rfl (And.intro rfl trivial) rfl rfl rfl (c_X10_isWord hst hs  (by decide) hq5)) (by decide) (Nat.le_of_ble_eq_true rfl) (Or.inl rfl) ?_
      show Ev g _ _ _ _ _ _ 28 [some (x_r (16 * 2 + 0))] [x_i v5] (al, ro, fl (ml M [2] [T])) _ _ _ _
      refine e_if_eq (pc := 28) (tgt := 33) dX5_partHere_28 (by decide) (fun hb => ?_) (fun hb => ?_)
      · rw [if_pos hb] at hG
        refine e_aloadn (pc := 33) (i := 0) dX5_partHere_33 rfl rfl ?_
        refine e_ldcS (pc := 34) (i := 27) (tx := "season") dX5_partHere_34 (List.mem_of_getElem? (i := 29) rfl) (by decide) ?_
        obtain ⟨v7, hq7, hG⟩ := x_bd1 hG
        refine e_invV (pc := 36) (K1 := 0) (S1 := 0) (K := 0) (S := 0) (dd2 := 6) (av := [x_r (x_s0 + 27)]) (st := []) (id := 16 * 2 + 0) dX5_partHere_36 xmX5_78 rfl (Or.inl ⟨8, 8, TX10, (sa_2_0 hs), rfl, by decide⟩) (f_cal (M := M) (us2 := [2]) [0] hn rfl (And.intro rfl trivial) rfl rfl rfl (c_X10_isWord hst hs  (by decide) hq7)) (by decide) (Nat.le_of_ble_eq_true rfl) (Or.inl rfl) ?_
        show Ev g _ _ _ _ _ _ 39 [some (x_r (16 * 2 + 0))] [x_i v7] (al, ro, fl (ml M [2] [T])) _ _ _ _
        refine e_if_eq (pc := 39) (tgt := 44) dX5_partHere_39 (by decide) (fun hb => ?_) (fun hb => ?_)
        · rw [if_pos hb] at hG
          refine e_aloadn (pc := 44) (i := 0) dX5_partHere_44 rfl rfl ?_
          refine e_ldcS (pc := 45) (i := 28) (tx := "late") dX5_partHere_45 (List.mem_of_getElem? (i := 30) rfl) (by decide) ?_
          obtain ⟨v9, hq9, hG⟩ := x_bd1 hG
          refine e_invV (pc := 47) (K1 := 0) (S1 := 0) (K := 0) (S := 0) (dd2 := 6) (av := [x_r (x_s0 + 28)]) (st := []) (id := 16 * 2 + 0) dX5_partHere_47 xmX5_78 rfl (Or.inl ⟨8, 8, TX10, (sa_2_0 hs), rfl, by decide⟩) (f_cal (M := M) (us2 := [2]) [0] hn rfl (And.intro rfl trivial) rfl rfl rfl (c_X10_isWord hst hs  (by decide) hq9)) (by decide) (Nat.le_of_ble_eq_true rfl) (Or.inl rfl) ?_
          show Ev g _ _ _ _ _ _ 50 [some (x_r (16 * 2 + 0))] [x_i v9] (al, ro, fl (ml M [2] [T])) _ _ _ _
          refine e_if_eq (pc := 50) (tgt := 55) dX5_partHere_50 (by decide) (fun hb => ?_) (fun hb => ?_)
          · rw [if_pos hb] at hG
            refine e_aloadn (pc := 55) (i := 0) dX5_partHere_55 rfl rfl ?_
            refine e_ldcS (pc := 56) (i := 15) (tx := "hour") dX5_partHere_56 (List.mem_of_getElem? (i := 31) rfl) (by decide) ?_
            obtain ⟨v11, hq11, hG⟩ := x_bd1 hG
            refine e_invV (pc := 58) (K1 := 0) (S1 := 0) (K := 0) (S := 0) (dd2 := 6) (av := [x_r (x_s0 + 15)]) (st := []) (id := 16 * 2 + 0) dX5_partHere_58 xmX5_78 rfl (Or.inl ⟨8, 8, TX10, (sa_2_0 hs), rfl, by decide⟩) (f_cal (M := M) (us2 := [2]) [0] hn rfl (And.intro rfl trivial) rfl rfl rfl (c_X10_isWord hst hs  (by decide) hq11)) (by decide) (Nat.le_of_ble_eq_true rfl) (Or.inl rfl) ?_
            show Ev g _ _ _ _ _ _ 61 [some (x_r (16 * 2 + 0))] [x_i v11] (al, ro, fl (ml M [2] [T])) _ _ _ _
            refine e_if_eq (pc := 61) (tgt := 66) dX5_partHere_61 (by decide) (fun hb => ?_) (fun hb => ?_)
            · rw [if_pos hb] at hG
              refine e_aloadn (pc := 66) (i := 0) dX5_partHere_66 rfl rfl ?_
              refine e_ldcS (pc := 67) (i := 2) (tx := "stall") dX5_partHere_67 (List.mem_of_getElem? (i := 32) rfl) (by decide) ?_
              obtain ⟨v13, hq13, hG⟩ := x_bd1 hG
              refine e_invV (pc := 69) (K1 := 0) (S1 := 0) (K := 0) (S := 0) (dd2 := 6) (av := [x_r (x_s0 + 2)]) (st := []) (id := 16 * 2 + 0) dX5_partHere_69 xmX5_78 rfl (Or.inl ⟨8, 8, TX10, (sa_2_0 hs), rfl, by decide⟩) (f_cal (M := M) (us2 := [2]) [0] hn rfl (And.intro rfl trivial) rfl rfl rfl (c_X10_isWord hst hs  (by decide) hq13)) (by decide) (Nat.le_of_ble_eq_true rfl) (Or.inl rfl) ?_
              show Ev g _ _ _ _ _ _ 72 [some (x_r (16 * 2 + 0))] [x_i v13] (al, ro, fl (ml M [2] [T])) _ _ _ _
              obtain ⟨v15, hr15, hG⟩ := x_bd1 hG
              have hjhr15 : Ev g yX5_partHere cX5_partHere 1 (some .int) [] 7 81 [some (x_r (16 * 2 + 0))] [x_i v15] (al, ro, fl (ml M [2] [T])) 0 0 (.inl (some (x_i t))) (al, ro, fl (ml M [2] [T])) := by
                cases hG
                exact (e_ireturn rfl dX5_partHere_81 rfl)
              clear hG
              refine e_if_eq (pc := 72) (tgt := 80) dX5_partHere_72 (by decide) (fun hb => ?_) (fun hb => ?_)
              · rw [if_pos hb] at hr15
                refine e_iconst (pc := 80) dX5_partHere_80 (x_R rfl) ?_
                cases hr15
                exact hjhr15
              · rw [if_neg hb] at hr15
                refine e_bipush (pc := 75) dX5_partHere_75 (by decide +kernel) (x_R rfl) ?_
                refine e_goto (pc := 77) (tgt := 81) dX5_partHere_77 (by decide) ?_
                cases hr15
                exact hjhr15
            · rw [if_neg hb] at hG
              refine e_iconst (pc := 64) dX5_partHere_64 (x_R rfl) ?_
              cases hG
              exact (e_ireturn rfl dX5_partHere_65 rfl)
          · rw [if_neg hb] at hG
            refine e_iconst (pc := 53) dX5_partHere_53 (x_R rfl) ?_
            cases hG
            exact (e_ireturn rfl dX5_partHere_54 rfl)
        · rw [if_neg hb] at hG
          refine e_iconst (pc := 42) dX5_partHere_42 (x_R rfl) ?_
          cases hG
          exact (e_ireturn rfl dX5_partHere_43 rfl)
      · rw [if_neg hb] at hG
        refine e_iconst (pc := 31) dX5_partHere_31 (x_R rfl) ?_
        cases hG
        exact (e_ireturn rfl dX5_partHere_32 rfl)
    · rw [if_neg hb] at hG
      refine e_iconst (pc := 20) dX5_partHere_20 (x_R rfl) ?_
      cases hG
      exact (e_ireturn rfl dX5_partHere_21 rfl)
  · rw [if_neg hb] at hG
    refine e_iconst (pc := 9) dX5_partHere_9 (x_R rfl) ?_
    cases hG
    exact (e_ireturn rfl dX5_partHere_10 rfl)
set_option maxRecDepth 100000 in
set_option maxHeartbeats 4000000 in
theorem c_X10_takeSign {g : xG} {al : List (Nat × Nat × Nat)} {ro : Nat → Nat → Option Nat} (hst : g.1.stackTraces = false) (hs : SH al ro) {M : Nat → xU} {a : Int} {T : xU}  {t : (Int × xU)} (hG : G10_takeSign a T = some t) :
    Cal g yX10_takeSign cX10_takeSign 3 (some .boolean) 1 [x_r (16 * 2 + 0), x_i a] (al, ro, fl (ml M [2] [T])) 0 0 (.inl (some (x_i t.1))) (al, ro, fl (ml M [2] [t.2])) := by
  have hn : ([2] : List Nat).Nodup := by decide
  refine cal_of_ev (plainFor_of_name (by decide)) (x_c1 rfl) (Nat.le_of_ble_eq_true rfl) hst ?_
  show Ev g _ _ _ _ _ _ 0 [some (x_r (16 * 2 + 0)), some (x_i a), none] [] (al, ro, fl (ml M [2] [T])) _ _ _ _
  rw [G10_takeSign] at hG
  refine e_aloadn (pc := 0) (i := 0) dX10_takeSign_0 rfl rfl ?_
  refine e_iloadn (pc := 1) (i := 1) dX10_takeSign_1 rfl rfl ?_
  obtain ⟨v1, hq1, hG⟩ := x_bd1 hG
  refine e_invV (pc := 2) (K1 := 0) (S1 := 0) (K := 0) (S := 0) (dd2 := 0) (av := [x_i a]) (st := []) (id := 16 * 2 + 0) dX10_takeSign_2 xmX10_75 rfl (Or.inl ⟨8, 8, TX10, (sa_2_0 hs), rfl, by decide⟩) (f_cal (M := M) (us2 := [2]) [0] hn rfl (And.intro rfl trivial) rfl rfl rfl (c_X10_isSign hst hs   hq1)) (by decide) (Nat.le_of_ble_eq_true rfl) (Or.inl rfl) ?_
  show Ev g _ _ _ _ _ _ 5 [some (x_r (16 * 2 + 0)), some (x_i a), none] [x_i v1] (al, ro, fl (ml M [2] [T])) _ _ _ _
  refine e_istoren (pc := 5) (i := 2) dX10_takeSign_5 rfl (by decide) rfl ?_
  show Ev g _ _ _ _ _ _ 6 [some (x_r (16 * 2 + 0)), some (x_i a), some (x_i v1)] [] (al, ro, fl (ml M [2] [T])) _ _ _ _
  refine e_iloadn (pc := 6) (i := 2) dX10_takeSign_6 rfl rfl ?_
  obtain ⟨T3, hr3, hG⟩ := x_bd1 hG
  have hjhr3 : Ev g yX10_takeSign cX10_takeSign 3 (some .boolean) [] 1 14 [some (x_r (16 * 2 + 0)), some (x_i a), some (x_i v1)] [] (al, ro, fl (ml M [2] [T3])) 0 0 (.inl (some (x_i t.1))) (al, ro, fl (ml M [2] [t.2])) := by
    refine e_iloadn (pc := 14) (i := 2) dX10_takeSign_14 rfl rfl ?_
    obtain ⟨hc0, hG⟩ := x_gd_some hG
    cases hG
    exact (e_ireturn rfl dX10_takeSign_15 (x_bool hc0).1)
  clear hG
  refine e_if_eq (pc := 7) (tgt := 14) dX10_takeSign_7 (by decide) (fun hb => ?_) (fun hb => ?_)
  · rw [if_pos hb] at hr3
    cases hr3
    exact hjhr3
  · rw [if_neg hb] at hr3
    refine e_aloadn (pc := 10) (i := 0) dX10_takeSign_10 rfl rfl ?_
    obtain ⟨T5, hq5, hr3⟩ := x_bd1 hr3
    refine e_invV (pc := 11) (K1 := 0) (S1 := 0) (K := 0) (S := 0) (dd2 := 0) (av := []) (st := []) (id := 16 * 2 + 0) dX10_takeSign_11 xmX10_32 rfl (Or.inl ⟨8, 8, TX10, (sa_2_0 hs), rfl, by decide⟩) (f_cal (M := M) (us2 := [2]) [0] hn rfl (And.intro rfl trivial) rfl rfl rfl (c_X10_readNext hst hs   hq5)) (by decide) (Nat.le_of_ble_eq_true rfl) (Or.inl rfl) ?_
    show Ev g _ _ _ _ _ _ 14 [some (x_r (16 * 2 + 0)), some (x_i a), some (x_i v1)] [] (al, ro, fl (ml M [2] [T5])) _ _ _ _
    cases hr3
    exact hjhr3
set_option maxRecDepth 100000 in
set_option maxHeartbeats 4000000 in
theorem c_X10_isNumber {g : xG} {al : List (Nat × Nat × Nat)} {ro : Nat → Nat → Option Nat} (hst : g.1.stackTraces = false) (hs : SH al ro) {M : Nat → xU} {T : xU}  {t : Int} (hG : G10_isNumber T = some t) :
    Cal g yX10_isNumber cX10_isNumber 1 (some .boolean) 0 [x_r (16 * 2 + 0)] (al, ro, fl (ml M [2] [T])) 0 0 (.inl (some (x_i t))) (al, ro, fl (ml M [2] [T])) := by
  have hn : ([2] : List Nat).Nodup := by decide
  refine cal_of_ev (plainFor_of_name (by decide)) (x_c1 rfl) (Nat.le_of_ble_eq_true rfl) hst ?_
  show Ev g _ _ _ _ _ _ 0 [some (x_r (16 * 2 + 0))] [] (al, ro, fl (ml M [2] [T])) _ _ _ _
  rw [G10_isNumber] at hG
  refine e_aloadn (pc := 0) (i := 0) dX10_isNumber_0 rfl rfl ?_
  refine f_geti (pc := 1) (k := 0) (u := 2) (q := 0) dX10_isNumber_1 xf10_52 (sa_2_0 hs) rfl hn rfl rfl (by decide) ?_
  show Ev g _ _ _ _ _ _ 4 [some (x_r (16 * 2 + 0))] [x_i (T 0 5)] (al, ro, fl (ml M [2] [T])) _ _ _ _
  refine e_iconst (pc := 4) dX10_isNumber_4 (x_R rfl) ?_
  obtain ⟨v1, hr1, hG⟩ := x_bd1 hG
  have hjhr1 : Ev g yX10_isNumber cX10_isNumber 1 (some .boolean) [] 0 13 [some (x_r (16 * 2 + 0))] [x_i v1] (al, ro, fl (ml M [2] [T])) 0 0 (.inl (some (x_i t))) (al, ro, fl (ml M [2] [T])) := by
    obtain ⟨hc0, hG⟩ := x_gd_some hG
    cases hG
    exact (e_ireturn rfl dX10_isNumber_13 (x_bool hc0).1)
  clear hG
  refine e_icmp_ne (pc := 5) (tgt := 12) dX10_isNumber_5 (by decide) (fun hb => ?_) (fun hb => ?_)
  · rw [if_neg hb] at hr1
    refine e_iconst (pc := 12) dX10_isNumber_12 (x_R rfl) ?_
    cases hr1
    exact hjhr1
  · rw [if_pos hb] at hr1
    refine e_iconst (pc := 8) dX10_isNumber_8 (x_R rfl) ?_
    refine e_goto (pc := 9) (tgt := 13) dX10_isNumber_9 (by decide) ?_
    cases hr1
    exact hjhr1
set_option maxRecDepth 100000 in
set_option maxHeartbeats 4000000 in
theorem c_X10_numberHere {g : xG} {al : List (Nat × Nat × Nat)} {ro : Nat → Nat → Option Nat} (hst : g.1.stackTraces = false) (hs : SH al ro) {M : Nat → xU} {T : xU}  {t : Int} (hG : G10_numberHere T = some t) :
    Cal g yX10_numberHere cX10_numberHere 3 (some .int) 0 [x_r (16 * 2 + 0)] (al, ro, fl (ml M [2] [T])) 0 0 (.inl (some (x_i t))) (al, ro, fl (ml M [2] [T])) := by
  have hn : ([2] : List Nat).Nodup := by decide
  refine cal_of_ev (plainFor_of_name (by decide)) (x_c1 rfl) (Nat.le_of_ble_eq_true rfl) hst ?_
  show Ev g _ _ _ _ _ _ 0 [some (x_r (16 * 2 + 0)), none, none] [] (al, ro, fl (ml M [2] [T])) _ _ _ _
  rw [G10_numberHere] at hG
  refine e_aloadn (pc := 0) (i := 0) dX10_numberHere_0 rfl rfl ?_
  refine f_geti (pc := 1) (k := 0) (u := 2) (q := 0) dX10_numberHere_1 xf10_52 (sa_2_0 hs) rfl hn rfl rfl (by decide) ?_
  show Ev g _ _ _ _ _ _ 4 [some (x_r (16 * 2 + 0)), none, none] [x_i (T 0 5)] (al, ro, fl (ml M [2] [T])) _ _ _ _
  refine e_iconst (pc := 4) dX10_numberHere_4 (x_R rfl) ?_
  refine e_icmp_ne (pc := 5) (tgt := 21) dX10_numberHere_5 (by decide) (fun hb => ?_) (fun hb => ?_)
  · rw [if_neg hb] at hG
    refine e_iconst (pc := 21) dX10_numberHere_21 (x_R rfl) ?_
    cases hG
    exact (e_ireturn rfl dX10_numberHere_22 rfl)
  · rw [if_pos hb] at hG
    refine e_aloadn (pc := 8) (i := 0) dX10_numberHere_8 rfl rfl ?_
    refine f_geti (pc := 9) (k := 0) (u := 2) (q := 0) dX10_numberHere_9 xf10_29 (sa_2_0 hs) rfl hn rfl rfl (by decide) ?_
    show Ev g _ _ _ _ _ _ 12 [some (x_r (16 * 2 + 0)), none, none] [x_i (T 0 4)] (al, ro, fl (ml M [2] [T])) _ _ _ _
    refine e_aloadn (pc := 12) (i := 0) dX10_numberHere_12 rfl rfl ?_
    refine f_geti (pc := 13) (k := 0) (u := 2) (q := 0) dX10_numberHere_13 xf10_49 (sa_2_0 hs) rfl hn rfl rfl (by decide) ?_
    show Ev g _ _ _ _ _ _ 16 [some (x_r (16 * 2 + 0)), none, none] [x_i (T 0 3), x_i (T 0 4)] (al, ro, fl (ml M [2] [T])) _ _ _ _
    refine e_isub (pc := 16) dX10_numberHere_16 ?_
    refine e_iconst (pc := 17) dX10_numberHere_17 (x_R rfl) ?_
    refine e_icmp_le (pc := 18) (tgt := 23) dX10_numberHere_18 (by decide) (fun hb => ?_) (fun hb => ?_)
    · rw [if_pos hb] at hG
      refine e_iconst (pc := 23) dX10_numberHere_23 (x_R rfl) ?_
      refine e_istoren (pc := 24) (i := 1) dX10_numberHere_24 rfl (by decide) rfl ?_
      show Ev g _ _ _ _ _ _ 25 [some (x_r (16 * 2 + 0)), some (x_i 0), none] [] (al, ro, fl (ml M [2] [T])) _ _ _ _
      refine e_aloadn (pc := 25) (i := 0) dX10_numberHere_25 rfl rfl ?_
      refine f_geti (pc := 26) (k := 0) (u := 2) (q := 0) dX10_numberHere_26 xf10_49 (sa_2_0 hs) rfl hn rfl rfl (by decide) ?_
      show Ev g _ _ _ _ _ _ 29 [some (x_r (16 * 2 + 0)), some (x_i 0), none] [x_i (T 0 3)] (al, ro, fl (ml M [2] [T])) _ _ _ _
      refine e_istoren (pc := 29) (i := 2) dX10_numberHere_29 rfl (by decide) rfl ?_
      show Ev g _ _ _ _ _ _ 30 [some (x_r (16 * 2 + 0)), some (x_i 0), some (x_i (T 0 3))] [] (al, ro, fl (ml M [2] [T])) _ _ _ _
      obtain ⟨v3, hl4, hG⟩ := x_bd1 hG
      have hk4 : ∀ q : Int, q = v3 → Ev g yX10_numberHere cX10_numberHere 3 (some .int) [] 0 70 [some (x_r (16 * 2 + 0)), some (x_i q), none] [] (al, ro, fl (ml M [2] [T])) 0 0 (.inl (some (x_i t))) (al, ro, fl (ml M [2] [T])) := by
        intro q hq
        replace hq := hq.symm
        subst hq
        refine e_iloadn (pc := 70) (i := 1) dX10_numberHere_70 rfl rfl ?_
        cases hG
        exact (e_ireturn rfl dX10_numberHere_71 rfl)
      clear hG
      refine e_whl (G10_numberHere_L30 T) (fun z : (Int × Int) => Ev g yX10_numberHere cX10_numberHere 3 (some .int) [] 0 30 [some (x_r (16 * 2 + 0)), some (x_i z.1), some (x_i z.2)] [] (al, ro, fl (ml M [2] [T])) 0 0 (.inl (some (x_i t))) (al, ro, fl (ml M [2] [T]))) (fun q => q = v3) ?_ xFU (0, (T 0 3)) _ hl4 rfl
      intro z t4 hf4 hi4 hx4
      obtain ⟨v1, v2⟩ := z
      rw [G10_numberHere_L30] at hf4
      show Ev g _ _ _ _ _ _ 30 [some (x_r (16 * 2 + 0)), some (x_i v1), some (x_i v2)] [] (al, ro, fl (ml M [2] [T])) _ _ _ _
      refine e_iloadn (pc := 30) (i := 2) dX10_numberHere_30 rfl rfl ?_
      refine e_if_lt (pc := 31) (tgt := 70) dX10_numberHere_31 (by decide) (fun hb => ?_) (fun hb => ?_)
      · rw [if_pos hb] at hf4
        cases hf4
        refine e_drop (i := 2) ?_
        have hh := hk4 _ (hx4 _ rfl)
        try dsimp only at hh
        exact hh
      · rw [if_neg hb] at hf4
        refine e_iloadn (pc := 34) (i := 2) dX10_numberHere_34 rfl rfl ?_
        refine e_aloadn (pc := 35) (i := 0) dX10_numberHere_35 rfl rfl ?_
        refine f_geti (pc := 36) (k := 0) (u := 2) (q := 0) dX10_numberHere_36 xf10_29 (sa_2_0 hs) rfl hn rfl rfl (by decide) ?_
        show Ev g _ _ _ _ _ _ 39 [some (x_r (16 * 2 + 0)), some (x_i v1), some (x_i v2)] [x_i (T 0 4), x_i v2] (al, ro, fl (ml M [2] [T])) _ _ _ _
        refine e_icmp_ge (pc := 39) (tgt := 70) dX10_numberHere_39 (by decide) (fun hb => ?_) (fun hb => ?_)
        · rw [if_pos hb] at hf4
          cases hf4
          refine e_drop (i := 2) ?_
          have hh := hk4 _ (hx4 _ rfl)
          try dsimp only at hh
          exact hh
        · rw [if_neg hb] at hf4
          refine e_iloadn (pc := 42) (i := 2) dX10_numberHere_42 rfl rfl ?_
          refine e_sipush (pc := 43) dX10_numberHere_43 (by decide +kernel) (x_R rfl) ?_
          refine e_icmp_ge (pc := 46) (tgt := 70) dX10_numberHere_46 (by decide) (fun hb => ?_) (fun hb => ?_)
          · rw [if_pos hb] at hf4
            cases hf4
            refine e_drop (i := 2) ?_
            have hh := hk4 _ (hx4 _ rfl)
            try dsimp only at hh
            exact hh
          · rw [if_neg hb] at hf4
            refine e_bipush (pc := 49) dX10_numberHere_49 (by decide +kernel) (x_R rfl) ?_
            refine e_iloadn (pc := 51) (i := 1) dX10_numberHere_51 rfl rfl ?_
            refine e_imul (pc := 52) dX10_numberHere_52 ?_
            refine e_aloadn (pc := 53) (i := 0) dX10_numberHere_53 rfl rfl ?_
            refine f_getr (pc := 54) (u := 2) (q := 0) dX10_numberHere_54 xf10_9 (sa_2_0 hs) rfl (sr_2_0_0 hs) ?_
            refine e_iloadn (pc := 57) (i := 2) dX10_numberHere_57 rfl rfl ?_
            obtain ⟨hc0, hf4⟩ := x_gd_some hf4
            refine f_iald (pc := 58) (k := 0) (u := 2) (q := 1) (len := 400) dX10_numberHere_58 (sa_2_1 hs) hc0 hn rfl rfl (by decide) ?_
            show Ev g _ _ _ _ _ _ 59 [some (x_r (16 * 2 + 0)), some (x_i v1), some (x_i v2)] [x_i (T 1 (v2).toNat), x_i (x_mul 10 v1)] (al, ro, fl (ml M [2] [T])) _ _ _ _
            refine e_iadd (pc := 59) dX10_numberHere_59 ?_
            refine e_bipush (pc := 60) dX10_numberHere_60 (by decide +kernel) (x_R rfl) ?_
            refine e_isub (pc := 62) dX10_numberHere_62 ?_
            refine e_istoren (pc := 63) (i := 1) dX10_numberHere_63 rfl (by decide) rfl ?_
            show Ev g _ _ _ _ _ _ 64 [some (x_r (16 * 2 + 0)), some (x_i (x_sub (x_add (x_mul 10 v1) (T 1 (v2).toNat)) 48)), some (x_i v2)] [] (al, ro, fl (ml M [2] [T])) _ _ _ _
            refine e_iinc (pc := 64) dX10_numberHere_64 rfl (by decide) rfl ?_
            show Ev g _ _ _ _ _ _ 67 [some (x_r (16 * 2 + 0)), some (x_i (x_sub (x_add (x_mul 10 v1) (T 1 (v2).toNat)) 48)), some (x_i (x_add v2 1))] [] (al, ro, fl (ml M [2] [T])) _ _ _ _
            refine e_goto (pc := 67) (tgt := 30) dX10_numberHere_67 (by decide) ?_
            cases hf4
            have hh := hi4 _ rfl
            try dsimp only at hh
            exact hh
    · rw [if_neg hb] at hG
      refine e_iconst (pc := 21) dX10_numberHere_21 (x_R rfl) ?_
      cases hG
      exact (e_ireturn rfl dX10_numberHere_22 rfl)
set_option maxRecDepth 100000 in
set_option maxHeartbeats 4000000 in
theorem c_X10_takeNumber {g : xG} {al : List (Nat × Nat × Nat)} {ro : Nat → Nat → Option Nat} (hst : g.1.stackTraces = false) (hs : SH al ro) {M : Nat → xU} {a : Int} {T : xU}  {t : (Int × xU)} (hG : G10_takeNumber a T = some t) :
    Cal g yX10_takeNumber cX10_takeNumber 3 (some .int) 1 [x_r (16 * 2 + 0), x_i a] (al, ro, fl (ml M [2] [T])) 0 0 (.inl (some (x_i t.1))) (al, ro, fl (ml M [2] [t.2])) := by
  have hn : ([2] : List Nat).Nodup := by decide
  refine cal_of_ev (plainFor_of_name (by decide)) (x_c1 rfl) (Nat.le_of_ble_eq_true rfl) hst ?_
  show Ev g _ _ _ _ _ _ 0 [some (x_r (16 * 2 + 0)), some (x_i a), none] [] (al, ro, fl (ml M [2] [T])) _ _ _ _
  rw [G10_takeNumber] at hG
  refine e_aloadn (pc := 0) (i := 0) dX10_takeNumber_0 rfl rfl ?_
  obtain ⟨v1, hq1, hG⟩ := x_bd1 hG
  refine e_invV (pc := 1) (K1 := 0) (S1 := 0) (K := 0) (S := 0) (dd2 := 0) (av := []) (st := []) (id := 16 * 2 + 0) dX10_takeNumber_1 xmX10_82 rfl (Or.inl ⟨8, 8, TX10, (sa_2_0 hs), rfl, by decide⟩) (f_cal (M := M) (us2 := [2]) [0] hn rfl (And.intro rfl trivial) rfl rfl rfl (c_X10_numberHere hst hs   hq1)) (by decide) (Nat.le_of_ble_eq_true rfl) (Or.inl rfl) ?_
  show Ev g _ _ _ _ _ _ 4 [some (x_r (16 * 2 + 0)), some (x_i a), none] [x_i v1] (al, ro, fl (ml M [2] [T])) _ _ _ _
  refine e_istoren (pc := 4) (i := 2) dX10_takeNumber_4 rfl (by decide) rfl ?_
  show Ev g _ _ _ _ _ _ 5 [some (x_r (16 * 2 + 0)), some (x_i a), some (x_i v1)] [] (al, ro, fl (ml M [2] [T])) _ _ _ _
  refine e_iloadn (pc := 5) (i := 2) dX10_takeNumber_5 rfl rfl ?_
  refine e_iconst (pc := 6) dX10_takeNumber_6 (x_R rfl) ?_
  refine e_icmp_eq (pc := 7) (tgt := 15) dX10_takeNumber_7 (by decide) (fun hb => ?_) (fun hb => ?_)
  · rw [if_pos hb] at hG
    refine e_aloadn (pc := 15) (i := 0) dX10_takeNumber_15 rfl rfl ?_
    obtain ⟨T3, hq3, hG⟩ := x_bd1 hG
    refine e_invV (pc := 16) (K1 := 0) (S1 := 0) (K := 0) (S := 0) (dd2 := 0) (av := []) (st := []) (id := 16 * 2 + 0) dX10_takeNumber_16 xmX10_43 rfl (Or.inl ⟨8, 8, TX10, (sa_2_0 hs), rfl, by decide⟩) (f_cal (M := M) (us2 := [2]) [0] hn rfl (And.intro rfl trivial) rfl rfl rfl (c_X10_refuse hst hs   hq3)) (by decide) (Nat.le_of_ble_eq_true rfl) (Or.inl rfl) ?_
    show Ev g _ _ _ _ _ _ 19 [some (x_r (16 * 2 + 0)), some (x_i a), some (x_i v1)] [] (al, ro, fl (ml M [2] [T3])) _ _ _ _
    refine e_iconst (pc := 19) dX10_takeNumber_19 (x_R rfl) ?_
    cases hG
    exact (e_ireturn rfl dX10_takeNumber_20 rfl)
  · rw [if_neg hb] at hG
    refine e_iloadn (pc := 10) (i := 2) dX10_takeNumber_10 rfl rfl ?_
    refine e_iloadn (pc := 11) (i := 1) dX10_takeNumber_11 rfl rfl ?_
    refine e_icmp_le (pc := 12) (tgt := 21) dX10_takeNumber_12 (by decide) (fun hb => ?_) (fun hb => ?_)
    · rw [if_pos hb] at hG
      refine e_aloadn (pc := 21) (i := 0) dX10_takeNumber_21 rfl rfl ?_
      obtain ⟨T5, hq5, hG⟩ := x_bd1 hG
      refine e_invV (pc := 22) (K1 := 0) (S1 := 0) (K := 0) (S := 0) (dd2 := 0) (av := []) (st := []) (id := 16 * 2 + 0) dX10_takeNumber_22 xmX10_32 rfl (Or.inl ⟨8, 8, TX10, (sa_2_0 hs), rfl, by decide⟩) (f_cal (M := M) (us2 := [2]) [0] hn rfl (And.intro rfl trivial) rfl rfl rfl (c_X10_readNext hst hs   hq5)) (by decide) (Nat.le_of_ble_eq_true rfl) (Or.inl rfl) ?_
      show Ev g _ _ _ _ _ _ 25 [some (x_r (16 * 2 + 0)), some (x_i a), some (x_i v1)] [] (al, ro, fl (ml M [2] [T5])) _ _ _ _
      refine e_iloadn (pc := 25) (i := 2) dX10_takeNumber_25 rfl rfl ?_
      cases hG
      exact (e_ireturn rfl dX10_takeNumber_26 rfl)
    · rw [if_neg hb] at hG
      refine e_aloadn (pc := 15) (i := 0) dX10_takeNumber_15 rfl rfl ?_
      obtain ⟨T7, hq7, hG⟩ := x_bd1 hG
      refine e_invV (pc := 16) (K1 := 0) (S1 := 0) (K := 0) (S := 0) (dd2 := 0) (av := []) (st := []) (id := 16 * 2 + 0) dX10_takeNumber_16 xmX10_43 rfl (Or.inl ⟨8, 8, TX10, (sa_2_0 hs), rfl, by decide⟩) (f_cal (M := M) (us2 := [2]) [0] hn rfl (And.intro rfl trivial) rfl rfl rfl (c_X10_refuse hst hs   hq7)) (by decide) (Nat.le_of_ble_eq_true rfl) (Or.inl rfl) ?_
      show Ev g _ _ _ _ _ _ 19 [some (x_r (16 * 2 + 0)), some (x_i a), some (x_i v1)] [] (al, ro, fl (ml M [2] [T7])) _ _ _ _
      refine e_iconst (pc := 19) dX10_takeNumber_19 (x_R rfl) ?_
      cases hG
      exact (e_ireturn rfl dX10_takeNumber_20 rfl)
