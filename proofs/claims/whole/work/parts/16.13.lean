set_option maxRecDepth 100000 in
set_option maxHeartbeats 4000000 in
theorem c_X3_oddsOf {g : xG} {al : List (Nat × Nat × Nat)} {ro : Nat → Nat → Option Nat} (hst : g.1.stackTraces = false) (hs : SH al ro) {M : Nat → xU} {a : Int} {b : Int} {N : xU} {Fo : xU}  {t : (Int × xU)} (hG : G3_oddsOf a b N Fo = some t) :
    Cal g yX3_oddsOf cX3_oddsOf 8 (some .int) 0 [x_r (16 * 22 + 0), x_r (16 * 3 + 0), x_i a, x_i b] (al, ro, fl (ml M [3, 22] [N, Fo])) 0 0 (.inl (some (x_i t.1))) (al, ro, fl (ml M [3, 22] [N, t.2])) := by
  have hn : ([3, 22] : List Nat).Nodup := by decide
  refine cal_of_ev (plainFor_of_name (by decide)) (x_c1 rfl) (Nat.le_of_ble_eq_true rfl) hst ?_
  show Ev g _ _ _ _ _ _ 0 [some (x_r (16 * 22 + 0)), some (x_r (16 * 3 + 0)), some (x_i a), some (x_i b), none, none, none, none] [] (al, ro, fl (ml M [3, 22] [N, Fo])) _ _ _ _
  rw [G3_oddsOf] at hG
  refine e_iconst (pc := 0) dX3_oddsOf_0 (x_R rfl) ?_
  refine e_istore (pc := 1) (i := 4) dX3_oddsOf_1 (by decide) rfl ?_
  show Ev g _ _ _ _ _ _ 3 [some (x_r (16 * 22 + 0)), some (x_r (16 * 3 + 0)), some (x_i a), some (x_i b), some (x_i 0), none, none, none] [] (al, ro, fl (ml M [3, 22] [N, Fo])) _ _ _ _
  obtain ⟨Fo3, hl4, hG⟩ := x_bd1 hG
  have hk4 : ∀ q : xU, q = Fo3 → Ev g yX3_oddsOf cX3_oddsOf 8 (some .int) [] 0 33 [some (x_r (16 * 22 + 0)), some (x_r (16 * 3 + 0)), some (x_i a), some (x_i b), none, none, none, none] [] (al, ro, fl (ml M [3, 22] [N, q])) 0 0 (.inl (some (x_i t.1))) (al, ro, fl (ml M [3, 22] [N, t.2])) := by
    intro q hq
    replace hq := hq.symm
    subst hq
    refine e_iconst (pc := 33) dX3_oddsOf_33 (x_R rfl) ?_
    refine e_istore (pc := 34) (i := 4) dX3_oddsOf_34 (by decide) rfl ?_
    show Ev g _ _ _ _ _ _ 36 [some (x_r (16 * 22 + 0)), some (x_r (16 * 3 + 0)), some (x_i a), some (x_i b), some (x_i 0), none, none, none] [] (al, ro, fl (ml M [3, 22] [N, Fo3])) _ _ _ _
    obtain ⟨Fo10, hl11, hG⟩ := x_bd1 hG
    have hk11 : ∀ q : xU, q = Fo10 → Ev g yX3_oddsOf cX3_oddsOf 8 (some .int) [] 0 115 [some (x_r (16 * 22 + 0)), some (x_r (16 * 3 + 0)), some (x_i a), some (x_i b), none, none, none, none] [] (al, ro, fl (ml M [3, 22] [N, q])) 0 0 (.inl (some (x_i t.1))) (al, ro, fl (ml M [3, 22] [N, t.2])) := by
      intro q hq
      replace hq := hq.symm
      subst hq
      refine e_lconst (pc := 115) dX3_oddsOf_115 ?_
      show Ev g _ _ _ _ _ _ 116 [some (x_r (16 * 22 + 0)), some (x_r (16 * 3 + 0)), some (x_i a), some (x_i b), none, none, none, none] [x_l 0] (al, ro, fl (ml M [3, 22] [N, Fo10])) _ _ _ _
      refine e_lstore (pc := 116) (i := 4) dX3_oddsOf_116 (by decide) rfl ?_
      show Ev g _ _ _ _ _ _ 118 [some (x_r (16 * 22 + 0)), some (x_r (16 * 3 + 0)), some (x_i a), some (x_i b), some (x_l 0), none, none, none] [] (al, ro, fl (ml M [3, 22] [N, Fo10])) _ _ _ _
      refine e_bipush (pc := 118) dX3_oddsOf_118 (by decide +kernel) (x_R rfl) ?_
      refine e_istore (pc := 120) (i := 6) dX3_oddsOf_120 (by decide) rfl ?_
      show Ev g _ _ _ _ _ _ 122 [some (x_r (16 * 22 + 0)), some (x_r (16 * 3 + 0)), some (x_i a), some (x_i b), some (x_l 0), none, some (x_i 6), none] [] (al, ro, fl (ml M [3, 22] [N, Fo10])) _ _ _ _
      obtain ⟨v22, hl23, hG⟩ := x_bd1 hG
      have hk23 : ∀ q : Int, q = v22 → Ev g yX3_oddsOf cX3_oddsOf 8 (some .int) [] 0 155 [some (x_r (16 * 22 + 0)), some (x_r (16 * 3 + 0)), some (x_i a), some (x_i b), some (x_l q), none, none, none] [] (al, ro, fl (ml M [3, 22] [N, Fo10])) 0 0 (.inl (some (x_i t.1))) (al, ro, fl (ml M [3, 22] [N, t.2])) := by
        intro q hq
        replace hq := hq.symm
        subst hq
        refine e_iconst (pc := 155) dX3_oddsOf_155 (x_R rfl) ?_
        refine e_istore (pc := 156) (i := 6) dX3_oddsOf_156 (by decide) rfl ?_
        show Ev g _ _ _ _ _ _ 158 [some (x_r (16 * 22 + 0)), some (x_r (16 * 3 + 0)), some (x_i a), some (x_i b), some (x_l v22), none, some (x_i 0), none] [] (al, ro, fl (ml M [3, 22] [N, Fo10])) _ _ _ _
        obtain ⟨v27, hl28, hG⟩ := x_bd1 hG
        have hk28 : ∀ q : Int, q = v27 → Ev g yX3_oddsOf cX3_oddsOf 8 (some .int) [] 0 178 [some (x_r (16 * 22 + 0)), some (x_r (16 * 3 + 0)), some (x_i a), some (x_i b), some (x_l q), none, none, none] [] (al, ro, fl (ml M [3, 22] [N, Fo10])) 0 0 (.inl (some (x_i t.1))) (al, ro, fl (ml M [3, 22] [N, t.2])) := by
          intro q hq
          replace hq := hq.symm
          subst hq
          refine e_lload (pc := 178) dX3_oddsOf_178 rfl ?_
          refine e_l2i (pc := 180) dX3_oddsOf_180 ?_
          cases hG
          exact (e_ireturn rfl dX3_oddsOf_181 rfl)
        clear hG
        refine e_whl (G3_oddsOf_L158 a) (fun z : (Int × Int) => Ev g yX3_oddsOf cX3_oddsOf 8 (some .int) [] 0 158 [some (x_r (16 * 22 + 0)), some (x_r (16 * 3 + 0)), some (x_i a), some (x_i b), some (x_l z.1), none, some (x_i z.2), none] [] (al, ro, fl (ml M [3, 22] [N, Fo10])) 0 0 (.inl (some (x_i t.1))) (al, ro, fl (ml M [3, 22] [N, t.2]))) (fun q => q = v27) ?_ xFU (v22, 0) _ hl28 rfl
        intro z t28 hf28 hi28 hx28
        obtain ⟨v25, v26⟩ := z
        rw [G3_oddsOf_L158] at hf28
        show Ev g _ _ _ _ _ _ 158 [some (x_r (16 * 22 + 0)), some (x_r (16 * 3 + 0)), some (x_i a), some (x_i b), some (x_l v25), none, some (x_i v26), none] [] (al, ro, fl (ml M [3, 22] [N, Fo10])) _ _ _ _
        refine e_iload (pc := 158) dX3_oddsOf_158 rfl ?_
        refine e_iloadn (pc := 160) (i := 2) dX3_oddsOf_160 rfl rfl ?_
        refine e_icmp_ge (pc := 161) (tgt := 178) dX3_oddsOf_161 (by decide) (fun hb => ?_) (fun hb => ?_)
        · rw [if_pos hb] at hf28
          cases hf28
          refine e_drop (i := 6) ?_
          have hh := hk28 _ (hx28 _ rfl)
          try dsimp only at hh
          exact hh
        · rw [if_neg hb] at hf28
          refine e_lload (pc := 164) dX3_oddsOf_164 rfl ?_
          refine e_ldc2 (pc := 166) dX3_oddsOf_166 xkX3_99 (x_R6 rfl) ?_
          refine e_ldiv (pc := 169) dX3_oddsOf_169 (by decide) ?_
          refine e_lstore (pc := 170) (i := 4) dX3_oddsOf_170 (by decide) rfl ?_
          show Ev g _ _ _ _ _ _ 172 [some (x_r (16 * 22 + 0)), some (x_r (16 * 3 + 0)), some (x_i a), some (x_i b), some (x_l (x_ldiv v25 100)), none, some (x_i v26), none] [] (al, ro, fl (ml M [3, 22] [N, Fo10])) _ _ _ _
          refine e_iinc (pc := 172) dX3_oddsOf_172 rfl (by decide) rfl ?_
          show Ev g _ _ _ _ _ _ 175 [some (x_r (16 * 22 + 0)), some (x_r (16 * 3 + 0)), some (x_i a), some (x_i b), some (x_l (x_ldiv v25 100)), none, some (x_i (x_add v26 1)), none] [] (al, ro, fl (ml M [3, 22] [N, Fo10])) _ _ _ _
          refine e_goto (pc := 175) (tgt := 158) dX3_oddsOf_175 (by decide) ?_
          cases hf28
          have hh := hi28 _ rfl
          try dsimp only at hh
          exact hh
      clear hG
      refine e_whl (G3_oddsOf_L122 b Fo10) (fun z : (Int × Int) => Ev g yX3_oddsOf cX3_oddsOf 8 (some .int) [] 0 122 [some (x_r (16 * 22 + 0)), some (x_r (16 * 3 + 0)), some (x_i a), some (x_i b), some (x_l z.1), none, some (x_i z.2), none] [] (al, ro, fl (ml M [3, 22] [N, Fo10])) 0 0 (.inl (some (x_i t.1))) (al, ro, fl (ml M [3, 22] [N, t.2]))) (fun q => q = v22) ?_ xFU (0, 6) _ hl23 rfl
      intro z t23 hf23 hi23 hx23
      obtain ⟨v20, v21⟩ := z
      rw [G3_oddsOf_L122] at hf23
      show Ev g _ _ _ _ _ _ 122 [some (x_r (16 * 22 + 0)), some (x_r (16 * 3 + 0)), some (x_i a), some (x_i b), some (x_l v20), none, some (x_i v21), none] [] (al, ro, fl (ml M [3, 22] [N, Fo10])) _ _ _ _
      refine e_iload (pc := 122) dX3_oddsOf_122 rfl ?_
      refine e_iloadn (pc := 124) (i := 3) dX3_oddsOf_124 rfl rfl ?_
      refine e_icmp_lt (pc := 125) (tgt := 155) dX3_oddsOf_125 (by decide) (fun hb => ?_) (fun hb => ?_)
      · rw [if_pos hb] at hf23
        cases hf23
        refine e_drop (i := 6) ?_
        have hh := hk23 _ (hx23 _ rfl)
        try dsimp only at hh
        exact hh
      · rw [if_neg hb] at hf23
        refine e_iload (pc := 128) dX3_oddsOf_128 rfl ?_
        refine e_if_lt (pc := 130) (tgt := 155) dX3_oddsOf_130 (by decide) (fun hb => ?_) (fun hb => ?_)
        · rw [if_pos hb] at hf23
          cases hf23
          refine e_drop (i := 6) ?_
          have hh := hk23 _ (hx23 _ rfl)
          try dsimp only at hh
          exact hh
        · rw [if_neg hb] at hf23
          refine e_lload (pc := 133) dX3_oddsOf_133 rfl ?_
          refine e_ldc2 (pc := 135) dX3_oddsOf_135 xkX3_97 (x_R6 rfl) ?_
          refine e_aloadn (pc := 138) (i := 0) dX3_oddsOf_138 rfl rfl ?_
          refine f_getr (pc := 139) (u := 22) (q := 0) dX3_oddsOf_139 xf3_22 (sa_22_0 hs) rfl (sr_22_0_2 hs) ?_
          refine e_iload (pc := 142) dX3_oddsOf_142 rfl ?_
          obtain ⟨hc0, hf23⟩ := x_gd_some hf23
          refine f_lald (pc := 144) (k := 1) (u := 22) (q := 2) (len := 7) dX3_oddsOf_144 (sa_22_2 hs) hc0 hn rfl rfl (by decide) ?_
          show Ev g _ _ _ _ _ _ 145 [some (x_r (16 * 22 + 0)), some (x_r (16 * 3 + 0)), some (x_i a), some (x_i b), some (x_l v20), none, some (x_i v21), none] [x_l (Fo10 2 (v21).toNat), x_l 10000, x_l v20] (al, ro, fl (ml M [3, 22] [N, Fo10])) _ _ _ _
          refine e_lmul (pc := 145) dX3_oddsOf_145 ?_
          refine e_ladd (pc := 146) dX3_oddsOf_146 ?_
          refine e_lstore (pc := 147) (i := 4) dX3_oddsOf_147 (by decide) rfl ?_
          show Ev g _ _ _ _ _ _ 149 [some (x_r (16 * 22 + 0)), some (x_r (16 * 3 + 0)), some (x_i a), some (x_i b), some (x_l (x_ladd v20 (x_lmul 10000 (Fo10 2 (v21).toNat)))), none, some (x_i v21), none] [] (al, ro, fl (ml M [3, 22] [N, Fo10])) _ _ _ _
          refine e_iinc (pc := 149) dX3_oddsOf_149 rfl (by decide) rfl ?_
          show Ev g _ _ _ _ _ _ 152 [some (x_r (16 * 22 + 0)), some (x_r (16 * 3 + 0)), some (x_i a), some (x_i b), some (x_l (x_ladd v20 (x_lmul 10000 (Fo10 2 (v21).toNat)))), none, some (x_i (x_add v21 (-1))), none] [] (al, ro, fl (ml M [3, 22] [N, Fo10])) _ _ _ _
          refine e_goto (pc := 152) (tgt := 122) dX3_oddsOf_152 (by decide) ?_
          cases hf23
          have hh := hi23 _ rfl
          try dsimp only at hh
          exact hh
    clear hG
    refine e_whl (G3_oddsOf_L36 a N) (fun z : (Int × xU) => Ev g yX3_oddsOf cX3_oddsOf 8 (some .int) [] 0 36 [some (x_r (16 * 22 + 0)), some (x_r (16 * 3 + 0)), some (x_i a), some (x_i b), some (x_i z.1), none, none, none] [] (al, ro, fl (ml M [3, 22] [N, z.2])) 0 0 (.inl (some (x_i t.1))) (al, ro, fl (ml M [3, 22] [N, t.2]))) (fun q => q = Fo10) ?_ xFU (0, Fo3) _ hl11 rfl
    intro z t11 hf11 hi11 hx11
    obtain ⟨v8, Fo9⟩ := z
    rw [G3_oddsOf_L36] at hf11
    show Ev g _ _ _ _ _ _ 36 [some (x_r (16 * 22 + 0)), some (x_r (16 * 3 + 0)), some (x_i a), some (x_i b), some (x_i v8), none, none, none] [] (al, ro, fl (ml M [3, 22] [N, Fo9])) _ _ _ _
    refine e_iload (pc := 36) dX3_oddsOf_36 rfl ?_
    refine e_iloadn (pc := 38) (i := 2) dX3_oddsOf_38 rfl rfl ?_
    refine e_icmp_ge (pc := 39) (tgt := 115) dX3_oddsOf_39 (by decide) (fun hb => ?_) (fun hb => ?_)
    · rw [if_pos hb] at hf11
      cases hf11
      refine e_drop (i := 4) ?_
      have hh := hk11 _ (hx11 _ rfl)
      try dsimp only at hh
      exact hh
    · rw [if_neg hb] at hf11
      refine e_bipush (pc := 42) dX3_oddsOf_42 (by decide +kernel) (x_R rfl) ?_
      refine e_istore (pc := 44) (i := 5) dX3_oddsOf_44 (by decide) rfl ?_
      show Ev g _ _ _ _ _ _ 46 [some (x_r (16 * 22 + 0)), some (x_r (16 * 3 + 0)), some (x_i a), some (x_i b), some (x_i v8), some (x_i 6), none, none] [] (al, ro, fl (ml M [3, 22] [N, Fo9])) _ _ _ _
      obtain ⟨Fo15, hl16, hf11⟩ := x_bd1 hf11
      have hk16 : ∀ q : xU, q = Fo15 → Ev g yX3_oddsOf cX3_oddsOf 8 (some .int) [] 0 109 [some (x_r (16 * 22 + 0)), some (x_r (16 * 3 + 0)), some (x_i a), some (x_i b), some (x_i v8), none, none, none] [] (al, ro, fl (ml M [3, 22] [N, q])) 0 0 (.inl (some (x_i t.1))) (al, ro, fl (ml M [3, 22] [N, t.2])) := by
        intro q hq
        replace hq := hq.symm
        subst hq
        refine e_iinc (pc := 109) dX3_oddsOf_109 rfl (by decide) rfl ?_
        show Ev g _ _ _ _ _ _ 112 [some (x_r (16 * 22 + 0)), some (x_r (16 * 3 + 0)), some (x_i a), some (x_i b), some (x_i (x_add v8 1)), none, none, none] [] (al, ro, fl (ml M [3, 22] [N, Fo15])) _ _ _ _
        refine e_goto (pc := 112) (tgt := 36) dX3_oddsOf_112 (by decide) ?_
        cases hf11
        have hh := hi11 _ rfl
        try dsimp only at hh
        exact hh
      clear hf11
      refine e_whl (G3_oddsOf_L46 N) (fun z : (Int × xU) => Ev g yX3_oddsOf cX3_oddsOf 8 (some .int) [] 0 46 [some (x_r (16 * 22 + 0)), some (x_r (16 * 3 + 0)), some (x_i a), some (x_i b), some (x_i v8), some (x_i z.1), none, none] [] (al, ro, fl (ml M [3, 22] [N, z.2])) 0 0 (.inl (some (x_i t.1))) (al, ro, fl (ml M [3, 22] [N, t.2]))) (fun q => q = Fo15) ?_ xFU (6, Fo9) _ hl16 rfl
      intro z t16 hf16 hi16 hx16
      obtain ⟨v13, Fo14⟩ := z
      rw [G3_oddsOf_L46] at hf16
      show Ev g _ _ _ _ _ _ 46 [some (x_r (16 * 22 + 0)), some (x_r (16 * 3 + 0)), some (x_i a), some (x_i b), some (x_i v8), some (x_i v13), none, none] [] (al, ro, fl (ml M [3, 22] [N, Fo14])) _ _ _ _
      refine e_iload (pc := 46) dX3_oddsOf_46 rfl ?_
      refine e_if_lt (pc := 48) (tgt := 109) dX3_oddsOf_48 (by decide) (fun hb => ?_) (fun hb => ?_)
      · rw [if_pos hb] at hf16
        cases hf16
        refine e_drop (i := 5) ?_
        have hh := hk16 _ (hx16 _ rfl)
        try dsimp only at hh
        exact hh
      · rw [if_neg hb] at hf16
        refine e_iload (pc := 51) dX3_oddsOf_51 rfl ?_
        obtain ⟨v18, hr18, hf16⟩ := x_bd1 hf16
        have hjhr18 : Ev g yX3_oddsOf cX3_oddsOf 8 (some .int) [] 0 69 [some (x_r (16 * 22 + 0)), some (x_r (16 * 3 + 0)), some (x_i a), some (x_i b), some (x_i v8), some (x_i v13), none, none] [x_l v18] (al, ro, fl (ml M [3, 22] [N, Fo14])) 0 0 (.inl (some (x_i t.1))) (al, ro, fl (ml M [3, 22] [N, t.2])) := by
          refine e_lstore (pc := 69) (i := 6) dX3_oddsOf_69 (by decide) rfl ?_
          show Ev g _ _ _ _ _ _ 71 [some (x_r (16 * 22 + 0)), some (x_r (16 * 3 + 0)), some (x_i a), some (x_i b), some (x_i v8), some (x_i v13), some (x_l v18), none] [] (al, ro, fl (ml M [3, 22] [N, Fo14])) _ _ _ _
          refine e_aloadn (pc := 71) (i := 0) dX3_oddsOf_71 rfl rfl ?_
          refine f_getr (pc := 72) (u := 22) (q := 0) dX3_oddsOf_72 xf3_22 (sa_22_0 hs) rfl (sr_22_0_2 hs) ?_
          refine e_iload (pc := 75) dX3_oddsOf_75 rfl ?_
          refine e_aloadn (pc := 77) (i := 0) dX3_oddsOf_77 rfl rfl ?_
          refine f_getr (pc := 78) (u := 22) (q := 0) dX3_oddsOf_78 xf3_22 (sa_22_0 hs) rfl (sr_22_0_2 hs) ?_
          refine e_iload (pc := 81) dX3_oddsOf_81 rfl ?_
          obtain ⟨hc0, hf16⟩ := x_gd_some hf16
          refine f_lald (pc := 83) (k := 1) (u := 22) (q := 2) (len := 7) dX3_oddsOf_83 (sa_22_2 hs) hc0 hn rfl rfl (by decide) ?_
          show Ev g _ _ _ _ _ _ 84 [some (x_r (16 * 22 + 0)), some (x_r (16 * 3 + 0)), some (x_i a), some (x_i b), some (x_i v8), some (x_i v13), some (x_l v18), none] [x_l (Fo14 2 (v13).toNat), x_i v13, x_r (16 * 22 + 2)] (al, ro, fl (ml M [3, 22] [N, Fo14])) _ _ _ _
          refine e_bipush (pc := 84) dX3_oddsOf_84 (by decide +kernel) (x_R rfl) ?_
          refine e_aloadn (pc := 86) (i := 1) dX3_oddsOf_86 rfl rfl ?_
          refine f_geti (pc := 87) (k := 0) (u := 3) (q := 0) dX3_oddsOf_87 xf3_94 (sa_3_0 hs) rfl hn rfl rfl (by decide) ?_
          show Ev g _ _ _ _ _ _ 90 [some (x_r (16 * 22 + 0)), some (x_r (16 * 3 + 0)), some (x_i a), some (x_i b), some (x_i v8), some (x_i v13), some (x_l v18), none] [x_i (N 0 9), x_i 100, x_l (Fo14 2 (v13).toNat), x_i v13, x_r (16 * 22 + 2)] (al, ro, fl (ml M [3, 22] [N, Fo14])) _ _ _ _
          refine e_isub (pc := 90) dX3_oddsOf_90 ?_
          refine e_i2l (pc := 91) dX3_oddsOf_91 ?_
          refine e_lmul (pc := 92) dX3_oddsOf_92 ?_
          refine e_lload (pc := 93) dX3_oddsOf_93 rfl ?_
          refine e_aloadn (pc := 95) (i := 1) dX3_oddsOf_95 rfl rfl ?_
          refine f_geti (pc := 96) (k := 0) (u := 3) (q := 0) dX3_oddsOf_96 xf3_94 (sa_3_0 hs) rfl hn rfl rfl (by decide) ?_
          show Ev g _ _ _ _ _ _ 99 [some (x_r (16 * 22 + 0)), some (x_r (16 * 3 + 0)), some (x_i a), some (x_i b), some (x_i v8), some (x_i v13), some (x_l v18), none] [x_i (N 0 9), x_l v18, x_l (x_lmul (Fo14 2 (v13).toNat) (x_i2l (x_sub 100 (N 0 9)))), x_i v13, x_r (16 * 22 + 2)] (al, ro, fl (ml M [3, 22] [N, Fo14])) _ _ _ _
          refine e_i2l (pc := 99) dX3_oddsOf_99 ?_
          refine e_lmul (pc := 100) dX3_oddsOf_100 ?_
          refine e_ladd (pc := 101) dX3_oddsOf_101 ?_
          obtain ⟨hc0, hf16⟩ := x_gd_some hf16
          refine f_last (pc := 102) (k := 1) (u := 22) (q := 2) (len := 7) dX3_oddsOf_102 (sa_22_2 hs) hc0 hn rfl rfl rfl (by decide) ?_
          show Ev g _ _ _ _ _ _ 103 [some (x_r (16 * 22 + 0)), some (x_r (16 * 3 + 0)), some (x_i a), some (x_i b), some (x_i v8), some (x_i v13), some (x_l v18), none] [] (al, ro, fl (ml M [3, 22] [N, (x_up Fo14 2 (v13).toNat (x_ladd (x_lmul (Fo14 2 (v13).toNat) (x_i2l (x_sub 100 (N 0 9)))) (x_lmul v18 (x_i2l (N 0 9)))))])) _ _ _ _
          refine e_iinc (pc := 103) dX3_oddsOf_103 rfl (by decide) rfl ?_
          show Ev g _ _ _ _ _ _ 106 [some (x_r (16 * 22 + 0)), some (x_r (16 * 3 + 0)), some (x_i a), some (x_i b), some (x_i v8), some (x_i (x_add v13 (-1))), some (x_l v18), none] [] (al, ro, fl (ml M [3, 22] [N, (x_up Fo14 2 (v13).toNat (x_ladd (x_lmul (Fo14 2 (v13).toNat) (x_i2l (x_sub 100 (N 0 9)))) (x_lmul v18 (x_i2l (N 0 9)))))])) _ _ _ _
          refine e_goto (pc := 106) (tgt := 46) dX3_oddsOf_106 (by decide) ?_
          cases hf16
          refine e_drop (i := 6) ?_
          have hh := hi16 _ rfl
          try dsimp only at hh
          exact hh
        clear hf16
        refine e_if_le (pc := 53) (tgt := 68) dX3_oddsOf_53 (by decide) (fun hb => ?_) (fun hb => ?_)
        · rw [if_pos hb] at hr18
          refine e_lconst (pc := 68) dX3_oddsOf_68 ?_
          show Ev g _ _ _ _ _ _ 69 [some (x_r (16 * 22 + 0)), some (x_r (16 * 3 + 0)), some (x_i a), some (x_i b), some (x_i v8), some (x_i v13), none, none] [x_l 0] (al, ro, fl (ml M [3, 22] [N, Fo14])) _ _ _ _
          cases hr18
          exact hjhr18
        · rw [if_neg hb] at hr18
          refine e_aloadn (pc := 56) (i := 0) dX3_oddsOf_56 rfl rfl ?_
          refine f_getr (pc := 57) (u := 22) (q := 0) dX3_oddsOf_57 xf3_22 (sa_22_0 hs) rfl (sr_22_0_2 hs) ?_
          refine e_iload (pc := 60) dX3_oddsOf_60 rfl ?_
          refine e_iconst (pc := 62) dX3_oddsOf_62 (x_R rfl) ?_
          refine e_isub (pc := 63) dX3_oddsOf_63 ?_
          obtain ⟨hc0, hr18⟩ := x_gd_some hr18
          refine f_lald (pc := 64) (k := 1) (u := 22) (q := 2) (len := 7) dX3_oddsOf_64 (sa_22_2 hs) hc0 hn rfl rfl (by decide) ?_
          show Ev g _ _ _ _ _ _ 65 [some (x_r (16 * 22 + 0)), some (x_r (16 * 3 + 0)), some (x_i a), some (x_i b), some (x_i v8), some (x_i v13), none, none] [x_l (Fo14 2 ((x_sub v13 1)).toNat)] (al, ro, fl (ml M [3, 22] [N, Fo14])) _ _ _ _
          refine e_goto (pc := 65) (tgt := 69) dX3_oddsOf_65 (by decide) ?_
          cases hr18
          exact hjhr18
  clear hG
  refine e_whl G3_oddsOf_L3 (fun z : (Int × xU) => Ev g yX3_oddsOf cX3_oddsOf 8 (some .int) [] 0 3 [some (x_r (16 * 22 + 0)), some (x_r (16 * 3 + 0)), some (x_i a), some (x_i b), some (x_i z.1), none, none, none] [] (al, ro, fl (ml M [3, 22] [N, z.2])) 0 0 (.inl (some (x_i t.1))) (al, ro, fl (ml M [3, 22] [N, t.2]))) (fun q => q = Fo3) ?_ xFU (0, Fo) _ hl4 rfl
  intro z t4 hf4 hi4 hx4
  obtain ⟨v1, Fo2⟩ := z
  rw [G3_oddsOf_L3] at hf4
  show Ev g _ _ _ _ _ _ 3 [some (x_r (16 * 22 + 0)), some (x_r (16 * 3 + 0)), some (x_i a), some (x_i b), some (x_i v1), none, none, none] [] (al, ro, fl (ml M [3, 22] [N, Fo2])) _ _ _ _
  refine e_iload (pc := 3) dX3_oddsOf_3 rfl ?_
  refine e_bipush (pc := 5) dX3_oddsOf_5 (by decide +kernel) (x_R rfl) ?_
  refine e_icmp_gt (pc := 7) (tgt := 33) dX3_oddsOf_7 (by decide) (fun hb => ?_) (fun hb => ?_)
  · rw [if_pos hb] at hf4
    cases hf4
    refine e_drop (i := 4) ?_
    have hh := hk4 _ (hx4 _ rfl)
    try dsimp only at hh
    exact hh
  · rw [if_neg hb] at hf4
    refine e_aloadn (pc := 10) (i := 0) dX3_oddsOf_10 rfl rfl ?_
    refine f_getr (pc := 11) (u := 22) (q := 0) dX3_oddsOf_11 xf3_22 (sa_22_0 hs) rfl (sr_22_0_2 hs) ?_
    refine e_iload (pc := 14) dX3_oddsOf_14 rfl ?_
    refine e_iload (pc := 16) dX3_oddsOf_16 rfl ?_
    obtain ⟨v6, hr6, hf4⟩ := x_bd1 hf4
    have hjhr6 : Ev g yX3_oddsOf cX3_oddsOf 8 (some .int) [] 0 26 [some (x_r (16 * 22 + 0)), some (x_r (16 * 3 + 0)), some (x_i a), some (x_i b), some (x_i v1), none, none, none] [x_l v6, x_i v1, x_r (16 * 22 + 2)] (al, ro, fl (ml M [3, 22] [N, Fo2])) 0 0 (.inl (some (x_i t.1))) (al, ro, fl (ml M [3, 22] [N, t.2])) := by
      obtain ⟨hc0, hf4⟩ := x_gd_some hf4
      refine f_last (pc := 26) (k := 1) (u := 22) (q := 2) (len := 7) dX3_oddsOf_26 (sa_22_2 hs) hc0 hn rfl rfl rfl (by decide) ?_
      show Ev g _ _ _ _ _ _ 27 [some (x_r (16 * 22 + 0)), some (x_r (16 * 3 + 0)), some (x_i a), some (x_i b), some (x_i v1), none, none, none] [] (al, ro, fl (ml M [3, 22] [N, (x_up Fo2 2 (v1).toNat v6)])) _ _ _ _
      refine e_iinc (pc := 27) dX3_oddsOf_27 rfl (by decide) rfl ?_
      show Ev g _ _ _ _ _ _ 30 [some (x_r (16 * 22 + 0)), some (x_r (16 * 3 + 0)), some (x_i a), some (x_i b), some (x_i (x_add v1 1)), none, none, none] [] (al, ro, fl (ml M [3, 22] [N, (x_up Fo2 2 (v1).toNat v6)])) _ _ _ _
      refine e_goto (pc := 30) (tgt := 3) dX3_oddsOf_30 (by decide) ?_
      cases hf4
      have hh := hi4 _ rfl
      try dsimp only at hh
      exact hh
    clear hf4
    refine e_if_ne (pc := 18) (tgt := 25) dX3_oddsOf_18 (by decide) (fun hb => ?_) (fun hb => ?_)
    · rw [if_neg hb] at hr6
      refine e_lconst (pc := 25) dX3_oddsOf_25 ?_
      show Ev g _ _ _ _ _ _ 26 [some (x_r (16 * 22 + 0)), some (x_r (16 * 3 + 0)), some (x_i a), some (x_i b), some (x_i v1), none, none, none] [x_l 0, x_i v1, x_r (16 * 22 + 2)] (al, ro, fl (ml M [3, 22] [N, Fo2])) _ _ _ _
      cases hr6
      exact hjhr6
    · rw [if_pos hb] at hr6
      refine e_lconst (pc := 21) dX3_oddsOf_21 ?_
      show Ev g _ _ _ _ _ _ 22 [some (x_r (16 * 22 + 0)), some (x_r (16 * 3 + 0)), some (x_i a), some (x_i b), some (x_i v1), none, none, none] [x_l 1, x_i v1, x_r (16 * 22 + 2)] (al, ro, fl (ml M [3, 22] [N, Fo2])) _ _ _ _
      refine e_goto (pc := 22) (tgt := 26) dX3_oddsOf_22 (by decide) ?_
      cases hr6
      exact hjhr6
set_option maxRecDepth 100000 in
set_option maxHeartbeats 4000000 in
theorem c_X4_clear {g : xG} {al : List (Nat × Nat × Nat)} {ro : Nat → Nat → Option Nat} (hst : g.1.stackTraces = false) (hs : SH al ro) {M : Nat → xU} {Lb : xU}  {t : xU} (hG : G4_clear Lb = some t) :
    Cal g yX4_clear cX4_clear 1 none 0 [x_r (16 * 20 + 0)] (al, ro, fl (ml M [20] [Lb])) 0 0 (.inl none) (al, ro, fl (ml M [20] [t])) := by
  have hn : ([20] : List Nat).Nodup := by decide
  refine cal_of_ev (plainFor_of_name (by decide)) (x_c1 rfl) (Nat.le_of_ble_eq_true rfl) hst ?_
  show Ev g _ _ _ _ _ _ 0 [some (x_r (16 * 20 + 0))] [] (al, ro, fl (ml M [20] [Lb])) _ _ _ _
  rw [G4_clear] at hG
  refine e_aloadn (pc := 0) (i := 0) dX4_clear_0 rfl rfl ?_
  refine e_iconst (pc := 1) dX4_clear_1 (x_R rfl) ?_
  refine f_puti (pc := 2) (k := 0) (u := 20) (q := 0) dX4_clear_2 xf4_27 xw3_6 (sa_20_0 hs) hn rfl rfl rfl (by decide) ?_
  show Ev g _ _ _ _ _ _ 5 [some (x_r (16 * 20 + 0))] [] (al, ro, fl (ml M [20] [(x_up Lb 0 6 0)])) _ _ _ _
  refine e_aloadn (pc := 5) (i := 0) dX4_clear_5 rfl rfl ?_
  refine e_iconst (pc := 6) dX4_clear_6 (x_R rfl) ?_
  refine f_puti (pc := 7) (k := 0) (u := 20) (q := 0) dX4_clear_7 xf4_31 xw3_5 (sa_20_0 hs) hn rfl rfl rfl (by decide) ?_
  show Ev g _ _ _ _ _ _ 10 [some (x_r (16 * 20 + 0))] [] (al, ro, fl (ml M [20] [(x_up (x_up Lb 0 6 0) 0 5 0)])) _ _ _ _
  cases hG
  exact (e_return rfl dX4_clear_10)
set_option maxRecDepth 100000 in
set_option maxHeartbeats 4000000 in
theorem c_X4_copyFrom {g : xG} {al : List (Nat × Nat × Nat)} {ro : Nat → Nat → Option Nat} (hst : g.1.stackTraces = false) (hs : SH al ro) {p : Nat} (hp : 19 ≤ p ∧ p ≤ 21) {q : Nat} (hq : 19 ≤ q ∧ q ≤ 21) (hpq : p ≠ q) {M : Nat → xU} {P : xU} {Q : xU}  {t : xU} (hG : G4_copyFrom P Q = some t) :
    Cal g yX4_copyFrom cX4_copyFrom 2 none 1 [x_r (16 * p + 0), x_r (16 * q + 0)] (al, ro, fl (ml M [p, q] [P, Q])) 0 0 (.inl none) (al, ro, fl (ml M [p, q] [t, Q])) := by
  have hn : ([p, q] : List Nat).Nodup := by simp <;> omega
  refine cal_of_ev (plainFor_of_name (by decide)) (x_c1 rfl) (Nat.le_of_ble_eq_true rfl) hst ?_
  show Ev g _ _ _ _ _ _ 0 [some (x_r (16 * p + 0)), some (x_r (16 * q + 0))] [] (al, ro, fl (ml M [p, q] [P, Q])) _ _ _ _
  rw [G4_copyFrom] at hG
  refine e_aloadn (pc := 0) (i := 1) dX4_copyFrom_0 rfl rfl ?_
  refine f_getr (pc := 1) (u := q) (q := 0) dX4_copyFrom_1 xf4_11 (sw_a0 hs hq) rfl (sw_r0_0 hs hq) ?_
  refine e_aloadn (pc := 4) (i := 0) dX4_copyFrom_4 rfl rfl ?_
  refine f_getr (pc := 5) (u := p) (q := 0) dX4_copyFrom_5 xf4_11 (sw_a0 hs hp) rfl (sw_r0_0 hs hp) ?_
  refine e_invS (pc := 8) (K1 := 0) (S1 := 0) (K := 0) (S := 0) (dd2 := 0) (av := [x_r (16 * q + 1), x_r (16 * p + 1)]) (st := []) dX4_copyFrom_8 xmX4_34 rfl (p_copyRow (k := 1) (j := 0) (u := q) (q := 1) (v := p) (r := 1) (n := 12) hst (sw_a1 hs hq) (sw_a1 hs hp) hn rfl rfl rfl rfl rfl (by decide) (by decide) (by decide) (by decide)) (by decide) (Nat.le_of_ble_eq_true rfl) (Or.inl rfl) ?_
  show Ev g _ _ _ _ _ _ 11 [some (x_r (16 * p + 0)), some (x_r (16 * q + 0))] [] (al, ro, fl (ml M [p, q] [(x_cp P 1 Q 1 12), Q])) _ _ _ _
  refine e_aloadn (pc := 11) (i := 1) dX4_copyFrom_11 rfl rfl ?_
  refine f_getr (pc := 12) (u := q) (q := 0) dX4_copyFrom_12 xf4_15 (sw_a0 hs hq) rfl (sw_r0_1 hs hq) ?_
  refine e_aloadn (pc := 15) (i := 0) dX4_copyFrom_15 rfl rfl ?_
  refine f_getr (pc := 16) (u := p) (q := 0) dX4_copyFrom_16 xf4_15 (sw_a0 hs hp) rfl (sw_r0_1 hs hp) ?_
  refine e_invS (pc := 19) (K1 := 0) (S1 := 0) (K := 0) (S := 0) (dd2 := 0) (av := [x_r (16 * q + 2), x_r (16 * p + 2)]) (st := []) dX4_copyFrom_19 xmX4_34 rfl (p_copyRow (k := 1) (j := 0) (u := q) (q := 2) (v := p) (r := 2) (n := 12) hst (sw_a2 hs hq) (sw_a2 hs hp) hn rfl rfl rfl rfl rfl (by decide) (by decide) (by decide) (by decide)) (by decide) (Nat.le_of_ble_eq_true rfl) (Or.inl rfl) ?_
  show Ev g _ _ _ _ _ _ 22 [some (x_r (16 * p + 0)), some (x_r (16 * q + 0))] [] (al, ro, fl (ml M [p, q] [(x_cp (x_cp P 1 Q 1 12) 2 Q 2 12), Q])) _ _ _ _
  refine e_aloadn (pc := 22) (i := 1) dX4_copyFrom_22 rfl rfl ?_
  refine f_getr (pc := 23) (u := q) (q := 0) dX4_copyFrom_23 xf4_18 (sw_a0 hs hq) rfl (sw_r0_2 hs hq) ?_
  refine e_aloadn (pc := 26) (i := 0) dX4_copyFrom_26 rfl rfl ?_
  refine f_getr (pc := 27) (u := p) (q := 0) dX4_copyFrom_27 xf4_18 (sw_a0 hs hp) rfl (sw_r0_2 hs hp) ?_
  refine e_invS (pc := 30) (K1 := 0) (S1 := 0) (K := 0) (S := 0) (dd2 := 0) (av := [x_r (16 * q + 3), x_r (16 * p + 3)]) (st := []) dX4_copyFrom_30 xmX4_34 rfl (p_copyRow (k := 1) (j := 0) (u := q) (q := 3) (v := p) (r := 3) (n := 12) hst (sw_a3 hs hq) (sw_a3 hs hp) hn rfl rfl rfl rfl rfl (by decide) (by decide) (by decide) (by decide)) (by decide) (Nat.le_of_ble_eq_true rfl) (Or.inl rfl) ?_
  show Ev g _ _ _ _ _ _ 33 [some (x_r (16 * p + 0)), some (x_r (16 * q + 0))] [] (al, ro, fl (ml M [p, q] [(x_cp (x_cp (x_cp P 1 Q 1 12) 2 Q 2 12) 3 Q 3 12), Q])) _ _ _ _
  refine e_aloadn (pc := 33) (i := 1) dX4_copyFrom_33 rfl rfl ?_
  refine f_getr (pc := 34) (u := q) (q := 0) dX4_copyFrom_34 xf4_21 (sw_a0 hs hq) rfl (sw_r0_3 hs hq) ?_
  refine e_aloadn (pc := 37) (i := 0) dX4_copyFrom_37 rfl rfl ?_
  refine f_getr (pc := 38) (u := p) (q := 0) dX4_copyFrom_38 xf4_21 (sw_a0 hs hp) rfl (sw_r0_3 hs hp) ?_
  refine e_invS (pc := 41) (K1 := 0) (S1 := 0) (K := 0) (S := 0) (dd2 := 0) (av := [x_r (16 * q + 4), x_r (16 * p + 4)]) (st := []) dX4_copyFrom_41 xmX4_34 rfl (p_copyRow (k := 1) (j := 0) (u := q) (q := 4) (v := p) (r := 4) (n := 400) hst (sw_a4 hs hq) (sw_a4 hs hp) hn rfl rfl rfl rfl rfl (by decide) (by decide) (by decide) (by decide)) (by decide) (Nat.le_of_ble_eq_true rfl) (Or.inl rfl) ?_
  show Ev g _ _ _ _ _ _ 44 [some (x_r (16 * p + 0)), some (x_r (16 * q + 0))] [] (al, ro, fl (ml M [p, q] [(x_cp (x_cp (x_cp (x_cp P 1 Q 1 12) 2 Q 2 12) 3 Q 3 12) 4 Q 4 400), Q])) _ _ _ _
  refine e_aloadn (pc := 44) (i := 0) dX4_copyFrom_44 rfl rfl ?_
  refine e_aloadn (pc := 45) (i := 1) dX4_copyFrom_45 rfl rfl ?_
  refine f_geti (pc := 46) (k := 1) (u := q) (q := 0) dX4_copyFrom_46 xf4_31 (sw_a0 hs hq) rfl hn rfl rfl (by decide) ?_
  show Ev g _ _ _ _ _ _ 49 [some (x_r (16 * p + 0)), some (x_r (16 * q + 0))] [x_i (Q 0 5), x_r (16 * p + 0)] (al, ro, fl (ml M [p, q] [(x_cp (x_cp (x_cp (x_cp P 1 Q 1 12) 2 Q 2 12) 3 Q 3 12) 4 Q 4 400), Q])) _ _ _ _
  refine f_puti (pc := 49) (k := 0) (u := p) (q := 0) dX4_copyFrom_49 xf4_31 xw3_5 (sw_a0 hs hp) hn rfl rfl rfl (by decide) ?_
  show Ev g _ _ _ _ _ _ 52 [some (x_r (16 * p + 0)), some (x_r (16 * q + 0))] [] (al, ro, fl (ml M [p, q] [(x_up (x_cp (x_cp (x_cp (x_cp P 1 Q 1 12) 2 Q 2 12) 3 Q 3 12) 4 Q 4 400) 0 5 (Q 0 5)), Q])) _ _ _ _
  refine e_aloadn (pc := 52) (i := 0) dX4_copyFrom_52 rfl rfl ?_
  refine e_aloadn (pc := 53) (i := 1) dX4_copyFrom_53 rfl rfl ?_
  refine f_geti (pc := 54) (k := 1) (u := q) (q := 0) dX4_copyFrom_54 xf4_27 (sw_a0 hs hq) rfl hn rfl rfl (by decide) ?_
  show Ev g _ _ _ _ _ _ 57 [some (x_r (16 * p + 0)), some (x_r (16 * q + 0))] [x_i (Q 0 6), x_r (16 * p + 0)] (al, ro, fl (ml M [p, q] [(x_up (x_cp (x_cp (x_cp (x_cp P 1 Q 1 12) 2 Q 2 12) 3 Q 3 12) 4 Q 4 400) 0 5 (Q 0 5)), Q])) _ _ _ _
  refine f_puti (pc := 57) (k := 0) (u := p) (q := 0) dX4_copyFrom_57 xf4_27 xw3_6 (sw_a0 hs hp) hn rfl rfl rfl (by decide) ?_
  show Ev g _ _ _ _ _ _ 60 [some (x_r (16 * p + 0)), some (x_r (16 * q + 0))] [] (al, ro, fl (ml M [p, q] [(x_up (x_up (x_cp (x_cp (x_cp (x_cp P 1 Q 1 12) 2 Q 2 12) 3 Q 3 12) 4 Q 4 400) 0 5 (Q 0 5)) 0 6 (Q 0 6)), Q])) _ _ _ _
  cases hG
  exact (e_return rfl dX4_copyFrom_60)
set_option maxRecDepth 100000 in
set_option maxHeartbeats 4000000 in
theorem c_X4_addLine {g : xG} {al : List (Nat × Nat × Nat)} {ro : Nat → Nat → Option Nat} (hst : g.1.stackTraces = false) (hs : SH al ro) {M : Nat → xU} {a : Int} {b : Int} {Lb : xU}  {t : xU} (hG : G4_addLine a b Lb = some t) :
    Cal g yX4_addLine cX4_addLine 3 none 0 [x_r (16 * 20 + 0), x_i a, x_i b] (al, ro, fl (ml M [20] [Lb])) 0 0 (.inl none) (al, ro, fl (ml M [20] [t])) := by
  have hn : ([20] : List Nat).Nodup := by decide
  refine cal_of_ev (plainFor_of_name (by decide)) (x_c1 rfl) (Nat.le_of_ble_eq_true rfl) hst ?_
  show Ev g _ _ _ _ _ _ 0 [some (x_r (16 * 20 + 0)), some (x_i a), some (x_i b)] [] (al, ro, fl (ml M [20] [Lb])) _ _ _ _
  rw [G4_addLine] at hG
  refine e_aloadn (pc := 0) (i := 0) dX4_addLine_0 rfl rfl ?_
  refine f_geti (pc := 1) (k := 0) (u := 20) (q := 0) dX4_addLine_1 xf4_27 (sa_20_0 hs) rfl hn rfl rfl (by decide) ?_
  show Ev g _ _ _ _ _ _ 4 [some (x_r (16 * 20 + 0)), some (x_i a), some (x_i b)] [x_i (Lb 0 6)] (al, ro, fl (ml M [20] [Lb])) _ _ _ _
  obtain ⟨Lb1, hr1, hG⟩ := x_bd1 hG
  have hjhr1 : Ev g yX4_addLine cX4_addLine 3 none [] 0 59 [some (x_r (16 * 20 + 0)), some (x_i a), some (x_i b)] [] (al, ro, fl (ml M [20] [Lb1])) 0 0 (.inl none) (al, ro, fl (ml M [20] [t])) := by
    cases hG
    exact (e_return rfl dX4_addLine_59)
  clear hG
  refine e_if_lt (pc := 4) (tgt := 59) dX4_addLine_4 (by decide) (fun hb => ?_) (fun hb => ?_)
  · rw [if_pos hb] at hr1
    cases hr1
    exact hjhr1
  · rw [if_neg hb] at hr1
    refine e_aloadn (pc := 7) (i := 0) dX4_addLine_7 rfl rfl ?_
    refine f_geti (pc := 8) (k := 0) (u := 20) (q := 0) dX4_addLine_8 xf4_27 (sa_20_0 hs) rfl hn rfl rfl (by decide) ?_
    show Ev g _ _ _ _ _ _ 11 [some (x_r (16 * 20 + 0)), some (x_i a), some (x_i b)] [x_i (Lb 0 6)] (al, ro, fl (ml M [20] [Lb])) _ _ _ _
    refine e_bipush (pc := 11) dX4_addLine_11 (by decide +kernel) (x_R rfl) ?_
    refine e_icmp_ge (pc := 13) (tgt := 59) dX4_addLine_13 (by decide) (fun hb => ?_) (fun hb => ?_)
    · rw [if_pos hb] at hr1
      cases hr1
      exact hjhr1
    · rw [if_neg hb] at hr1
      refine e_aloadn (pc := 16) (i := 0) dX4_addLine_16 rfl rfl ?_
      refine f_getr (pc := 17) (u := 20) (q := 0) dX4_addLine_17 xf4_11 (sa_20_0 hs) rfl (sr_20_0_0 hs) ?_
      refine e_aloadn (pc := 20) (i := 0) dX4_addLine_20 rfl rfl ?_
      refine f_geti (pc := 21) (k := 0) (u := 20) (q := 0) dX4_addLine_21 xf4_27 (sa_20_0 hs) rfl hn rfl rfl (by decide) ?_
      show Ev g _ _ _ _ _ _ 24 [some (x_r (16 * 20 + 0)), some (x_i a), some (x_i b)] [x_i (Lb 0 6), x_r (16 * 20 + 1)] (al, ro, fl (ml M [20] [Lb])) _ _ _ _
      refine e_iloadn (pc := 24) (i := 1) dX4_addLine_24 rfl rfl ?_
      obtain ⟨hc0, hr1⟩ := x_gd_some hr1
      refine f_iast (pc := 25) (k := 0) (u := 20) (q := 1) (len := 12) dX4_addLine_25 (sa_20_1 hs) hc0 hn rfl rfl rfl (by decide) ?_
      show Ev g _ _ _ _ _ _ 26 [some (x_r (16 * 20 + 0)), some (x_i a), some (x_i b)] [] (al, ro, fl (ml M [20] [(x_up Lb 1 ((Lb 0 6)).toNat a)])) _ _ _ _
      refine e_aloadn (pc := 26) (i := 0) dX4_addLine_26 rfl rfl ?_
      refine f_getr (pc := 27) (u := 20) (q := 0) dX4_addLine_27 xf4_15 (sa_20_0 hs) rfl (sr_20_0_1 hs) ?_
      refine e_aloadn (pc := 30) (i := 0) dX4_addLine_30 rfl rfl ?_
      refine f_geti (pc := 31) (k := 0) (u := 20) (q := 0) dX4_addLine_31 xf4_27 (sa_20_0 hs) rfl hn rfl rfl (by decide) ?_
      show Ev g _ _ _ _ _ _ 34 [some (x_r (16 * 20 + 0)), some (x_i a), some (x_i b)] [x_i ((x_up Lb 1 ((Lb 0 6)).toNat a) 0 6), x_r (16 * 20 + 2)] (al, ro, fl (ml M [20] [(x_up Lb 1 ((Lb 0 6)).toNat a)])) _ _ _ _
      refine e_iloadn (pc := 34) (i := 2) dX4_addLine_34 rfl rfl ?_
      obtain ⟨hc0, hr1⟩ := x_gd_some hr1
      refine f_iast (pc := 35) (k := 0) (u := 20) (q := 2) (len := 12) dX4_addLine_35 (sa_20_2 hs) hc0 hn rfl rfl rfl (by decide) ?_
      show Ev g _ _ _ _ _ _ 36 [some (x_r (16 * 20 + 0)), some (x_i a), some (x_i b)] [] (al, ro, fl (ml M [20] [(x_up (x_up Lb 1 ((Lb 0 6)).toNat a) 2 (((x_up Lb 1 ((Lb 0 6)).toNat a) 0 6)).toNat b)])) _ _ _ _
      refine e_aloadn (pc := 36) (i := 0) dX4_addLine_36 rfl rfl ?_
      refine f_getr (pc := 37) (u := 20) (q := 0) dX4_addLine_37 xf4_18 (sa_20_0 hs) rfl (sr_20_0_2 hs) ?_
      refine e_aloadn (pc := 40) (i := 0) dX4_addLine_40 rfl rfl ?_
      refine f_geti (pc := 41) (k := 0) (u := 20) (q := 0) dX4_addLine_41 xf4_27 (sa_20_0 hs) rfl hn rfl rfl (by decide) ?_
      show Ev g _ _ _ _ _ _ 44 [some (x_r (16 * 20 + 0)), some (x_i a), some (x_i b)] [x_i ((x_up (x_up Lb 1 ((Lb 0 6)).toNat a) 2 (((x_up Lb 1 ((Lb 0 6)).toNat a) 0 6)).toNat b) 0 6), x_r (16 * 20 + 3)] (al, ro, fl (ml M [20] [(x_up (x_up Lb 1 ((Lb 0 6)).toNat a) 2 (((x_up Lb 1 ((Lb 0 6)).toNat a) 0 6)).toNat b)])) _ _ _ _
      refine e_aloadn (pc := 44) (i := 0) dX4_addLine_44 rfl rfl ?_
      refine f_geti (pc := 45) (k := 0) (u := 20) (q := 0) dX4_addLine_45 xf4_31 (sa_20_0 hs) rfl hn rfl rfl (by decide) ?_
      show Ev g _ _ _ _ _ _ 48 [some (x_r (16 * 20 + 0)), some (x_i a), some (x_i b)] [x_i ((x_up (x_up Lb 1 ((Lb 0 6)).toNat a) 2 (((x_up Lb 1 ((Lb 0 6)).toNat a) 0 6)).toNat b) 0 5), x_i ((x_up (x_up Lb 1 ((Lb 0 6)).toNat a) 2 (((x_up Lb 1 ((Lb 0 6)).toNat a) 0 6)).toNat b) 0 6), x_r (16 * 20 + 3)] (al, ro, fl (ml M [20] [(x_up (x_up Lb 1 ((Lb 0 6)).toNat a) 2 (((x_up Lb 1 ((Lb 0 6)).toNat a) 0 6)).toNat b)])) _ _ _ _
      obtain ⟨hc0, hr1⟩ := x_gd_some hr1
      refine f_iast (pc := 48) (k := 0) (u := 20) (q := 3) (len := 12) dX4_addLine_48 (sa_20_3 hs) hc0 hn rfl rfl rfl (by decide) ?_
      show Ev g _ _ _ _ _ _ 49 [some (x_r (16 * 20 + 0)), some (x_i a), some (x_i b)] [] (al, ro, fl (ml M [20] [(x_up (x_up (x_up Lb 1 ((Lb 0 6)).toNat a) 2 (((x_up Lb 1 ((Lb 0 6)).toNat a) 0 6)).toNat b) 3 (((x_up (x_up Lb 1 ((Lb 0 6)).toNat a) 2 (((x_up Lb 1 ((Lb 0 6)).toNat a) 0 6)).toNat b) 0 6)).toNat ((x_up (x_up Lb 1 ((Lb 0 6)).toNat a) 2 (((x_up Lb 1 ((Lb 0 6)).toNat a) 0 6)).toNat b) 0 5))])) _ _ _ _
      refine e_aloadn (pc := 49) (i := 0) dX4_addLine_49 rfl rfl ?_
      refine e_dup (pc := 50) dX4_addLine_50 rfl ?_
      refine f_geti (pc := 51) (k := 0) (u := 20) (q := 0) dX4_addLine_51 xf4_27 (sa_20_0 hs) rfl hn rfl rfl (by decide) ?_
      show Ev g _ _ _ _ _ _ 54 [some (x_r (16 * 20 + 0)), some (x_i a), some (x_i b)] [x_i ((x_up (x_up (x_up Lb 1 ((Lb 0 6)).toNat a) 2 (((x_up Lb 1 ((Lb 0 6)).toNat a) 0 6)).toNat b) 3 (((x_up (x_up Lb 1 ((Lb 0 6)).toNat a) 2 (((x_up Lb 1 ((Lb 0 6)).toNat a) 0 6)).toNat b) 0 6)).toNat ((x_up (x_up Lb 1 ((Lb 0 6)).toNat a) 2 (((x_up Lb 1 ((Lb 0 6)).toNat a) 0 6)).toNat b) 0 5)) 0 6), x_r (16 * 20 + 0)] (al, ro, fl (ml M [20] [(x_up (x_up (x_up Lb 1 ((Lb 0 6)).toNat a) 2 (((x_up Lb 1 ((Lb 0 6)).toNat a) 0 6)).toNat b) 3 (((x_up (x_up Lb 1 ((Lb 0 6)).toNat a) 2 (((x_up Lb 1 ((Lb 0 6)).toNat a) 0 6)).toNat b) 0 6)).toNat ((x_up (x_up Lb 1 ((Lb 0 6)).toNat a) 2 (((x_up Lb 1 ((Lb 0 6)).toNat a) 0 6)).toNat b) 0 5))])) _ _ _ _
      refine e_iconst (pc := 54) dX4_addLine_54 (x_R rfl) ?_
      refine e_iadd (pc := 55) dX4_addLine_55 ?_
      refine f_puti (pc := 56) (k := 0) (u := 20) (q := 0) dX4_addLine_56 xf4_27 xw3_6 (sa_20_0 hs) hn rfl rfl rfl (by decide) ?_
      show Ev g _ _ _ _ _ _ 59 [some (x_r (16 * 20 + 0)), some (x_i a), some (x_i b)] [] (al, ro, fl (ml M [20] [(x_up (x_up (x_up (x_up Lb 1 ((Lb 0 6)).toNat a) 2 (((x_up Lb 1 ((Lb 0 6)).toNat a) 0 6)).toNat b) 3 (((x_up (x_up Lb 1 ((Lb 0 6)).toNat a) 2 (((x_up Lb 1 ((Lb 0 6)).toNat a) 0 6)).toNat b) 0 6)).toNat ((x_up (x_up Lb 1 ((Lb 0 6)).toNat a) 2 (((x_up Lb 1 ((Lb 0 6)).toNat a) 0 6)).toNat b) 0 5)) 0 6 (x_add ((x_up (x_up (x_up Lb 1 ((Lb 0 6)).toNat a) 2 (((x_up Lb 1 ((Lb 0 6)).toNat a) 0 6)).toNat b) 3 (((x_up (x_up Lb 1 ((Lb 0 6)).toNat a) 2 (((x_up Lb 1 ((Lb 0 6)).toNat a) 0 6)).toNat b) 0 6)).toNat ((x_up (x_up Lb 1 ((Lb 0 6)).toNat a) 2 (((x_up Lb 1 ((Lb 0 6)).toNat a) 0 6)).toNat b) 0 5)) 0 6) 1))])) _ _ _ _
      cases hr1
      exact hjhr1
set_option maxRecDepth 100000 in
set_option maxHeartbeats 4000000 in
theorem c_X5_readLine {g : xG} {al : List (Nat × Nat × Nat)} {ro : Nat → Nat → Option Nat} (hst : g.1.stackTraces = false) (hs : SH al ro) {M : Nat → xU} {T : xU} {Lb : xU}  {t : (xU × xU)} (hG : G5_readLine T Lb = some t) :
    Cal g yX5_readLine cX5_readLine 4 none 30 [x_r (16 * 2 + 0), x_r (16 * 20 + 0)] (al, ro, fl (ml M [2, 20] [T, Lb])) 0 0 (.inl none) (al, ro, fl (ml M [2, 20] [t.1, t.2])) := by
  have hn : ([2, 20] : List Nat).Nodup := by decide
  refine cal_of_ev (plainFor_of_name (by decide)) (x_c1 rfl) (Nat.le_of_ble_eq_true rfl) hst ?_
  show Ev g _ _ _ _ _ _ 0 [some (x_r (16 * 2 + 0)), some (x_r (16 * 20 + 0)), none, none] [] (al, ro, fl (ml M [2, 20] [T, Lb])) _ _ _ _
  rw [G5_readLine] at hG
  refine e_iconst (pc := 0) dX5_readLine_0 (x_R rfl) ?_
  refine e_istoren (pc := 1) (i := 2) dX5_readLine_1 rfl (by decide) rfl ?_
  show Ev g _ _ _ _ _ _ 2 [some (x_r (16 * 2 + 0)), some (x_r (16 * 20 + 0)), some (x_i 2), none] [] (al, ro, fl (ml M [2, 20] [T, Lb])) _ _ _ _
  refine e_iconst (pc := 2) dX5_readLine_2 (x_R rfl) ?_
  refine e_istoren (pc := 3) (i := 3) dX5_readLine_3 rfl (by decide) rfl ?_
  show Ev g _ _ _ _ _ _ 4 [some (x_r (16 * 2 + 0)), some (x_r (16 * 20 + 0)), some (x_i 2), some (x_i 0)] [] (al, ro, fl (ml M [2, 20] [T, Lb])) _ _ _ _
  refine e_aloadn (pc := 4) (i := 0) dX5_readLine_4 rfl rfl ?_
  refine e_ldcS (pc := 5) (i := 17) (tx := "slow") dX5_readLine_5 (List.mem_of_getElem? (i := 17) rfl) (by decide) ?_
  obtain ⟨v1, T2, hq2, hG⟩ := x_bd2 hG
  refine e_invV (pc := 7) (K1 := 0) (S1 := 0) (K := 0) (S := 0) (dd2 := 7) (av := [x_r (x_s0 + 17)]) (st := []) (id := 16 * 2 + 0) dX5_readLine_7 xmX5_32 rfl (Or.inl ⟨8, 8, TX10, (sa_2_0 hs), rfl, by decide⟩) (f_cal (M := M) (us2 := [2]) [0] hn rfl (And.intro rfl trivial) rfl rfl rfl (c_X10_takeWord hst hs  (by decide) hq2)) (by decide) (Nat.le_of_ble_eq_true rfl) (Or.inl rfl) ?_
  show Ev g _ _ _ _ _ _ 10 [some (x_r (16 * 2 + 0)), some (x_r (16 * 20 + 0)), some (x_i 2), some (x_i 0)] [x_i v1] (al, ro, fl (ml M [2, 20] [T2, Lb])) _ _ _ _
  obtain ⟨v4, v5, T6, hr6, hG⟩ := x_bd3 hG
  have hjhr6 : Ev g yX5_readLine cX5_readLine 4 none [] 30 52 [some (x_r (16 * 2 + 0)), some (x_r (16 * 20 + 0)), some (x_i v4), some (x_i v5)] [] (al, ro, fl (ml M [2, 20] [T6, Lb])) 0 0 (.inl none) (al, ro, fl (ml M [2, 20] [t.1, t.2])) := by
    refine e_aloadn (pc := 52) (i := 0) dX5_readLine_52 rfl rfl ?_
    obtain ⟨v19, hq19, hG⟩ := x_bd1 hG
    refine e_invV (pc := 53) (K1 := 0) (S1 := 0) (K := 0) (S := 0) (dd2 := 0) (av := []) (st := []) (id := 16 * 2 + 0) dX5_readLine_53 xmX5_48 rfl (Or.inl ⟨8, 8, TX10, (sa_2_0 hs), rfl, by decide⟩) (f_cal (M := M) (us2 := [2]) [0] hn rfl (And.intro rfl trivial) rfl rfl rfl (c_X10_isRight hst hs   hq19)) (by decide) (Nat.le_of_ble_eq_true rfl) (Or.inl rfl) ?_
    show Ev g _ _ _ _ _ _ 56 [some (x_r (16 * 2 + 0)), some (x_r (16 * 20 + 0)), some (x_i v4), some (x_i v5)] [x_i v19] (al, ro, fl (ml M [2, 20] [T6, Lb])) _ _ _ _
    obtain ⟨T21, Lb22, hr22, hG⟩ := x_bd2 hG
    have hjhr22 : Ev g yX5_readLine cX5_readLine 4 none [] 30 74 [some (x_r (16 * 2 + 0)), some (x_r (16 * 20 + 0)), some (x_i v4), some (x_i v5)] [] (al, ro, fl (ml M [2, 20] [T21, Lb22])) 0 0 (.inl none) (al, ro, fl (ml M [2, 20] [t.1, t.2])) := by
      refine e_aloadn (pc := 74) (i := 1) dX5_readLine_74 rfl rfl ?_
      refine e_iloadn (pc := 75) (i := 2) dX5_readLine_75 rfl rfl ?_
      refine e_iloadn (pc := 76) (i := 3) dX5_readLine_76 rfl rfl ?_
      obtain ⟨Lb30, hq30, hG⟩ := x_bd1 hG
      refine e_invV (pc := 77) (K1 := 0) (S1 := 0) (K := 0) (S := 0) (dd2 := 0) (av := [x_i v4, x_i v5]) (st := []) (id := 16 * 20 + 0) dX5_readLine_77 xmX5_58 rfl (Or.inl ⟨3, 7, TX4, (sa_20_0 hs), rfl, by decide⟩) (f_cal (M := M) (us2 := [20]) [1] hn rfl (And.intro rfl trivial) rfl rfl rfl (c_X4_addLine hst hs   hq30)) (by decide) (Nat.le_of_ble_eq_true rfl) (Or.inl rfl) ?_
      show Ev g _ _ _ _ _ _ 80 [some (x_r (16 * 2 + 0)), some (x_r (16 * 20 + 0)), some (x_i v4), some (x_i v5)] [] (al, ro, fl (ml M [2, 20] [T21, Lb30])) _ _ _ _
      cases hG
      exact (e_return rfl dX5_readLine_80)
    clear hG
    refine e_if_eq (pc := 56) (tgt := 74) dX5_readLine_56 (by decide) (fun hb => ?_) (fun hb => ?_)
    · rw [if_pos hb] at hr22
      cases hr22
      exact hjhr22
    · rw [if_neg hb] at hr22
      refine e_aloadn (pc := 59) (i := 0) dX5_readLine_59 rfl rfl ?_
      refine e_ldcS (pc := 60) (i := 20) (tx := "if") dX5_readLine_60 (List.mem_of_getElem? (i := 20) rfl) (by decide) ?_
      obtain ⟨v24, T25, hq25, hr22⟩ := x_bd2 hr22
      refine e_invV (pc := 62) (K1 := 0) (S1 := 0) (K := 0) (S := 0) (dd2 := 7) (av := [x_r (x_s0 + 20)]) (st := []) (id := 16 * 2 + 0) dX5_readLine_62 xmX5_32 rfl (Or.inl ⟨8, 8, TX10, (sa_2_0 hs), rfl, by decide⟩) (f_cal (M := M) (us2 := [2]) [0] hn rfl (And.intro rfl trivial) rfl rfl rfl (c_X10_takeWord hst hs  (by decide) hq25)) (by decide) (Nat.le_of_ble_eq_true rfl) (Or.inl rfl) ?_
      show Ev g _ _ _ _ _ _ 65 [some (x_r (16 * 2 + 0)), some (x_r (16 * 20 + 0)), some (x_i v4), some (x_i v5)] [x_i v24] (al, ro, fl (ml M [2, 20] [T25, Lb])) _ _ _ _
      refine e_if_eq (pc := 65) (tgt := 74) dX5_readLine_65 (by decide) (fun hb => ?_) (fun hb => ?_)
      · rw [if_pos hb] at hr22
        cases hr22
        exact hjhr22
      · rw [if_neg hb] at hr22
        refine e_aloadn (pc := 68) (i := 0) dX5_readLine_68 rfl rfl ?_
        refine e_aloadn (pc := 69) (i := 1) dX5_readLine_69 rfl rfl ?_
        refine e_iconst (pc := 70) dX5_readLine_70 (x_R rfl) ?_
        obtain ⟨T27, Lb28, hq28, hr22⟩ := x_bd2 hr22
        refine e_invS (pc := 71) (K1 := 0) (S1 := 0) (K := 0) (S := 0) (dd2 := 29) (av := [x_r (16 * 2 + 0), x_r (16 * 20 + 0), x_i 0]) (st := []) dX5_readLine_71 xmX5_54 rfl (f_cal (M := M) (us2 := [2, 20]) [0, 1] hn rfl (And.intro rfl (And.intro rfl trivial)) rfl rfl rfl (c_X5_readAny hst hs   hq28)) (by decide) (Nat.le_of_ble_eq_true rfl) (Or.inl rfl) ?_
        show Ev g _ _ _ _ _ _ 74 [some (x_r (16 * 2 + 0)), some (x_r (16 * 20 + 0)), some (x_i v4), some (x_i v5)] [] (al, ro, fl (ml M [2, 20] [T27, Lb28])) _ _ _ _
        cases hr22
        exact hjhr22
  clear hG
  refine e_if_eq (pc := 10) (tgt := 25) dX5_readLine_10 (by decide) (fun hb => ?_) (fun hb => ?_)
  · rw [if_pos hb] at hr6
    refine e_aloadn (pc := 25) (i := 0) dX5_readLine_25 rfl rfl ?_
    refine e_ldcS (pc := 26) (i := 18) (tx := "haste") dX5_readLine_26 (List.mem_of_getElem? (i := 18) rfl) (by decide) ?_
    obtain ⟨v8, T9, hq9, hr6⟩ := x_bd2 hr6
    refine e_invV (pc := 28) (K1 := 0) (S1 := 0) (K := 0) (S := 0) (dd2 := 7) (av := [x_r (x_s0 + 18)]) (st := []) (id := 16 * 2 + 0) dX5_readLine_28 xmX5_32 rfl (Or.inl ⟨8, 8, TX10, (sa_2_0 hs), rfl, by decide⟩) (f_cal (M := M) (us2 := [2]) [0] hn rfl (And.intro rfl trivial) rfl rfl rfl (c_X10_takeWord hst hs  (by decide) hq9)) (by decide) (Nat.le_of_ble_eq_true rfl) (Or.inl rfl) ?_
    show Ev g _ _ _ _ _ _ 31 [some (x_r (16 * 2 + 0)), some (x_r (16 * 20 + 0)), some (x_i 2), some (x_i 0)] [x_i v8] (al, ro, fl (ml M [2, 20] [T9, Lb])) _ _ _ _
    refine e_if_eq (pc := 31) (tgt := 46) dX5_readLine_31 (by decide) (fun hb => ?_) (fun hb => ?_)
    · rw [if_pos hb] at hr6
      refine e_aloadn (pc := 46) (i := 0) dX5_readLine_46 rfl rfl ?_
      refine e_ldcS (pc := 47) (i := 19) (tx := "keep") dX5_readLine_47 (List.mem_of_getElem? (i := 19) rfl) (by decide) ?_
      obtain ⟨T11, hq11, hr6⟩ := x_bd1 hr6
      refine e_invV (pc := 49) (K1 := 0) (S1 := 0) (K := 0) (S := 0) (dd2 := 8) (av := [x_r (x_s0 + 19)]) (st := []) (id := 16 * 2 + 0) dX5_readLine_49 xmX5_44 rfl (Or.inl ⟨8, 8, TX10, (sa_2_0 hs), rfl, by decide⟩) (f_cal (M := M) (us2 := [2]) [0] hn rfl (And.intro rfl trivial) rfl rfl rfl (c_X10_expectWord hst hs  (by decide) hq11)) (by decide) (Nat.le_of_ble_eq_true rfl) (Or.inl rfl) ?_
      show Ev g _ _ _ _ _ _ 52 [some (x_r (16 * 2 + 0)), some (x_r (16 * 20 + 0)), some (x_i 2), some (x_i 0)] [] (al, ro, fl (ml M [2, 20] [T11, Lb])) _ _ _ _
      cases hr6
      exact hjhr6
    · rw [if_neg hb] at hr6
      refine e_iconst (pc := 34) dX5_readLine_34 (x_R rfl) ?_
      refine e_istoren (pc := 35) (i := 2) dX5_readLine_35 rfl (by decide) rfl ?_
      show Ev g _ _ _ _ _ _ 36 [some (x_r (16 * 2 + 0)), some (x_r (16 * 20 + 0)), some (x_i 1), some (x_i 0)] [] (al, ro, fl (ml M [2, 20] [T9, Lb])) _ _ _ _
      refine e_aloadn (pc := 36) (i := 0) dX5_readLine_36 rfl rfl ?_
      refine e_bipush (pc := 37) dX5_readLine_37 (by decide +kernel) (x_R rfl) ?_
      obtain ⟨v13, T14, hq14, hr6⟩ := x_bd2 hr6
      refine e_invV (pc := 39) (K1 := 0) (S1 := 0) (K := 0) (S := 0) (dd2 := 1) (av := [x_i 20]) (st := []) (id := 16 * 2 + 0) dX5_readLine_39 xmX5_36 rfl (Or.inl ⟨8, 8, TX10, (sa_2_0 hs), rfl, by decide⟩) (f_cal (M := M) (us2 := [2]) [0] hn rfl (And.intro rfl trivial) rfl rfl rfl (c_X10_takeNumber hst hs   hq14)) (by decide) (Nat.le_of_ble_eq_true rfl) (Or.inl rfl) ?_
      show Ev g _ _ _ _ _ _ 42 [some (x_r (16 * 2 + 0)), some (x_r (16 * 20 + 0)), some (x_i 1), some (x_i 0)] [x_i v13] (al, ro, fl (ml M [2, 20] [T14, Lb])) _ _ _ _
      refine e_istoren (pc := 42) (i := 3) dX5_readLine_42 rfl (by decide) rfl ?_
      show Ev g _ _ _ _ _ _ 43 [some (x_r (16 * 2 + 0)), some (x_r (16 * 20 + 0)), some (x_i 1), some (x_i v13)] [] (al, ro, fl (ml M [2, 20] [T14, Lb])) _ _ _ _
      refine e_goto (pc := 43) (tgt := 52) dX5_readLine_43 (by decide) ?_
      cases hr6
      exact hjhr6
  · rw [if_neg hb] at hr6
    refine e_iconst (pc := 13) dX5_readLine_13 (x_R rfl) ?_
    refine e_istoren (pc := 14) (i := 2) dX5_readLine_14 rfl (by decide) rfl ?_
    show Ev g _ _ _ _ _ _ 15 [some (x_r (16 * 2 + 0)), some (x_r (16 * 20 + 0)), some (x_i 0), some (x_i 0)] [] (al, ro, fl (ml M [2, 20] [T2, Lb])) _ _ _ _
    refine e_aloadn (pc := 15) (i := 0) dX5_readLine_15 rfl rfl ?_
    refine e_bipush (pc := 16) dX5_readLine_16 (by decide +kernel) (x_R rfl) ?_
    obtain ⟨v16, T17, hq17, hr6⟩ := x_bd2 hr6
    refine e_invV (pc := 18) (K1 := 0) (S1 := 0) (K := 0) (S := 0) (dd2 := 1) (av := [x_i 20]) (st := []) (id := 16 * 2 + 0) dX5_readLine_18 xmX5_36 rfl (Or.inl ⟨8, 8, TX10, (sa_2_0 hs), rfl, by decide⟩) (f_cal (M := M) (us2 := [2]) [0] hn rfl (And.intro rfl trivial) rfl rfl rfl (c_X10_takeNumber hst hs   hq17)) (by decide) (Nat.le_of_ble_eq_true rfl) (Or.inl rfl) ?_
    show Ev g _ _ _ _ _ _ 21 [some (x_r (16 * 2 + 0)), some (x_r (16 * 20 + 0)), some (x_i 0), some (x_i 0)] [x_i v16] (al, ro, fl (ml M [2, 20] [T17, Lb])) _ _ _ _
    refine e_istoren (pc := 21) (i := 3) dX5_readLine_21 rfl (by decide) rfl ?_
    show Ev g _ _ _ _ _ _ 22 [some (x_r (16 * 2 + 0)), some (x_r (16 * 20 + 0)), some (x_i 0), some (x_i v16)] [] (al, ro, fl (ml M [2, 20] [T17, Lb])) _ _ _ _
    refine e_goto (pc := 22) (tgt := 52) dX5_readLine_22 (by decide) ?_
    cases hr6
    exact hjhr6
set_option maxRecDepth 100000 in
set_option maxHeartbeats 4000000 in
theorem c_X5_readInto {g : xG} {al : List (Nat × Nat × Nat)} {ro : Nat → Nat → Option Nat} (hst : g.1.stackTraces = false) (hs : SH al ro) {M : Nat → xU} {T : xU} {Lb : xU}  {t : (Int × xU × xU)} (hG : G5_readInto T Lb = some t) :
    Cal g yX5_readInto cX5_readInto 3 (some .int) 31 [x_r (16 * 2 + 0), x_r (16 * 20 + 0)] (al, ro, fl (ml M [2, 20] [T, Lb])) 0 0 (.inl (some (x_i t.1))) (al, ro, fl (ml M [2, 20] [t.2.1, t.2.2])) := by
  have hn : ([2, 20] : List Nat).Nodup := by decide
  refine cal_of_ev (plainFor_of_name (by decide)) (x_c1 rfl) (Nat.le_of_ble_eq_true rfl) hst ?_
  show Ev g _ _ _ _ _ _ 0 [some (x_r (16 * 2 + 0)), some (x_r (16 * 20 + 0)), none] [] (al, ro, fl (ml M [2, 20] [T, Lb])) _ _ _ _
  rw [G5_readInto] at hG
  refine e_aloadn (pc := 0) (i := 1) dX5_readInto_0 rfl rfl ?_
  obtain ⟨Lb1, hq1, hG⟩ := x_bd1 hG
  refine e_invV (pc := 1) (K1 := 0) (S1 := 0) (K := 0) (S := 0) (dd2 := 0) (av := []) (st := []) (id := 16 * 20 + 0) dX5_readInto_1 xmX5_9 rfl (Or.inl ⟨3, 7, TX4, (sa_20_0 hs), rfl, by decide⟩) (f_cal (M := M) (us2 := [20]) [1] hn rfl (And.intro rfl trivial) rfl rfl rfl (c_X4_clear hst hs   hq1)) (by decide) (Nat.le_of_ble_eq_true rfl) (Or.inl rfl) ?_
  show Ev g _ _ _ _ _ _ 4 [some (x_r (16 * 2 + 0)), some (x_r (16 * 20 + 0)), none] [] (al, ro, fl (ml M [2, 20] [T, Lb1])) _ _ _ _
  refine e_iconst (pc := 4) dX5_readInto_4 (x_R rfl) ?_
  refine e_istoren (pc := 5) (i := 2) dX5_readInto_5 rfl (by decide) rfl ?_
  show Ev g _ _ _ _ _ _ 6 [some (x_r (16 * 2 + 0)), some (x_r (16 * 20 + 0)), some (x_i 0)] [] (al, ro, fl (ml M [2, 20] [T, Lb1])) _ _ _ _
  obtain ⟨T6, Lb7, hl8, hG⟩ := x_bd2 hG
  have hk8 : ∀ q : (xU × xU), q = (T6, Lb7) → Ev g yX5_readInto cX5_readInto 3 (some .int) [] 31 33 [some (x_r (16 * 2 + 0)), some (x_r (16 * 20 + 0)), none] [] (al, ro, fl (ml M [2, 20] [q.1, q.2])) 0 0 (.inl (some (x_i t.1))) (al, ro, fl (ml M [2, 20] [t.2.1, t.2.2])) := by
    intro q hq
    cases hq
    refine e_aloadn (pc := 33) (i := 0) dX5_readInto_33 rfl rfl ?_
    refine f_geti (pc := 34) (k := 0) (u := 2) (q := 0) dX5_readInto_34 xf5_26 (sa_2_0 hs) rfl hn rfl rfl (by decide) ?_
    show Ev g _ _ _ _ _ _ 37 [some (x_r (16 * 2 + 0)), some (x_r (16 * 20 + 0)), none] [x_i (T6 0 7)] (al, ro, fl (ml M [2, 20] [T6, Lb7])) _ _ _ _
    cases hG
    exact (e_ireturn rfl dX5_readInto_37 rfl)
  clear hG
  refine e_whl G5_readInto_L6 (fun z : (Int × xU × xU) => Ev g yX5_readInto cX5_readInto 3 (some .int) [] 31 6 [some (x_r (16 * 2 + 0)), some (x_r (16 * 20 + 0)), some (x_i z.1)] [] (al, ro, fl (ml M [2, 20] [z.2.1, z.2.2])) 0 0 (.inl (some (x_i t.1))) (al, ro, fl (ml M [2, 20] [t.2.1, t.2.2]))) (fun q => q = (T6, Lb7)) ?_ xFU (0, T, Lb1) _ hl8 rfl
  intro z t8 hf8 hi8 hx8
  obtain ⟨v3, T4, Lb5⟩ := z
  rw [G5_readInto_L6] at hf8
  show Ev g _ _ _ _ _ _ 6 [some (x_r (16 * 2 + 0)), some (x_r (16 * 20 + 0)), some (x_i v3)] [] (al, ro, fl (ml M [2, 20] [T4, Lb5])) _ _ _ _
  refine e_iloadn (pc := 6) (i := 2) dX5_readInto_6 rfl rfl ?_
  refine e_bipush (pc := 7) dX5_readInto_7 (by decide +kernel) (x_R rfl) ?_
  refine e_icmp_gt (pc := 9) (tgt := 33) dX5_readInto_9 (by decide) (fun hb => ?_) (fun hb => ?_)
  · rw [if_pos hb] at hf8
    cases hf8
    refine e_drop (i := 2) ?_
    have hh := hk8 _ (hx8 _ rfl)
    try dsimp only at hh
    exact hh
  · rw [if_neg hb] at hf8
    refine e_aloadn (pc := 12) (i := 0) dX5_readInto_12 rfl rfl ?_
    refine e_iloadn (pc := 13) (i := 2) dX5_readInto_13 rfl rfl ?_
    refine e_bipush (pc := 14) dX5_readInto_14 (by decide +kernel) (x_R rfl) ?_
    obtain ⟨v10, T11, hq11, hf8⟩ := x_bd2 hf8
    refine e_invV (pc := 16) (K1 := 0) (S1 := 0) (K := 0) (S := 0) (dd2 := 3) (av := [x_i v3, x_i 12]) (st := []) (id := 16 * 2 + 0) dX5_readInto_16 xmX5_14 rfl (Or.inl ⟨8, 8, TX10, (sa_2_0 hs), rfl, by decide⟩) (f_cal (M := M) (us2 := [2]) [0] hn rfl (And.intro rfl trivial) rfl rfl rfl (c_X10_startsLine hst hs   hq11)) (by decide) (Nat.le_of_ble_eq_true rfl) (Or.inl rfl) ?_
    show Ev g _ _ _ _ _ _ 19 [some (x_r (16 * 2 + 0)), some (x_r (16 * 20 + 0)), some (x_i v3)] [x_i v10] (al, ro, fl (ml M [2, 20] [T11, Lb5])) _ _ _ _
    refine e_if_eq (pc := 19) (tgt := 33) dX5_readInto_19 (by decide) (fun hb => ?_) (fun hb => ?_)
    · rw [if_pos hb] at hf8
      cases hf8
      refine e_drop (i := 2) ?_
      have hh := hk8 _ (hx8 _ rfl)
      try dsimp only at hh
      exact hh
    · rw [if_neg hb] at hf8
      refine e_aloadn (pc := 22) (i := 0) dX5_readInto_22 rfl rfl ?_
      refine e_aloadn (pc := 23) (i := 1) dX5_readInto_23 rfl rfl ?_
      obtain ⟨T13, Lb14, hq14, hf8⟩ := x_bd2 hf8
      refine e_invS (pc := 24) (K1 := 0) (S1 := 0) (K := 0) (S := 0) (dd2 := 30) (av := [x_r (16 * 2 + 0), x_r (16 * 20 + 0)]) (st := []) dX5_readInto_24 xmX5_20 rfl (f_cal (M := M) (us2 := [2, 20]) [0, 1] hn rfl (And.intro rfl (And.intro rfl trivial)) rfl rfl rfl (c_X5_readLine hst hs   hq14)) (by decide) (Nat.le_of_ble_eq_true rfl) (Or.inl rfl) ?_
      show Ev g _ _ _ _ _ _ 27 [some (x_r (16 * 2 + 0)), some (x_r (16 * 20 + 0)), some (x_i v3)] [] (al, ro, fl (ml M [2, 20] [T13, Lb14])) _ _ _ _
      refine e_iinc (pc := 27) dX5_readInto_27 rfl (by decide) rfl ?_
      show Ev g _ _ _ _ _ _ 30 [some (x_r (16 * 2 + 0)), some (x_r (16 * 20 + 0)), some (x_i (x_add v3 1))] [] (al, ro, fl (ml M [2, 20] [T13, Lb14])) _ _ _ _
      refine e_goto (pc := 30) (tgt := 6) dX5_readInto_30 (by decide) ?_
      cases hf8
      have hh := hi8 _ rfl
      try dsimp only at hh
      exact hh
set_option maxRecDepth 100000 in
set_option maxHeartbeats 4000000 in
theorem c_X6_told {g : xG} {al : List (Nat × Nat × Nat)} {ro : Nat → Nat → Option Nat} (hst : g.1.stackTraces = false) (hs : SH al ro) {u : Nat} (hu : 3 ≤ u ∧ u ≤ 18) {M : Nat → xU} {a : Int} {b : Int} {C : xU}  {t : Int} (hG : G6_told a b C = some t) :
    Cal g yX6_told cX6_told 4 (some .int) 1 [x_r (16 * u + 3), x_i a, x_i b] (al, ro, fl (ml M [u] [C])) 0 0 (.inl (some (x_i t))) (al, ro, fl (ml M [u] [C])) := by
  have hn : ([u] : List Nat).Nodup := by simp
  refine cal_of_ev (plainFor_of_name (by decide)) (x_c1 rfl) (Nat.le_of_ble_eq_true rfl) hst ?_
  show Ev g _ _ _ _ _ _ 0 [some (x_r (16 * u + 3)), some (x_i a), some (x_i b), none] [] (al, ro, fl (ml M [u] [C])) _ _ _ _
  rw [G6_told] at hG
  refine e_iloadn (pc := 0) (i := 1) dX6_told_0 rfl rfl ?_
  refine e_if_lt (pc := 1) (tgt := 12) dX6_told_1 (by decide) (fun hb => ?_) (fun hb => ?_)
  · rw [if_pos hb] at hG
    refine e_iconst (pc := 12) dX6_told_12 (x_R rfl) ?_
    cases hG
    exact (e_ireturn rfl dX6_told_13 rfl)
  · rw [if_neg hb] at hG
    refine e_iloadn (pc := 4) (i := 1) dX6_told_4 rfl rfl ?_
    refine e_aloadn (pc := 5) (i := 0) dX6_told_5 rfl rfl ?_
    refine f_geti (pc := 6) (k := 0) (u := u) (q := 3) dX6_told_6 xf6_19 (sc_a3 hs hu) rfl hn rfl rfl (by decide) ?_
    show Ev g _ _ _ _ _ _ 9 [some (x_r (16 * u + 3)), some (x_i a), some (x_i b), none] [x_i (C 3 1), x_i a] (al, ro, fl (ml M [u] [C])) _ _ _ _
    refine e_icmp_lt (pc := 9) (tgt := 14) dX6_told_9 (by decide) (fun hb => ?_) (fun hb => ?_)
    · rw [if_pos hb] at hG
      refine e_aloadn (pc := 14) (i := 0) dX6_told_14 rfl rfl ?_
      refine f_getr (pc := 15) (u := u) (q := 3) dX6_told_15 xf6_11 (sc_a3 hs hu) rfl (sc_r3_0 hs hu) ?_
      refine e_aloadn (pc := 18) (i := 0) dX6_told_18 rfl rfl ?_
      refine f_geti (pc := 19) (k := 0) (u := u) (q := 3) dX6_told_19 xf6_23 (sc_a3 hs hu) rfl hn rfl rfl (by decide) ?_
      show Ev g _ _ _ _ _ _ 22 [some (x_r (16 * u + 3)), some (x_i a), some (x_i b), none] [x_i (C 3 2), x_r (16 * u + 4)] (al, ro, fl (ml M [u] [C])) _ _ _ _
      refine e_iconst (pc := 22) dX6_told_22 (x_R rfl) ?_
      refine e_isub (pc := 23) dX6_told_23 ?_
      refine e_iloadn (pc := 24) (i := 1) dX6_told_24 rfl rfl ?_
      refine e_isub (pc := 25) dX6_told_25 ?_
      refine e_bipush (pc := 26) dX6_told_26 (by decide +kernel) (x_R rfl) ?_
      refine e_invS (pc := 28) (K1 := 0) (S1 := 0) (K := 0) (S := 0) (dd2 := 0) (av := [x_i (x_sub (x_sub (C 3 2) 1) a), x_i 60]) (st := [x_r (16 * u + 4)]) dX6_told_28 xmX6_32 rfl (p_floorMod hst hs (by decide)) (by decide) (Nat.le_of_ble_eq_true rfl) (Or.inl rfl) ?_
      show Ev g _ _ _ _ _ _ 31 [some (x_r (16 * u + 3)), some (x_i a), some (x_i b), none] [x_i (x_mod (x_sub (x_sub (C 3 2) 1) a) 60), x_r (16 * u + 4)] (al, ro, fl (ml M [u] [C])) _ _ _ _
      obtain ⟨hc0, hG⟩ := x_gd_some hG
      refine f_iald (pc := 31) (k := 0) (u := u) (q := 4) (len := 60) dX6_told_31 (sc_a4 hs hu) hc0 hn rfl rfl (by decide) ?_
      show Ev g _ _ _ _ _ _ 32 [some (x_r (16 * u + 3)), some (x_i a), some (x_i b), none] [x_i (C 4 ((x_mod (x_sub (x_sub (C 3 2) 1) a) 60)).toNat)] (al, ro, fl (ml M [u] [C])) _ _ _ _
      refine e_istoren (pc := 32) (i := 3) dX6_told_32 rfl (by decide) rfl ?_
      show Ev g _ _ _ _ _ _ 33 [some (x_r (16 * u + 3)), some (x_i a), some (x_i b), some (x_i (C 4 ((x_mod (x_sub (x_sub (C 3 2) 1) a) 60)).toNat))] [] (al, ro, fl (ml M [u] [C])) _ _ _ _
      refine e_iloadn (pc := 33) (i := 2) dX6_told_33 rfl rfl ?_
      by_cases hb0 : b = 0
      · rw [if_pos hb0] at hG
        refine e_tabIn (pc := 34) (tgt := 64) dX6_told_34 (by omega) (by omega) (by rw [hb0]; rfl) (by decide) ?_
        refine e_iloadn (pc := 64) (i := 3) dX6_told_64 rfl rfl ?_
        refine e_bipush (pc := 65) dX6_told_65 (by decide +kernel) (x_R rfl) ?_
        refine e_ishr (pc := 67) dX6_told_67 ?_
        cases hG
        exact (e_ireturn rfl dX6_told_68 rfl)
      rw [if_neg hb0] at hG
      by_cases hb1 : b = 1
      · rw [if_pos hb1] at hG
        refine e_tabIn (pc := 34) (tgt := 69) dX6_told_34 (by omega) (by omega) (by rw [hb1]; rfl) (by decide) ?_
        refine e_iloadn (pc := 69) (i := 3) dX6_told_69 rfl rfl ?_
        refine e_bipush (pc := 70) dX6_told_70 (by decide +kernel) (x_R rfl) ?_
        refine e_ishr (pc := 72) dX6_told_72 ?_
        refine e_bipush (pc := 73) dX6_told_73 (by decide +kernel) (x_R rfl) ?_
        refine e_iand (pc := 75) dX6_told_75 ?_
        cases hG
        exact (e_ireturn rfl dX6_told_76 rfl)
      rw [if_neg hb1] at hG
      by_cases hb2 : b = 2
      · rw [if_pos hb2] at hG
        refine e_tabIn (pc := 34) (tgt := 77) dX6_told_34 (by omega) (by omega) (by rw [hb2]; rfl) (by decide) ?_
        refine e_iloadn (pc := 77) (i := 3) dX6_told_77 rfl rfl ?_
        refine e_bipush (pc := 78) dX6_told_78 (by decide +kernel) (x_R rfl) ?_
        refine e_ishr (pc := 80) dX6_told_80 ?_
        refine e_iconst (pc := 81) dX6_told_81 (x_R rfl) ?_
        refine e_iand (pc := 82) dX6_told_82 ?_
        cases hG
        exact (e_ireturn rfl dX6_told_83 rfl)
      rw [if_neg hb2] at hG
      by_cases hb3 : b = 3
      · rw [if_pos hb3] at hG
        refine e_tabIn (pc := 34) (tgt := 84) dX6_told_34 (by omega) (by omega) (by rw [hb3]; rfl) (by decide) ?_
        refine e_iloadn (pc := 84) (i := 3) dX6_told_84 rfl rfl ?_
        refine e_iconst (pc := 85) dX6_told_85 (x_R rfl) ?_
        refine e_ishr (pc := 86) dX6_told_86 ?_
        refine e_bipush (pc := 87) dX6_told_87 (by decide +kernel) (x_R rfl) ?_
        refine e_iand (pc := 89) dX6_told_89 ?_
        cases hG
        exact (e_ireturn rfl dX6_told_90 rfl)
      rw [if_neg hb3] at hG
      refine e_tabOut (pc := 34) (tgt := 91) dX6_told_34 (by omega) (by decide) ?_
      refine e_iloadn (pc := 91) (i := 3) dX6_told_91 rfl rfl ?_
      refine e_bipush (pc := 92) dX6_told_92 (by decide +kernel) (x_R rfl) ?_
      refine e_iand (pc := 94) dX6_told_94 ?_
      cases hG
      exact (e_ireturn rfl dX6_told_95 rfl)
    · rw [if_neg hb] at hG
      refine e_iconst (pc := 12) dX6_told_12 (x_R rfl) ?_
      cases hG
      exact (e_ireturn rfl dX6_told_13 rfl)
set_option maxRecDepth 100000 in
set_option maxHeartbeats 4000000 in
theorem c_X6_rowsOf {g : xG} {al : List (Nat × Nat × Nat)} {ro : Nat → Nat → Option Nat} (hst : g.1.stackTraces = false) (hs : SH al ro) {u : Nat} (hu : 3 ≤ u ∧ u ≤ 18) {M : Nat → xU} {a : Int} {C : xU}  {t : Int} (hG : G6_rowsOf a C = some t) :
    Cal g yX6_rowsOf cX6_rowsOf 4 (some .int) 2 [x_r (16 * u + 3), x_i a] (al, ro, fl (ml M [u] [C])) 0 0 (.inl (some (x_i t))) (al, ro, fl (ml M [u] [C])) := by
  have hn : ([u] : List Nat).Nodup := by simp
  refine cal_of_ev (plainFor_of_name (by decide)) (x_c1 rfl) (Nat.le_of_ble_eq_true rfl) hst ?_
  show Ev g _ _ _ _ _ _ 0 [some (x_r (16 * u + 3)), some (x_i a), none, none] [] (al, ro, fl (ml M [u] [C])) _ _ _ _
  rw [G6_rowsOf] at hG
  refine e_iconst (pc := 0) dX6_rowsOf_0 (x_R rfl) ?_
  refine e_istoren (pc := 1) (i := 2) dX6_rowsOf_1 rfl (by decide) rfl ?_
  show Ev g _ _ _ _ _ _ 2 [some (x_r (16 * u + 3)), some (x_i a), some (x_i 0), none] [] (al, ro, fl (ml M [u] [C])) _ _ _ _
  refine e_iconst (pc := 2) dX6_rowsOf_2 (x_R rfl) ?_
  refine e_istoren (pc := 3) (i := 3) dX6_rowsOf_3 rfl (by decide) rfl ?_
  show Ev g _ _ _ _ _ _ 4 [some (x_r (16 * u + 3)), some (x_i a), some (x_i 0), some (x_i 0)] [] (al, ro, fl (ml M [u] [C])) _ _ _ _
  obtain ⟨v3, hl4, hG⟩ := x_bd1 hG
  have hk4 : ∀ q : Int, q = v3 → Ev g yX6_rowsOf cX6_rowsOf 4 (some .int) [] 2 31 [some (x_r (16 * u + 3)), some (x_i a), some (x_i q), none] [] (al, ro, fl (ml M [u] [C])) 0 0 (.inl (some (x_i t))) (al, ro, fl (ml M [u] [C])) := by
    intro q hq
    replace hq := hq.symm
    subst hq
    refine e_iloadn (pc := 31) (i := 2) dX6_rowsOf_31 rfl rfl ?_
    cases hG
    exact (e_ireturn rfl dX6_rowsOf_32 rfl)
  clear hG
  refine e_whl (G6_rowsOf_L4 a C) (fun z : (Int × Int) => Ev g yX6_rowsOf cX6_rowsOf 4 (some .int) [] 2 4 [some (x_r (16 * u + 3)), some (x_i a), some (x_i z.1), some (x_i z.2)] [] (al, ro, fl (ml M [u] [C])) 0 0 (.inl (some (x_i t))) (al, ro, fl (ml M [u] [C]))) (fun q => q = v3) ?_ xFU (0, 0) _ hl4 rfl
  intro z t4 hf4 hi4 hx4
  obtain ⟨v1, v2⟩ := z
  rw [G6_rowsOf_L4] at hf4
  show Ev g _ _ _ _ _ _ 4 [some (x_r (16 * u + 3)), some (x_i a), some (x_i v1), some (x_i v2)] [] (al, ro, fl (ml M [u] [C])) _ _ _ _
  refine e_iloadn (pc := 4) (i := 3) dX6_rowsOf_4 rfl rfl ?_
  refine e_aloadn (pc := 5) (i := 0) dX6_rowsOf_5 rfl rfl ?_
  refine f_geti (pc := 6) (k := 0) (u := u) (q := 3) dX6_rowsOf_6 xf6_19 (sc_a3 hs hu) rfl hn rfl rfl (by decide) ?_
  show Ev g _ _ _ _ _ _ 9 [some (x_r (16 * u + 3)), some (x_i a), some (x_i v1), some (x_i v2)] [x_i (C 3 1), x_i v2] (al, ro, fl (ml M [u] [C])) _ _ _ _
  refine e_icmp_ge (pc := 9) (tgt := 31) dX6_rowsOf_9 (by decide) (fun hb => ?_) (fun hb => ?_)
  · rw [if_pos hb] at hf4
    cases hf4
    refine e_drop (i := 3) ?_
    have hh := hk4 _ (hx4 _ rfl)
    try dsimp only at hh
    exact hh
  · rw [if_neg hb] at hf4
    refine e_aloadn (pc := 12) (i := 0) dX6_rowsOf_12 rfl rfl ?_
    refine e_iloadn (pc := 13) (i := 3) dX6_rowsOf_13 rfl rfl ?_
    refine e_iconst (pc := 14) dX6_rowsOf_14 (x_R rfl) ?_
    obtain ⟨v6, hq6, hf4⟩ := x_bd1 hf4
    refine e_invV (pc := 15) (K1 := 0) (S1 := 0) (K := 0) (S := 0) (dd2 := 1) (av := [x_i v2, x_i 3]) (st := []) (id := 16 * u + 3) dX6_rowsOf_15 xmX6_35 rfl (Or.inl ⟨4, 3, TX6, (sc_a3 hs hu), rfl, by decide⟩) (f_cal (M := M) (us2 := [u]) [0] hn rfl (And.intro rfl trivial) rfl rfl rfl (c_X6_told hst hs hu  hq6)) (by decide) (Nat.le_of_ble_eq_true rfl) (Or.inl rfl) ?_
    show Ev g _ _ _ _ _ _ 18 [some (x_r (16 * u + 3)), some (x_i a), some (x_i v1), some (x_i v2)] [x_i v6] (al, ro, fl (ml M [u] [C])) _ _ _ _
    refine e_iloadn (pc := 18) (i := 1) dX6_rowsOf_18 rfl rfl ?_
    obtain ⟨v8, hr8, hf4⟩ := x_bd1 hf4
    have hjhr8 : Ev g yX6_rowsOf cX6_rowsOf 4 (some .int) [] 2 25 [some (x_r (16 * u + 3)), some (x_i a), some (x_i v8), some (x_i v2)] [] (al, ro, fl (ml M [u] [C])) 0 0 (.inl (some (x_i t))) (al, ro, fl (ml M [u] [C])) := by
      refine e_iinc (pc := 25) dX6_rowsOf_25 rfl (by decide) rfl ?_
      show Ev g _ _ _ _ _ _ 28 [some (x_r (16 * u + 3)), some (x_i a), some (x_i v8), some (x_i (x_add v2 1))] [] (al, ro, fl (ml M [u] [C])) _ _ _ _
      refine e_goto (pc := 28) (tgt := 4) dX6_rowsOf_28 (by decide) ?_
      cases hf4
      have hh := hi4 _ rfl
      try dsimp only at hh
      exact hh
    clear hf4
    refine e_icmp_ne (pc := 19) (tgt := 25) dX6_rowsOf_19 (by decide) (fun hb => ?_) (fun hb => ?_)
    · rw [if_neg hb] at hr8
      cases hr8
      exact hjhr8
    · rw [if_pos hb] at hr8
      refine e_iinc (pc := 22) dX6_rowsOf_22 rfl (by decide) rfl ?_
      show Ev g _ _ _ _ _ _ 25 [some (x_r (16 * u + 3)), some (x_i a), some (x_i (x_add v1 1)), some (x_i v2)] [] (al, ro, fl (ml M [u] [C])) _ _ _ _
      cases hr8
      exact hjhr8
