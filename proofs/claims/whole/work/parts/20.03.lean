def G12_cloisterLine (S : xU) : Option xU :=
  (x_b2 (G12_here S) fun (v1 : Int) (S2 : xU) => (x_b2 (G12_has 0 S2) fun (v4 : Int) (S5 : xU) => (x_b1 (if v4 = 0 then (x_b2 (G12_has 5 S5) fun (v9 : Int) (S10 : xU) => (if v9 = 0 then (x_b2 (G12_has 6 S10) fun (v12 : Int) (S13 : xU) => (if v12 = 0 then (x_b2 (G12_has 12 S13) fun (v15 : Int) (S16 : xU) => (if v15 = 0 then (x_b2 (G12_has 13 S16) fun (v18 : Int) (S19 : xU) => (if v18 = 0 then (x_b2 (G12_has 14 S19) fun (v21 : Int) (S22 : xU) => (if v21 = 0 then (x_b2 (G12_has 15 S22) fun (v24 : Int) (S25 : xU) => (if v24 = 0 then (x_b2 (G12_has 16 S25) fun (v27 : Int) (S28 : xU) => (if v27 = 0 then (x_b1 (G12_wrong (S28 0 11) S28) fun (S30 : xU) => (some S30)) else (x_b1 (G12_says 5 0 999 S28) fun (S32 : xU) => (some S32)))) else (x_b1 (G12_says 4 0 23 S25) fun (S34 : xU) => (some S34)))) else (x_b2 (G12_seasonName 0 S22) fun (v36 : Int) (S37 : xU) => (x_b1 (G12_says (x_add 12 v36) 0 999 S37) fun (S39 : xU) => (some S39))))) else (x_b1 (G12_says 9 0 20 S19) fun (S41 : xU) => (some S41)))) else (x_b1 (G12_says 8 0 100 S16) fun (S43 : xU) => (some S43)))) else (x_b2 (G12_seasonName 1 S13) fun (v45 : Int) (S46 : xU) => (x_b1 (if (S46 0 12) = (-1) then (some (x_up S46 1 7 v45)) else (some S46)) fun (S48 : xU) => (some S48))))) else (x_b1 (G12_says 6 0 15 S10) fun (S50 : xU) => (some S50)))) else (x_b1 (G12_monkLine v1 S5) fun (S52 : xU) => (some S52))) fun (S7 : xU) => (some S7))))
set_option maxRecDepth 100000 in
set_option maxHeartbeats 4000000 in
theorem c_X12_cloisterLine {g : xG} {al : List (Nat × Nat × Nat)} {ro : Nat → Nat → Option Nat} (hst : g.1.stackTraces = false) (hs : SH al ro) {M : Nat → xU} {S : xU} {t : xU} (hG : G12_cloisterLine S = some t) :
    Cal g yX12_cloisterLine cX12_cloisterLine 3 none 9 [x_r (16 * 32 + 0)] (al, ro, fl (ml M [32] [S])) 0 0 (.inl none) (al, ro, fl (ml M [32] [t])) := by
  have hn : ([32] : List Nat).Nodup := by decide
  refine cal_of_ev (by decide) (x_c1 rfl) (Nat.le_of_ble_eq_true rfl) hst ?_
  show Ev g _ _ _ _ _ _ 0 [some (x_r (16 * 32 + 0)), none, none] [] (al, ro, fl (ml M [32] [S])) _ _ _ _
  rw [G12_cloisterLine] at hG
  refine e_aloadn (pc := 0) (i := 0) dX12_cloisterLine_0 rfl rfl ?_
  obtain ⟨v1, S2, hq2, hG⟩ := x_bd2 hG
  refine e_invV (pc := 1) (K1 := 0) (S1 := 0) (K := 0) (S := 0) (dd2 := 2) (av := []) (st := []) (id := 16 * 32 + 0) dX12_cloisterLine_1 xmX12_105 rfl (Or.inl ⟨10, 27, TX12, (sa_32_0 hs), rfl, by decide⟩) (f_cal (M := M) (us2 := [32]) [0] hn rfl (And.intro rfl trivial) rfl rfl rfl (c_X12_here hst hs   hq2)) (by decide) (Nat.le_of_ble_eq_true rfl) (Or.inl rfl) ?_
  show Ev g _ _ _ _ _ _ 4 [some (x_r (16 * 32 + 0)), none, none] [x_i v1] (al, ro, fl (ml M [32] [S2])) _ _ _ _
  refine e_istoren (pc := 4) (i := 1) dX12_cloisterLine_4 rfl (by decide) rfl ?_
  show Ev g _ _ _ _ _ _ 5 [some (x_r (16 * 32 + 0)), some (x_i v1), none] [] (al, ro, fl (ml M [32] [S2])) _ _ _ _
  refine e_aloadn (pc := 5) (i := 0) dX12_cloisterLine_5 rfl rfl ?_
  refine e_ldcS (pc := 6) (i := 0) dX12_cloisterLine_6 (by decide +kernel) (by decide) ?_
  obtain ⟨v4, S5, hq5, hG⟩ := x_bd2 hG
  refine e_invV (pc := 8) (K1 := 0) (S1 := 0) (K := 0) (S := 0) (dd2 := 6) (av := [x_r (x_s0 + 0)]) (st := []) (id := 16 * 32 + 0) dX12_cloisterLine_8 xmX12_112 rfl (Or.inl ⟨10, 27, TX12, (sa_32_0 hs), rfl, by decide⟩) (f_cal (M := M) (us2 := [32]) [0] hn rfl (And.intro rfl trivial) rfl rfl rfl (c_X12_has hst hs  (by decide) hq5)) (by decide) (Nat.le_of_ble_eq_true rfl) (Or.inl rfl) ?_
  show Ev g _ _ _ _ _ _ 11 [some (x_r (16 * 32 + 0)), some (x_i v1), none] [x_i v4] (al, ro, fl (ml M [32] [S5])) _ _ _ _
  obtain ⟨S7, hr7, hG⟩ := x_bd1 hG
  have hjhr7 : Ev g yX12_cloisterLine cX12_cloisterLine 3 none [] 9 198 [some (x_r (16 * 32 + 0)), some (x_i v1), none] [] (al, ro, fl (ml M [32] [S7])) 0 0 (.inl none) (al, ro, fl (ml M [32] [t])) := by
    cases hG
    exact (e_return rfl dX12_cloisterLine_198)
  clear hG
  refine e_if_eq (pc := 11) (tgt := 22) dX12_cloisterLine_11 (by decide) (fun hb => ?_) (fun hb => ?_)
  · rw [if_pos hb] at hr7
    refine e_aloadn (pc := 22) (i := 0) dX12_cloisterLine_22 rfl rfl ?_
    refine e_ldcS (pc := 23) (i := 5) dX12_cloisterLine_23 (by decide +kernel) (by decide) ?_
    obtain ⟨v9, S10, hq10, hr7⟩ := x_bd2 hr7
    refine e_invV (pc := 25) (K1 := 0) (S1 := 0) (K := 0) (S := 0) (dd2 := 6) (av := [x_r (x_s0 + 5)]) (st := []) (id := 16 * 32 + 0) dX12_cloisterLine_25 xmX12_112 rfl (Or.inl ⟨10, 27, TX12, (sa_32_0 hs), rfl, by decide⟩) (f_cal (M := M) (us2 := [32]) [0] hn rfl (And.intro rfl trivial) rfl rfl rfl (c_X12_has hst hs  (by decide) hq10)) (by decide) (Nat.le_of_ble_eq_true rfl) (Or.inl rfl) ?_
    show Ev g _ _ _ _ _ _ 28 [some (x_r (16 * 32 + 0)), some (x_i v1), none] [x_i v9] (al, ro, fl (ml M [32] [S10])) _ _ _ _
    refine e_if_eq (pc := 28) (tgt := 43) dX12_cloisterLine_28 (by decide) (fun hb => ?_) (fun hb => ?_)
    · rw [if_pos hb] at hr7
      refine e_aloadn (pc := 43) (i := 0) dX12_cloisterLine_43 rfl rfl ?_
      refine e_ldcS (pc := 44) (i := 6) dX12_cloisterLine_44 (by decide +kernel) (by decide) ?_
      obtain ⟨v12, S13, hq13, hr7⟩ := x_bd2 hr7
      refine e_invV (pc := 46) (K1 := 0) (S1 := 0) (K := 0) (S := 0) (dd2 := 6) (av := [x_r (x_s0 + 6)]) (st := []) (id := 16 * 32 + 0) dX12_cloisterLine_46 xmX12_112 rfl (Or.inl ⟨10, 27, TX12, (sa_32_0 hs), rfl, by decide⟩) (f_cal (M := M) (us2 := [32]) [0] hn rfl (And.intro rfl trivial) rfl rfl rfl (c_X12_has hst hs  (by decide) hq13)) (by decide) (Nat.le_of_ble_eq_true rfl) (Or.inl rfl) ?_
      show Ev g _ _ _ _ _ _ 49 [some (x_r (16 * 32 + 0)), some (x_i v1), none] [x_i v12] (al, ro, fl (ml M [32] [S13])) _ _ _ _
      refine e_if_eq (pc := 49) (tgt := 77) dX12_cloisterLine_49 (by decide) (fun hb => ?_) (fun hb => ?_)
      · rw [if_pos hb] at hr7
        refine e_aloadn (pc := 77) (i := 0) dX12_cloisterLine_77 rfl rfl ?_
        refine e_ldcS (pc := 78) (i := 12) dX12_cloisterLine_78 (by decide +kernel) (by decide) ?_
        obtain ⟨v15, S16, hq16, hr7⟩ := x_bd2 hr7
        refine e_invV (pc := 80) (K1 := 0) (S1 := 0) (K := 0) (S := 0) (dd2 := 6) (av := [x_r (x_s0 + 12)]) (st := []) (id := 16 * 32 + 0) dX12_cloisterLine_80 xmX12_112 rfl (Or.inl ⟨10, 27, TX12, (sa_32_0 hs), rfl, by decide⟩) (f_cal (M := M) (us2 := [32]) [0] hn rfl (And.intro rfl trivial) rfl rfl rfl (c_X12_has hst hs  (by decide) hq16)) (by decide) (Nat.le_of_ble_eq_true rfl) (Or.inl rfl) ?_
        show Ev g _ _ _ _ _ _ 83 [some (x_r (16 * 32 + 0)), some (x_i v1), none] [x_i v15] (al, ro, fl (ml M [32] [S16])) _ _ _ _
        refine e_if_eq (pc := 83) (tgt := 98) dX12_cloisterLine_83 (by decide) (fun hb => ?_) (fun hb => ?_)
        · rw [if_pos hb] at hr7
          refine e_aloadn (pc := 98) (i := 0) dX12_cloisterLine_98 rfl rfl ?_
          refine e_ldcS (pc := 99) (i := 13) dX12_cloisterLine_99 (by decide +kernel) (by decide) ?_
          obtain ⟨v18, S19, hq19, hr7⟩ := x_bd2 hr7
          refine e_invV (pc := 101) (K1 := 0) (S1 := 0) (K := 0) (S := 0) (dd2 := 6) (av := [x_r (x_s0 + 13)]) (st := []) (id := 16 * 32 + 0) dX12_cloisterLine_101 xmX12_112 rfl (Or.inl ⟨10, 27, TX12, (sa_32_0 hs), rfl, by decide⟩) (f_cal (M := M) (us2 := [32]) [0] hn rfl (And.intro rfl trivial) rfl rfl rfl (c_X12_has hst hs  (by decide) hq19)) (by decide) (Nat.le_of_ble_eq_true rfl) (Or.inl rfl) ?_
          show Ev g _ _ _ _ _ _ 104 [some (x_r (16 * 32 + 0)), some (x_i v1), none] [x_i v18] (al, ro, fl (ml M [32] [S19])) _ _ _ _
          refine e_if_eq (pc := 104) (tgt := 119) dX12_cloisterLine_104 (by decide) (fun hb => ?_) (fun hb => ?_)
          · rw [if_pos hb] at hr7
            refine e_aloadn (pc := 119) (i := 0) dX12_cloisterLine_119 rfl rfl ?_
            refine e_ldcS (pc := 120) (i := 14) dX12_cloisterLine_120 (by decide +kernel) (by decide) ?_
            obtain ⟨v21, S22, hq22, hr7⟩ := x_bd2 hr7
            refine e_invV (pc := 122) (K1 := 0) (S1 := 0) (K := 0) (S := 0) (dd2 := 6) (av := [x_r (x_s0 + 14)]) (st := []) (id := 16 * 32 + 0) dX12_cloisterLine_122 xmX12_112 rfl (Or.inl ⟨10, 27, TX12, (sa_32_0 hs), rfl, by decide⟩) (f_cal (M := M) (us2 := [32]) [0] hn rfl (And.intro rfl trivial) rfl rfl rfl (c_X12_has hst hs  (by decide) hq22)) (by decide) (Nat.le_of_ble_eq_true rfl) (Or.inl rfl) ?_
            show Ev g _ _ _ _ _ _ 125 [some (x_r (16 * 32 + 0)), some (x_i v1), none] [x_i v21] (al, ro, fl (ml M [32] [S22])) _ _ _ _
            refine e_if_eq (pc := 125) (tgt := 149) dX12_cloisterLine_125 (by decide) (fun hb => ?_) (fun hb => ?_)
            · rw [if_pos hb] at hr7
              refine e_aloadn (pc := 149) (i := 0) dX12_cloisterLine_149 rfl rfl ?_
              refine e_ldcS (pc := 150) (i := 15) dX12_cloisterLine_150 (by decide +kernel) (by decide) ?_
              obtain ⟨v24, S25, hq25, hr7⟩ := x_bd2 hr7
              refine e_invV (pc := 152) (K1 := 0) (S1 := 0) (K := 0) (S := 0) (dd2 := 6) (av := [x_r (x_s0 + 15)]) (st := []) (id := 16 * 32 + 0) dX12_cloisterLine_152 xmX12_112 rfl (Or.inl ⟨10, 27, TX12, (sa_32_0 hs), rfl, by decide⟩) (f_cal (M := M) (us2 := [32]) [0] hn rfl (And.intro rfl trivial) rfl rfl rfl (c_X12_has hst hs  (by decide) hq25)) (by decide) (Nat.le_of_ble_eq_true rfl) (Or.inl rfl) ?_
              show Ev g _ _ _ _ _ _ 155 [some (x_r (16 * 32 + 0)), some (x_i v1), none] [x_i v24] (al, ro, fl (ml M [32] [S25])) _ _ _ _
              refine e_if_eq (pc := 155) (tgt := 169) dX12_cloisterLine_155 (by decide) (fun hb => ?_) (fun hb => ?_)
              · rw [if_pos hb] at hr7
                refine e_aloadn (pc := 169) (i := 0) dX12_cloisterLine_169 rfl rfl ?_
                refine e_ldcS (pc := 170) (i := 16) dX12_cloisterLine_170 (by decide +kernel) (by decide) ?_
                obtain ⟨v27, S28, hq28, hr7⟩ := x_bd2 hr7
                refine e_invV (pc := 172) (K1 := 0) (S1 := 0) (K := 0) (S := 0) (dd2 := 6) (av := [x_r (x_s0 + 16)]) (st := []) (id := 16 * 32 + 0) dX12_cloisterLine_172 xmX12_112 rfl (Or.inl ⟨10, 27, TX12, (sa_32_0 hs), rfl, by decide⟩) (f_cal (M := M) (us2 := [32]) [0] hn rfl (And.intro rfl trivial) rfl rfl rfl (c_X12_has hst hs  (by decide) hq28)) (by decide) (Nat.le_of_ble_eq_true rfl) (Or.inl rfl) ?_
                show Ev g _ _ _ _ _ _ 175 [some (x_r (16 * 32 + 0)), some (x_i v1), none] [x_i v27] (al, ro, fl (ml M [32] [S28])) _ _ _ _
                refine e_if_eq (pc := 175) (tgt := 190) dX12_cloisterLine_175 (by decide) (fun hb => ?_) (fun hb => ?_)
                · rw [if_pos hb] at hr7
                  refine e_aloadn (pc := 190) (i := 0) dX12_cloisterLine_190 rfl rfl ?_
                  refine e_aloadn (pc := 191) (i := 0) dX12_cloisterLine_191 rfl rfl ?_
                  refine f_geti (pc := 192) (k := 0) (u := 32) (q := 0) dX12_cloisterLine_192 xf12_82 (sa_32_0 hs) rfl hn rfl rfl (by decide) ?_
                  show Ev g _ _ _ _ _ _ 195 [some (x_r (16 * 32 + 0)), some (x_i v1), none] [x_i (S28 0 11), x_r (16 * 32 + 0)] (al, ro, fl (ml M [32] [S28])) _ _ _ _
                  obtain ⟨S30, hq30, hr7⟩ := x_bd1 hr7
                  refine e_invV (pc := 195) (K1 := 0) (S1 := 0) (K := 0) (S := 0) (dd2 := 0) (av := [x_i (S28 0 11)]) (st := []) (id := 16 * 32 + 0) dX12_cloisterLine_195 xmX12_108 rfl (Or.inl ⟨10, 27, TX12, (sa_32_0 hs), rfl, by decide⟩) (f_cal (M := M) (us2 := [32]) [0] hn rfl (And.intro rfl trivial) rfl rfl rfl (c_X12_wrong hst hs   hq30)) (by decide) (Nat.le_of_ble_eq_true rfl) (Or.inl rfl) ?_
                  show Ev g _ _ _ _ _ _ 198 [some (x_r (16 * 32 + 0)), some (x_i v1), none] [] (al, ro, fl (ml M [32] [S30])) _ _ _ _
                  cases hr7
                  exact hjhr7
                · rw [if_neg hb] at hr7
                  refine e_aloadn (pc := 178) (i := 0) dX12_cloisterLine_178 rfl rfl ?_
                  refine e_iconst (pc := 179) dX12_cloisterLine_179 (x_R rfl) ?_
                  refine e_iconst (pc := 180) dX12_cloisterLine_180 (x_R rfl) ?_
                  refine e_sipush (pc := 181) dX12_cloisterLine_181 (by decide +kernel) (x_R rfl) ?_
                  obtain ⟨S32, hq32, hr7⟩ := x_bd1 hr7
                  refine e_invV (pc := 184) (K1 := 0) (S1 := 0) (K := 0) (S := 0) (dd2 := 4) (av := [x_i 5, x_i 0, x_i 999]) (st := []) (id := 16 * 32 + 0) dX12_cloisterLine_184 xmX12_161 rfl (Or.inl ⟨10, 27, TX12, (sa_32_0 hs), rfl, by decide⟩) (f_cal (M := M) (us2 := [32]) [0] hn rfl (And.intro rfl trivial) rfl rfl rfl (c_X12_says hst hs   hq32)) (by decide) (Nat.le_of_ble_eq_true rfl) (Or.inl rfl) ?_
                  show Ev g _ _ _ _ _ _ 187 [some (x_r (16 * 32 + 0)), some (x_i v1), none] [] (al, ro, fl (ml M [32] [S32])) _ _ _ _
                  refine e_goto (pc := 187) (tgt := 198) dX12_cloisterLine_187 (by decide) ?_
                  cases hr7
                  exact hjhr7
              · rw [if_neg hb] at hr7
                refine e_aloadn (pc := 158) (i := 0) dX12_cloisterLine_158 rfl rfl ?_
                refine e_iconst (pc := 159) dX12_cloisterLine_159 (x_R rfl) ?_
                refine e_iconst (pc := 160) dX12_cloisterLine_160 (x_R rfl) ?_
                refine e_bipush (pc := 161) dX12_cloisterLine_161 (by decide +kernel) (x_R rfl) ?_
                obtain ⟨S34, hq34, hr7⟩ := x_bd1 hr7
                refine e_invV (pc := 163) (K1 := 0) (S1 := 0) (K := 0) (S := 0) (dd2 := 4) (av := [x_i 4, x_i 0, x_i 23]) (st := []) (id := 16 * 32 + 0) dX12_cloisterLine_163 xmX12_161 rfl (Or.inl ⟨10, 27, TX12, (sa_32_0 hs), rfl, by decide⟩) (f_cal (M := M) (us2 := [32]) [0] hn rfl (And.intro rfl trivial) rfl rfl rfl (c_X12_says hst hs   hq34)) (by decide) (Nat.le_of_ble_eq_true rfl) (Or.inl rfl) ?_
                show Ev g _ _ _ _ _ _ 166 [some (x_r (16 * 32 + 0)), some (x_i v1), none] [] (al, ro, fl (ml M [32] [S34])) _ _ _ _
                refine e_goto (pc := 166) (tgt := 198) dX12_cloisterLine_166 (by decide) ?_
                cases hr7
                exact hjhr7
            · rw [if_neg hb] at hr7
              refine e_aloadn (pc := 128) (i := 0) dX12_cloisterLine_128 rfl rfl ?_
              refine e_iconst (pc := 129) dX12_cloisterLine_129 (x_R rfl) ?_
              obtain ⟨v36, S37, hq37, hr7⟩ := x_bd2 hr7
              refine e_invV (pc := 130) (K1 := 0) (S1 := 0) (K := 0) (S := 0) (dd2 := 7) (av := [x_i 0]) (st := []) (id := 16 * 32 + 0) dX12_cloisterLine_130 xmX12_166 rfl (Or.inl ⟨10, 27, TX12, (sa_32_0 hs), rfl, by decide⟩) (f_cal (M := M) (us2 := [32]) [0] hn rfl (And.intro rfl trivial) rfl rfl rfl (c_X12_seasonName hst hs   hq37)) (by decide) (Nat.le_of_ble_eq_true rfl) (Or.inl rfl) ?_
              show Ev g _ _ _ _ _ _ 133 [some (x_r (16 * 32 + 0)), some (x_i v1), none] [x_i v36] (al, ro, fl (ml M [32] [S37])) _ _ _ _
              refine e_istoren (pc := 133) (i := 2) dX12_cloisterLine_133 rfl (by decide) rfl ?_
              show Ev g _ _ _ _ _ _ 134 [some (x_r (16 * 32 + 0)), some (x_i v1), some (x_i v36)] [] (al, ro, fl (ml M [32] [S37])) _ _ _ _
              refine e_aloadn (pc := 134) (i := 0) dX12_cloisterLine_134 rfl rfl ?_
              refine e_bipush (pc := 135) dX12_cloisterLine_135 (by decide +kernel) (x_R rfl) ?_
              refine e_iloadn (pc := 137) (i := 2) dX12_cloisterLine_137 rfl rfl ?_
              refine e_iadd (pc := 138) dX12_cloisterLine_138 ?_
              refine e_iconst (pc := 139) dX12_cloisterLine_139 (x_R rfl) ?_
              refine e_sipush (pc := 140) dX12_cloisterLine_140 (by decide +kernel) (x_R rfl) ?_
              obtain ⟨S39, hq39, hr7⟩ := x_bd1 hr7
              refine e_invV (pc := 143) (K1 := 0) (S1 := 0) (K := 0) (S := 0) (dd2 := 4) (av := [x_i (x_add 12 v36), x_i 0, x_i 999]) (st := []) (id := 16 * 32 + 0) dX12_cloisterLine_143 xmX12_161 rfl (Or.inl ⟨10, 27, TX12, (sa_32_0 hs), rfl, by decide⟩) (f_cal (M := M) (us2 := [32]) [0] hn rfl (And.intro rfl trivial) rfl rfl rfl (c_X12_says hst hs   hq39)) (by decide) (Nat.le_of_ble_eq_true rfl) (Or.inl rfl) ?_
              show Ev g _ _ _ _ _ _ 146 [some (x_r (16 * 32 + 0)), some (x_i v1), some (x_i v36)] [] (al, ro, fl (ml M [32] [S39])) _ _ _ _
              refine e_goto (pc := 146) (tgt := 198) dX12_cloisterLine_146 (by decide) ?_
              cases hr7
              refine e_drop (i := 2) ?_
              exact hjhr7
          · rw [if_neg hb] at hr7
            refine e_aloadn (pc := 107) (i := 0) dX12_cloisterLine_107 rfl rfl ?_
            refine e_bipush (pc := 108) dX12_cloisterLine_108 (by decide +kernel) (x_R rfl) ?_
            refine e_iconst (pc := 110) dX12_cloisterLine_110 (x_R rfl) ?_
            refine e_bipush (pc := 111) dX12_cloisterLine_111 (by decide +kernel) (x_R rfl) ?_
            obtain ⟨S41, hq41, hr7⟩ := x_bd1 hr7
            refine e_invV (pc := 113) (K1 := 0) (S1 := 0) (K := 0) (S := 0) (dd2 := 4) (av := [x_i 9, x_i 0, x_i 20]) (st := []) (id := 16 * 32 + 0) dX12_cloisterLine_113 xmX12_161 rfl (Or.inl ⟨10, 27, TX12, (sa_32_0 hs), rfl, by decide⟩) (f_cal (M := M) (us2 := [32]) [0] hn rfl (And.intro rfl trivial) rfl rfl rfl (c_X12_says hst hs   hq41)) (by decide) (Nat.le_of_ble_eq_true rfl) (Or.inl rfl) ?_
            show Ev g _ _ _ _ _ _ 116 [some (x_r (16 * 32 + 0)), some (x_i v1), none] [] (al, ro, fl (ml M [32] [S41])) _ _ _ _
            refine e_goto (pc := 116) (tgt := 198) dX12_cloisterLine_116 (by decide) ?_
            cases hr7
            exact hjhr7
        · rw [if_neg hb] at hr7
          refine e_aloadn (pc := 86) (i := 0) dX12_cloisterLine_86 rfl rfl ?_
          refine e_bipush (pc := 87) dX12_cloisterLine_87 (by decide +kernel) (x_R rfl) ?_
          refine e_iconst (pc := 89) dX12_cloisterLine_89 (x_R rfl) ?_
          refine e_bipush (pc := 90) dX12_cloisterLine_90 (by decide +kernel) (x_R rfl) ?_
          obtain ⟨S43, hq43, hr7⟩ := x_bd1 hr7
          refine e_invV (pc := 92) (K1 := 0) (S1 := 0) (K := 0) (S := 0) (dd2 := 4) (av := [x_i 8, x_i 0, x_i 100]) (st := []) (id := 16 * 32 + 0) dX12_cloisterLine_92 xmX12_161 rfl (Or.inl ⟨10, 27, TX12, (sa_32_0 hs), rfl, by decide⟩) (f_cal (M := M) (us2 := [32]) [0] hn rfl (And.intro rfl trivial) rfl rfl rfl (c_X12_says hst hs   hq43)) (by decide) (Nat.le_of_ble_eq_true rfl) (Or.inl rfl) ?_
          show Ev g _ _ _ _ _ _ 95 [some (x_r (16 * 32 + 0)), some (x_i v1), none] [] (al, ro, fl (ml M [32] [S43])) _ _ _ _
          refine e_goto (pc := 95) (tgt := 198) dX12_cloisterLine_95 (by decide) ?_
          cases hr7
          exact hjhr7
      · rw [if_neg hb] at hr7
        refine e_aloadn (pc := 52) (i := 0) dX12_cloisterLine_52 rfl rfl ?_
        refine e_iconst (pc := 53) dX12_cloisterLine_53 (x_R rfl) ?_
        obtain ⟨v45, S46, hq46, hr7⟩ := x_bd2 hr7
        refine e_invV (pc := 54) (K1 := 0) (S1 := 0) (K := 0) (S := 0) (dd2 := 7) (av := [x_i 1]) (st := []) (id := 16 * 32 + 0) dX12_cloisterLine_54 xmX12_166 rfl (Or.inl ⟨10, 27, TX12, (sa_32_0 hs), rfl, by decide⟩) (f_cal (M := M) (us2 := [32]) [0] hn rfl (And.intro rfl trivial) rfl rfl rfl (c_X12_seasonName hst hs   hq46)) (by decide) (Nat.le_of_ble_eq_true rfl) (Or.inl rfl) ?_
        show Ev g _ _ _ _ _ _ 57 [some (x_r (16 * 32 + 0)), some (x_i v1), none] [x_i v45] (al, ro, fl (ml M [32] [S46])) _ _ _ _
        refine e_istoren (pc := 57) (i := 2) dX12_cloisterLine_57 rfl (by decide) rfl ?_
        show Ev g _ _ _ _ _ _ 58 [some (x_r (16 * 32 + 0)), some (x_i v1), some (x_i v45)] [] (al, ro, fl (ml M [32] [S46])) _ _ _ _
        refine e_aloadn (pc := 58) (i := 0) dX12_cloisterLine_58 rfl rfl ?_
        refine f_geti (pc := 59) (k := 0) (u := 32) (q := 0) dX12_cloisterLine_59 xf12_25 (sa_32_0 hs) rfl hn rfl rfl (by decide) ?_
        show Ev g _ _ _ _ _ _ 62 [some (x_r (16 * 32 + 0)), some (x_i v1), some (x_i v45)] [x_i (S46 0 12)] (al, ro, fl (ml M [32] [S46])) _ _ _ _
        refine e_iconst (pc := 62) dX12_cloisterLine_62 (x_R rfl) ?_
        obtain ⟨S48, hr48, hr7⟩ := x_bd1 hr7
        have hjhr48 : Ev g yX12_cloisterLine cX12_cloisterLine 3 none [] 9 74 [some (x_r (16 * 32 + 0)), some (x_i v1), some (x_i v45)] [] (al, ro, fl (ml M [32] [S48])) 0 0 (.inl none) (al, ro, fl (ml M [32] [t])) := by
          refine e_goto (pc := 74) (tgt := 198) dX12_cloisterLine_74 (by decide) ?_
          cases hr7
          refine e_drop (i := 2) ?_
          exact hjhr7
        clear hr7
        refine e_icmp_ne (pc := 63) (tgt := 74) dX12_cloisterLine_63 (by decide) (fun hb => ?_) (fun hb => ?_)
        · rw [if_neg hb] at hr48
          cases hr48
          exact hjhr48
        · rw [if_pos hb] at hr48
          refine e_aloadn (pc := 66) (i := 0) dX12_cloisterLine_66 rfl rfl ?_
          refine f_getr (pc := 67) (u := 32) (q := 0) dX12_cloisterLine_67 xf12_7 (sa_32_0 hs) rfl (sr_32_0_1 hs) ?_
          refine e_bipush (pc := 70) dX12_cloisterLine_70 (by decide +kernel) (x_R rfl) ?_
          refine e_iloadn (pc := 72) (i := 2) dX12_cloisterLine_72 rfl rfl ?_
          refine f_iast (pc := 73) (k := 0) (u := 32) (q := 1) (len := 772) dX12_cloisterLine_73 (sa_32_1 hs) (by decide) hn rfl rfl rfl (by decide) ?_
          show Ev g _ _ _ _ _ _ 74 [some (x_r (16 * 32 + 0)), some (x_i v1), some (x_i v45)] [] (al, ro, fl (ml M [32] [(x_up S46 1 7 v45)])) _ _ _ _
          cases hr48
          exact hjhr48
    · rw [if_neg hb] at hr7
      refine e_aloadn (pc := 31) (i := 0) dX12_cloisterLine_31 rfl rfl ?_
      refine e_bipush (pc := 32) dX12_cloisterLine_32 (by decide +kernel) (x_R rfl) ?_
      refine e_iconst (pc := 34) dX12_cloisterLine_34 (x_R rfl) ?_
      refine e_bipush (pc := 35) dX12_cloisterLine_35 (by decide +kernel) (x_R rfl) ?_
      obtain ⟨S50, hq50, hr7⟩ := x_bd1 hr7
      refine e_invV (pc := 37) (K1 := 0) (S1 := 0) (K := 0) (S := 0) (dd2 := 4) (av := [x_i 6, x_i 0, x_i 15]) (st := []) (id := 16 * 32 + 0) dX12_cloisterLine_37 xmX12_161 rfl (Or.inl ⟨10, 27, TX12, (sa_32_0 hs), rfl, by decide⟩) (f_cal (M := M) (us2 := [32]) [0] hn rfl (And.intro rfl trivial) rfl rfl rfl (c_X12_says hst hs   hq50)) (by decide) (Nat.le_of_ble_eq_true rfl) (Or.inl rfl) ?_
      show Ev g _ _ _ _ _ _ 40 [some (x_r (16 * 32 + 0)), some (x_i v1), none] [] (al, ro, fl (ml M [32] [S50])) _ _ _ _
      refine e_goto (pc := 40) (tgt := 198) dX12_cloisterLine_40 (by decide) ?_
      cases hr7
      exact hjhr7
  · rw [if_neg hb] at hr7
    refine e_aloadn (pc := 14) (i := 0) dX12_cloisterLine_14 rfl rfl ?_
    refine e_iloadn (pc := 15) (i := 1) dX12_cloisterLine_15 rfl rfl ?_
    obtain ⟨S52, hq52, hr7⟩ := x_bd1 hr7
    refine e_invV (pc := 16) (K1 := 0) (S1 := 0) (K := 0) (S := 0) (dd2 := 8) (av := [x_i v1]) (st := []) (id := 16 * 32 + 0) dX12_cloisterLine_16 xmX12_156 rfl (Or.inl ⟨10, 27, TX12, (sa_32_0 hs), rfl, by decide⟩) (f_cal (M := M) (us2 := [32]) [0] hn rfl (And.intro rfl trivial) rfl rfl rfl (c_X12_monkLine hst hs   hq52)) (by decide) (Nat.le_of_ble_eq_true rfl) (Or.inl rfl) ?_
    show Ev g _ _ _ _ _ _ 19 [some (x_r (16 * 32 + 0)), some (x_i v1), none] [] (al, ro, fl (ml M [32] [S52])) _ _ _ _
    refine e_goto (pc := 19) (tgt := 198) dX12_cloisterLine_19 (by decide) ?_
    cases hr7
    exact hjhr7
def G12_begins (S : xU) : Option xU :=
  (some (x_up (x_up (x_up (x_up (x_up (x_up S 0 12 (-1)) 0 9 (-1)) 0 10 ((x_up (x_up S 0 12 (-1)) 0 9 (-1)) 0 8)) 0 8 0) 0 11 0) 0 13 0))
set_option maxRecDepth 100000 in
set_option maxHeartbeats 4000000 in
theorem c_X12_begins {g : xG} {al : List (Nat × Nat × Nat)} {ro : Nat → Nat → Option Nat} (hst : g.1.stackTraces = false) (hs : SH al ro) {M : Nat → xU} {S : xU} {t : xU} (hG : G12_begins S = some t) :
    Cal g yX12_begins cX12_begins 1 none 0 [x_r (16 * 32 + 0)] (al, ro, fl (ml M [32] [S])) 0 0 (.inl none) (al, ro, fl (ml M [32] [t])) := by
  have hn : ([32] : List Nat).Nodup := by decide
  refine cal_of_ev (by decide) (x_c1 rfl) (Nat.le_of_ble_eq_true rfl) hst ?_
  show Ev g _ _ _ _ _ _ 0 [some (x_r (16 * 32 + 0))] [] (al, ro, fl (ml M [32] [S])) _ _ _ _
  rw [G12_begins] at hG
  refine e_aloadn (pc := 0) (i := 0) dX12_begins_0 rfl rfl ?_
  refine e_iconst (pc := 1) dX12_begins_1 (x_R rfl) ?_
  refine f_puti (pc := 2) (k := 0) (u := 32) (q := 0) dX12_begins_2 xf12_25 xw10_12 (sa_32_0 hs) hn rfl rfl rfl (by decide) ?_
  show Ev g _ _ _ _ _ _ 5 [some (x_r (16 * 32 + 0))] [] (al, ro, fl (ml M [32] [(x_up S 0 12 (-1))])) _ _ _ _
  refine e_aloadn (pc := 5) (i := 0) dX12_begins_5 rfl rfl ?_
  refine e_iconst (pc := 6) dX12_begins_6 (x_R rfl) ?_
  refine f_puti (pc := 7) (k := 0) (u := 32) (q := 0) dX12_begins_7 xf12_79 xw10_9 (sa_32_0 hs) hn rfl rfl rfl (by decide) ?_
  show Ev g _ _ _ _ _ _ 10 [some (x_r (16 * 32 + 0))] [] (al, ro, fl (ml M [32] [(x_up (x_up S 0 12 (-1)) 0 9 (-1))])) _ _ _ _
  refine e_aloadn (pc := 10) (i := 0) dX12_begins_10 rfl rfl ?_
  refine e_aloadn (pc := 11) (i := 0) dX12_begins_11 rfl rfl ?_
  refine f_geti (pc := 12) (k := 0) (u := 32) (q := 0) dX12_begins_12 xf12_76 (sa_32_0 hs) rfl hn rfl rfl (by decide) ?_
  show Ev g _ _ _ _ _ _ 15 [some (x_r (16 * 32 + 0))] [x_i ((x_up (x_up S 0 12 (-1)) 0 9 (-1)) 0 8), x_r (16 * 32 + 0)] (al, ro, fl (ml M [32] [(x_up (x_up S 0 12 (-1)) 0 9 (-1))])) _ _ _ _
  refine f_puti (pc := 15) (k := 0) (u := 32) (q := 0) dX12_begins_15 xf12_85 xw10_10 (sa_32_0 hs) hn rfl rfl rfl (by decide) ?_
  show Ev g _ _ _ _ _ _ 18 [some (x_r (16 * 32 + 0))] [] (al, ro, fl (ml M [32] [(x_up (x_up (x_up S 0 12 (-1)) 0 9 (-1)) 0 10 ((x_up (x_up S 0 12 (-1)) 0 9 (-1)) 0 8))])) _ _ _ _
  refine e_aloadn (pc := 18) (i := 0) dX12_begins_18 rfl rfl ?_
  refine e_iconst (pc := 19) dX12_begins_19 (x_R rfl) ?_
  refine f_puti (pc := 20) (k := 0) (u := 32) (q := 0) dX12_begins_20 xf12_76 xw10_8 (sa_32_0 hs) hn rfl rfl rfl (by decide) ?_
  show Ev g _ _ _ _ _ _ 23 [some (x_r (16 * 32 + 0))] [] (al, ro, fl (ml M [32] [(x_up (x_up (x_up (x_up S 0 12 (-1)) 0 9 (-1)) 0 10 ((x_up (x_up S 0 12 (-1)) 0 9 (-1)) 0 8)) 0 8 0)])) _ _ _ _
  refine e_aloadn (pc := 23) (i := 0) dX12_begins_23 rfl rfl ?_
  refine e_iconst (pc := 24) dX12_begins_24 (x_R rfl) ?_
  refine f_puti (pc := 25) (k := 0) (u := 32) (q := 0) dX12_begins_25 xf12_82 xw10_11 (sa_32_0 hs) hn rfl rfl rfl (by decide) ?_
  show Ev g _ _ _ _ _ _ 28 [some (x_r (16 * 32 + 0))] [] (al, ro, fl (ml M [32] [(x_up (x_up (x_up (x_up (x_up S 0 12 (-1)) 0 9 (-1)) 0 10 ((x_up (x_up S 0 12 (-1)) 0 9 (-1)) 0 8)) 0 8 0) 0 11 0)])) _ _ _ _
  refine e_aloadn (pc := 28) (i := 0) dX12_begins_28 rfl rfl ?_
  refine e_iconst (pc := 29) dX12_begins_29 (x_R rfl) ?_
  refine f_puti (pc := 30) (k := 0) (u := 32) (q := 0) dX12_begins_30 xf12_180 xw10_13 (sa_32_0 hs) hn rfl rfl rfl (by decide) ?_
  show Ev g _ _ _ _ _ _ 33 [some (x_r (16 * 32 + 0))] [] (al, ro, fl (ml M [32] [(x_up (x_up (x_up (x_up (x_up (x_up S 0 12 (-1)) 0 9 (-1)) 0 10 ((x_up (x_up S 0 12 (-1)) 0 9 (-1)) 0 8)) 0 8 0) 0 11 0) 0 13 0)])) _ _ _ _
  cases hG
  exact (e_return rfl dX12_begins_33)
def G12_part (S : xU) : Option (Int × xU) :=
  (if (S 0 12) = (-1) then (x_b1 (G12_skip S) fun (S1 : xU) => (if (S1 0 10) ≤ (S1 0 11) then (x_b2 (G12_has 0 S1) fun (v3 : Int) (S4 : xU) => (x_b2 (if v3 = 0 then (x_b2 (G12_has 26 S4) fun (v9 : Int) (S10 : xU) => (if v9 = 0 then (x_b2 (G12_has 3 S10) fun (v12 : Int) (S13 : xU) => (if v12 = 0 then (x_b2 (G12_has 27 S13) fun (v15 : Int) (S16 : xU) => (if v15 = 0 then (x_b2 (G12_has 28 S16) fun (v18 : Int) (S19 : xU) => (if v18 = 0 then (x_b2 (G12_has 15 S19) fun (v21 : Int) (S22 : xU) => (if v21 = 0 then (x_b2 (G12_has 2 S22) fun (v24 : Int) (S25 : xU) => (if v24 = 0 then (some ((-1), S25)) else (some (6, S25)))) else (some (5, S22)))) else (some (4, S19)))) else (some (3, S16)))) else (some (2, S13)))) else (some (1, S10)))) else (some (0, S4))) fun (v6 : Int) (S7 : xU) => (if v6 = (-1) then (x_b1 (G12_wrong (S7 0 11) S7) fun (S27 : xU) => (some (0, S27))) else (x_gd ((0 : Int) ≤ v6 ∧ v6 < 7) (some ((S7 6 (v6).toNat), S7)))))) else (x_b1 (G12_letter (S1 0 11) S1) fun (v29 : Int) => (x_b1 (G12_isIn v29 48 57) fun (v31 : Int) => (if v31 = 0 then (x_b2 (G12_has 0 S1) fun (v33 : Int) (S34 : xU) => (x_b2 (if v33 = 0 then (x_b2 (G12_has 26 S34) fun (v39 : Int) (S40 : xU) => (if v39 = 0 then (x_b2 (G12_has 3 S40) fun (v42 : Int) (S43 : xU) => (if v42 = 0 then (x_b2 (G12_has 27 S43) fun (v45 : Int) (S46 : xU) => (if v45 = 0 then (x_b2 (G12_has 28 S46) fun (v48 : Int) (S49 : xU) => (if v48 = 0 then (x_b2 (G12_has 15 S49) fun (v51 : Int) (S52 : xU) => (if v51 = 0 then (x_b2 (G12_has 2 S52) fun (v54 : Int) (S55 : xU) => (if v54 = 0 then (some ((-1), S55)) else (some (6, S55)))) else (some (5, S52)))) else (some (4, S49)))) else (some (3, S46)))) else (some (2, S43)))) else (some (1, S40)))) else (some (0, S34))) fun (v36 : Int) (S37 : xU) => (if v36 = (-1) then (x_b1 (G12_wrong (S37 0 11) S37) fun (S57 : xU) => (some (0, S57))) else (x_gd ((0 : Int) ≤ v36 ∧ v36 < 7) (some ((S37 6 (v36).toNat), S37)))))) else (x_b2 (G12_figures 0 999 S1) fun (v59 : Int) (S60 : xU) => (some (v59, S60)))))))) else (some (0, S)))
set_option maxRecDepth 100000 in
set_option maxHeartbeats 4000000 in
theorem c_X12_part {g : xG} {al : List (Nat × Nat × Nat)} {ro : Nat → Nat → Option Nat} (hst : g.1.stackTraces = false) (hs : SH al ro) {M : Nat → xU} {S : xU} {t : (Int × xU)} (hG : G12_part S = some t) :
    Cal g yX12_part cX12_part 2 (some .int) 7 [x_r (16 * 32 + 0)] (al, ro, fl (ml M [32] [S])) 0 0 (.inl (some (x_i t.1))) (al, ro, fl (ml M [32] [t.2])) := by
  have hn : ([32] : List Nat).Nodup := by decide
  refine cal_of_ev (by decide) (x_c1 rfl) (Nat.le_of_ble_eq_true rfl) hst ?_
  show Ev g _ _ _ _ _ _ 0 [some (x_r (16 * 32 + 0)), none] [] (al, ro, fl (ml M [32] [S])) _ _ _ _
  rw [G12_part] at hG
  refine e_aloadn (pc := 0) (i := 0) dX12_part_0 rfl rfl ?_
  refine f_geti (pc := 1) (k := 0) (u := 32) (q := 0) dX12_part_1 xf12_25 (sa_32_0 hs) rfl hn rfl rfl (by decide) ?_
  show Ev g _ _ _ _ _ _ 4 [some (x_r (16 * 32 + 0)), none] [x_i (S 0 12)] (al, ro, fl (ml M [32] [S])) _ _ _ _
  refine e_iconst (pc := 4) dX12_part_4 (x_R rfl) ?_
  refine e_icmp_eq (pc := 5) (tgt := 10) dX12_part_5 (by decide) (fun hb => ?_) (fun hb => ?_)
  · rw [if_pos hb] at hG
    refine e_aloadn (pc := 10) (i := 0) dX12_part_10 rfl rfl ?_
    obtain ⟨S1, hq1, hG⟩ := x_bd1 hG
    refine e_invV (pc := 11) (K1 := 0) (S1 := 0) (K := 0) (S := 0) (dd2 := 1) (av := []) (st := []) (id := 16 * 32 + 0) dX12_part_11 xmX12_92 rfl (Or.inl ⟨10, 27, TX12, (sa_32_0 hs), rfl, by decide⟩) (f_cal (M := M) (us2 := [32]) [0] hn rfl (And.intro rfl trivial) rfl rfl rfl (c_X12_skip hst hs   hq1)) (by decide) (Nat.le_of_ble_eq_true rfl) (Or.inl rfl) ?_
    show Ev g _ _ _ _ _ _ 14 [some (x_r (16 * 32 + 0)), none] [] (al, ro, fl (ml M [32] [S1])) _ _ _ _
    refine e_aloadn (pc := 14) (i := 0) dX12_part_14 rfl rfl ?_
    refine f_geti (pc := 15) (k := 0) (u := 32) (q := 0) dX12_part_15 xf12_82 (sa_32_0 hs) rfl hn rfl rfl (by decide) ?_
    show Ev g _ _ _ _ _ _ 18 [some (x_r (16 * 32 + 0)), none] [x_i (S1 0 11)] (al, ro, fl (ml M [32] [S1])) _ _ _ _
    refine e_aloadn (pc := 18) (i := 0) dX12_part_18 rfl rfl ?_
    refine f_geti (pc := 19) (k := 0) (u := 32) (q := 0) dX12_part_19 xf12_85 (sa_32_0 hs) rfl hn rfl rfl (by decide) ?_
    show Ev g _ _ _ _ _ _ 22 [some (x_r (16 * 32 + 0)), none] [x_i (S1 0 10), x_i (S1 0 11)] (al, ro, fl (ml M [32] [S1])) _ _ _ _
    refine e_icmp_ge (pc := 22) (tgt := 52) dX12_part_22 (by decide) (fun hb => ?_) (fun hb => ?_)
    · rw [if_pos hb] at hG
      refine e_aloadn (pc := 52) (i := 0) dX12_part_52 rfl rfl ?_
      refine e_ldcS (pc := 53) (i := 0) dX12_part_53 (by decide +kernel) (by decide) ?_
      obtain ⟨v3, S4, hq4, hG⟩ := x_bd2 hG
      refine e_invV (pc := 55) (K1 := 0) (S1 := 0) (K := 0) (S := 0) (dd2 := 6) (av := [x_r (x_s0 + 0)]) (st := []) (id := 16 * 32 + 0) dX12_part_55 xmX12_112 rfl (Or.inl ⟨10, 27, TX12, (sa_32_0 hs), rfl, by decide⟩) (f_cal (M := M) (us2 := [32]) [0] hn rfl (And.intro rfl trivial) rfl rfl rfl (c_X12_has hst hs  (by decide) hq4)) (by decide) (Nat.le_of_ble_eq_true rfl) (Or.inl rfl) ?_
      show Ev g _ _ _ _ _ _ 58 [some (x_r (16 * 32 + 0)), none] [x_i v3] (al, ro, fl (ml M [32] [S4])) _ _ _ _
      obtain ⟨v6, S7, hr7, hG⟩ := x_bd2 hG
      have hjhr7 : Ev g yX12_part cX12_part 2 (some .int) [] 7 145 [some (x_r (16 * 32 + 0)), none] [x_i v6] (al, ro, fl (ml M [32] [S7])) 0 0 (.inl (some (x_i t.1))) (al, ro, fl (ml M [32] [t.2])) := by
        refine e_istoren (pc := 145) (i := 1) dX12_part_145 rfl (by decide) rfl ?_
        show Ev g _ _ _ _ _ _ 146 [some (x_r (16 * 32 + 0)), some (x_i v6)] [] (al, ro, fl (ml M [32] [S7])) _ _ _ _
        refine e_iloadn (pc := 146) (i := 1) dX12_part_146 rfl rfl ?_
        refine e_iconst (pc := 147) dX12_part_147 (x_R rfl) ?_
        refine e_icmp_ne (pc := 148) (tgt := 161) dX12_part_148 (by decide) (fun hb => ?_) (fun hb => ?_)
        · rw [if_neg hb] at hG
          refine e_aloadn (pc := 161) (i := 0) dX12_part_161 rfl rfl ?_
          refine f_getr (pc := 162) (u := 32) (q := 0) dX12_part_162 xf12_29 (sa_32_0 hs) rfl (sr_32_0_14 hs) ?_
          refine e_iloadn (pc := 165) (i := 1) dX12_part_165 rfl rfl ?_
          obtain ⟨hc0, hG⟩ := x_gd_some hG
          refine f_iald (pc := 166) (k := 0) (u := 32) (q := 6) (len := 7) dX12_part_166 (sa_32_6 hs) hc0 hn rfl rfl (by decide) ?_
          show Ev g _ _ _ _ _ _ 167 [some (x_r (16 * 32 + 0)), some (x_i v6)] [x_i (S7 6 (v6).toNat)] (al, ro, fl (ml M [32] [S7])) _ _ _ _
          cases hG
          exact (e_ireturn rfl dX12_part_167 rfl)
        · rw [if_pos hb] at hG
          refine e_aloadn (pc := 151) (i := 0) dX12_part_151 rfl rfl ?_
          refine e_aloadn (pc := 152) (i := 0) dX12_part_152 rfl rfl ?_
          refine f_geti (pc := 153) (k := 0) (u := 32) (q := 0) dX12_part_153 xf12_82 (sa_32_0 hs) rfl hn rfl rfl (by decide) ?_
          show Ev g _ _ _ _ _ _ 156 [some (x_r (16 * 32 + 0)), some (x_i v6)] [x_i (S7 0 11), x_r (16 * 32 + 0)] (al, ro, fl (ml M [32] [S7])) _ _ _ _
          obtain ⟨S27, hq27, hG⟩ := x_bd1 hG
          refine e_invV (pc := 156) (K1 := 0) (S1 := 0) (K := 0) (S := 0) (dd2 := 0) (av := [x_i (S7 0 11)]) (st := []) (id := 16 * 32 + 0) dX12_part_156 xmX12_108 rfl (Or.inl ⟨10, 27, TX12, (sa_32_0 hs), rfl, by decide⟩) (f_cal (M := M) (us2 := [32]) [0] hn rfl (And.intro rfl trivial) rfl rfl rfl (c_X12_wrong hst hs   hq27)) (by decide) (Nat.le_of_ble_eq_true rfl) (Or.inl rfl) ?_
          show Ev g _ _ _ _ _ _ 159 [some (x_r (16 * 32 + 0)), some (x_i v6)] [] (al, ro, fl (ml M [32] [S27])) _ _ _ _
          refine e_iconst (pc := 159) dX12_part_159 (x_R rfl) ?_
          cases hG
          exact (e_ireturn rfl dX12_part_160 rfl)
      clear hG
      refine e_if_eq (pc := 58) (tgt := 65) dX12_part_58 (by decide) (fun hb => ?_) (fun hb => ?_)
      · rw [if_pos hb] at hr7
        refine e_aloadn (pc := 65) (i := 0) dX12_part_65 rfl rfl ?_
        refine e_ldcS (pc := 66) (i := 26) dX12_part_66 (by decide +kernel) (by decide) ?_
        obtain ⟨v9, S10, hq10, hr7⟩ := x_bd2 hr7
        refine e_invV (pc := 68) (K1 := 0) (S1 := 0) (K := 0) (S := 0) (dd2 := 6) (av := [x_r (x_s0 + 26)]) (st := []) (id := 16 * 32 + 0) dX12_part_68 xmX12_112 rfl (Or.inl ⟨10, 27, TX12, (sa_32_0 hs), rfl, by decide⟩) (f_cal (M := M) (us2 := [32]) [0] hn rfl (And.intro rfl trivial) rfl rfl rfl (c_X12_has hst hs  (by decide) hq10)) (by decide) (Nat.le_of_ble_eq_true rfl) (Or.inl rfl) ?_
        show Ev g _ _ _ _ _ _ 71 [some (x_r (16 * 32 + 0)), none] [x_i v9] (al, ro, fl (ml M [32] [S10])) _ _ _ _
        refine e_if_eq (pc := 71) (tgt := 78) dX12_part_71 (by decide) (fun hb => ?_) (fun hb => ?_)
        · rw [if_pos hb] at hr7
          refine e_aloadn (pc := 78) (i := 0) dX12_part_78 rfl rfl ?_
          refine e_ldcS (pc := 79) (i := 3) dX12_part_79 (by decide +kernel) (by decide) ?_
          obtain ⟨v12, S13, hq13, hr7⟩ := x_bd2 hr7
          refine e_invV (pc := 81) (K1 := 0) (S1 := 0) (K := 0) (S := 0) (dd2 := 6) (av := [x_r (x_s0 + 3)]) (st := []) (id := 16 * 32 + 0) dX12_part_81 xmX12_112 rfl (Or.inl ⟨10, 27, TX12, (sa_32_0 hs), rfl, by decide⟩) (f_cal (M := M) (us2 := [32]) [0] hn rfl (And.intro rfl trivial) rfl rfl rfl (c_X12_has hst hs  (by decide) hq13)) (by decide) (Nat.le_of_ble_eq_true rfl) (Or.inl rfl) ?_
          show Ev g _ _ _ _ _ _ 84 [some (x_r (16 * 32 + 0)), none] [x_i v12] (al, ro, fl (ml M [32] [S13])) _ _ _ _
          refine e_if_eq (pc := 84) (tgt := 91) dX12_part_84 (by decide) (fun hb => ?_) (fun hb => ?_)
          · rw [if_pos hb] at hr7
            refine e_aloadn (pc := 91) (i := 0) dX12_part_91 rfl rfl ?_
            refine e_ldcS (pc := 92) (i := 27) dX12_part_92 (by decide +kernel) (by decide) ?_
            obtain ⟨v15, S16, hq16, hr7⟩ := x_bd2 hr7
            refine e_invV (pc := 94) (K1 := 0) (S1 := 0) (K := 0) (S := 0) (dd2 := 6) (av := [x_r (x_s0 + 27)]) (st := []) (id := 16 * 32 + 0) dX12_part_94 xmX12_112 rfl (Or.inl ⟨10, 27, TX12, (sa_32_0 hs), rfl, by decide⟩) (f_cal (M := M) (us2 := [32]) [0] hn rfl (And.intro rfl trivial) rfl rfl rfl (c_X12_has hst hs  (by decide) hq16)) (by decide) (Nat.le_of_ble_eq_true rfl) (Or.inl rfl) ?_
            show Ev g _ _ _ _ _ _ 97 [some (x_r (16 * 32 + 0)), none] [x_i v15] (al, ro, fl (ml M [32] [S16])) _ _ _ _
            refine e_if_eq (pc := 97) (tgt := 104) dX12_part_97 (by decide) (fun hb => ?_) (fun hb => ?_)
            · rw [if_pos hb] at hr7
              refine e_aloadn (pc := 104) (i := 0) dX12_part_104 rfl rfl ?_
              refine e_ldcS (pc := 105) (i := 28) dX12_part_105 (by decide +kernel) (by decide) ?_
              obtain ⟨v18, S19, hq19, hr7⟩ := x_bd2 hr7
              refine e_invV (pc := 107) (K1 := 0) (S1 := 0) (K := 0) (S := 0) (dd2 := 6) (av := [x_r (x_s0 + 28)]) (st := []) (id := 16 * 32 + 0) dX12_part_107 xmX12_112 rfl (Or.inl ⟨10, 27, TX12, (sa_32_0 hs), rfl, by decide⟩) (f_cal (M := M) (us2 := [32]) [0] hn rfl (And.intro rfl trivial) rfl rfl rfl (c_X12_has hst hs  (by decide) hq19)) (by decide) (Nat.le_of_ble_eq_true rfl) (Or.inl rfl) ?_
              show Ev g _ _ _ _ _ _ 110 [some (x_r (16 * 32 + 0)), none] [x_i v18] (al, ro, fl (ml M [32] [S19])) _ _ _ _
              refine e_if_eq (pc := 110) (tgt := 117) dX12_part_110 (by decide) (fun hb => ?_) (fun hb => ?_)
              · rw [if_pos hb] at hr7
                refine e_aloadn (pc := 117) (i := 0) dX12_part_117 rfl rfl ?_
                refine e_ldcS (pc := 118) (i := 15) dX12_part_118 (by decide +kernel) (by decide) ?_
                obtain ⟨v21, S22, hq22, hr7⟩ := x_bd2 hr7
                refine e_invV (pc := 120) (K1 := 0) (S1 := 0) (K := 0) (S := 0) (dd2 := 6) (av := [x_r (x_s0 + 15)]) (st := []) (id := 16 * 32 + 0) dX12_part_120 xmX12_112 rfl (Or.inl ⟨10, 27, TX12, (sa_32_0 hs), rfl, by decide⟩) (f_cal (M := M) (us2 := [32]) [0] hn rfl (And.intro rfl trivial) rfl rfl rfl (c_X12_has hst hs  (by decide) hq22)) (by decide) (Nat.le_of_ble_eq_true rfl) (Or.inl rfl) ?_
                show Ev g _ _ _ _ _ _ 123 [some (x_r (16 * 32 + 0)), none] [x_i v21] (al, ro, fl (ml M [32] [S22])) _ _ _ _
                refine e_if_eq (pc := 123) (tgt := 130) dX12_part_123 (by decide) (fun hb => ?_) (fun hb => ?_)
                · rw [if_pos hb] at hr7
                  refine e_aloadn (pc := 130) (i := 0) dX12_part_130 rfl rfl ?_
                  refine e_ldcS (pc := 131) (i := 2) dX12_part_131 (by decide +kernel) (by decide) ?_
                  obtain ⟨v24, S25, hq25, hr7⟩ := x_bd2 hr7
                  refine e_invV (pc := 133) (K1 := 0) (S1 := 0) (K := 0) (S := 0) (dd2 := 6) (av := [x_r (x_s0 + 2)]) (st := []) (id := 16 * 32 + 0) dX12_part_133 xmX12_112 rfl (Or.inl ⟨10, 27, TX12, (sa_32_0 hs), rfl, by decide⟩) (f_cal (M := M) (us2 := [32]) [0] hn rfl (And.intro rfl trivial) rfl rfl rfl (c_X12_has hst hs  (by decide) hq25)) (by decide) (Nat.le_of_ble_eq_true rfl) (Or.inl rfl) ?_
                  show Ev g _ _ _ _ _ _ 136 [some (x_r (16 * 32 + 0)), none] [x_i v24] (al, ro, fl (ml M [32] [S25])) _ _ _ _
                  refine e_if_eq (pc := 136) (tgt := 144) dX12_part_136 (by decide) (fun hb => ?_) (fun hb => ?_)
                  · rw [if_pos hb] at hr7
                    refine e_iconst (pc := 144) dX12_part_144 (x_R rfl) ?_
                    cases hr7
                    exact hjhr7
                  · rw [if_neg hb] at hr7
                    refine e_bipush (pc := 139) dX12_part_139 (by decide +kernel) (x_R rfl) ?_
                    refine e_goto (pc := 141) (tgt := 145) dX12_part_141 (by decide) ?_
                    cases hr7
                    exact hjhr7
                · rw [if_neg hb] at hr7
                  refine e_iconst (pc := 126) dX12_part_126 (x_R rfl) ?_
                  refine e_goto (pc := 127) (tgt := 145) dX12_part_127 (by decide) ?_
                  cases hr7
                  exact hjhr7
              · rw [if_neg hb] at hr7
                refine e_iconst (pc := 113) dX12_part_113 (x_R rfl) ?_
                refine e_goto (pc := 114) (tgt := 145) dX12_part_114 (by decide) ?_
                cases hr7
                exact hjhr7
            · rw [if_neg hb] at hr7
              refine e_iconst (pc := 100) dX12_part_100 (x_R rfl) ?_
              refine e_goto (pc := 101) (tgt := 145) dX12_part_101 (by decide) ?_
              cases hr7
              exact hjhr7
          · rw [if_neg hb] at hr7
            refine e_iconst (pc := 87) dX12_part_87 (x_R rfl) ?_
            refine e_goto (pc := 88) (tgt := 145) dX12_part_88 (by decide) ?_
            cases hr7
            exact hjhr7
        · rw [if_neg hb] at hr7
          refine e_iconst (pc := 74) dX12_part_74 (x_R rfl) ?_
          refine e_goto (pc := 75) (tgt := 145) dX12_part_75 (by decide) ?_
          cases hr7
          exact hjhr7
      · rw [if_neg hb] at hr7
        refine e_iconst (pc := 61) dX12_part_61 (x_R rfl) ?_
        refine e_goto (pc := 62) (tgt := 145) dX12_part_62 (by decide) ?_
        cases hr7
        exact hjhr7
    · rw [if_neg hb] at hG
      refine e_aloadn (pc := 25) (i := 0) dX12_part_25 rfl rfl ?_
      refine e_aloadn (pc := 26) (i := 0) dX12_part_26 rfl rfl ?_
      refine f_geti (pc := 27) (k := 0) (u := 32) (q := 0) dX12_part_27 xf12_82 (sa_32_0 hs) rfl hn rfl rfl (by decide) ?_
      show Ev g _ _ _ _ _ _ 30 [some (x_r (16 * 32 + 0)), none] [x_i (S1 0 11), x_r (16 * 32 + 0)] (al, ro, fl (ml M [32] [S1])) _ _ _ _
      obtain ⟨v29, hq29, hG⟩ := x_bd1 hG
      refine e_invV (pc := 30) (K1 := 0) (S1 := 0) (K := 0) (S := 0) (dd2 := 0) (av := [x_i (S1 0 11)]) (st := []) (id := 16 * 32 + 0) dX12_part_30 xmX12_88 rfl (Or.inl ⟨10, 27, TX12, (sa_32_0 hs), rfl, by decide⟩) (f_cal (M := M) (us2 := [32]) [0] hn rfl (And.intro rfl trivial) rfl rfl rfl (c_X12_letter hst hs   hq29)) (by decide) (Nat.le_of_ble_eq_true rfl) (Or.inl rfl) ?_
      show Ev g _ _ _ _ _ _ 33 [some (x_r (16 * 32 + 0)), none] [x_i v29] (al, ro, fl (ml M [32] [S1])) _ _ _ _
      refine e_bipush (pc := 33) dX12_part_33 (by decide +kernel) (x_R rfl) ?_
      refine e_bipush (pc := 35) dX12_part_35 (by decide +kernel) (x_R rfl) ?_
      obtain ⟨v31, hq31, hG⟩ := x_bd1 hG
      refine e_invS (pc := 37) (K1 := 0) (S1 := 0) (K := 0) (S := 0) (dd2 := 0) (av := [x_i v29, x_i 48, x_i 57]) (st := []) dX12_part_37 xmX12_61 rfl (f_cal (M := M) (us2 := []) [] hn rfl trivial rfl rfl rfl (c_X12_isIn hst hs   hq31)) (by decide) (Nat.le_of_ble_eq_true rfl) (Or.inl rfl) ?_
      show Ev g _ _ _ _ _ _ 40 [some (x_r (16 * 32 + 0)), none] [x_i v31] (al, ro, fl (ml M [32] [S1])) _ _ _ _
      refine e_if_eq (pc := 40) (tgt := 52) dX12_part_40 (by decide) (fun hb => ?_) (fun hb => ?_)
      · rw [if_pos hb] at hG
        refine e_aloadn (pc := 52) (i := 0) dX12_part_52 rfl rfl ?_
        refine e_ldcS (pc := 53) (i := 0) dX12_part_53 (by decide +kernel) (by decide) ?_
        obtain ⟨v33, S34, hq34, hG⟩ := x_bd2 hG
        refine e_invV (pc := 55) (K1 := 0) (S1 := 0) (K := 0) (S := 0) (dd2 := 6) (av := [x_r (x_s0 + 0)]) (st := []) (id := 16 * 32 + 0) dX12_part_55 xmX12_112 rfl (Or.inl ⟨10, 27, TX12, (sa_32_0 hs), rfl, by decide⟩) (f_cal (M := M) (us2 := [32]) [0] hn rfl (And.intro rfl trivial) rfl rfl rfl (c_X12_has hst hs  (by decide) hq34)) (by decide) (Nat.le_of_ble_eq_true rfl) (Or.inl rfl) ?_
        show Ev g _ _ _ _ _ _ 58 [some (x_r (16 * 32 + 0)), none] [x_i v33] (al, ro, fl (ml M [32] [S34])) _ _ _ _
        obtain ⟨v36, S37, hr37, hG⟩ := x_bd2 hG
        have hjhr37 : Ev g yX12_part cX12_part 2 (some .int) [] 7 145 [some (x_r (16 * 32 + 0)), none] [x_i v36] (al, ro, fl (ml M [32] [S37])) 0 0 (.inl (some (x_i t.1))) (al, ro, fl (ml M [32] [t.2])) := by
          refine e_istoren (pc := 145) (i := 1) dX12_part_145 rfl (by decide) rfl ?_
          show Ev g _ _ _ _ _ _ 146 [some (x_r (16 * 32 + 0)), some (x_i v36)] [] (al, ro, fl (ml M [32] [S37])) _ _ _ _
          refine e_iloadn (pc := 146) (i := 1) dX12_part_146 rfl rfl ?_
          refine e_iconst (pc := 147) dX12_part_147 (x_R rfl) ?_
          refine e_icmp_ne (pc := 148) (tgt := 161) dX12_part_148 (by decide) (fun hb => ?_) (fun hb => ?_)
          · rw [if_neg hb] at hG
            refine e_aloadn (pc := 161) (i := 0) dX12_part_161 rfl rfl ?_
            refine f_getr (pc := 162) (u := 32) (q := 0) dX12_part_162 xf12_29 (sa_32_0 hs) rfl (sr_32_0_14 hs) ?_
            refine e_iloadn (pc := 165) (i := 1) dX12_part_165 rfl rfl ?_
            obtain ⟨hc0, hG⟩ := x_gd_some hG
            refine f_iald (pc := 166) (k := 0) (u := 32) (q := 6) (len := 7) dX12_part_166 (sa_32_6 hs) hc0 hn rfl rfl (by decide) ?_
            show Ev g _ _ _ _ _ _ 167 [some (x_r (16 * 32 + 0)), some (x_i v36)] [x_i (S37 6 (v36).toNat)] (al, ro, fl (ml M [32] [S37])) _ _ _ _
            cases hG
            exact (e_ireturn rfl dX12_part_167 rfl)
          · rw [if_pos hb] at hG
            refine e_aloadn (pc := 151) (i := 0) dX12_part_151 rfl rfl ?_
            refine e_aloadn (pc := 152) (i := 0) dX12_part_152 rfl rfl ?_
            refine f_geti (pc := 153) (k := 0) (u := 32) (q := 0) dX12_part_153 xf12_82 (sa_32_0 hs) rfl hn rfl rfl (by decide) ?_
            show Ev g _ _ _ _ _ _ 156 [some (x_r (16 * 32 + 0)), some (x_i v36)] [x_i (S37 0 11), x_r (16 * 32 + 0)] (al, ro, fl (ml M [32] [S37])) _ _ _ _
            obtain ⟨S57, hq57, hG⟩ := x_bd1 hG
            refine e_invV (pc := 156) (K1 := 0) (S1 := 0) (K := 0) (S := 0) (dd2 := 0) (av := [x_i (S37 0 11)]) (st := []) (id := 16 * 32 + 0) dX12_part_156 xmX12_108 rfl (Or.inl ⟨10, 27, TX12, (sa_32_0 hs), rfl, by decide⟩) (f_cal (M := M) (us2 := [32]) [0] hn rfl (And.intro rfl trivial) rfl rfl rfl (c_X12_wrong hst hs   hq57)) (by decide) (Nat.le_of_ble_eq_true rfl) (Or.inl rfl) ?_
            show Ev g _ _ _ _ _ _ 159 [some (x_r (16 * 32 + 0)), some (x_i v36)] [] (al, ro, fl (ml M [32] [S57])) _ _ _ _
            refine e_iconst (pc := 159) dX12_part_159 (x_R rfl) ?_
            cases hG
            exact (e_ireturn rfl dX12_part_160 rfl)
        clear hG
        refine e_if_eq (pc := 58) (tgt := 65) dX12_part_58 (by decide) (fun hb => ?_) (fun hb => ?_)
        · rw [if_pos hb] at hr37
          refine e_aloadn (pc := 65) (i := 0) dX12_part_65 rfl rfl ?_
          refine e_ldcS (pc := 66) (i := 26) dX12_part_66 (by decide +kernel) (by decide) ?_
          obtain ⟨v39, S40, hq40, hr37⟩ := x_bd2 hr37
          refine e_invV (pc := 68) (K1 := 0) (S1 := 0) (K := 0) (S := 0) (dd2 := 6) (av := [x_r (x_s0 + 26)]) (st := []) (id := 16 * 32 + 0) dX12_part_68 xmX12_112 rfl (Or.inl ⟨10, 27, TX12, (sa_32_0 hs), rfl, by decide⟩) (f_cal (M := M) (us2 := [32]) [0] hn rfl (And.intro rfl trivial) rfl rfl rfl (c_X12_has hst hs  (by decide) hq40)) (by decide) (Nat.le_of_ble_eq_true rfl) (Or.inl rfl) ?_
          show Ev g _ _ _ _ _ _ 71 [some (x_r (16 * 32 + 0)), none] [x_i v39] (al, ro, fl (ml M [32] [S40])) _ _ _ _
          refine e_if_eq (pc := 71) (tgt := 78) dX12_part_71 (by decide) (fun hb => ?_) (fun hb => ?_)
          · rw [if_pos hb] at hr37
            refine e_aloadn (pc := 78) (i := 0) dX12_part_78 rfl rfl ?_
            refine e_ldcS (pc := 79) (i := 3) dX12_part_79 (by decide +kernel) (by decide) ?_
            obtain ⟨v42, S43, hq43, hr37⟩ := x_bd2 hr37
            refine e_invV (pc := 81) (K1 := 0) (S1 := 0) (K := 0) (S := 0) (dd2 := 6) (av := [x_r (x_s0 + 3)]) (st := []) (id := 16 * 32 + 0) dX12_part_81 xmX12_112 rfl (Or.inl ⟨10, 27, TX12, (sa_32_0 hs), rfl, by decide⟩) (f_cal (M := M) (us2 := [32]) [0] hn rfl (And.intro rfl trivial) rfl rfl rfl (c_X12_has hst hs  (by decide) hq43)) (by decide) (Nat.le_of_ble_eq_true rfl) (Or.inl rfl) ?_
            show Ev g _ _ _ _ _ _ 84 [some (x_r (16 * 32 + 0)), none] [x_i v42] (al, ro, fl (ml M [32] [S43])) _ _ _ _
            refine e_if_eq (pc := 84) (tgt := 91) dX12_part_84 (by decide) (fun hb => ?_) (fun hb => ?_)
            · rw [if_pos hb] at hr37
              refine e_aloadn (pc := 91) (i := 0) dX12_part_91 rfl rfl ?_
              refine e_ldcS (pc := 92) (i := 27) dX12_part_92 (by decide +kernel) (by decide) ?_
              obtain ⟨v45, S46, hq46, hr37⟩ := x_bd2 hr37
              refine e_invV (pc := 94) (K1 := 0) (S1 := 0) (K := 0) (S := 0) (dd2 := 6) (av := [x_r (x_s0 + 27)]) (st := []) (id := 16 * 32 + 0) dX12_part_94 xmX12_112 rfl (Or.inl ⟨10, 27, TX12, (sa_32_0 hs), rfl, by decide⟩) (f_cal (M := M) (us2 := [32]) [0] hn rfl (And.intro rfl trivial) rfl rfl rfl (c_X12_has hst hs  (by decide) hq46)) (by decide) (Nat.le_of_ble_eq_true rfl) (Or.inl rfl) ?_
              show Ev g _ _ _ _ _ _ 97 [some (x_r (16 * 32 + 0)), none] [x_i v45] (al, ro, fl (ml M [32] [S46])) _ _ _ _
              refine e_if_eq (pc := 97) (tgt := 104) dX12_part_97 (by decide) (fun hb => ?_) (fun hb => ?_)
              · rw [if_pos hb] at hr37
                refine e_aloadn (pc := 104) (i := 0) dX12_part_104 rfl rfl ?_
                refine e_ldcS (pc := 105) (i := 28) dX12_part_105 (by decide +kernel) (by decide) ?_
                obtain ⟨v48, S49, hq49, hr37⟩ := x_bd2 hr37
                refine e_invV (pc := 107) (K1 := 0) (S1 := 0) (K := 0) (S := 0) (dd2 := 6) (av := [x_r (x_s0 + 28)]) (st := []) (id := 16 * 32 + 0) dX12_part_107 xmX12_112 rfl (Or.inl ⟨10, 27, TX12, (sa_32_0 hs), rfl, by decide⟩) (f_cal (M := M) (us2 := [32]) [0] hn rfl (And.intro rfl trivial) rfl rfl rfl (c_X12_has hst hs  (by decide) hq49)) (by decide) (Nat.le_of_ble_eq_true rfl) (Or.inl rfl) ?_
                show Ev g _ _ _ _ _ _ 110 [some (x_r (16 * 32 + 0)), none] [x_i v48] (al, ro, fl (ml M [32] [S49])) _ _ _ _
                refine e_if_eq (pc := 110) (tgt := 117) dX12_part_110 (by decide) (fun hb => ?_) (fun hb => ?_)
                · rw [if_pos hb] at hr37
                  refine e_aloadn (pc := 117) (i := 0) dX12_part_117 rfl rfl ?_
                  refine e_ldcS (pc := 118) (i := 15) dX12_part_118 (by decide +kernel) (by decide) ?_
                  obtain ⟨v51, S52, hq52, hr37⟩ := x_bd2 hr37
                  refine e_invV (pc := 120) (K1 := 0) (S1 := 0) (K := 0) (S := 0) (dd2 := 6) (av := [x_r (x_s0 + 15)]) (st := []) (id := 16 * 32 + 0) dX12_part_120 xmX12_112 rfl (Or.inl ⟨10, 27, TX12, (sa_32_0 hs), rfl, by decide⟩) (f_cal (M := M) (us2 := [32]) [0] hn rfl (And.intro rfl trivial) rfl rfl rfl (c_X12_has hst hs  (by decide) hq52)) (by decide) (Nat.le_of_ble_eq_true rfl) (Or.inl rfl) ?_
                  show Ev g _ _ _ _ _ _ 123 [some (x_r (16 * 32 + 0)), none] [x_i v51] (al, ro, fl (ml M [32] [S52])) _ _ _ _
                  refine e_if_eq (pc := 123) (tgt := 130) dX12_part_123 (by decide) (fun hb => ?_) (fun hb => ?_)
                  · rw [if_pos hb] at hr37
                    refine e_aloadn (pc := 130) (i := 0) dX12_part_130 rfl rfl ?_
                    refine e_ldcS (pc := 131) (i := 2) dX12_part_131 (by decide +kernel) (by decide) ?_
                    obtain ⟨v54, S55, hq55, hr37⟩ := x_bd2 hr37
                    refine e_invV (pc := 133) (K1 := 0) (S1 := 0) (K := 0) (S := 0) (dd2 := 6) (av := [x_r (x_s0 + 2)]) (st := []) (id := 16 * 32 + 0) dX12_part_133 xmX12_112 rfl (Or.inl ⟨10, 27, TX12, (sa_32_0 hs), rfl, by decide⟩) (f_cal (M := M) (us2 := [32]) [0] hn rfl (And.intro rfl trivial) rfl rfl rfl (c_X12_has hst hs  (by decide) hq55)) (by decide) (Nat.le_of_ble_eq_true rfl) (Or.inl rfl) ?_
                    show Ev g _ _ _ _ _ _ 136 [some (x_r (16 * 32 + 0)), none] [x_i v54] (al, ro, fl (ml M [32] [S55])) _ _ _ _
                    refine e_if_eq (pc := 136) (tgt := 144) dX12_part_136 (by decide) (fun hb => ?_) (fun hb => ?_)
                    · rw [if_pos hb] at hr37
                      refine e_iconst (pc := 144) dX12_part_144 (x_R rfl) ?_
                      cases hr37
                      exact hjhr37
                    · rw [if_neg hb] at hr37
                      refine e_bipush (pc := 139) dX12_part_139 (by decide +kernel) (x_R rfl) ?_
                      refine e_goto (pc := 141) (tgt := 145) dX12_part_141 (by decide) ?_
                      cases hr37
                      exact hjhr37
                  · rw [if_neg hb] at hr37
                    refine e_iconst (pc := 126) dX12_part_126 (x_R rfl) ?_
                    refine e_goto (pc := 127) (tgt := 145) dX12_part_127 (by decide) ?_
                    cases hr37
                    exact hjhr37
                · rw [if_neg hb] at hr37
                  refine e_iconst (pc := 113) dX12_part_113 (x_R rfl) ?_
                  refine e_goto (pc := 114) (tgt := 145) dX12_part_114 (by decide) ?_
                  cases hr37
                  exact hjhr37
              · rw [if_neg hb] at hr37
                refine e_iconst (pc := 100) dX12_part_100 (x_R rfl) ?_
                refine e_goto (pc := 101) (tgt := 145) dX12_part_101 (by decide) ?_
                cases hr37
                exact hjhr37
            · rw [if_neg hb] at hr37
              refine e_iconst (pc := 87) dX12_part_87 (x_R rfl) ?_
              refine e_goto (pc := 88) (tgt := 145) dX12_part_88 (by decide) ?_
              cases hr37
              exact hjhr37
          · rw [if_neg hb] at hr37
            refine e_iconst (pc := 74) dX12_part_74 (x_R rfl) ?_
            refine e_goto (pc := 75) (tgt := 145) dX12_part_75 (by decide) ?_
            cases hr37
            exact hjhr37
        · rw [if_neg hb] at hr37
          refine e_iconst (pc := 61) dX12_part_61 (x_R rfl) ?_
          refine e_goto (pc := 62) (tgt := 145) dX12_part_62 (by decide) ?_
          cases hr37
          exact hjhr37
      · rw [if_neg hb] at hG
        refine e_aloadn (pc := 43) (i := 0) dX12_part_43 rfl rfl ?_
        refine e_iconst (pc := 44) dX12_part_44 (x_R rfl) ?_
        refine e_sipush (pc := 45) dX12_part_45 (by decide +kernel) (x_R rfl) ?_
        obtain ⟨v59, S60, hq60, hG⟩ := x_bd2 hG
        refine e_invV (pc := 48) (K1 := 0) (S1 := 0) (K := 0) (S := 0) (dd2 := 3) (av := [x_i 0, x_i 999]) (st := []) (id := 16 * 32 + 0) dX12_part_48 xmX12_116 rfl (Or.inl ⟨10, 27, TX12, (sa_32_0 hs), rfl, by decide⟩) (f_cal (M := M) (us2 := [32]) [0] hn rfl (And.intro rfl trivial) rfl rfl rfl (c_X12_figures hst hs   hq60)) (by decide) (Nat.le_of_ble_eq_true rfl) (Or.inl rfl) ?_
        show Ev g _ _ _ _ _ _ 51 [some (x_r (16 * 32 + 0)), none] [x_i v59] (al, ro, fl (ml M [32] [S60])) _ _ _ _
        cases hG
        exact (e_ireturn rfl dX12_part_51 rfl)
  · rw [if_neg hb] at hG
    refine e_iconst (pc := 8) dX12_part_8 (x_R rfl) ?_
    cases hG
    exact (e_ireturn rfl dX12_part_9 rfl)
def G12_sum_L5  : (Int × xU) → Option ((Int × xU) ⊕ (Int × xU))
  | (v4, S5) => (if (S5 0 12) = (-1) then (x_b2 (G12_isSign 43 S5) fun (v10 : Int) (S11 : xU) => (if v10 = 0 then (some (.inr (v4, S11))) else (x_b2 (G12_part (x_up S11 0 11 (x_add (S11 0 11) 1))) fun (v13 : Int) (S14 : xU) => (some (.inl ((x_add v4 v13), S14)))))) else (some (.inr (v4, S5))))
def G12_sum (S : xU) : Option (Int × xU) :=
  (x_b2 (G12_part S) fun (v1 : Int) (S2 : xU) => (x_b2 (whl xFU G12_sum_L5 (v1, S2)) fun (v6 : Int) (S7 : xU) => (some (v6, S7))))
set_option maxRecDepth 100000 in
set_option maxHeartbeats 4000000 in
theorem c_X12_sum {g : xG} {al : List (Nat × Nat × Nat)} {ro : Nat → Nat → Option Nat} (hst : g.1.stackTraces = false) (hs : SH al ro) {M : Nat → xU} {S : xU} {t : (Int × xU)} (hG : G12_sum S = some t) :
    Cal g yX12_sum cX12_sum 2 (some .int) 8 [x_r (16 * 32 + 0)] (al, ro, fl (ml M [32] [S])) 0 0 (.inl (some (x_i t.1))) (al, ro, fl (ml M [32] [t.2])) := by
  have hn : ([32] : List Nat).Nodup := by decide
  refine cal_of_ev (by decide) (x_c1 rfl) (Nat.le_of_ble_eq_true rfl) hst ?_
  show Ev g _ _ _ _ _ _ 0 [some (x_r (16 * 32 + 0)), none] [] (al, ro, fl (ml M [32] [S])) _ _ _ _
  rw [G12_sum] at hG
  refine e_aloadn (pc := 0) (i := 0) dX12_sum_0 rfl rfl ?_
  obtain ⟨v1, S2, hq2, hG⟩ := x_bd2 hG
  refine e_invV (pc := 1) (K1 := 0) (S1 := 0) (K := 0) (S := 0) (dd2 := 7) (av := []) (st := []) (id := 16 * 32 + 0) dX12_sum_1 xmX12_213 rfl (Or.inl ⟨10, 27, TX12, (sa_32_0 hs), rfl, by decide⟩) (f_cal (M := M) (us2 := [32]) [0] hn rfl (And.intro rfl trivial) rfl rfl rfl (c_X12_part hst hs   hq2)) (by decide) (Nat.le_of_ble_eq_true rfl) (Or.inl rfl) ?_
  show Ev g _ _ _ _ _ _ 4 [some (x_r (16 * 32 + 0)), none] [x_i v1] (al, ro, fl (ml M [32] [S2])) _ _ _ _
  refine e_istoren (pc := 4) (i := 1) dX12_sum_4 rfl (by decide) rfl ?_
  show Ev g _ _ _ _ _ _ 5 [some (x_r (16 * 32 + 0)), some (x_i v1)] [] (al, ro, fl (ml M [32] [S2])) _ _ _ _
  obtain ⟨v6, S7, hl8, hG⟩ := x_bd2 hG
  have hk8 : ∀ q : (Int × xU), q = (v6, S7) → Ev g yX12_sum cX12_sum 2 (some .int) [] 8 42 [some (x_r (16 * 32 + 0)), some (x_i q.1)] [] (al, ro, fl (ml M [32] [q.2])) 0 0 (.inl (some (x_i t.1))) (al, ro, fl (ml M [32] [t.2])) := by
    intro q hq
    cases hq
    refine e_iloadn (pc := 42) (i := 1) dX12_sum_42 rfl rfl ?_
    cases hG
    exact (e_ireturn rfl dX12_sum_43 rfl)
  clear hG
  refine e_whl G12_sum_L5 (fun z : (Int × xU) => Ev g yX12_sum cX12_sum 2 (some .int) [] 8 5 [some (x_r (16 * 32 + 0)), some (x_i z.1)] [] (al, ro, fl (ml M [32] [z.2])) 0 0 (.inl (some (x_i t.1))) (al, ro, fl (ml M [32] [t.2]))) (fun q => q = (v6, S7)) ?_ xFU (v1, S2) _ hl8 rfl
  intro z t8 hf8 hi8 hx8
  obtain ⟨v4, S5⟩ := z
  rw [G12_sum_L5] at hf8
  show Ev g _ _ _ _ _ _ 5 [some (x_r (16 * 32 + 0)), some (x_i v4)] [] (al, ro, fl (ml M [32] [S5])) _ _ _ _
  refine e_aloadn (pc := 5) (i := 0) dX12_sum_5 rfl rfl ?_
  refine f_geti (pc := 6) (k := 0) (u := 32) (q := 0) dX12_sum_6 xf12_25 (sa_32_0 hs) rfl hn rfl rfl (by decide) ?_
  show Ev g _ _ _ _ _ _ 9 [some (x_r (16 * 32 + 0)), some (x_i v4)] [x_i (S5 0 12)] (al, ro, fl (ml M [32] [S5])) _ _ _ _
  refine e_iconst (pc := 9) dX12_sum_9 (x_R rfl) ?_
  refine e_icmp_ne (pc := 10) (tgt := 42) dX12_sum_10 (by decide) (fun hb => ?_) (fun hb => ?_)
  · rw [if_neg hb] at hf8
    cases hf8
    exact hk8 _ (hx8 _ rfl)
  · rw [if_pos hb] at hf8
    refine e_aloadn (pc := 13) (i := 0) dX12_sum_13 rfl rfl ?_
    refine e_bipush (pc := 14) dX12_sum_14 (by decide +kernel) (x_R rfl) ?_
    obtain ⟨v10, S11, hq11, hf8⟩ := x_bd2 hf8
    refine e_invV (pc := 16) (K1 := 0) (S1 := 0) (K := 0) (S := 0) (dd2 := 2) (av := [x_i 43]) (st := []) (id := 16 * 32 + 0) dX12_sum_16 xmX12_189 rfl (Or.inl ⟨10, 27, TX12, (sa_32_0 hs), rfl, by decide⟩) (f_cal (M := M) (us2 := [32]) [0] hn rfl (And.intro rfl trivial) rfl rfl rfl (c_X12_isSign hst hs   hq11)) (by decide) (Nat.le_of_ble_eq_true rfl) (Or.inl rfl) ?_
    show Ev g _ _ _ _ _ _ 19 [some (x_r (16 * 32 + 0)), some (x_i v4)] [x_i v10] (al, ro, fl (ml M [32] [S11])) _ _ _ _
    refine e_if_eq (pc := 19) (tgt := 42) dX12_sum_19 (by decide) (fun hb => ?_) (fun hb => ?_)
    · rw [if_pos hb] at hf8
      cases hf8
      exact hk8 _ (hx8 _ rfl)
    · rw [if_neg hb] at hf8
      refine e_aloadn (pc := 22) (i := 0) dX12_sum_22 rfl rfl ?_
      refine e_dup (pc := 23) dX12_sum_23 rfl ?_
      refine f_geti (pc := 24) (k := 0) (u := 32) (q := 0) dX12_sum_24 xf12_82 (sa_32_0 hs) rfl hn rfl rfl (by decide) ?_
      show Ev g _ _ _ _ _ _ 27 [some (x_r (16 * 32 + 0)), some (x_i v4)] [x_i (S11 0 11), x_r (16 * 32 + 0)] (al, ro, fl (ml M [32] [S11])) _ _ _ _
      refine e_iconst (pc := 27) dX12_sum_27 (x_R rfl) ?_
      refine e_iadd (pc := 28) dX12_sum_28 ?_
      refine f_puti (pc := 29) (k := 0) (u := 32) (q := 0) dX12_sum_29 xf12_82 xw10_11 (sa_32_0 hs) hn rfl rfl rfl (by decide) ?_
      show Ev g _ _ _ _ _ _ 32 [some (x_r (16 * 32 + 0)), some (x_i v4)] [] (al, ro, fl (ml M [32] [(x_up S11 0 11 (x_add (S11 0 11) 1))])) _ _ _ _
      refine e_iloadn (pc := 32) (i := 1) dX12_sum_32 rfl rfl ?_
      refine e_aloadn (pc := 33) (i := 0) dX12_sum_33 rfl rfl ?_
      obtain ⟨v13, S14, hq14, hf8⟩ := x_bd2 hf8
      refine e_invV (pc := 34) (K1 := 0) (S1 := 0) (K := 0) (S := 0) (dd2 := 7) (av := []) (st := [x_i v4]) (id := 16 * 32 + 0) dX12_sum_34 xmX12_213 rfl (Or.inl ⟨10, 27, TX12, (sa_32_0 hs), rfl, by decide⟩) (f_cal (M := M) (us2 := [32]) [0] hn rfl (And.intro rfl trivial) rfl rfl rfl (c_X12_part hst hs   hq14)) (by decide) (Nat.le_of_ble_eq_true rfl) (Or.inl rfl) ?_
      show Ev g _ _ _ _ _ _ 37 [some (x_r (16 * 32 + 0)), some (x_i v4)] [x_i v13, x_i v4] (al, ro, fl (ml M [32] [S14])) _ _ _ _
      refine e_iadd (pc := 37) dX12_sum_37 ?_
      refine e_istoren (pc := 38) (i := 1) dX12_sum_38 rfl (by decide) rfl ?_
      show Ev g _ _ _ _ _ _ 39 [some (x_r (16 * 32 + 0)), some (x_i (x_add v4 v13))] [] (al, ro, fl (ml M [32] [S14])) _ _ _ _
      refine e_goto (pc := 39) (tgt := 5) dX12_sum_39 (by decide) ?_
      cases hf8
      exact hi8 _ rfl
