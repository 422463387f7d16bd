set_option maxRecDepth 100000 in
set_option maxHeartbeats 4000000 in
theorem c_X12_cloisterLine {g : xG} {al : List (Nat × Nat × Nat)} {ro : Nat → Nat → Option Nat} (hst : g.1.stackTraces = false) (hs : SH al ro) {M : Nat → xU} {S : xU}  {t : xU} (hG : G12_cloisterLine S = some t) :
    Cal g yX12_cloisterLine cX12_cloisterLine 3 none 9 [x_r (16 * 32 + 0)] (al, ro, fl (ml M [32] [S])) 0 0 (.inl none) (al, ro, fl (ml M [32] [t])) := by
  have hn : ([32] : List Nat).Nodup := by decide
  refine cal_of_ev (plainFor_of_name (by decide)) (x_c1 rfl) (Nat.le_of_ble_eq_true rfl) hst ?_
  show Ev g _ _ _ _ _ _ 0 [some (x_r (16 * 32 + 0)), none, none] [] (al, ro, fl (ml M [32] [S])) _ _ _ _
  rw [G12_cloisterLine] at hG
  refine e_aloadn (pc := 0) (i := 0) dX12_cloisterLine_0 rfl rfl ?_
  obtain ⟨v1, S2, hq2, hG⟩ := x_bd2 hG
  refine e_invV (pc := 1) (K1 := 0) (S1 := 0) (K := 0) (S := 0) (dd2 := 2) (av := []) (st := []) (id := 16 * 32 + 0) dX12_cloisterLine_1 xmX12_105 rfl (Or.inl ⟨10, 27, TX12, (sa_32_0 hs), rfl, by decide⟩) (f_cal (M := M) (us2 := [32]) [0] hn rfl (And.intro rfl trivial) rfl rfl rfl (c_X12_here hst hs   hq2)) (by decide) (Nat.le_of_ble_eq_true rfl) (Or.inl rfl) ?_
  show Ev g _ _ _ _ _ _ 4 [some (x_r (16 * 32 + 0)), none, none] [x_i v1] (al, ro, fl (ml M [32] [S2])) _ _ _ _
  refine e_istoren (pc := 4) (i := 1) dX12_cloisterLine_4 rfl (by decide) rfl ?_
  show Ev g _ _ _ _ _ _ 5 [some (x_r (16 * 32 + 0)), some (x_i v1), none] [] (al, ro, fl (ml M [32] [S2])) _ _ _ _
  refine e_aloadn (pc := 5) (i := 0) dX12_cloisterLine_5 rfl rfl ?_
  refine e_ldcS (pc := 6) (i := 0) (tx := "monk") dX12_cloisterLine_6 (List.mem_of_getElem? (i := 40) rfl) (by decide) ?_
  obtain ⟨v4, S5, hq5, hG⟩ := x_bd2 hG
  refine e_invV (pc := 8) (K1 := 0) (S1 := 0) (K := 0) (S := 0) (dd2 := 6) (av := [x_r (x_s0 + 0)]) (st := []) (id := 16 * 32 + 0) dX12_cloisterLine_8 xmX12_112 rfl (Or.inl ⟨10, 27, TX12, (sa_32_0 hs), rfl, by decide⟩) (f_cal (M := M) (us2 := [32]) [0] hn rfl (And.intro rfl trivial) rfl rfl rfl (c_X12_has hst hs  (by decide) hq5)) (by decide) (Nat.le_of_ble_eq_true rfl) (Or.inl rfl) ?_
  show Ev g _ _ _ _ _ _ 11 [some (x_r (16 * 32 + 0)), some (x_i v1), none] [x_i v4] (al, ro, fl (ml M [32] [S5])) _ _ _ _
  obtain ⟨S7, hr7, hG⟩ := x_bd1 hG
  have hjhr7 : Ev g yX12_cloisterLine cX12_cloisterLine 3 none [] 9 198 [some (x_r (16 * 32 + 0)), some (x_i v1), none] [] (al, ro, fl (ml M [32] [S7])) 0 0 (.inl none) (al, ro, fl (ml M [32] [t])) := by
    cases hG
    exact (e_return rfl dX12_cloisterLine_198)
  clear hG
  refine e_if_eq (pc := 11) (tgt := 22) dX12_cloisterLine_11 (by decide) (fun hb => ?_) (fun hb => ?_)
  · rw [if_pos hb] at hr7
    refine e_aloadn (pc := 22) (i := 0) dX12_cloisterLine_22 rfl rfl ?_
    refine e_ldcS (pc := 23) (i := 5) (tx := "bell") dX12_cloisterLine_23 (List.mem_of_getElem? (i := 51) rfl) (by decide) ?_
    obtain ⟨v9, S10, hq10, hr7⟩ := x_bd2 hr7
    refine e_invV (pc := 25) (K1 := 0) (S1 := 0) (K := 0) (S := 0) (dd2 := 6) (av := [x_r (x_s0 + 5)]) (st := []) (id := 16 * 32 + 0) dX12_cloisterLine_25 xmX12_112 rfl (Or.inl ⟨10, 27, TX12, (sa_32_0 hs), rfl, by decide⟩) (f_cal (M := M) (us2 := [32]) [0] hn rfl (And.intro rfl trivial) rfl rfl rfl (c_X12_has hst hs  (by decide) hq10)) (by decide) (Nat.le_of_ble_eq_true rfl) (Or.inl rfl) ?_
    show Ev g _ _ _ _ _ _ 28 [some (x_r (16 * 32 + 0)), some (x_i v1), none] [x_i v9] (al, ro, fl (ml M [32] [S10])) _ _ _ _
    refine e_if_eq (pc := 28) (tgt := 43) dX12_cloisterLine_28 (by decide) (fun hb => ?_) (fun hb => ?_)
    · rw [if_pos hb] at hr7
      refine e_aloadn (pc := 43) (i := 0) dX12_cloisterLine_43 rfl rfl ?_
      refine e_ldcS (pc := 44) (i := 6) (tx := "mood") dX12_cloisterLine_44 (List.mem_of_getElem? (i := 52) rfl) (by decide) ?_
      obtain ⟨v12, S13, hq13, hr7⟩ := x_bd2 hr7
      refine e_invV (pc := 46) (K1 := 0) (S1 := 0) (K := 0) (S := 0) (dd2 := 6) (av := [x_r (x_s0 + 6)]) (st := []) (id := 16 * 32 + 0) dX12_cloisterLine_46 xmX12_112 rfl (Or.inl ⟨10, 27, TX12, (sa_32_0 hs), rfl, by decide⟩) (f_cal (M := M) (us2 := [32]) [0] hn rfl (And.intro rfl trivial) rfl rfl rfl (c_X12_has hst hs  (by decide) hq13)) (by decide) (Nat.le_of_ble_eq_true rfl) (Or.inl rfl) ?_
      show Ev g _ _ _ _ _ _ 49 [some (x_r (16 * 32 + 0)), some (x_i v1), none] [x_i v12] (al, ro, fl (ml M [32] [S13])) _ _ _ _
      refine e_if_eq (pc := 49) (tgt := 77) dX12_cloisterLine_49 (by decide) (fun hb => ?_) (fun hb => ?_)
      · rw [if_pos hb] at hr7
        refine e_aloadn (pc := 77) (i := 0) dX12_cloisterLine_77 rfl rfl ?_
        refine e_ldcS (pc := 78) (i := 12) (tx := "fickle") dX12_cloisterLine_78 (List.mem_of_getElem? (i := 58) rfl) (by decide) ?_
        obtain ⟨v15, S16, hq16, hr7⟩ := x_bd2 hr7
        refine e_invV (pc := 80) (K1 := 0) (S1 := 0) (K := 0) (S := 0) (dd2 := 6) (av := [x_r (x_s0 + 12)]) (st := []) (id := 16 * 32 + 0) dX12_cloisterLine_80 xmX12_112 rfl (Or.inl ⟨10, 27, TX12, (sa_32_0 hs), rfl, by decide⟩) (f_cal (M := M) (us2 := [32]) [0] hn rfl (And.intro rfl trivial) rfl rfl rfl (c_X12_has hst hs  (by decide) hq16)) (by decide) (Nat.le_of_ble_eq_true rfl) (Or.inl rfl) ?_
        show Ev g _ _ _ _ _ _ 83 [some (x_r (16 * 32 + 0)), some (x_i v1), none] [x_i v15] (al, ro, fl (ml M [32] [S16])) _ _ _ _
        refine e_if_eq (pc := 83) (tgt := 98) dX12_cloisterLine_83 (by decide) (fun hb => ?_) (fun hb => ?_)
        · rw [if_pos hb] at hr7
          refine e_aloadn (pc := 98) (i := 0) dX12_cloisterLine_98 rfl rfl ?_
          refine e_ldcS (pc := 99) (i := 13) (tx := "grass") dX12_cloisterLine_99 (List.mem_of_getElem? (i := 59) rfl) (by decide) ?_
          obtain ⟨v18, S19, hq19, hr7⟩ := x_bd2 hr7
          refine e_invV (pc := 101) (K1 := 0) (S1 := 0) (K := 0) (S := 0) (dd2 := 6) (av := [x_r (x_s0 + 13)]) (st := []) (id := 16 * 32 + 0) dX12_cloisterLine_101 xmX12_112 rfl (Or.inl ⟨10, 27, TX12, (sa_32_0 hs), rfl, by decide⟩) (f_cal (M := M) (us2 := [32]) [0] hn rfl (And.intro rfl trivial) rfl rfl rfl (c_X12_has hst hs  (by decide) hq19)) (by decide) (Nat.le_of_ble_eq_true rfl) (Or.inl rfl) ?_
          show Ev g _ _ _ _ _ _ 104 [some (x_r (16 * 32 + 0)), some (x_i v1), none] [x_i v18] (al, ro, fl (ml M [32] [S19])) _ _ _ _
          refine e_if_eq (pc := 104) (tgt := 119) dX12_cloisterLine_104 (by decide) (fun hb => ?_) (fun hb => ?_)
          · rw [if_pos hb] at hr7
            refine e_aloadn (pc := 119) (i := 0) dX12_cloisterLine_119 rfl rfl ?_
            refine e_ldcS (pc := 120) (i := 14) (tx := "store") dX12_cloisterLine_120 (List.mem_of_getElem? (i := 60) rfl) (by decide) ?_
            obtain ⟨v21, S22, hq22, hr7⟩ := x_bd2 hr7
            refine e_invV (pc := 122) (K1 := 0) (S1 := 0) (K := 0) (S := 0) (dd2 := 6) (av := [x_r (x_s0 + 14)]) (st := []) (id := 16 * 32 + 0) dX12_cloisterLine_122 xmX12_112 rfl (Or.inl ⟨10, 27, TX12, (sa_32_0 hs), rfl, by decide⟩) (f_cal (M := M) (us2 := [32]) [0] hn rfl (And.intro rfl trivial) rfl rfl rfl (c_X12_has hst hs  (by decide) hq22)) (by decide) (Nat.le_of_ble_eq_true rfl) (Or.inl rfl) ?_
            show Ev g _ _ _ _ _ _ 125 [some (x_r (16 * 32 + 0)), some (x_i v1), none] [x_i v21] (al, ro, fl (ml M [32] [S22])) _ _ _ _
            refine e_if_eq (pc := 125) (tgt := 149) dX12_cloisterLine_125 (by decide) (fun hb => ?_) (fun hb => ?_)
            · rw [if_pos hb] at hr7
              refine e_aloadn (pc := 149) (i := 0) dX12_cloisterLine_149 rfl rfl ?_
              refine e_ldcS (pc := 150) (i := 15) (tx := "hour") dX12_cloisterLine_150 (List.mem_of_getElem? (i := 45) rfl) (by decide) ?_
              obtain ⟨v24, S25, hq25, hr7⟩ := x_bd2 hr7
              refine e_invV (pc := 152) (K1 := 0) (S1 := 0) (K := 0) (S := 0) (dd2 := 6) (av := [x_r (x_s0 + 15)]) (st := []) (id := 16 * 32 + 0) dX12_cloisterLine_152 xmX12_112 rfl (Or.inl ⟨10, 27, TX12, (sa_32_0 hs), rfl, by decide⟩) (f_cal (M := M) (us2 := [32]) [0] hn rfl (And.intro rfl trivial) rfl rfl rfl (c_X12_has hst hs  (by decide) hq25)) (by decide) (Nat.le_of_ble_eq_true rfl) (Or.inl rfl) ?_
              show Ev g _ _ _ _ _ _ 155 [some (x_r (16 * 32 + 0)), some (x_i v1), none] [x_i v24] (al, ro, fl (ml M [32] [S25])) _ _ _ _
              refine e_if_eq (pc := 155) (tgt := 169) dX12_cloisterLine_155 (by decide) (fun hb => ?_) (fun hb => ?_)
              · rw [if_pos hb] at hr7
                refine e_aloadn (pc := 169) (i := 0) dX12_cloisterLine_169 rfl rfl ?_
                refine e_ldcS (pc := 170) (i := 16) (tx := "day") dX12_cloisterLine_170 (List.mem_of_getElem? (i := 61) rfl) (by decide) ?_
                obtain ⟨v27, S28, hq28, hr7⟩ := x_bd2 hr7
                refine e_invV (pc := 172) (K1 := 0) (S1 := 0) (K := 0) (S := 0) (dd2 := 6) (av := [x_r (x_s0 + 16)]) (st := []) (id := 16 * 32 + 0) dX12_cloisterLine_172 xmX12_112 rfl (Or.inl ⟨10, 27, TX12, (sa_32_0 hs), rfl, by decide⟩) (f_cal (M := M) (us2 := [32]) [0] hn rfl (And.intro rfl trivial) rfl rfl rfl (c_X12_has hst hs  (by decide) hq28)) (by decide) (Nat.le_of_ble_eq_true rfl) (Or.inl rfl) ?_
                show Ev g _ _ _ _ _ _ 175 [some (x_r (16 * 32 + 0)), some (x_i v1), none] [x_i v27] (al, ro, fl (ml M [32] [S28])) _ _ _ _
                refine e_if_eq (pc := 175) (tgt := 190) dX12_cloisterLine_175 (by decide) (fun hb => ?_) (fun hb => ?_)
                · rw [if_pos hb] at hr7
                  refine e_aloadn (pc := 190) (i := 0) dX12_cloisterLine_190 rfl rfl ?_
                  refine e_aloadn (pc := 191) (i := 0) dX12_cloisterLine_191 rfl rfl ?_
                  refine f_geti (pc := 192) (k := 0) (u := 32) (q := 0) dX12_cloisterLine_192 xf12_82 (sa_32_0 hs) rfl hn rfl rfl (by decide) ?_
                  show Ev g _ _ _ _ _ _ 195 [some (x_r (16 * 32 + 0)), some (x_i v1), none] [x_i (S28 0 11), x_r (16 * 32 + 0)] (al, ro, fl (ml M [32] [S28])) _ _ _ _
                  obtain ⟨S30, hq30, hr7⟩ := x_bd1 hr7
                  refine e_invV (pc := 195) (K1 := 0) (S1 := 0) (K := 0) (S := 0) (dd2 := 0) (av := [x_i (S28 0 11)]) (st := []) (id := 16 * 32 + 0) dX12_cloisterLine_195 xmX12_108 rfl (Or.inl ⟨10, 27, TX12, (sa_32_0 hs), rfl, by decide⟩) (f_cal (M := M) (us2 := [32]) [0] hn rfl (And.intro rfl trivial) rfl rfl rfl (c_X12_wrong hst hs   hq30)) (by decide) (Nat.le_of_ble_eq_true rfl) (Or.inl rfl) ?_
                  show Ev g _ _ _ _ _ _ 198 [some (x_r (16 * 32 + 0)), some (x_i v1), none] [] (al, ro, fl (ml M [32] [S30])) _ _ _ _
                  cases hr7
                  exact hjhr7
                · rw [if_neg hb] at hr7
                  refine e_aloadn (pc := 178) (i := 0) dX12_cloisterLine_178 rfl rfl ?_
                  refine e_iconst (pc := 179) dX12_cloisterLine_179 (x_R rfl) ?_
                  refine e_iconst (pc := 180) dX12_cloisterLine_180 (x_R rfl) ?_
                  refine e_sipush (pc := 181) dX12_cloisterLine_181 (by decide +kernel) (x_R rfl) ?_
                  obtain ⟨S32, hq32, hr7⟩ := x_bd1 hr7
                  refine e_invV (pc := 184) (K1 := 0) (S1 := 0) (K := 0) (S := 0) (dd2 := 4) (av := [x_i 5, x_i 0, x_i 999]) (st := []) (id := 16 * 32 + 0) dX12_cloisterLine_184 xmX12_161 rfl (Or.inl ⟨10, 27, TX12, (sa_32_0 hs), rfl, by decide⟩) (f_cal (M := M) (us2 := [32]) [0] hn rfl (And.intro rfl trivial) rfl rfl rfl (c_X12_says hst hs   hq32)) (by decide) (Nat.le_of_ble_eq_true rfl) (Or.inl rfl) ?_
                  show Ev g _ _ _ _ _ _ 187 [some (x_r (16 * 32 + 0)), some (x_i v1), none] [] (al, ro, fl (ml M [32] [S32])) _ _ _ _
                  refine e_goto (pc := 187) (tgt := 198) dX12_cloisterLine_187 (by decide) ?_
                  cases hr7
                  exact hjhr7
              · rw [if_neg hb] at hr7
                refine e_aloadn (pc := 158) (i := 0) dX12_cloisterLine_158 rfl rfl ?_
                refine e_iconst (pc := 159) dX12_cloisterLine_159 (x_R rfl) ?_
                refine e_iconst (pc := 160) dX12_cloisterLine_160 (x_R rfl) ?_
                refine e_bipush (pc := 161) dX12_cloisterLine_161 (by decide +kernel) (x_R rfl) ?_
                obtain ⟨S34, hq34, hr7⟩ := x_bd1 hr7
                refine e_invV (pc := 163) (K1 := 0) (S1 := 0) (K := 0) (S := 0) (dd2 := 4) (av := [x_i 4, x_i 0, x_i 23]) (st := []) (id := 16 * 32 + 0) dX12_cloisterLine_163 xmX12_161 rfl (Or.inl ⟨10, 27, TX12, (sa_32_0 hs), rfl, by decide⟩) (f_cal (M := M) (us2 := [32]) [0] hn rfl (And.intro rfl trivial) rfl rfl rfl (c_X12_says hst hs   hq34)) (by decide) (Nat.le_of_ble_eq_true rfl) (Or.inl rfl) ?_
                show Ev g _ _ _ _ _ _ 166 [some (x_r (16 * 32 + 0)), some (x_i v1), none] [] (al, ro, fl (ml M [32] [S34])) _ _ _ _
                refine e_goto (pc := 166) (tgt := 198) dX12_cloisterLine_166 (by decide) ?_
                cases hr7
                exact hjhr7
            · rw [if_neg hb] at hr7
              refine e_aloadn (pc := 128) (i := 0) dX12_cloisterLine_128 rfl rfl ?_
              refine e_iconst (pc := 129) dX12_cloisterLine_129 (x_R rfl) ?_
              obtain ⟨v36, S37, hq37, hr7⟩ := x_bd2 hr7
              refine e_invV (pc := 130) (K1 := 0) (S1 := 0) (K := 0) (S := 0) (dd2 := 7) (av := [x_i 0]) (st := []) (id := 16 * 32 + 0) dX12_cloisterLine_130 xmX12_166 rfl (Or.inl ⟨10, 27, TX12, (sa_32_0 hs), rfl, by decide⟩) (f_cal (M := M) (us2 := [32]) [0] hn rfl (And.intro rfl trivial) rfl rfl rfl (c_X12_seasonName hst hs   hq37)) (by decide) (Nat.le_of_ble_eq_true rfl) (Or.inl rfl) ?_
              show Ev g _ _ _ _ _ _ 133 [some (x_r (16 * 32 + 0)), some (x_i v1), none] [x_i v36] (al, ro, fl (ml M [32] [S37])) _ _ _ _
              refine e_istoren (pc := 133) (i := 2) dX12_cloisterLine_133 rfl (by decide) rfl ?_
              show Ev g _ _ _ _ _ _ 134 [some (x_r (16 * 32 + 0)), some (x_i v1), some (x_i v36)] [] (al, ro, fl (ml M [32] [S37])) _ _ _ _
              refine e_aloadn (pc := 134) (i := 0) dX12_cloisterLine_134 rfl rfl ?_
              refine e_bipush (pc := 135) dX12_cloisterLine_135 (by decide +kernel) (x_R rfl) ?_
              refine e_iloadn (pc := 137) (i := 2) dX12_cloisterLine_137 rfl rfl ?_
              refine e_iadd (pc := 138) dX12_cloisterLine_138 ?_
              refine e_iconst (pc := 139) dX12_cloisterLine_139 (x_R rfl) ?_
              refine e_sipush (pc := 140) dX12_cloisterLine_140 (by decide +kernel) (x_R rfl) ?_
              obtain ⟨S39, hq39, hr7⟩ := x_bd1 hr7
              refine e_invV (pc := 143) (K1 := 0) (S1 := 0) (K := 0) (S := 0) (dd2 := 4) (av := [x_i (x_add 12 v36), x_i 0, x_i 999]) (st := []) (id := 16 * 32 + 0) dX12_cloisterLine_143 xmX12_161 rfl (Or.inl ⟨10, 27, TX12, (sa_32_0 hs), rfl, by decide⟩) (f_cal (M := M) (us2 := [32]) [0] hn rfl (And.intro rfl trivial) rfl rfl rfl (c_X12_says hst hs   hq39)) (by decide) (Nat.le_of_ble_eq_true rfl) (Or.inl rfl) ?_
              show Ev g _ _ _ _ _ _ 146 [some (x_r (16 * 32 + 0)), some (x_i v1), some (x_i v36)] [] (al, ro, fl (ml M [32] [S39])) _ _ _ _
              refine e_goto (pc := 146) (tgt := 198) dX12_cloisterLine_146 (by decide) ?_
              cases hr7
              refine e_drop (i := 2) ?_
              exact hjhr7
          · rw [if_neg hb] at hr7
            refine e_aloadn (pc := 107) (i := 0) dX12_cloisterLine_107 rfl rfl ?_
            refine e_bipush (pc := 108) dX12_cloisterLine_108 (by decide +kernel) (x_R rfl) ?_
            refine e_iconst (pc := 110) dX12_cloisterLine_110 (x_R rfl) ?_
            refine e_bipush (pc := 111) dX12_cloisterLine_111 (by decide +kernel) (x_R rfl) ?_
            obtain ⟨S41, hq41, hr7⟩ := x_bd1 hr7
            refine e_invV (pc := 113) (K1 := 0) (S1 := 0) (K := 0) (S := 0) (dd2 := 4) (av := [x_i 9, x_i 0, x_i 20]) (st := []) (id := 16 * 32 + 0) dX12_cloisterLine_113 xmX12_161 rfl (Or.inl ⟨10, 27, TX12, (sa_32_0 hs), rfl, by decide⟩) (f_cal (M := M) (us2 := [32]) [0] hn rfl (And.intro rfl trivial) rfl rfl rfl (c_X12_says hst hs   hq41)) (by decide) (Nat.le_of_ble_eq_true rfl) (Or.inl rfl) ?_
            show Ev g _ _ _ _ _ _ 116 [some (x_r (16 * 32 + 0)), some (x_i v1), none] [] (al, ro, fl (ml M [32] [S41])) _ _ _ _
            refine e_goto (pc := 116) (tgt := 198) dX12_cloisterLine_116 (by decide) ?_
            cases hr7
            exact hjhr7
        · rw [if_neg hb] at hr7
          refine e_aloadn (pc := 86) (i := 0) dX12_cloisterLine_86 rfl rfl ?_
          refine e_bipush (pc := 87) dX12_cloisterLine_87 (by decide +kernel) (x_R rfl) ?_
          refine e_iconst (pc := 89) dX12_cloisterLine_89 (x_R rfl) ?_
          refine e_bipush (pc := 90) dX12_cloisterLine_90 (by decide +kernel) (x_R rfl) ?_
          obtain ⟨S43, hq43, hr7⟩ := x_bd1 hr7
          refine e_invV (pc := 92) (K1 := 0) (S1 := 0) (K := 0) (S := 0) (dd2 := 4) (av := [x_i 8, x_i 0, x_i 100]) (st := []) (id := 16 * 32 + 0) dX12_cloisterLine_92 xmX12_161 rfl (Or.inl ⟨10, 27, TX12, (sa_32_0 hs), rfl, by decide⟩) (f_cal (M := M) (us2 := [32]) [0] hn rfl (And.intro rfl trivial) rfl rfl rfl (c_X12_says hst hs   hq43)) (by decide) (Nat.le_of_ble_eq_true rfl) (Or.inl rfl) ?_
          show Ev g _ _ _ _ _ _ 95 [some (x_r (16 * 32 + 0)), some (x_i v1), none] [] (al, ro, fl (ml M [32] [S43])) _ _ _ _
          refine e_goto (pc := 95) (tgt := 198) dX12_cloisterLine_95 (by decide) ?_
          cases hr7
          exact hjhr7
      · rw [if_neg hb] at hr7
        refine e_aloadn (pc := 52) (i := 0) dX12_cloisterLine_52 rfl rfl ?_
        refine e_iconst (pc := 53) dX12_cloisterLine_53 (x_R rfl) ?_
        obtain ⟨v45, S46, hq46, hr7⟩ := x_bd2 hr7
        refine e_invV (pc := 54) (K1 := 0) (S1 := 0) (K := 0) (S := 0) (dd2 := 7) (av := [x_i 1]) (st := []) (id := 16 * 32 + 0) dX12_cloisterLine_54 xmX12_166 rfl (Or.inl ⟨10, 27, TX12, (sa_32_0 hs), rfl, by decide⟩) (f_cal (M := M) (us2 := [32]) [0] hn rfl (And.intro rfl trivial) rfl rfl rfl (c_X12_seasonName hst hs   hq46)) (by decide) (Nat.le_of_ble_eq_true rfl) (Or.inl rfl) ?_
        show Ev g _ _ _ _ _ _ 57 [some (x_r (16 * 32 + 0)), some (x_i v1), none] [x_i v45] (al, ro, fl (ml M [32] [S46])) _ _ _ _
        refine e_istoren (pc := 57) (i := 2) dX12_cloisterLine_57 rfl (by decide) rfl ?_
        show Ev g _ _ _ _ _ _ 58 [some (x_r (16 * 32 + 0)), some (x_i v1), some (x_i v45)] [] (al, ro, fl (ml M [32] [S46])) _ _ _ _
        refine e_aloadn (pc := 58) (i := 0) dX12_cloisterLine_58 rfl rfl ?_
        refine f_geti (pc := 59) (k := 0) (u := 32) (q := 0) dX12_cloisterLine_59 xf12_25 (sa_32_0 hs) rfl hn rfl rfl (by decide) ?_
        show Ev g _ _ _ _ _ _ 62 [some (x_r (16 * 32 + 0)), some (x_i v1), some (x_i v45)] [x_i (S46 0 12)] (al, ro, fl (ml M [32] [S46])) _ _ _ _
        refine e_iconst (pc := 62) dX12_cloisterLine_62 (x_R rfl) ?_
        obtain ⟨S48, hr48, hr7⟩ := x_bd1 hr7
        have hjhr48 : Ev g yX12_cloisterLine cX12_cloisterLine 3 none [] 9 74 [some (x_r (16 * 32 + 0)), some (x_i v1), some (x_i v45)] [] (al, ro, fl (ml M [32] [S48])) 0 0 (.inl none) (al, ro, fl (ml M [32] [t])) := by
          refine e_goto (pc := 74) (tgt := 198) dX12_cloisterLine_74 (by decide) ?_
          cases hr7
          refine e_drop (i := 2) ?_
          exact hjhr7
        clear hr7
        refine e_icmp_ne (pc := 63) (tgt := 74) dX12_cloisterLine_63 (by decide) (fun hb => ?_) (fun hb => ?_)
        · rw [if_neg hb] at hr48
          cases hr48
          exact hjhr48
        · rw [if_pos hb] at hr48
          refine e_aloadn (pc := 66) (i := 0) dX12_cloisterLine_66 rfl rfl ?_
          refine f_getr (pc := 67) (u := 32) (q := 0) dX12_cloisterLine_67 xf12_7 (sa_32_0 hs) rfl (sr_32_0_1 hs) ?_
          refine e_bipush (pc := 70) dX12_cloisterLine_70 (by decide +kernel) (x_R rfl) ?_
          refine e_iloadn (pc := 72) (i := 2) dX12_cloisterLine_72 rfl rfl ?_
          refine f_iast (pc := 73) (k := 0) (u := 32) (q := 1) (len := 772) dX12_cloisterLine_73 (sa_32_1 hs) (by decide) hn rfl rfl rfl (by decide) ?_
          show Ev g _ _ _ _ _ _ 74 [some (x_r (16 * 32 + 0)), some (x_i v1), some (x_i v45)] [] (al, ro, fl (ml M [32] [(x_up S46 1 7 v45)])) _ _ _ _
          cases hr48
          exact hjhr48
    · rw [if_neg hb] at hr7
      refine e_aloadn (pc := 31) (i := 0) dX12_cloisterLine_31 rfl rfl ?_
      refine e_bipush (pc := 32) dX12_cloisterLine_32 (by decide +kernel) (x_R rfl) ?_
      refine e_iconst (pc := 34) dX12_cloisterLine_34 (x_R rfl) ?_
      refine e_bipush (pc := 35) dX12_cloisterLine_35 (by decide +kernel) (x_R rfl) ?_
      obtain ⟨S50, hq50, hr7⟩ := x_bd1 hr7
      refine e_invV (pc := 37) (K1 := 0) (S1 := 0) (K := 0) (S := 0) (dd2 := 4) (av := [x_i 6, x_i 0, x_i 15]) (st := []) (id := 16 * 32 + 0) dX12_cloisterLine_37 xmX12_161 rfl (Or.inl ⟨10, 27, TX12, (sa_32_0 hs), rfl, by decide⟩) (f_cal (M := M) (us2 := [32]) [0] hn rfl (And.intro rfl trivial) rfl rfl rfl (c_X12_says hst hs   hq50)) (by decide) (Nat.le_of_ble_eq_true rfl) (Or.inl rfl) ?_
      show Ev g _ _ _ _ _ _ 40 [some (x_r (16 * 32 + 0)), some (x_i v1), none] [] (al, ro, fl (ml M [32] [S50])) _ _ _ _
      refine e_goto (pc := 40) (tgt := 198) dX12_cloisterLine_40 (by decide) ?_
      cases hr7
      exact hjhr7
  · rw [if_neg hb] at hr7
    refine e_aloadn (pc := 14) (i := 0) dX12_cloisterLine_14 rfl rfl ?_
    refine e_iloadn (pc := 15) (i := 1) dX12_cloisterLine_15 rfl rfl ?_
    obtain ⟨S52, hq52, hr7⟩ := x_bd1 hr7
    refine e_invV (pc := 16) (K1 := 0) (S1 := 0) (K := 0) (S := 0) (dd2 := 8) (av := [x_i v1]) (st := []) (id := 16 * 32 + 0) dX12_cloisterLine_16 xmX12_156 rfl (Or.inl ⟨10, 27, TX12, (sa_32_0 hs), rfl, by decide⟩) (f_cal (M := M) (us2 := [32]) [0] hn rfl (And.intro rfl trivial) rfl rfl rfl (c_X12_monkLine hst hs   hq52)) (by decide) (Nat.le_of_ble_eq_true rfl) (Or.inl rfl) ?_
    show Ev g _ _ _ _ _ _ 19 [some (x_r (16 * 32 + 0)), some (x_i v1), none] [] (al, ro, fl (ml M [32] [S52])) _ _ _ _
    refine e_goto (pc := 19) (tgt := 198) dX12_cloisterLine_19 (by decide) ?_
    cases hr7
    exact hjhr7
set_option maxRecDepth 100000 in
set_option maxHeartbeats 4000000 in
theorem c_X12_begins {g : xG} {al : List (Nat × Nat × Nat)} {ro : Nat → Nat → Option Nat} (hst : g.1.stackTraces = false) (hs : SH al ro) {M : Nat → xU} {S : xU}  {t : xU} (hG : G12_begins S = some t) :
    Cal g yX12_begins cX12_begins 1 none 0 [x_r (16 * 32 + 0)] (al, ro, fl (ml M [32] [S])) 0 0 (.inl none) (al, ro, fl (ml M [32] [t])) := by
  have hn : ([32] : List Nat).Nodup := by decide
  refine cal_of_ev (plainFor_of_name (by decide)) (x_c1 rfl) (Nat.le_of_ble_eq_true rfl) hst ?_
  show Ev g _ _ _ _ _ _ 0 [some (x_r (16 * 32 + 0))] [] (al, ro, fl (ml M [32] [S])) _ _ _ _
  rw [G12_begins] at hG
  refine e_aloadn (pc := 0) (i := 0) dX12_begins_0 rfl rfl ?_
  refine e_iconst (pc := 1) dX12_begins_1 (x_R rfl) ?_
  refine f_puti (pc := 2) (k := 0) (u := 32) (q := 0) dX12_begins_2 xf12_25 xw10_12 (sa_32_0 hs) hn rfl rfl rfl (by decide) ?_
  show Ev g _ _ _ _ _ _ 5 [some (x_r (16 * 32 + 0))] [] (al, ro, fl (ml M [32] [(x_up S 0 12 (-1))])) _ _ _ _
  refine e_aloadn (pc := 5) (i := 0) dX12_begins_5 rfl rfl ?_
  refine e_iconst (pc := 6) dX12_begins_6 (x_R rfl) ?_
  refine f_puti (pc := 7) (k := 0) (u := 32) (q := 0) dX12_begins_7 xf12_79 xw10_9 (sa_32_0 hs) hn rfl rfl rfl (by decide) ?_
  show Ev g _ _ _ _ _ _ 10 [some (x_r (16 * 32 + 0))] [] (al, ro, fl (ml M [32] [(x_up (x_up S 0 12 (-1)) 0 9 (-1))])) _ _ _ _
  refine e_aloadn (pc := 10) (i := 0) dX12_begins_10 rfl rfl ?_
  refine e_aloadn (pc := 11) (i := 0) dX12_begins_11 rfl rfl ?_
  refine f_geti (pc := 12) (k := 0) (u := 32) (q := 0) dX12_begins_12 xf12_76 (sa_32_0 hs) rfl hn rfl rfl (by decide) ?_
  show Ev g _ _ _ _ _ _ 15 [some (x_r (16 * 32 + 0))] [x_i ((x_up (x_up S 0 12 (-1)) 0 9 (-1)) 0 8), x_r (16 * 32 + 0)] (al, ro, fl (ml M [32] [(x_up (x_up S 0 12 (-1)) 0 9 (-1))])) _ _ _ _
  refine f_puti (pc := 15) (k := 0) (u := 32) (q := 0) dX12_begins_15 xf12_85 xw10_10 (sa_32_0 hs) hn rfl rfl rfl (by decide) ?_
  show Ev g _ _ _ _ _ _ 18 [some (x_r (16 * 32 + 0))] [] (al, ro, fl (ml M [32] [(x_up (x_up (x_up S 0 12 (-1)) 0 9 (-1)) 0 10 ((x_up (x_up S 0 12 (-1)) 0 9 (-1)) 0 8))])) _ _ _ _
  refine e_aloadn (pc := 18) (i := 0) dX12_begins_18 rfl rfl ?_
  refine e_iconst (pc := 19) dX12_begins_19 (x_R rfl) ?_
  refine f_puti (pc := 20) (k := 0) (u := 32) (q := 0) dX12_begins_20 xf12_76 xw10_8 (sa_32_0 hs) hn rfl rfl rfl (by decide) ?_
  show Ev g _ _ _ _ _ _ 23 [some (x_r (16 * 32 + 0))] [] (al, ro, fl (ml M [32] [(x_up (x_up (x_up (x_up S 0 12 (-1)) 0 9 (-1)) 0 10 ((x_up (x_up S 0 12 (-1)) 0 9 (-1)) 0 8)) 0 8 0)])) _ _ _ _
  refine e_aloadn (pc := 23) (i := 0) dX12_begins_23 rfl rfl ?_
  refine e_iconst (pc := 24) dX12_begins_24 (x_R rfl) ?_
  refine f_puti (pc := 25) (k := 0) (u := 32) (q := 0) dX12_begins_25 xf12_82 xw10_11 (sa_32_0 hs) hn rfl rfl rfl (by decide) ?_
  show Ev g _ _ _ _ _ _ 28 [some (x_r (16 * 32 + 0))] [] (al, ro, fl (ml M [32] [(x_up (x_up (x_up (x_up (x_up S 0 12 (-1)) 0 9 (-1)) 0 10 ((x_up (x_up S 0 12 (-1)) 0 9 (-1)) 0 8)) 0 8 0) 0 11 0)])) _ _ _ _
  refine e_aloadn (pc := 28) (i := 0) dX12_begins_28 rfl rfl ?_
  refine e_iconst (pc := 29) dX12_begins_29 (x_R rfl) ?_
  refine f_puti (pc := 30) (k := 0) (u := 32) (q := 0) dX12_begins_30 xf12_180 xw10_13 (sa_32_0 hs) hn rfl rfl rfl (by decide) ?_
  show Ev g _ _ _ _ _ _ 33 [some (x_r (16 * 32 + 0))] [] (al, ro, fl (ml M [32] [(x_up (x_up (x_up (x_up (x_up (x_up S 0 12 (-1)) 0 9 (-1)) 0 10 ((x_up (x_up S 0 12 (-1)) 0 9 (-1)) 0 8)) 0 8 0) 0 11 0) 0 13 0)])) _ _ _ _
  cases hG
  exact (e_return rfl dX12_begins_33)
set_option maxRecDepth 100000 in
set_option maxHeartbeats 4000000 in
theorem c_X12_lawLine {g : xG} {al : List (Nat × Nat × Nat)} {ro : Nat → Nat → Option Nat} (hst : g.1.stackTraces = false) (hs : SH al ro) {M : Nat → xU} {S : xU}  {t : xU} (hG : G12_lawLine S = some t) :
    Cal g yX12_lawLine cX12_lawLine 4 none 41 [x_r (16 * 32 + 0)] (al, ro, fl (ml M [32] [S])) 0 0 (.inl none) (al, ro, fl (ml M [32] [t])) := by
  have hn : ([32] : List Nat).Nodup := by decide
  refine cal_of_ev (plainFor_of_name (by decide)) (x_c1 rfl) (Nat.le_of_ble_eq_true rfl) hst ?_
  show Ev g _ _ _ _ _ _ 0 [some (x_r (16 * 32 + 0)), none, none, none] [] (al, ro, fl (ml M [32] [S])) _ _ _ _
  rw [G12_lawLine] at hG
  refine e_aloadn (pc := 0) (i := 0) dX12_lawLine_0 rfl rfl ?_
  refine e_ldcS (pc := 1) (i := 17) (tx := "slow") dX12_lawLine_1 (List.mem_of_getElem? (i := 33) rfl) (by decide) ?_
  obtain ⟨v1, S2, hq2, hG⟩ := x_bd2 hG
  refine e_invV (pc := 3) (K1 := 0) (S1 := 0) (K := 0) (S := 0) (dd2 := 6) (av := [x_r (x_s0 + 17)]) (st := []) (id := 16 * 32 + 0) dX12_lawLine_3 xmX12_112 rfl (Or.inl ⟨10, 27, TX12, (sa_32_0 hs), rfl, by decide⟩) (f_cal (M := M) (us2 := [32]) [0] hn rfl (And.intro rfl trivial) rfl rfl rfl (c_X12_has hst hs  (by decide) hq2)) (by decide) (Nat.le_of_ble_eq_true rfl) (Or.inl rfl) ?_
  show Ev g _ _ _ _ _ _ 6 [some (x_r (16 * 32 + 0)), none, none, none] [x_i v1] (al, ro, fl (ml M [32] [S2])) _ _ _ _
  obtain ⟨v4, S5, hr5, hG⟩ := x_bd2 hG
  have hjhr5 : Ev g yX12_lawLine cX12_lawLine 4 none [] 41 40 [some (x_r (16 * 32 + 0)), none, none, none] [x_i v4] (al, ro, fl (ml M [32] [S5])) 0 0 (.inl none) (al, ro, fl (ml M [32] [t])) := by
    refine e_istoren (pc := 40) (i := 1) dX12_lawLine_40 rfl (by decide) rfl ?_
    show Ev g _ _ _ _ _ _ 41 [some (x_r (16 * 32 + 0)), some (x_i v4), none, none] [] (al, ro, fl (ml M [32] [S5])) _ _ _ _
    refine e_iloadn (pc := 41) (i := 1) dX12_lawLine_41 rfl rfl ?_
    refine e_iconst (pc := 42) dX12_lawLine_42 (x_R rfl) ?_
    refine e_icmp_ne (pc := 43) (tgt := 55) dX12_lawLine_43 (by decide) (fun hb => ?_) (fun hb => ?_)
    · rw [if_neg hb] at hG
      refine e_iloadn (pc := 55) (i := 1) dX12_lawLine_55 rfl rfl ?_
      refine e_iconst (pc := 56) dX12_lawLine_56 (x_R rfl) ?_
      obtain ⟨v13, S14, hr14, hG⟩ := x_bd2 hG
      have hjhr14 : Ev g yX12_lawLine cX12_lawLine 4 none [] 41 71 [some (x_r (16 * 32 + 0)), some (x_i v4), none, none] [x_i v13] (al, ro, fl (ml M [32] [S14])) 0 0 (.inl none) (al, ro, fl (ml M [32] [t])) := by
        refine e_istoren (pc := 71) (i := 2) dX12_lawLine_71 rfl (by decide) rfl ?_
        show Ev g _ _ _ _ _ _ 72 [some (x_r (16 * 32 + 0)), some (x_i v4), some (x_i v13), none] [] (al, ro, fl (ml M [32] [S14])) _ _ _ _
        refine e_aloadn (pc := 72) (i := 0) dX12_lawLine_72 rfl rfl ?_
        refine f_geti (pc := 73) (k := 0) (u := 32) (q := 0) dX12_lawLine_73 xf12_25 (sa_32_0 hs) rfl hn rfl rfl (by decide) ?_
        show Ev g _ _ _ _ _ _ 76 [some (x_r (16 * 32 + 0)), some (x_i v4), some (x_i v13), none] [x_i (S14 0 12)] (al, ro, fl (ml M [32] [S14])) _ _ _ _
        refine e_iconst (pc := 76) dX12_lawLine_76 (x_R rfl) ?_
        refine e_icmp_eq (pc := 77) (tgt := 81) dX12_lawLine_77 (by decide) (fun hb => ?_) (fun hb => ?_)
        · rw [if_pos hb] at hG
          refine e_aloadn (pc := 81) (i := 0) dX12_lawLine_81 rfl rfl ?_
          refine e_ldcS (pc := 82) (i := 20) (tx := "if") dX12_lawLine_82 (List.mem_of_getElem? (i := 36) rfl) (by decide) ?_
          obtain ⟨v19, S20, hq20, hG⟩ := x_bd2 hG
          refine e_invV (pc := 84) (K1 := 0) (S1 := 0) (K := 0) (S := 0) (dd2 := 6) (av := [x_r (x_s0 + 20)]) (st := []) (id := 16 * 32 + 0) dX12_lawLine_84 xmX12_112 rfl (Or.inl ⟨10, 27, TX12, (sa_32_0 hs), rfl, by decide⟩) (f_cal (M := M) (us2 := [32]) [0] hn rfl (And.intro rfl trivial) rfl rfl rfl (c_X12_has hst hs  (by decide) hq20)) (by decide) (Nat.le_of_ble_eq_true rfl) (Or.inl rfl) ?_
          show Ev g _ _ _ _ _ _ 87 [some (x_r (16 * 32 + 0)), some (x_i v4), some (x_i v13), none] [x_i v19] (al, ro, fl (ml M [32] [S20])) _ _ _ _
          obtain ⟨v22, S23, hr23, hG⟩ := x_bd2 hG
          have hjhr23 : Ev g yX12_lawLine cX12_lawLine 4 none [] 41 102 [some (x_r (16 * 32 + 0)), some (x_i v4), some (x_i v13), none] [x_i v22] (al, ro, fl (ml M [32] [S23])) 0 0 (.inl none) (al, ro, fl (ml M [32] [t])) := by
            refine e_istoren (pc := 102) (i := 3) dX12_lawLine_102 rfl (by decide) rfl ?_
            show Ev g _ _ _ _ _ _ 103 [some (x_r (16 * 32 + 0)), some (x_i v4), some (x_i v13), some (x_i v22)] [] (al, ro, fl (ml M [32] [S23])) _ _ _ _
            refine e_aloadn (pc := 103) (i := 0) dX12_lawLine_103 rfl rfl ?_
            refine f_geti (pc := 104) (k := 0) (u := 32) (q := 0) dX12_lawLine_104 xf12_25 (sa_32_0 hs) rfl hn rfl rfl (by decide) ?_
            show Ev g _ _ _ _ _ _ 107 [some (x_r (16 * 32 + 0)), some (x_i v4), some (x_i v13), some (x_i v22)] [x_i (S23 0 12)] (al, ro, fl (ml M [32] [S23])) _ _ _ _
            refine e_iconst (pc := 107) dX12_lawLine_107 (x_R rfl) ?_
            refine e_icmp_ne (pc := 108) (tgt := 115) dX12_lawLine_108 (by decide) (fun hb => ?_) (fun hb => ?_)
            · rw [if_neg hb] at hG
              cases hG
              exact (e_return rfl dX12_lawLine_115)
            · rw [if_pos hb] at hG
              refine e_iloadn (pc := 111) (i := 3) dX12_lawLine_111 rfl rfl ?_
              refine e_if_ne (pc := 112) (tgt := 116) dX12_lawLine_112 (by decide) (fun hb => ?_) (fun hb => ?_)
              · rw [if_neg hb] at hG
                refine e_aloadn (pc := 116) (i := 0) dX12_lawLine_116 rfl rfl ?_
                refine e_aloadn (pc := 117) (i := 0) dX12_lawLine_117 rfl rfl ?_
                refine f_geti (pc := 118) (k := 0) (u := 32) (q := 0) dX12_lawLine_118 xf12_257 (sa_32_0 hs) rfl hn rfl rfl (by decide) ?_
                show Ev g _ _ _ _ _ _ 121 [some (x_r (16 * 32 + 0)), some (x_i v4), some (x_i v13), some (x_i v22)] [x_i (S23 0 17), x_r (16 * 32 + 0)] (al, ro, fl (ml M [32] [S23])) _ _ _ _
                obtain ⟨v28, hr28, hG⟩ := x_bd1 hG
                have hjhr28 : Ev g yX12_lawLine cX12_lawLine 4 none [] 41 134 [some (x_r (16 * 32 + 0)), some (x_i v4), some (x_i v13), some (x_i v22)] [x_i v28, x_r (16 * 32 + 0)] (al, ro, fl (ml M [32] [S23])) 0 0 (.inl none) (al, ro, fl (ml M [32] [t])) := by
                  obtain ⟨hc0, hG⟩ := x_gd_some hG
                  refine f_putz (pc := 134) (k := 0) (u := 32) (q := 0) dX12_lawLine_134 xf12_257 xw10_17 hc0 (sa_32_0 hs) hn rfl rfl rfl (by decide) ?_
                  show Ev g _ _ _ _ _ _ 137 [some (x_r (16 * 32 + 0)), some (x_i v4), some (x_i v13), some (x_i v22)] [] (al, ro, fl (ml M [32] [(x_up S23 0 17 v28)])) _ _ _ _
                  refine e_aloadn (pc := 137) (i := 0) dX12_lawLine_137 rfl rfl ?_
                  refine e_dup (pc := 138) dX12_lawLine_138 rfl ?_
                  refine f_geti (pc := 139) (k := 0) (u := 32) (q := 0) dX12_lawLine_139 xf12_260 (sa_32_0 hs) rfl hn rfl rfl (by decide) ?_
                  show Ev g _ _ _ _ _ _ 142 [some (x_r (16 * 32 + 0)), some (x_i v4), some (x_i v13), some (x_i v22)] [x_i ((x_up S23 0 17 v28) 0 18), x_r (16 * 32 + 0)] (al, ro, fl (ml M [32] [(x_up S23 0 17 v28)])) _ _ _ _
                  refine e_iloadn (pc := 142) (i := 1) dX12_lawLine_142 rfl rfl ?_
                  obtain ⟨v30, hr30, hG⟩ := x_bd1 hG
                  have hjhr30 : Ev g yX12_lawLine cX12_lawLine 4 none [] 41 152 [some (x_r (16 * 32 + 0)), some (x_i v4), some (x_i v13), some (x_i v22)] [x_i v30, x_i ((x_up S23 0 17 v28) 0 18), x_r (16 * 32 + 0)] (al, ro, fl (ml M [32] [(x_up S23 0 17 v28)])) 0 0 (.inl none) (al, ro, fl (ml M [32] [t])) := by
                    refine e_iadd (pc := 152) dX12_lawLine_152 ?_
                    refine f_puti (pc := 153) (k := 0) (u := 32) (q := 0) dX12_lawLine_153 xf12_260 xw10_18 (sa_32_0 hs) hn rfl rfl rfl (by decide) ?_
                    show Ev g _ _ _ _ _ _ 156 [some (x_r (16 * 32 + 0)), some (x_i v4), some (x_i v13), some (x_i v22)] [] (al, ro, fl (ml M [32] [(x_up (x_up S23 0 17 v28) 0 18 (x_add ((x_up S23 0 17 v28) 0 18) v30))])) _ _ _ _
                    cases hG
                    exact (e_return rfl dX12_lawLine_156)
                  clear hG
                  refine e_if_ne (pc := 143) (tgt := 151) dX12_lawLine_143 (by decide) (fun hb => ?_) (fun hb => ?_)
                  · rw [if_neg hb] at hr30
                    refine e_iloadn (pc := 151) (i := 2) dX12_lawLine_151 rfl rfl ?_
                    cases hr30
                    exact hjhr30
                  · rw [if_pos hb] at hr30
                    refine e_iloadn (pc := 146) (i := 2) dX12_lawLine_146 rfl rfl ?_
                    refine e_ineg (pc := 147) dX12_lawLine_147 ?_
                    refine e_goto (pc := 148) (tgt := 152) dX12_lawLine_148 (by decide) ?_
                    cases hr30
                    exact hjhr30
                clear hG
                refine e_if_ne (pc := 121) (tgt := 129) dX12_lawLine_121 (by decide) (fun hb => ?_) (fun hb => ?_)
                · rw [if_neg hb] at hr28
                  refine e_iconst (pc := 129) dX12_lawLine_129 (x_R rfl) ?_
                  refine e_goto (pc := 130) (tgt := 134) dX12_lawLine_130 (by decide) ?_
                  cases hr28
                  exact hjhr28
                · rw [if_pos hb] at hr28
                  refine e_iloadn (pc := 124) (i := 1) dX12_lawLine_124 rfl rfl ?_
                  refine e_iconst (pc := 125) dX12_lawLine_125 (x_R rfl) ?_
                  refine e_icmp_ne (pc := 126) (tgt := 133) dX12_lawLine_126 (by decide) (fun hb => ?_) (fun hb => ?_)
                  · rw [if_neg hb] at hr28
                    refine e_iconst (pc := 133) dX12_lawLine_133 (x_R rfl) ?_
                    cases hr28
                    exact hjhr28
                  · rw [if_pos hb] at hr28
                    refine e_iconst (pc := 129) dX12_lawLine_129 (x_R rfl) ?_
                    refine e_goto (pc := 130) (tgt := 134) dX12_lawLine_130 (by decide) ?_
                    cases hr28
                    exact hjhr28
              · rw [if_pos hb] at hG
                cases hG
                exact (e_return rfl dX12_lawLine_115)
          clear hG
          refine e_if_eq (pc := 87) (tgt := 97) dX12_lawLine_87 (by decide) (fun hb => ?_) (fun hb => ?_)
          · rw [if_pos hb] at hr23
            refine e_iconst (pc := 97) dX12_lawLine_97 (x_R rfl) ?_
            refine e_goto (pc := 98) (tgt := 102) dX12_lawLine_98 (by decide) ?_
            cases hr23
            exact hjhr23
          · rw [if_neg hb] at hr23
            refine e_aloadn (pc := 90) (i := 0) dX12_lawLine_90 rfl rfl ?_
            obtain ⟨v25, S26, hq26, hr23⟩ := x_bd2 hr23
            refine e_invV (pc := 91) (K1 := 0) (S1 := 0) (K := 0) (S := 0) (dd2 := 40) (av := []) (st := []) (id := 16 * 32 + 0) dX12_lawLine_91 xmX12_239 rfl (Or.inl ⟨10, 27, TX12, (sa_32_0 hs), rfl, by decide⟩) (f_cal (M := M) (us2 := [32]) [0] hn rfl (And.intro rfl trivial) rfl rfl rfl (c_X12_some hst hs   hq26)) (by decide) (Nat.le_of_ble_eq_true rfl) (Or.inl rfl) ?_
            show Ev g _ _ _ _ _ _ 94 [some (x_r (16 * 32 + 0)), some (x_i v4), some (x_i v13), none] [x_i v25] (al, ro, fl (ml M [32] [S26])) _ _ _ _
            refine e_if_eq (pc := 94) (tgt := 101) dX12_lawLine_94 (by decide) (fun hb => ?_) (fun hb => ?_)
            · rw [if_pos hb] at hr23
              refine e_iconst (pc := 101) dX12_lawLine_101 (x_R rfl) ?_
              cases hr23
              exact hjhr23
            · rw [if_neg hb] at hr23
              refine e_iconst (pc := 97) dX12_lawLine_97 (x_R rfl) ?_
              refine e_goto (pc := 98) (tgt := 102) dX12_lawLine_98 (by decide) ?_
              cases hr23
              exact hjhr23
        · rw [if_neg hb] at hG
          cases hG
          exact (e_return rfl dX12_lawLine_80)
      clear hG
      refine e_icmp_ne (pc := 57) (tgt := 64) dX12_lawLine_57 (by decide) (fun hb => ?_) (fun hb => ?_)
      · rw [if_neg hb] at hr14
        refine e_aloadn (pc := 64) (i := 0) dX12_lawLine_64 rfl rfl ?_
        refine e_iconst (pc := 65) dX12_lawLine_65 (x_R rfl) ?_
        refine e_bipush (pc := 66) dX12_lawLine_66 (by decide +kernel) (x_R rfl) ?_
        obtain ⟨v16, S17, hq17, hr14⟩ := x_bd2 hr14
        refine e_invV (pc := 68) (K1 := 0) (S1 := 0) (K := 0) (S := 0) (dd2 := 3) (av := [x_i 0, x_i 20]) (st := []) (id := 16 * 32 + 0) dX12_lawLine_68 xmX12_116 rfl (Or.inl ⟨10, 27, TX12, (sa_32_0 hs), rfl, by decide⟩) (f_cal (M := M) (us2 := [32]) [0] hn rfl (And.intro rfl trivial) rfl rfl rfl (c_X12_figures hst hs   hq17)) (by decide) (Nat.le_of_ble_eq_true rfl) (Or.inl rfl) ?_
        show Ev g _ _ _ _ _ _ 71 [some (x_r (16 * 32 + 0)), some (x_i v4), none, none] [x_i v16] (al, ro, fl (ml M [32] [S17])) _ _ _ _
        cases hr14
        exact hjhr14
      · rw [if_pos hb] at hr14
        refine e_iconst (pc := 60) dX12_lawLine_60 (x_R rfl) ?_
        refine e_goto (pc := 61) (tgt := 71) dX12_lawLine_61 (by decide) ?_
        cases hr14
        exact hjhr14
    · rw [if_pos hb] at hG
      refine e_aloadn (pc := 46) (i := 0) dX12_lawLine_46 rfl rfl ?_
      refine e_aloadn (pc := 47) (i := 0) dX12_lawLine_47 rfl rfl ?_
      refine f_geti (pc := 48) (k := 0) (u := 32) (q := 0) dX12_lawLine_48 xf12_82 (sa_32_0 hs) rfl hn rfl rfl (by decide) ?_
      show Ev g _ _ _ _ _ _ 51 [some (x_r (16 * 32 + 0)), some (x_i v4), none, none] [x_i (S5 0 11), x_r (16 * 32 + 0)] (al, ro, fl (ml M [32] [S5])) _ _ _ _
      obtain ⟨S32, hq32, hG⟩ := x_bd1 hG
      refine e_invV (pc := 51) (K1 := 0) (S1 := 0) (K := 0) (S := 0) (dd2 := 0) (av := [x_i (S5 0 11)]) (st := []) (id := 16 * 32 + 0) dX12_lawLine_51 xmX12_108 rfl (Or.inl ⟨10, 27, TX12, (sa_32_0 hs), rfl, by decide⟩) (f_cal (M := M) (us2 := [32]) [0] hn rfl (And.intro rfl trivial) rfl rfl rfl (c_X12_wrong hst hs   hq32)) (by decide) (Nat.le_of_ble_eq_true rfl) (Or.inl rfl) ?_
      show Ev g _ _ _ _ _ _ 54 [some (x_r (16 * 32 + 0)), some (x_i v4), none, none] [] (al, ro, fl (ml M [32] [S32])) _ _ _ _
      cases hG
      exact (e_return rfl dX12_lawLine_54)
  clear hG
  refine e_if_eq (pc := 6) (tgt := 13) dX12_lawLine_6 (by decide) (fun hb => ?_) (fun hb => ?_)
  · rw [if_pos hb] at hr5
    refine e_aloadn (pc := 13) (i := 0) dX12_lawLine_13 rfl rfl ?_
    refine e_ldcS (pc := 14) (i := 18) (tx := "haste") dX12_lawLine_14 (List.mem_of_getElem? (i := 34) rfl) (by decide) ?_
    obtain ⟨v7, S8, hq8, hr5⟩ := x_bd2 hr5
    refine e_invV (pc := 16) (K1 := 0) (S1 := 0) (K := 0) (S := 0) (dd2 := 6) (av := [x_r (x_s0 + 18)]) (st := []) (id := 16 * 32 + 0) dX12_lawLine_16 xmX12_112 rfl (Or.inl ⟨10, 27, TX12, (sa_32_0 hs), rfl, by decide⟩) (f_cal (M := M) (us2 := [32]) [0] hn rfl (And.intro rfl trivial) rfl rfl rfl (c_X12_has hst hs  (by decide) hq8)) (by decide) (Nat.le_of_ble_eq_true rfl) (Or.inl rfl) ?_
    show Ev g _ _ _ _ _ _ 19 [some (x_r (16 * 32 + 0)), none, none, none] [x_i v7] (al, ro, fl (ml M [32] [S8])) _ _ _ _
    refine e_if_eq (pc := 19) (tgt := 26) dX12_lawLine_19 (by decide) (fun hb => ?_) (fun hb => ?_)
    · rw [if_pos hb] at hr5
      refine e_aloadn (pc := 26) (i := 0) dX12_lawLine_26 rfl rfl ?_
      refine e_ldcS (pc := 27) (i := 19) (tx := "keep") dX12_lawLine_27 (List.mem_of_getElem? (i := 35) rfl) (by decide) ?_
      obtain ⟨v10, S11, hq11, hr5⟩ := x_bd2 hr5
      refine e_invV (pc := 29) (K1 := 0) (S1 := 0) (K := 0) (S := 0) (dd2 := 6) (av := [x_r (x_s0 + 19)]) (st := []) (id := 16 * 32 + 0) dX12_lawLine_29 xmX12_112 rfl (Or.inl ⟨10, 27, TX12, (sa_32_0 hs), rfl, by decide⟩) (f_cal (M := M) (us2 := [32]) [0] hn rfl (And.intro rfl trivial) rfl rfl rfl (c_X12_has hst hs  (by decide) hq11)) (by decide) (Nat.le_of_ble_eq_true rfl) (Or.inl rfl) ?_
      show Ev g _ _ _ _ _ _ 32 [some (x_r (16 * 32 + 0)), none, none, none] [x_i v10] (al, ro, fl (ml M [32] [S11])) _ _ _ _
      refine e_if_eq (pc := 32) (tgt := 39) dX12_lawLine_32 (by decide) (fun hb => ?_) (fun hb => ?_)
      · rw [if_pos hb] at hr5
        refine e_iconst (pc := 39) dX12_lawLine_39 (x_R rfl) ?_
        cases hr5
        exact hjhr5
      · rw [if_neg hb] at hr5
        refine e_iconst (pc := 35) dX12_lawLine_35 (x_R rfl) ?_
        refine e_goto (pc := 36) (tgt := 40) dX12_lawLine_36 (by decide) ?_
        cases hr5
        exact hjhr5
    · rw [if_neg hb] at hr5
      refine e_iconst (pc := 22) dX12_lawLine_22 (x_R rfl) ?_
      refine e_goto (pc := 23) (tgt := 40) dX12_lawLine_23 (by decide) ?_
      cases hr5
      exact hjhr5
  · rw [if_neg hb] at hr5
    refine e_iconst (pc := 9) dX12_lawLine_9 (x_R rfl) ?_
    refine e_goto (pc := 10) (tgt := 40) dX12_lawLine_10 (by decide) ?_
    cases hr5
    exact hjhr5
set_option maxRecDepth 100000 in
set_option maxHeartbeats 4000000 in
theorem c_X12_read {g : xG} {al : List (Nat × Nat × Nat)} {ro : Nat → Nat → Option Nat} (hst : g.1.stackTraces = false) (hs : SH al ro) {M : Nat → xU} {a : Int} {S : xU}  {t : (Int × xU)} (hG : G12_read a S = some t) :
    Cal g yX12_read cX12_read 4 (some .int) 42 [x_r (16 * 32 + 0), x_i a] (al, ro, fl (ml M [32] [S])) 0 0 (.inl (some (x_i t.1))) (al, ro, fl (ml M [32] [t.2])) := by
  have hn : ([32] : List Nat).Nodup := by decide
  refine cal_of_ev (plainFor_of_name (by decide)) (x_c1 rfl) (Nat.le_of_ble_eq_true rfl) hst ?_
  show Ev g _ _ _ _ _ _ 0 [some (x_r (16 * 32 + 0)), some (x_i a), none, none] [] (al, ro, fl (ml M [32] [S])) _ _ _ _
  rw [G12_read] at hG
  refine e_aloadn (pc := 0) (i := 0) dX12_read_0 rfl rfl ?_
  obtain ⟨S1, hq1, hG⟩ := x_bd1 hG
  refine e_invV (pc := 1) (K1 := 0) (S1 := 0) (K := 0) (S := 0) (dd2 := 1) (av := []) (st := []) (id := 16 * 32 + 0) dX12_read_1 xmX12_92 rfl (Or.inl ⟨10, 27, TX12, (sa_32_0 hs), rfl, by decide⟩) (f_cal (M := M) (us2 := [32]) [0] hn rfl (And.intro rfl trivial) rfl rfl rfl (c_X12_skip hst hs   hq1)) (by decide) (Nat.le_of_ble_eq_true rfl) (Or.inl rfl) ?_
  show Ev g _ _ _ _ _ _ 4 [some (x_r (16 * 32 + 0)), some (x_i a), none, none] [] (al, ro, fl (ml M [32] [S1])) _ _ _ _
  refine e_aloadn (pc := 4) (i := 0) dX12_read_4 rfl rfl ?_
  refine f_geti (pc := 5) (k := 0) (u := 32) (q := 0) dX12_read_5 xf12_82 (sa_32_0 hs) rfl hn rfl rfl (by decide) ?_
  show Ev g _ _ _ _ _ _ 8 [some (x_r (16 * 32 + 0)), some (x_i a), none, none] [x_i (S1 0 11)] (al, ro, fl (ml M [32] [S1])) _ _ _ _
  refine e_aloadn (pc := 8) (i := 0) dX12_read_8 rfl rfl ?_
  refine f_geti (pc := 9) (k := 0) (u := 32) (q := 0) dX12_read_9 xf12_85 (sa_32_0 hs) rfl hn rfl rfl (by decide) ?_
  show Ev g _ _ _ _ _ _ 12 [some (x_r (16 * 32 + 0)), some (x_i a), none, none] [x_i (S1 0 10), x_i (S1 0 11)] (al, ro, fl (ml M [32] [S1])) _ _ _ _
  obtain ⟨v3, hr3, hG⟩ := x_bd1 hG
  have hjhr3 : Ev g yX12_read cX12_read 4 (some .int) [] 42 20 [some (x_r (16 * 32 + 0)), some (x_i a), none, none] [x_i v3] (al, ro, fl (ml M [32] [S1])) 0 0 (.inl (some (x_i t.1))) (al, ro, fl (ml M [32] [t.2])) := by
    refine e_istoren (pc := 20) (i := 2) dX12_read_20 rfl (by decide) rfl ?_
    show Ev g _ _ _ _ _ _ 21 [some (x_r (16 * 32 + 0)), some (x_i a), some (x_i v3), none] [] (al, ro, fl (ml M [32] [S1])) _ _ _ _
    refine e_iconst (pc := 21) dX12_read_21 (x_R rfl) ?_
    refine e_istoren (pc := 22) (i := 3) dX12_read_22 rfl (by decide) rfl ?_
    show Ev g _ _ _ _ _ _ 23 [some (x_r (16 * 32 + 0)), some (x_i a), some (x_i v3), some (x_i 0)] [] (al, ro, fl (ml M [32] [S1])) _ _ _ _
    obtain ⟨v8, S9, hl10, hG⟩ := x_bd2 hG
    have hk10 : ∀ q : (Int × xU), q = (v8, S9) → Ev g yX12_read cX12_read 4 (some .int) [] 42 144 [some (x_r (16 * 32 + 0)), some (x_i a), none, some (x_i q.1)] [] (al, ro, fl (ml M [32] [q.2])) 0 0 (.inl (some (x_i t.1))) (al, ro, fl (ml M [32] [t.2])) := by
      intro q hq
      cases hq
      refine e_iloadn (pc := 144) (i := 3) dX12_read_144 rfl rfl ?_
      cases hG
      exact (e_ireturn rfl dX12_read_145 rfl)
    clear hG
    refine e_whl (G12_read_L23 a) (fun z : (Int × Int × xU) => Ev g yX12_read cX12_read 4 (some .int) [] 42 23 [some (x_r (16 * 32 + 0)), some (x_i a), some (x_i z.1), some (x_i z.2.1)] [] (al, ro, fl (ml M [32] [z.2.2])) 0 0 (.inl (some (x_i t.1))) (al, ro, fl (ml M [32] [t.2]))) (fun q => q = (v8, S9)) ?_ xFU (v3, 0, S1) _ hl10 rfl
    intro z t10 hf10 hi10 hx10
    obtain ⟨v5, v6, S7⟩ := z
    rw [G12_read_L23] at hf10
    show Ev g _ _ _ _ _ _ 23 [some (x_r (16 * 32 + 0)), some (x_i a), some (x_i v5), some (x_i v6)] [] (al, ro, fl (ml M [32] [S7])) _ _ _ _
    refine e_iloadn (pc := 23) (i := 2) dX12_read_23 rfl rfl ?_
    refine e_if_eq (pc := 24) (tgt := 144) dX12_read_24 (by decide) (fun hb => ?_) (fun hb => ?_)
    · rw [if_pos hb] at hf10
      cases hf10
      refine e_drop (i := 2) ?_
      have hh := hk10 _ (hx10 _ rfl)
      try dsimp only at hh
      exact hh
    · rw [if_neg hb] at hf10
      refine e_aloadn (pc := 27) (i := 0) dX12_read_27 rfl rfl ?_
      refine f_geti (pc := 28) (k := 0) (u := 32) (q := 0) dX12_read_28 xf12_25 (sa_32_0 hs) rfl hn rfl rfl (by decide) ?_
      show Ev g _ _ _ _ _ _ 31 [some (x_r (16 * 32 + 0)), some (x_i a), some (x_i v5), some (x_i v6)] [x_i (S7 0 12)] (al, ro, fl (ml M [32] [S7])) _ _ _ _
      refine e_iconst (pc := 31) dX12_read_31 (x_R rfl) ?_
      refine e_icmp_ne (pc := 32) (tgt := 144) dX12_read_32 (by decide) (fun hb => ?_) (fun hb => ?_)
      · rw [if_neg hb] at hf10
        cases hf10
        refine e_drop (i := 2) ?_
        have hh := hk10 _ (hx10 _ rfl)
        try dsimp only at hh
        exact hh
      · rw [if_pos hb] at hf10
        refine e_aloadn (pc := 35) (i := 0) dX12_read_35 rfl rfl ?_
        obtain ⟨S12, hq12, hf10⟩ := x_bd1 hf10
        refine e_invV (pc := 36) (K1 := 0) (S1 := 0) (K := 0) (S := 0) (dd2 := 1) (av := []) (st := []) (id := 16 * 32 + 0) dX12_read_36 xmX12_92 rfl (Or.inl ⟨10, 27, TX12, (sa_32_0 hs), rfl, by decide⟩) (f_cal (M := M) (us2 := [32]) [0] hn rfl (And.intro rfl trivial) rfl rfl rfl (c_X12_skip hst hs   hq12)) (by decide) (Nat.le_of_ble_eq_true rfl) (Or.inl rfl) ?_
        show Ev g _ _ _ _ _ _ 39 [some (x_r (16 * 32 + 0)), some (x_i a), some (x_i v5), some (x_i v6)] [] (al, ro, fl (ml M [32] [S12])) _ _ _ _
        refine e_iloadn (pc := 39) (i := 3) dX12_read_39 rfl rfl ?_
        refine e_iloadn (pc := 40) (i := 1) dX12_read_40 rfl rfl ?_
        obtain ⟨v14, hr14, hf10⟩ := x_bd1 hf10
        have hjhr14 : Ev g yX12_read cX12_read 4 (some .int) [] 42 51 [some (x_r (16 * 32 + 0)), some (x_i a), some (x_i v5), some (x_i v6)] [x_i v14, x_i v6] (al, ro, fl (ml M [32] [S12])) 0 0 (.inl (some (x_i t.1))) (al, ro, fl (ml M [32] [t.2])) := by
          obtain ⟨S16, hr16, hf10⟩ := x_bd1 hf10
          have hjhr16 : Ev g yX12_read cX12_read 4 (some .int) [] 42 80 [some (x_r (16 * 32 + 0)), some (x_i a), some (x_i v5), some (x_i v6)] [] (al, ro, fl (ml M [32] [S16])) 0 0 (.inl (some (x_i t.1))) (al, ro, fl (ml M [32] [t.2])) := by
            refine e_iinc (pc := 80) dX12_read_80 rfl (by decide) rfl ?_
            show Ev g _ _ _ _ _ _ 83 [some (x_r (16 * 32 + 0)), some (x_i a), some (x_i v5), some (x_i (x_add v6 1))] [] (al, ro, fl (ml M [32] [S16])) _ _ _ _
            refine e_aloadn (pc := 83) (i := 0) dX12_read_83 rfl rfl ?_
            obtain ⟨S24, hq24, hf10⟩ := x_bd1 hf10
            refine e_invV (pc := 84) (K1 := 0) (S1 := 0) (K := 0) (S := 0) (dd2 := 1) (av := []) (st := []) (id := 16 * 32 + 0) dX12_read_84 xmX12_92 rfl (Or.inl ⟨10, 27, TX12, (sa_32_0 hs), rfl, by decide⟩) (f_cal (M := M) (us2 := [32]) [0] hn rfl (And.intro rfl trivial) rfl rfl rfl (c_X12_skip hst hs   hq24)) (by decide) (Nat.le_of_ble_eq_true rfl) (Or.inl rfl) ?_
            show Ev g _ _ _ _ _ _ 87 [some (x_r (16 * 32 + 0)), some (x_i a), some (x_i v5), some (x_i (x_add v6 1))] [] (al, ro, fl (ml M [32] [S24])) _ _ _ _
            refine e_aloadn (pc := 87) (i := 0) dX12_read_87 rfl rfl ?_
            refine f_geti (pc := 88) (k := 0) (u := 32) (q := 0) dX12_read_88 xf12_25 (sa_32_0 hs) rfl hn rfl rfl (by decide) ?_
            show Ev g _ _ _ _ _ _ 91 [some (x_r (16 * 32 + 0)), some (x_i a), some (x_i v5), some (x_i (x_add v6 1))] [x_i (S24 0 12)] (al, ro, fl (ml M [32] [S24])) _ _ _ _
            refine e_iconst (pc := 91) dX12_read_91 (x_R rfl) ?_
            refine e_icmp_ne (pc := 92) (tgt := 106) dX12_read_92 (by decide) (fun hb => ?_) (fun hb => ?_)
            · rw [if_neg hb] at hf10
              refine e_iconst (pc := 106) dX12_read_106 (x_R rfl) ?_
              refine e_istoren (pc := 107) (i := 2) dX12_read_107 rfl (by decide) rfl ?_
              show Ev g _ _ _ _ _ _ 108 [some (x_r (16 * 32 + 0)), some (x_i a), some (x_i 0), some (x_i (x_add v6 1))] [] (al, ro, fl (ml M [32] [S24])) _ _ _ _
              refine e_goto (pc := 108) (tgt := 23) dX12_read_108 (by decide) ?_
              cases hf10
              have hh := hi10 _ rfl
              try dsimp only at hh
              exact hh
            · rw [if_pos hb] at hf10
              refine e_aloadn (pc := 95) (i := 0) dX12_read_95 rfl rfl ?_
              refine f_geti (pc := 96) (k := 0) (u := 32) (q := 0) dX12_read_96 xf12_82 (sa_32_0 hs) rfl hn rfl rfl (by decide) ?_
              show Ev g _ _ _ _ _ _ 99 [some (x_r (16 * 32 + 0)), some (x_i a), some (x_i v5), some (x_i (x_add v6 1))] [x_i (S24 0 11)] (al, ro, fl (ml M [32] [S24])) _ _ _ _
              refine e_aloadn (pc := 99) (i := 0) dX12_read_99 rfl rfl ?_
              refine f_geti (pc := 100) (k := 0) (u := 32) (q := 0) dX12_read_100 xf12_85 (sa_32_0 hs) rfl hn rfl rfl (by decide) ?_
              show Ev g _ _ _ _ _ _ 103 [some (x_r (16 * 32 + 0)), some (x_i a), some (x_i v5), some (x_i (x_add v6 1))] [x_i (S24 0 10), x_i (S24 0 11)] (al, ro, fl (ml M [32] [S24])) _ _ _ _
              refine e_icmp_ne (pc := 103) (tgt := 111) dX12_read_103 (by decide) (fun hb => ?_) (fun hb => ?_)
              · rw [if_neg hb] at hf10
                refine e_aloadn (pc := 111) (i := 0) dX12_read_111 rfl rfl ?_
                refine e_bipush (pc := 112) dX12_read_112 (by decide +kernel) (x_R rfl) ?_
                obtain ⟨v26, S27, hq27, hf10⟩ := x_bd2 hf10
                refine e_invV (pc := 114) (K1 := 0) (S1 := 0) (K := 0) (S := 0) (dd2 := 2) (av := [x_i 59]) (st := []) (id := 16 * 32 + 0) dX12_read_114 xmX12_189 rfl (Or.inl ⟨10, 27, TX12, (sa_32_0 hs), rfl, by decide⟩) (f_cal (M := M) (us2 := [32]) [0] hn rfl (And.intro rfl trivial) rfl rfl rfl (c_X12_isSign hst hs   hq27)) (by decide) (Nat.le_of_ble_eq_true rfl) (Or.inl rfl) ?_
                show Ev g _ _ _ _ _ _ 117 [some (x_r (16 * 32 + 0)), some (x_i a), some (x_i v5), some (x_i (x_add v6 1))] [x_i v26] (al, ro, fl (ml M [32] [S27])) _ _ _ _
                refine e_if_eq (pc := 117) (tgt := 133) dX12_read_117 (by decide) (fun hb => ?_) (fun hb => ?_)
                · rw [if_pos hb] at hf10
                  refine e_aloadn (pc := 133) (i := 0) dX12_read_133 rfl rfl ?_
                  refine e_aloadn (pc := 134) (i := 0) dX12_read_134 rfl rfl ?_
                  refine f_geti (pc := 135) (k := 0) (u := 32) (q := 0) dX12_read_135 xf12_82 (sa_32_0 hs) rfl hn rfl rfl (by decide) ?_
                  show Ev g _ _ _ _ _ _ 138 [some (x_r (16 * 32 + 0)), some (x_i a), some (x_i v5), some (x_i (x_add v6 1))] [x_i (S27 0 11), x_r (16 * 32 + 0)] (al, ro, fl (ml M [32] [S27])) _ _ _ _
                  obtain ⟨S29, hq29, hf10⟩ := x_bd1 hf10
                  refine e_invV (pc := 138) (K1 := 0) (S1 := 0) (K := 0) (S := 0) (dd2 := 0) (av := [x_i (S27 0 11)]) (st := []) (id := 16 * 32 + 0) dX12_read_138 xmX12_108 rfl (Or.inl ⟨10, 27, TX12, (sa_32_0 hs), rfl, by decide⟩) (f_cal (M := M) (us2 := [32]) [0] hn rfl (And.intro rfl trivial) rfl rfl rfl (c_X12_wrong hst hs   hq29)) (by decide) (Nat.le_of_ble_eq_true rfl) (Or.inl rfl) ?_
                  show Ev g _ _ _ _ _ _ 141 [some (x_r (16 * 32 + 0)), some (x_i a), some (x_i v5), some (x_i (x_add v6 1))] [] (al, ro, fl (ml M [32] [S29])) _ _ _ _
                  refine e_goto (pc := 141) (tgt := 23) dX12_read_141 (by decide) ?_
                  cases hf10
                  have hh := hi10 _ rfl
                  try dsimp only at hh
                  exact hh
                · rw [if_neg hb] at hf10
                  refine e_aloadn (pc := 120) (i := 0) dX12_read_120 rfl rfl ?_
                  refine e_dup (pc := 121) dX12_read_121 rfl ?_
                  refine f_geti (pc := 122) (k := 0) (u := 32) (q := 0) dX12_read_122 xf12_82 (sa_32_0 hs) rfl hn rfl rfl (by decide) ?_
                  show Ev g _ _ _ _ _ _ 125 [some (x_r (16 * 32 + 0)), some (x_i a), some (x_i v5), some (x_i (x_add v6 1))] [x_i (S27 0 11), x_r (16 * 32 + 0)] (al, ro, fl (ml M [32] [S27])) _ _ _ _
                  refine e_iconst (pc := 125) dX12_read_125 (x_R rfl) ?_
                  refine e_iadd (pc := 126) dX12_read_126 ?_
                  refine f_puti (pc := 127) (k := 0) (u := 32) (q := 0) dX12_read_127 xf12_82 xw10_11 (sa_32_0 hs) hn rfl rfl rfl (by decide) ?_
                  show Ev g _ _ _ _ _ _ 130 [some (x_r (16 * 32 + 0)), some (x_i a), some (x_i v5), some (x_i (x_add v6 1))] [] (al, ro, fl (ml M [32] [(x_up S27 0 11 (x_add (S27 0 11) 1))])) _ _ _ _
                  refine e_goto (pc := 130) (tgt := 23) dX12_read_130 (by decide) ?_
                  cases hf10
                  have hh := hi10 _ rfl
                  try dsimp only at hh
                  exact hh
              · rw [if_pos hb] at hf10
                refine e_iconst (pc := 106) dX12_read_106 (x_R rfl) ?_
                refine e_istoren (pc := 107) (i := 2) dX12_read_107 rfl (by decide) rfl ?_
                show Ev g _ _ _ _ _ _ 108 [some (x_r (16 * 32 + 0)), some (x_i a), some (x_i 0), some (x_i (x_add v6 1))] [] (al, ro, fl (ml M [32] [S24])) _ _ _ _
                refine e_goto (pc := 108) (tgt := 23) dX12_read_108 (by decide) ?_
                cases hf10
                have hh := hi10 _ rfl
                try dsimp only at hh
                exact hh
          clear hf10
          refine e_icmp_ne (pc := 51) (tgt := 65) dX12_read_51 (by decide) (fun hb => ?_) (fun hb => ?_)
          · rw [if_neg hb] at hr16
            refine e_iloadn (pc := 65) (i := 1) dX12_read_65 rfl rfl ?_
            refine e_if_eq (pc := 66) (tgt := 76) dX12_read_66 (by decide) (fun hb => ?_) (fun hb => ?_)
            · rw [if_pos hb] at hr16
              refine e_aloadn (pc := 76) (i := 0) dX12_read_76 rfl rfl ?_
              obtain ⟨S18, hq18, hr16⟩ := x_bd1 hr16
              refine e_invV (pc := 77) (K1 := 0) (S1 := 0) (K := 0) (S := 0) (dd2 := 9) (av := []) (st := []) (id := 16 * 32 + 0) dX12_read_77 xmX12_186 rfl (Or.inl ⟨10, 27, TX12, (sa_32_0 hs), rfl, by decide⟩) (f_cal (M := M) (us2 := [32]) [0] hn rfl (And.intro rfl trivial) rfl rfl rfl (c_X12_cloisterLine hst hs   hq18)) (by decide) (Nat.le_of_ble_eq_true rfl) (Or.inl rfl) ?_
              show Ev g _ _ _ _ _ _ 80 [some (x_r (16 * 32 + 0)), some (x_i a), some (x_i v5), some (x_i v6)] [] (al, ro, fl (ml M [32] [S18])) _ _ _ _
              cases hr16
              exact hjhr16
            · rw [if_neg hb] at hr16
              refine e_aloadn (pc := 69) (i := 0) dX12_read_69 rfl rfl ?_
              obtain ⟨S20, hq20, hr16⟩ := x_bd1 hr16
              refine e_invV (pc := 70) (K1 := 0) (S1 := 0) (K := 0) (S := 0) (dd2 := 41) (av := []) (st := []) (id := 16 * 32 + 0) dX12_read_70 xmX12_183 rfl (Or.inl ⟨10, 27, TX12, (sa_32_0 hs), rfl, by decide⟩) (f_cal (M := M) (us2 := [32]) [0] hn rfl (And.intro rfl trivial) rfl rfl rfl (c_X12_lawLine hst hs   hq20)) (by decide) (Nat.le_of_ble_eq_true rfl) (Or.inl rfl) ?_
              show Ev g _ _ _ _ _ _ 73 [some (x_r (16 * 32 + 0)), some (x_i a), some (x_i v5), some (x_i v6)] [] (al, ro, fl (ml M [32] [S20])) _ _ _ _
              refine e_goto (pc := 73) (tgt := 80) dX12_read_73 (by decide) ?_
              cases hr16
              exact hjhr16
          · rw [if_pos hb] at hr16
            refine e_aloadn (pc := 54) (i := 0) dX12_read_54 rfl rfl ?_
            refine e_aloadn (pc := 55) (i := 0) dX12_read_55 rfl rfl ?_
            refine f_geti (pc := 56) (k := 0) (u := 32) (q := 0) dX12_read_56 xf12_82 (sa_32_0 hs) rfl hn rfl rfl (by decide) ?_
            show Ev g _ _ _ _ _ _ 59 [some (x_r (16 * 32 + 0)), some (x_i a), some (x_i v5), some (x_i v6)] [x_i (S12 0 11), x_r (16 * 32 + 0)] (al, ro, fl (ml M [32] [S12])) _ _ _ _
            obtain ⟨S22, hq22, hr16⟩ := x_bd1 hr16
            refine e_invV (pc := 59) (K1 := 0) (S1 := 0) (K := 0) (S := 0) (dd2 := 0) (av := [x_i (S12 0 11)]) (st := []) (id := 16 * 32 + 0) dX12_read_59 xmX12_108 rfl (Or.inl ⟨10, 27, TX12, (sa_32_0 hs), rfl, by decide⟩) (f_cal (M := M) (us2 := [32]) [0] hn rfl (And.intro rfl trivial) rfl rfl rfl (c_X12_wrong hst hs   hq22)) (by decide) (Nat.le_of_ble_eq_true rfl) (Or.inl rfl) ?_
            show Ev g _ _ _ _ _ _ 62 [some (x_r (16 * 32 + 0)), some (x_i a), some (x_i v5), some (x_i v6)] [] (al, ro, fl (ml M [32] [S22])) _ _ _ _
            refine e_goto (pc := 62) (tgt := 80) dX12_read_62 (by decide) ?_
            cases hr16
            exact hjhr16
        clear hf10
        refine e_if_eq (pc := 41) (tgt := 49) dX12_read_41 (by decide) (fun hb => ?_) (fun hb => ?_)
        · rw [if_pos hb] at hr14
          refine e_bipush (pc := 49) dX12_read_49 (by decide +kernel) (x_R rfl) ?_
          cases hr14
          exact hjhr14
        · rw [if_neg hb] at hr14
          refine e_bipush (pc := 44) dX12_read_44 (by decide +kernel) (x_R rfl) ?_
          refine e_goto (pc := 46) (tgt := 51) dX12_read_46 (by decide) ?_
          cases hr14
          exact hjhr14
  clear hG
  refine e_icmp_ge (pc := 12) (tgt := 19) dX12_read_12 (by decide) (fun hb => ?_) (fun hb => ?_)
  · rw [if_pos hb] at hr3
    refine e_iconst (pc := 19) dX12_read_19 (x_R rfl) ?_
    cases hr3
    exact hjhr3
  · rw [if_neg hb] at hr3
    refine e_iconst (pc := 15) dX12_read_15 (x_R rfl) ?_
    refine e_goto (pc := 16) (tgt := 20) dX12_read_16 (by decide) ?_
    cases hr3
    exact hjhr3
set_option maxRecDepth 100000 in
set_option maxHeartbeats 4000000 in
theorem c_X12_putsAside {g : xG} {al : List (Nat × Nat × Nat)} {ro : Nat → Nat → Option Nat} (hst : g.1.stackTraces = false) (hs : SH al ro) {M : Nat → xU} {S : xU}  {t : xU} (hG : G12_putsAside S = some t) :
    Cal g yX12_putsAside cX12_putsAside 2 none 0 [x_r (16 * 32 + 0)] (al, ro, fl (ml M [32] [S])) 0 0 (.inl none) (al, ro, fl (ml M [32] [t])) := by
  have hn : ([32] : List Nat).Nodup := by decide
  refine cal_of_ev (plainFor_of_name (by decide)) (x_c1 rfl) (Nat.le_of_ble_eq_true rfl) hst ?_
  show Ev g _ _ _ _ _ _ 0 [some (x_r (16 * 32 + 0)), none] [] (al, ro, fl (ml M [32] [S])) _ _ _ _
  rw [G12_putsAside] at hG
  refine e_iconst (pc := 0) dX12_putsAside_0 (x_R rfl) ?_
  refine e_istoren (pc := 1) (i := 1) dX12_putsAside_1 rfl (by decide) rfl ?_
  show Ev g _ _ _ _ _ _ 2 [some (x_r (16 * 32 + 0)), some (x_i 0)] [] (al, ro, fl (ml M [32] [S])) _ _ _ _
  obtain ⟨S3, hl4, hG⟩ := x_bd1 hG
  have hk4 : ∀ q : xU, q = S3 → Ev g yX12_putsAside cX12_putsAside 2 none [] 0 27 [some (x_r (16 * 32 + 0)), none] [] (al, ro, fl (ml M [32] [q])) 0 0 (.inl none) (al, ro, fl (ml M [32] [t])) := by
    intro q hq
    replace hq := hq.symm
    subst hq
    cases hG
    exact (e_return rfl dX12_putsAside_27)
  clear hG
  refine e_whl G12_putsAside_L2 (fun z : (Int × xU) => Ev g yX12_putsAside cX12_putsAside 2 none [] 0 2 [some (x_r (16 * 32 + 0)), some (x_i z.1)] [] (al, ro, fl (ml M [32] [z.2])) 0 0 (.inl none) (al, ro, fl (ml M [32] [t]))) (fun q => q = S3) ?_ xFU (0, S) _ hl4 rfl
  intro z t4 hf4 hi4 hx4
  obtain ⟨v1, S2⟩ := z
  rw [G12_putsAside_L2] at hf4
  show Ev g _ _ _ _ _ _ 2 [some (x_r (16 * 32 + 0)), some (x_i v1)] [] (al, ro, fl (ml M [32] [S2])) _ _ _ _
  refine e_iloadn (pc := 2) (i := 1) dX12_putsAside_2 rfl rfl ?_
  refine e_sipush (pc := 3) dX12_putsAside_3 (by decide +kernel) (x_R rfl) ?_
  refine e_icmp_ge (pc := 6) (tgt := 27) dX12_putsAside_6 (by decide) (fun hb => ?_) (fun hb => ?_)
  · rw [if_pos hb] at hf4
    cases hf4
    refine e_drop (i := 1) ?_
    have hh := hk4 _ (hx4 _ rfl)
    try dsimp only at hh
    exact hh
  · rw [if_neg hb] at hf4
    refine e_aloadn (pc := 9) (i := 0) dX12_putsAside_9 rfl rfl ?_
    refine f_getr (pc := 10) (u := 32) (q := 0) dX12_putsAside_10 xf12_16 (sa_32_0 hs) rfl (sr_32_0_4 hs) ?_
    refine e_iloadn (pc := 13) (i := 1) dX12_putsAside_13 rfl rfl ?_
    refine e_aloadn (pc := 14) (i := 0) dX12_putsAside_14 rfl rfl ?_
    refine f_getr (pc := 15) (u := 32) (q := 0) dX12_putsAside_15 xf12_7 (sa_32_0 hs) rfl (sr_32_0_1 hs) ?_
    refine e_iloadn (pc := 18) (i := 1) dX12_putsAside_18 rfl rfl ?_
    obtain ⟨hc0, hf4⟩ := x_gd_some hf4
    refine f_iald (pc := 19) (k := 0) (u := 32) (q := 1) (len := 772) dX12_putsAside_19 (sa_32_1 hs) hc0 hn rfl rfl (by decide) ?_
    show Ev g _ _ _ _ _ _ 20 [some (x_r (16 * 32 + 0)), some (x_i v1)] [x_i (S2 1 (v1).toNat), x_i v1, x_r (16 * 32 + 3)] (al, ro, fl (ml M [32] [S2])) _ _ _ _
    obtain ⟨hc0, hf4⟩ := x_gd_some hf4
    refine f_iast (pc := 20) (k := 0) (u := 32) (q := 3) (len := 372) dX12_putsAside_20 (sa_32_3 hs) hc0 hn rfl rfl rfl (by decide) ?_
    show Ev g _ _ _ _ _ _ 21 [some (x_r (16 * 32 + 0)), some (x_i v1)] [] (al, ro, fl (ml M [32] [(x_up S2 3 (v1).toNat (S2 1 (v1).toNat))])) _ _ _ _
    refine e_iinc (pc := 21) dX12_putsAside_21 rfl (by decide) rfl ?_
    show Ev g _ _ _ _ _ _ 24 [some (x_r (16 * 32 + 0)), some (x_i (x_add v1 1))] [] (al, ro, fl (ml M [32] [(x_up S2 3 (v1).toNat (S2 1 (v1).toNat))])) _ _ _ _
    refine e_goto (pc := 24) (tgt := 2) dX12_putsAside_24 (by decide) ?_
    cases hf4
    have hh := hi4 _ rfl
    try dsimp only at hh
    exact hh
set_option maxRecDepth 100000 in
set_option maxHeartbeats 4000000 in
theorem c_X12_comesBack {g : xG} {al : List (Nat × Nat × Nat)} {ro : Nat → Nat → Option Nat} (hst : g.1.stackTraces = false) (hs : SH al ro) {M : Nat → xU} {S : xU}  {t : xU} (hG : G12_comesBack S = some t) :
    Cal g yX12_comesBack cX12_comesBack 2 none 0 [x_r (16 * 32 + 0)] (al, ro, fl (ml M [32] [S])) 0 0 (.inl none) (al, ro, fl (ml M [32] [t])) := by
  have hn : ([32] : List Nat).Nodup := by decide
  refine cal_of_ev (plainFor_of_name (by decide)) (x_c1 rfl) (Nat.le_of_ble_eq_true rfl) hst ?_
  show Ev g _ _ _ _ _ _ 0 [some (x_r (16 * 32 + 0)), none] [] (al, ro, fl (ml M [32] [S])) _ _ _ _
  rw [G12_comesBack] at hG
  refine e_iconst (pc := 0) dX12_comesBack_0 (x_R rfl) ?_
  refine e_istoren (pc := 1) (i := 1) dX12_comesBack_1 rfl (by decide) rfl ?_
  show Ev g _ _ _ _ _ _ 2 [some (x_r (16 * 32 + 0)), some (x_i 0)] [] (al, ro, fl (ml M [32] [S])) _ _ _ _
  obtain ⟨S3, hl4, hG⟩ := x_bd1 hG
  have hk4 : ∀ q : xU, q = S3 → Ev g yX12_comesBack cX12_comesBack 2 none [] 0 27 [some (x_r (16 * 32 + 0)), none] [] (al, ro, fl (ml M [32] [q])) 0 0 (.inl none) (al, ro, fl (ml M [32] [t])) := by
    intro q hq
    replace hq := hq.symm
    subst hq
    cases hG
    exact (e_return rfl dX12_comesBack_27)
  clear hG
  refine e_whl G12_comesBack_L2 (fun z : (Int × xU) => Ev g yX12_comesBack cX12_comesBack 2 none [] 0 2 [some (x_r (16 * 32 + 0)), some (x_i z.1)] [] (al, ro, fl (ml M [32] [z.2])) 0 0 (.inl none) (al, ro, fl (ml M [32] [t]))) (fun q => q = S3) ?_ xFU (0, S) _ hl4 rfl
  intro z t4 hf4 hi4 hx4
  obtain ⟨v1, S2⟩ := z
  rw [G12_comesBack_L2] at hf4
  show Ev g _ _ _ _ _ _ 2 [some (x_r (16 * 32 + 0)), some (x_i v1)] [] (al, ro, fl (ml M [32] [S2])) _ _ _ _
  refine e_iloadn (pc := 2) (i := 1) dX12_comesBack_2 rfl rfl ?_
  refine e_sipush (pc := 3) dX12_comesBack_3 (by decide +kernel) (x_R rfl) ?_
  refine e_icmp_ge (pc := 6) (tgt := 27) dX12_comesBack_6 (by decide) (fun hb => ?_) (fun hb => ?_)
  · rw [if_pos hb] at hf4
    cases hf4
    refine e_drop (i := 1) ?_
    have hh := hk4 _ (hx4 _ rfl)
    try dsimp only at hh
    exact hh
  · rw [if_neg hb] at hf4
    refine e_aloadn (pc := 9) (i := 0) dX12_comesBack_9 rfl rfl ?_
    refine f_getr (pc := 10) (u := 32) (q := 0) dX12_comesBack_10 xf12_7 (sa_32_0 hs) rfl (sr_32_0_1 hs) ?_
    refine e_iloadn (pc := 13) (i := 1) dX12_comesBack_13 rfl rfl ?_
    refine e_aloadn (pc := 14) (i := 0) dX12_comesBack_14 rfl rfl ?_
    refine f_getr (pc := 15) (u := 32) (q := 0) dX12_comesBack_15 xf12_16 (sa_32_0 hs) rfl (sr_32_0_4 hs) ?_
    refine e_iloadn (pc := 18) (i := 1) dX12_comesBack_18 rfl rfl ?_
    obtain ⟨hc0, hf4⟩ := x_gd_some hf4
    refine f_iald (pc := 19) (k := 0) (u := 32) (q := 3) (len := 372) dX12_comesBack_19 (sa_32_3 hs) hc0 hn rfl rfl (by decide) ?_
    show Ev g _ _ _ _ _ _ 20 [some (x_r (16 * 32 + 0)), some (x_i v1)] [x_i (S2 3 (v1).toNat), x_i v1, x_r (16 * 32 + 1)] (al, ro, fl (ml M [32] [S2])) _ _ _ _
    obtain ⟨hc0, hf4⟩ := x_gd_some hf4
    refine f_iast (pc := 20) (k := 0) (u := 32) (q := 1) (len := 772) dX12_comesBack_20 (sa_32_1 hs) hc0 hn rfl rfl rfl (by decide) ?_
    show Ev g _ _ _ _ _ _ 21 [some (x_r (16 * 32 + 0)), some (x_i v1)] [] (al, ro, fl (ml M [32] [(x_up S2 1 (v1).toNat (S2 3 (v1).toNat))])) _ _ _ _
    refine e_iinc (pc := 21) dX12_comesBack_21 rfl (by decide) rfl ?_
    show Ev g _ _ _ _ _ _ 24 [some (x_r (16 * 32 + 0)), some (x_i (x_add v1 1))] [] (al, ro, fl (ml M [32] [(x_up S2 1 (v1).toNat (S2 3 (v1).toNat))])) _ _ _ _
    refine e_goto (pc := 24) (tgt := 2) dX12_comesBack_24 (by decide) ?_
    cases hf4
    have hh := hi4 _ rfl
    try dsimp only at hh
    exact hh
