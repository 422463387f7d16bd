set_option maxRecDepth 100000 in
set_option maxHeartbeats 4000000 in
theorem c_X12_monkLine {g : xG} {al : List (Nat × Nat × Nat)} {ro : Nat → Nat → Option Nat} (hst : g.1.stackTraces = false) (hs : SH al ro) {M : Nat → xU} {a : Int} {S : xU}  {t : xU} (hG : G12_monkLine a S = some t) :
    Cal g yX12_monkLine cX12_monkLine 10 none 8 [x_r (16 * 32 + 0), x_i a] (al, ro, fl (ml M [32] [S])) 0 0 (.inl none) (al, ro, fl (ml M [32] [t])) := by
  have hn : ([32] : List Nat).Nodup := by decide
  refine cal_of_ev (plainFor_of_name (by decide)) (x_c1 rfl) (Nat.le_of_ble_eq_true rfl) hst ?_
  show Ev g _ _ _ _ _ _ 0 [some (x_r (16 * 32 + 0)), some (x_i a), none, none, none, none, none, none, none, none] [] (al, ro, fl (ml M [32] [S])) _ _ _ _
  rw [G12_monkLine] at hG
  refine e_aloadn (pc := 0) (i := 0) dX12_monkLine_0 rfl rfl ?_
  refine f_getr (pc := 1) (u := 32) (q := 0) dX12_monkLine_1 xf12_7 (sa_32_0 hs) rfl (sr_32_0_1 hs) ?_
  refine e_iconst (pc := 4) dX12_monkLine_4 (x_R rfl) ?_
  refine f_iald (pc := 5) (k := 0) (u := 32) (q := 1) (len := 772) dX12_monkLine_5 (sa_32_1 hs) (by decide) hn rfl rfl (by decide) ?_
  show Ev g _ _ _ _ _ _ 6 [some (x_r (16 * 32 + 0)), some (x_i a), none, none, none, none, none, none, none, none] [x_i (S 1 3)] (al, ro, fl (ml M [32] [S])) _ _ _ _
  refine e_bipush (pc := 6) dX12_monkLine_6 (by decide +kernel) (x_R rfl) ?_
  obtain ⟨S1, hr1, hG⟩ := x_bd1 hG
  have hjhr1 : Ev g yX12_monkLine cX12_monkLine 10 none [] 8 16 [some (x_r (16 * 32 + 0)), some (x_i a), none, none, none, none, none, none, none, none] [] (al, ro, fl (ml M [32] [S1])) 0 0 (.inl none) (al, ro, fl (ml M [32] [t])) := by
    refine e_aloadn (pc := 16) (i := 0) dX12_monkLine_16 rfl rfl ?_
    refine e_ldcS (pc := 17) (i := 1) (tx := "at") dX12_monkLine_17 (List.mem_of_getElem? (i := 49) rfl) (by decide) ?_
    refine e_iconst (pc := 19) dX12_monkLine_19 (x_R rfl) ?_
    refine e_bipush (pc := 20) dX12_monkLine_20 (by decide +kernel) (x_R rfl) ?_
    obtain ⟨v5, S6, hq6, hG⟩ := x_bd2 hG
    refine e_invV (pc := 22) (K1 := 0) (S1 := 0) (K := 0) (S := 0) (dd2 := 7) (av := [x_r (x_s0 + 1), x_i 0, x_i 15]) (st := []) (id := 16 * 32 + 0) dX12_monkLine_22 xmX12_124 rfl (Or.inl ⟨10, 27, TX12, (sa_32_0 hs), rfl, by decide⟩) (f_cal (M := M) (us2 := [32]) [0] hn rfl (And.intro rfl trivial) rfl rfl rfl (c_X12_after hst hs  (by decide) hq6)) (by decide) (Nat.le_of_ble_eq_true rfl) (Or.inl rfl) ?_
    show Ev g _ _ _ _ _ _ 25 [some (x_r (16 * 32 + 0)), some (x_i a), none, none, none, none, none, none, none, none] [x_i v5] (al, ro, fl (ml M [32] [S6])) _ _ _ _
    refine e_istoren (pc := 25) (i := 2) dX12_monkLine_25 rfl (by decide) rfl ?_
    show Ev g _ _ _ _ _ _ 26 [some (x_r (16 * 32 + 0)), some (x_i a), some (x_i v5), none, none, none, none, none, none, none] [] (al, ro, fl (ml M [32] [S6])) _ _ _ _
    refine e_aloadn (pc := 26) (i := 0) dX12_monkLine_26 rfl rfl ?_
    refine f_geti (pc := 27) (k := 0) (u := 32) (q := 0) dX12_monkLine_27 xf12_25 (sa_32_0 hs) rfl hn rfl rfl (by decide) ?_
    show Ev g _ _ _ _ _ _ 30 [some (x_r (16 * 32 + 0)), some (x_i a), some (x_i v5), none, none, none, none, none, none, none] [x_i (S6 0 12)] (al, ro, fl (ml M [32] [S6])) _ _ _ _
    refine e_iconst (pc := 30) dX12_monkLine_30 (x_R rfl) ?_
    obtain ⟨v8, S9, hr9, hG⟩ := x_bd2 hG
    have hjhr9 : Ev g yX12_monkLine cX12_monkLine 10 none [] 8 48 [some (x_r (16 * 32 + 0)), some (x_i a), some (x_i v5), none, none, none, none, none, none, none] [x_i v8] (al, ro, fl (ml M [32] [S9])) 0 0 (.inl none) (al, ro, fl (ml M [32] [t])) := by
      refine e_istoren (pc := 48) (i := 3) dX12_monkLine_48 rfl (by decide) rfl ?_
      show Ev g _ _ _ _ _ _ 49 [some (x_r (16 * 32 + 0)), some (x_i a), some (x_i v5), some (x_i v8), none, none, none, none, none, none] [] (al, ro, fl (ml M [32] [S9])) _ _ _ _
      refine e_aloadn (pc := 49) (i := 0) dX12_monkLine_49 rfl rfl ?_
      refine f_geti (pc := 50) (k := 0) (u := 32) (q := 0) dX12_monkLine_50 xf12_25 (sa_32_0 hs) rfl hn rfl rfl (by decide) ?_
      show Ev g _ _ _ _ _ _ 53 [some (x_r (16 * 32 + 0)), some (x_i a), some (x_i v5), some (x_i v8), none, none, none, none, none, none] [x_i (S9 0 12)] (al, ro, fl (ml M [32] [S9])) _ _ _ _
      refine e_iconst (pc := 53) dX12_monkLine_53 (x_R rfl) ?_
      obtain ⟨S14, hr14, hG⟩ := x_bd1 hG
      have hjhr14 : Ev g yX12_monkLine cX12_monkLine 10 none [] 8 69 [some (x_r (16 * 32 + 0)), some (x_i a), some (x_i v5), some (x_i v8), none, none, none, none, none, none] [] (al, ro, fl (ml M [32] [S14])) 0 0 (.inl none) (al, ro, fl (ml M [32] [t])) := by
        refine e_iloadn (pc := 69) (i := 3) dX12_monkLine_69 rfl rfl ?_
        obtain ⟨v18, S19, hr19, hG⟩ := x_bd2 hG
        have hjhr19 : Ev g yX12_monkLine cX12_monkLine 10 none [] 8 84 [some (x_r (16 * 32 + 0)), some (x_i a), some (x_i v5), some (x_i v8), none, none, none, none, none, none] [x_i v18] (al, ro, fl (ml M [32] [S19])) 0 0 (.inl none) (al, ro, fl (ml M [32] [t])) := by
          refine e_istore (pc := 84) (i := 4) dX12_monkLine_84 (by decide) rfl ?_
          show Ev g _ _ _ _ _ _ 86 [some (x_r (16 * 32 + 0)), some (x_i a), some (x_i v5), some (x_i v8), some (x_i v18), none, none, none, none, none] [] (al, ro, fl (ml M [32] [S19])) _ _ _ _
          refine e_iloadn (pc := 86) (i := 3) dX12_monkLine_86 rfl rfl ?_
          obtain ⟨v24, S25, hr25, hG⟩ := x_bd2 hG
          have hjhr25 : Ev g yX12_monkLine cX12_monkLine 10 none [] 8 101 [some (x_r (16 * 32 + 0)), some (x_i a), some (x_i v5), some (x_i v8), some (x_i v18), none, none, none, none, none] [x_i v24] (al, ro, fl (ml M [32] [S25])) 0 0 (.inl none) (al, ro, fl (ml M [32] [t])) := by
            refine e_istore (pc := 101) (i := 5) dX12_monkLine_101 (by decide) rfl ?_
            show Ev g _ _ _ _ _ _ 103 [some (x_r (16 * 32 + 0)), some (x_i a), some (x_i v5), some (x_i v8), some (x_i v18), some (x_i v24), none, none, none, none] [] (al, ro, fl (ml M [32] [S25])) _ _ _ _
            refine e_aloadn (pc := 103) (i := 0) dX12_monkLine_103 rfl rfl ?_
            refine f_geti (pc := 104) (k := 0) (u := 32) (q := 0) dX12_monkLine_104 xf12_25 (sa_32_0 hs) rfl hn rfl rfl (by decide) ?_
            show Ev g _ _ _ _ _ _ 107 [some (x_r (16 * 32 + 0)), some (x_i a), some (x_i v5), some (x_i v8), some (x_i v18), some (x_i v24), none, none, none, none] [x_i (S25 0 12)] (al, ro, fl (ml M [32] [S25])) _ _ _ _
            refine e_iconst (pc := 107) dX12_monkLine_107 (x_R rfl) ?_
            obtain ⟨S30, hr30, hG⟩ := x_bd1 hG
            have hjhr30 : Ev g yX12_monkLine cX12_monkLine 10 none [] 8 126 [some (x_r (16 * 32 + 0)), some (x_i a), some (x_i v5), some (x_i v8), some (x_i v18), some (x_i v24), none, none, none, none] [] (al, ro, fl (ml M [32] [S30])) 0 0 (.inl none) (al, ro, fl (ml M [32] [t])) := by
              refine e_aloadn (pc := 126) (i := 0) dX12_monkLine_126 rfl rfl ?_
              refine f_geti (pc := 127) (k := 0) (u := 32) (q := 0) dX12_monkLine_127 xf12_25 (sa_32_0 hs) rfl hn rfl rfl (by decide) ?_
              show Ev g _ _ _ _ _ _ 130 [some (x_r (16 * 32 + 0)), some (x_i a), some (x_i v5), some (x_i v8), some (x_i v18), some (x_i v24), none, none, none, none] [x_i (S30 0 12)] (al, ro, fl (ml M [32] [S30])) _ _ _ _
              refine e_iconst (pc := 130) dX12_monkLine_130 (x_R rfl) ?_
              obtain ⟨v36, S37, hr37, hG⟩ := x_bd2 hG
              have hjhr37 : Ev g yX12_monkLine cX12_monkLine 10 none [] 8 154 [some (x_r (16 * 32 + 0)), some (x_i a), some (x_i v5), some (x_i v8), some (x_i v18), some (x_i v24), none, none, none, none] [x_i v36] (al, ro, fl (ml M [32] [S37])) 0 0 (.inl none) (al, ro, fl (ml M [32] [t])) := by
                refine e_istore (pc := 154) (i := 6) dX12_monkLine_154 (by decide) rfl ?_
                show Ev g _ _ _ _ _ _ 156 [some (x_r (16 * 32 + 0)), some (x_i a), some (x_i v5), some (x_i v8), some (x_i v18), some (x_i v24), some (x_i v36), none, none, none] [] (al, ro, fl (ml M [32] [S37])) _ _ _ _
                refine e_aloadn (pc := 156) (i := 0) dX12_monkLine_156 rfl rfl ?_
                refine f_geti (pc := 157) (k := 0) (u := 32) (q := 0) dX12_monkLine_157 xf12_25 (sa_32_0 hs) rfl hn rfl rfl (by decide) ?_
                show Ev g _ _ _ _ _ _ 160 [some (x_r (16 * 32 + 0)), some (x_i a), some (x_i v5), some (x_i v8), some (x_i v18), some (x_i v24), some (x_i v36), none, none, none] [x_i (S37 0 12)] (al, ro, fl (ml M [32] [S37])) _ _ _ _
                refine e_iconst (pc := 160) dX12_monkLine_160 (x_R rfl) ?_
                obtain ⟨v45, S46, hr46, hG⟩ := x_bd2 hG
                have hjhr46 : Ev g yX12_monkLine cX12_monkLine 10 none [] 8 181 [some (x_r (16 * 32 + 0)), some (x_i a), some (x_i v5), some (x_i v8), some (x_i v18), some (x_i v24), some (x_i v36), none, none, none] [x_i v45] (al, ro, fl (ml M [32] [S46])) 0 0 (.inl none) (al, ro, fl (ml M [32] [t])) := by
                  refine e_istore (pc := 181) (i := 7) dX12_monkLine_181 (by decide) rfl ?_
                  show Ev g _ _ _ _ _ _ 183 [some (x_r (16 * 32 + 0)), some (x_i a), some (x_i v5), some (x_i v8), some (x_i v18), some (x_i v24), some (x_i v36), some (x_i v45), none, none] [] (al, ro, fl (ml M [32] [S46])) _ _ _ _
                  refine e_aloadn (pc := 183) (i := 0) dX12_monkLine_183 rfl rfl ?_
                  refine f_geti (pc := 184) (k := 0) (u := 32) (q := 0) dX12_monkLine_184 xf12_25 (sa_32_0 hs) rfl hn rfl rfl (by decide) ?_
                  show Ev g _ _ _ _ _ _ 187 [some (x_r (16 * 32 + 0)), some (x_i a), some (x_i v5), some (x_i v8), some (x_i v18), some (x_i v24), some (x_i v36), some (x_i v45), none, none] [x_i (S46 0 12)] (al, ro, fl (ml M [32] [S46])) _ _ _ _
                  refine e_iconst (pc := 187) dX12_monkLine_187 (x_R rfl) ?_
                  refine e_icmp_eq (pc := 188) (tgt := 192) dX12_monkLine_188 (by decide) (fun hb => ?_) (fun hb => ?_)
                  · rw [if_pos hb] at hG
                    refine e_aloadn (pc := 192) (i := 0) dX12_monkLine_192 rfl rfl ?_
                    refine f_getr (pc := 193) (u := 32) (q := 0) dX12_monkLine_193 xf12_7 (sa_32_0 hs) rfl (sr_32_0_1 hs) ?_
                    refine e_iconst (pc := 196) dX12_monkLine_196 (x_R rfl) ?_
                    refine f_iald (pc := 197) (k := 0) (u := 32) (q := 1) (len := 772) dX12_monkLine_197 (sa_32_1 hs) (by decide) hn rfl rfl (by decide) ?_
                    show Ev g _ _ _ _ _ _ 198 [some (x_r (16 * 32 + 0)), some (x_i a), some (x_i v5), some (x_i v8), some (x_i v18), some (x_i v24), some (x_i v36), some (x_i v45), none, none] [x_i (S46 1 3)] (al, ro, fl (ml M [32] [S46])) _ _ _ _
                    refine e_istore (pc := 198) (i := 8) dX12_monkLine_198 (by decide) rfl ?_
                    show Ev g _ _ _ _ _ _ 200 [some (x_r (16 * 32 + 0)), some (x_i a), some (x_i v5), some (x_i v8), some (x_i v18), some (x_i v24), some (x_i v36), some (x_i v45), some (x_i (S46 1 3)), none] [] (al, ro, fl (ml M [32] [S46])) _ _ _ _
                    refine e_iconst (pc := 200) dX12_monkLine_200 (x_R rfl) ?_
                    refine e_istore (pc := 201) (i := 9) dX12_monkLine_201 (by decide) rfl ?_
                    show Ev g _ _ _ _ _ _ 203 [some (x_r (16 * 32 + 0)), some (x_i a), some (x_i v5), some (x_i v8), some (x_i v18), some (x_i v24), some (x_i v36), some (x_i v45), some (x_i (S46 1 3)), some (x_i 0)] [] (al, ro, fl (ml M [32] [S46])) _ _ _ _
                    obtain ⟨S56, hl57, hG⟩ := x_bd1 hG
                    have hk57 : ∀ q : xU, q = S56 → Ev g yX12_monkLine cX12_monkLine 10 none [] 8 225 [some (x_r (16 * 32 + 0)), some (x_i a), some (x_i v5), some (x_i v8), some (x_i v18), some (x_i v24), some (x_i v36), some (x_i v45), some (x_i (S46 1 3)), none] [] (al, ro, fl (ml M [32] [q])) 0 0 (.inl none) (al, ro, fl (ml M [32] [t])) := by
                      intro q hq
                      replace hq := hq.symm
                      subst hq
                      refine e_aloadn (pc := 225) (i := 0) dX12_monkLine_225 rfl rfl ?_
                      refine e_iload (pc := 226) dX12_monkLine_226 rfl ?_
                      refine e_iconst (pc := 228) dX12_monkLine_228 (x_R rfl) ?_
                      refine e_iloadn (pc := 229) (i := 2) dX12_monkLine_229 rfl rfl ?_
                      obtain ⟨S61, hq61, hG⟩ := x_bd1 hG
                      refine e_invV (pc := 230) (K1 := 0) (S1 := 0) (K := 0) (S := 0) (dd2 := 0) (av := [x_i (S46 1 3), x_i 0, x_i v5]) (st := []) (id := 16 * 32 + 0) dX12_monkLine_230 xmX12_140 rfl (Or.inl ⟨10, 27, TX12, (sa_32_0 hs), rfl, by decide⟩) (f_cal (M := M) (us2 := [32]) [0] hn rfl (And.intro rfl trivial) rfl rfl rfl (c_X12_lays hst hs   hq61)) (by decide) (Nat.le_of_ble_eq_true rfl) (Or.inl rfl) ?_
                      show Ev g _ _ _ _ _ _ 233 [some (x_r (16 * 32 + 0)), some (x_i a), some (x_i v5), some (x_i v8), some (x_i v18), some (x_i v24), some (x_i v36), some (x_i v45), some (x_i (S46 1 3)), none] [] (al, ro, fl (ml M [32] [S61])) _ _ _ _
                      refine e_aloadn (pc := 233) (i := 0) dX12_monkLine_233 rfl rfl ?_
                      refine e_iload (pc := 234) dX12_monkLine_234 rfl ?_
                      refine e_iconst (pc := 236) dX12_monkLine_236 (x_R rfl) ?_
                      refine e_iload (pc := 237) dX12_monkLine_237 rfl ?_
                      obtain ⟨S63, hq63, hG⟩ := x_bd1 hG
                      refine e_invV (pc := 239) (K1 := 0) (S1 := 0) (K := 0) (S := 0) (dd2 := 0) (av := [x_i (S46 1 3), x_i 2, x_i v24]) (st := []) (id := 16 * 32 + 0) dX12_monkLine_239 xmX12_140 rfl (Or.inl ⟨10, 27, TX12, (sa_32_0 hs), rfl, by decide⟩) (f_cal (M := M) (us2 := [32]) [0] hn rfl (And.intro rfl trivial) rfl rfl rfl (c_X12_lays hst hs   hq63)) (by decide) (Nat.le_of_ble_eq_true rfl) (Or.inl rfl) ?_
                      show Ev g _ _ _ _ _ _ 242 [some (x_r (16 * 32 + 0)), some (x_i a), some (x_i v5), some (x_i v8), some (x_i v18), some (x_i v24), some (x_i v36), some (x_i v45), some (x_i (S46 1 3)), none] [] (al, ro, fl (ml M [32] [S63])) _ _ _ _
                      refine e_aloadn (pc := 242) (i := 0) dX12_monkLine_242 rfl rfl ?_
                      refine e_iload (pc := 243) dX12_monkLine_243 rfl ?_
                      refine e_iconst (pc := 245) dX12_monkLine_245 (x_R rfl) ?_
                      refine e_iload (pc := 246) dX12_monkLine_246 rfl ?_
                      obtain ⟨S65, hq65, hG⟩ := x_bd1 hG
                      refine e_invV (pc := 248) (K1 := 0) (S1 := 0) (K := 0) (S := 0) (dd2 := 0) (av := [x_i (S46 1 3), x_i 1, x_i v36]) (st := []) (id := 16 * 32 + 0) dX12_monkLine_248 xmX12_140 rfl (Or.inl ⟨10, 27, TX12, (sa_32_0 hs), rfl, by decide⟩) (f_cal (M := M) (us2 := [32]) [0] hn rfl (And.intro rfl trivial) rfl rfl rfl (c_X12_lays hst hs   hq65)) (by decide) (Nat.le_of_ble_eq_true rfl) (Or.inl rfl) ?_
                      show Ev g _ _ _ _ _ _ 251 [some (x_r (16 * 32 + 0)), some (x_i a), some (x_i v5), some (x_i v8), some (x_i v18), some (x_i v24), some (x_i v36), some (x_i v45), some (x_i (S46 1 3)), none] [] (al, ro, fl (ml M [32] [S65])) _ _ _ _
                      refine e_aloadn (pc := 251) (i := 0) dX12_monkLine_251 rfl rfl ?_
                      refine e_iload (pc := 252) dX12_monkLine_252 rfl ?_
                      refine e_iconst (pc := 254) dX12_monkLine_254 (x_R rfl) ?_
                      refine e_iload (pc := 255) dX12_monkLine_255 rfl ?_
                      obtain ⟨S67, hq67, hG⟩ := x_bd1 hG
                      refine e_invV (pc := 257) (K1 := 0) (S1 := 0) (K := 0) (S := 0) (dd2 := 0) (av := [x_i (S46 1 3), x_i 3, x_i v45]) (st := []) (id := 16 * 32 + 0) dX12_monkLine_257 xmX12_140 rfl (Or.inl ⟨10, 27, TX12, (sa_32_0 hs), rfl, by decide⟩) (f_cal (M := M) (us2 := [32]) [0] hn rfl (And.intro rfl trivial) rfl rfl rfl (c_X12_lays hst hs   hq67)) (by decide) (Nat.le_of_ble_eq_true rfl) (Or.inl rfl) ?_
                      show Ev g _ _ _ _ _ _ 260 [some (x_r (16 * 32 + 0)), some (x_i a), some (x_i v5), some (x_i v8), some (x_i v18), some (x_i v24), some (x_i v36), some (x_i v45), some (x_i (S46 1 3)), none] [] (al, ro, fl (ml M [32] [S67])) _ _ _ _
                      refine e_aloadn (pc := 260) (i := 0) dX12_monkLine_260 rfl rfl ?_
                      refine f_getr (pc := 261) (u := 32) (q := 0) dX12_monkLine_261 xf12_7 (sa_32_0 hs) rfl (sr_32_0_1 hs) ?_
                      refine e_iconst (pc := 264) dX12_monkLine_264 (x_R rfl) ?_
                      refine e_dup2 (pc := 265) dX12_monkLine_265 rfl rfl ?_
                      refine f_iald (pc := 266) (k := 0) (u := 32) (q := 1) (len := 772) dX12_monkLine_266 (sa_32_1 hs) (by decide) hn rfl rfl (by decide) ?_
                      show Ev g _ _ _ _ _ _ 267 [some (x_r (16 * 32 + 0)), some (x_i a), some (x_i v5), some (x_i v8), some (x_i v18), some (x_i v24), some (x_i v36), some (x_i v45), some (x_i (S46 1 3)), none] [x_i (S67 1 3), x_i 3, x_r (16 * 32 + 1)] (al, ro, fl (ml M [32] [S67])) _ _ _ _
                      refine e_iconst (pc := 267) dX12_monkLine_267 (x_R rfl) ?_
                      refine e_iadd (pc := 268) dX12_monkLine_268 ?_
                      refine f_iast (pc := 269) (k := 0) (u := 32) (q := 1) (len := 772) dX12_monkLine_269 (sa_32_1 hs) (by decide) hn rfl rfl rfl (by decide) ?_
                      show Ev g _ _ _ _ _ _ 270 [some (x_r (16 * 32 + 0)), some (x_i a), some (x_i v5), some (x_i v8), some (x_i v18), some (x_i v24), some (x_i v36), some (x_i v45), some (x_i (S46 1 3)), none] [] (al, ro, fl (ml M [32] [(x_up S67 1 3 (x_add (S67 1 3) 1))])) _ _ _ _
                      cases hG
                      exact (e_return rfl dX12_monkLine_270)
                    clear hG
                    refine e_whl (G12_monkLine_L203 S46) (fun z : (Int × xU) => Ev g yX12_monkLine cX12_monkLine 10 none [] 8 203 [some (x_r (16 * 32 + 0)), some (x_i a), some (x_i v5), some (x_i v8), some (x_i v18), some (x_i v24), some (x_i v36), some (x_i v45), some (x_i (S46 1 3)), some (x_i z.1)] [] (al, ro, fl (ml M [32] [z.2])) 0 0 (.inl none) (al, ro, fl (ml M [32] [t]))) (fun q => q = S56) ?_ xFU (0, S46) _ hl57 rfl
                    intro z t57 hf57 hi57 hx57
                    obtain ⟨v54, S55⟩ := z
                    rw [G12_monkLine_L203] at hf57
                    show Ev g _ _ _ _ _ _ 203 [some (x_r (16 * 32 + 0)), some (x_i a), some (x_i v5), some (x_i v8), some (x_i v18), some (x_i v24), some (x_i v36), some (x_i v45), some (x_i (S46 1 3)), some (x_i v54)] [] (al, ro, fl (ml M [32] [S55])) _ _ _ _
                    refine e_iload (pc := 203) dX12_monkLine_203 rfl ?_
                    refine e_bipush (pc := 205) dX12_monkLine_205 (by decide +kernel) (x_R rfl) ?_
                    refine e_icmp_ge (pc := 207) (tgt := 225) dX12_monkLine_207 (by decide) (fun hb => ?_) (fun hb => ?_)
                    · rw [if_pos hb] at hf57
                      cases hf57
                      refine e_drop (i := 9) ?_
                      have hh := hk57 _ (hx57 _ rfl)
                      try dsimp only at hh
                      exact hh
                    · rw [if_neg hb] at hf57
                      refine e_aloadn (pc := 210) (i := 0) dX12_monkLine_210 rfl rfl ?_
                      refine e_iload (pc := 211) dX12_monkLine_211 rfl ?_
                      refine e_iload (pc := 213) dX12_monkLine_213 rfl ?_
                      refine e_iconst (pc := 215) dX12_monkLine_215 (x_R rfl) ?_
                      obtain ⟨S59, hq59, hf57⟩ := x_bd1 hf57
                      refine e_invV (pc := 216) (K1 := 0) (S1 := 0) (K := 0) (S := 0) (dd2 := 0) (av := [x_i (S46 1 3), x_i v54, x_i 0]) (st := []) (id := 16 * 32 + 0) dX12_monkLine_216 xmX12_140 rfl (Or.inl ⟨10, 27, TX12, (sa_32_0 hs), rfl, by decide⟩) (f_cal (M := M) (us2 := [32]) [0] hn rfl (And.intro rfl trivial) rfl rfl rfl (c_X12_lays hst hs   hq59)) (by decide) (Nat.le_of_ble_eq_true rfl) (Or.inl rfl) ?_
                      show Ev g _ _ _ _ _ _ 219 [some (x_r (16 * 32 + 0)), some (x_i a), some (x_i v5), some (x_i v8), some (x_i v18), some (x_i v24), some (x_i v36), some (x_i v45), some (x_i (S46 1 3)), some (x_i v54)] [] (al, ro, fl (ml M [32] [S59])) _ _ _ _
                      refine e_iinc (pc := 219) dX12_monkLine_219 rfl (by decide) rfl ?_
                      show Ev g _ _ _ _ _ _ 222 [some (x_r (16 * 32 + 0)), some (x_i a), some (x_i v5), some (x_i v8), some (x_i v18), some (x_i v24), some (x_i v36), some (x_i v45), some (x_i (S46 1 3)), some (x_i (x_add v54 1))] [] (al, ro, fl (ml M [32] [S59])) _ _ _ _
                      refine e_goto (pc := 222) (tgt := 203) dX12_monkLine_222 (by decide) ?_
                      cases hf57
                      have hh := hi57 _ rfl
                      try dsimp only at hh
                      exact hh
                  · rw [if_neg hb] at hG
                    cases hG
                    exact (e_return rfl dX12_monkLine_191)
                clear hG
                refine e_icmp_ne (pc := 161) (tgt := 180) dX12_monkLine_161 (by decide) (fun hb => ?_) (fun hb => ?_)
                · rw [if_neg hb] at hr46
                  refine e_iconst (pc := 180) dX12_monkLine_180 (x_R rfl) ?_
                  cases hr46
                  exact hjhr46
                · rw [if_pos hb] at hr46
                  refine e_aloadn (pc := 164) (i := 0) dX12_monkLine_164 rfl rfl ?_
                  refine e_ldcS (pc := 165) (i := 4) (tx := "likes") dX12_monkLine_165 (List.mem_of_getElem? (i := 50) rfl) (by decide) ?_
                  obtain ⟨v48, S49, hq49, hr46⟩ := x_bd2 hr46
                  refine e_invV (pc := 167) (K1 := 0) (S1 := 0) (K := 0) (S := 0) (dd2 := 6) (av := [x_r (x_s0 + 4)]) (st := []) (id := 16 * 32 + 0) dX12_monkLine_167 xmX12_112 rfl (Or.inl ⟨10, 27, TX12, (sa_32_0 hs), rfl, by decide⟩) (f_cal (M := M) (us2 := [32]) [0] hn rfl (And.intro rfl trivial) rfl rfl rfl (c_X12_has hst hs  (by decide) hq49)) (by decide) (Nat.le_of_ble_eq_true rfl) (Or.inl rfl) ?_
                  show Ev g _ _ _ _ _ _ 170 [some (x_r (16 * 32 + 0)), some (x_i a), some (x_i v5), some (x_i v8), some (x_i v18), some (x_i v24), some (x_i v36), none, none, none] [x_i v48] (al, ro, fl (ml M [32] [S49])) _ _ _ _
                  refine e_if_eq (pc := 170) (tgt := 180) dX12_monkLine_170 (by decide) (fun hb => ?_) (fun hb => ?_)
                  · rw [if_pos hb] at hr46
                    refine e_iconst (pc := 180) dX12_monkLine_180 (x_R rfl) ?_
                    cases hr46
                    exact hjhr46
                  · rw [if_neg hb] at hr46
                    refine e_aloadn (pc := 173) (i := 0) dX12_monkLine_173 rfl rfl ?_
                    obtain ⟨v51, S52, hq52, hr46⟩ := x_bd2 hr46
                    refine e_invV (pc := 174) (K1 := 0) (S1 := 0) (K := 0) (S := 0) (dd2 := 3) (av := []) (st := []) (id := 16 * 32 + 0) dX12_monkLine_174 xmX12_137 rfl (Or.inl ⟨10, 27, TX12, (sa_32_0 hs), rfl, by decide⟩) (f_cal (M := M) (us2 := [32]) [0] hn rfl (And.intro rfl trivial) rfl rfl rfl (c_X12_months hst hs   hq52)) (by decide) (Nat.le_of_ble_eq_true rfl) (Or.inl rfl) ?_
                    show Ev g _ _ _ _ _ _ 177 [some (x_r (16 * 32 + 0)), some (x_i a), some (x_i v5), some (x_i v8), some (x_i v18), some (x_i v24), some (x_i v36), none, none, none] [x_i v51] (al, ro, fl (ml M [32] [S52])) _ _ _ _
                    refine e_goto (pc := 177) (tgt := 181) dX12_monkLine_177 (by decide) ?_
                    cases hr46
                    exact hjhr46
              clear hG
              refine e_icmp_ne (pc := 131) (tgt := 153) dX12_monkLine_131 (by decide) (fun hb => ?_) (fun hb => ?_)
              · rw [if_neg hb] at hr37
                refine e_iconst (pc := 153) dX12_monkLine_153 (x_R rfl) ?_
                cases hr37
                exact hjhr37
              · rw [if_pos hb] at hr37
                refine e_aloadn (pc := 134) (i := 0) dX12_monkLine_134 rfl rfl ?_
                refine e_ldcS (pc := 135) (i := 3) (tx := "pace") dX12_monkLine_135 (List.mem_of_getElem? (i := 42) rfl) (by decide) ?_
                obtain ⟨v39, S40, hq40, hr37⟩ := x_bd2 hr37
                refine e_invV (pc := 137) (K1 := 0) (S1 := 0) (K := 0) (S := 0) (dd2 := 6) (av := [x_r (x_s0 + 3)]) (st := []) (id := 16 * 32 + 0) dX12_monkLine_137 xmX12_112 rfl (Or.inl ⟨10, 27, TX12, (sa_32_0 hs), rfl, by decide⟩) (f_cal (M := M) (us2 := [32]) [0] hn rfl (And.intro rfl trivial) rfl rfl rfl (c_X12_has hst hs  (by decide) hq40)) (by decide) (Nat.le_of_ble_eq_true rfl) (Or.inl rfl) ?_
                show Ev g _ _ _ _ _ _ 140 [some (x_r (16 * 32 + 0)), some (x_i a), some (x_i v5), some (x_i v8), some (x_i v18), some (x_i v24), none, none, none, none] [x_i v39] (al, ro, fl (ml M [32] [S40])) _ _ _ _
                refine e_if_eq (pc := 140) (tgt := 153) dX12_monkLine_140 (by decide) (fun hb => ?_) (fun hb => ?_)
                · rw [if_pos hb] at hr37
                  refine e_iconst (pc := 153) dX12_monkLine_153 (x_R rfl) ?_
                  cases hr37
                  exact hjhr37
                · rw [if_neg hb] at hr37
                  refine e_aloadn (pc := 143) (i := 0) dX12_monkLine_143 rfl rfl ?_
                  refine e_iconst (pc := 144) dX12_monkLine_144 (x_R rfl) ?_
                  refine e_bipush (pc := 145) dX12_monkLine_145 (by decide +kernel) (x_R rfl) ?_
                  obtain ⟨v42, S43, hq43, hr37⟩ := x_bd2 hr37
                  refine e_invV (pc := 147) (K1 := 0) (S1 := 0) (K := 0) (S := 0) (dd2 := 3) (av := [x_i 0, x_i 8]) (st := []) (id := 16 * 32 + 0) dX12_monkLine_147 xmX12_116 rfl (Or.inl ⟨10, 27, TX12, (sa_32_0 hs), rfl, by decide⟩) (f_cal (M := M) (us2 := [32]) [0] hn rfl (And.intro rfl trivial) rfl rfl rfl (c_X12_figures hst hs   hq43)) (by decide) (Nat.le_of_ble_eq_true rfl) (Or.inl rfl) ?_
                  show Ev g _ _ _ _ _ _ 150 [some (x_r (16 * 32 + 0)), some (x_i a), some (x_i v5), some (x_i v8), some (x_i v18), some (x_i v24), none, none, none, none] [x_i v42] (al, ro, fl (ml M [32] [S43])) _ _ _ _
                  refine e_goto (pc := 150) (tgt := 154) dX12_monkLine_150 (by decide) ?_
                  cases hr37
                  exact hjhr37
            clear hG
            refine e_icmp_ne (pc := 108) (tgt := 126) dX12_monkLine_108 (by decide) (fun hb => ?_) (fun hb => ?_)
            · rw [if_neg hb] at hr30
              cases hr30
              exact hjhr30
            · rw [if_pos hb] at hr30
              refine e_aloadn (pc := 111) (i := 0) dX12_monkLine_111 rfl rfl ?_
              refine e_iload (pc := 112) dX12_monkLine_112 rfl ?_
              obtain ⟨v32, hq32, hr30⟩ := x_bd1 hr30
              refine e_invV (pc := 114) (K1 := 0) (S1 := 0) (K := 0) (S := 0) (dd2 := 1) (av := [x_i v24]) (st := []) (id := 16 * 32 + 0) dX12_monkLine_114 xmX12_130 rfl (Or.inl ⟨10, 27, TX12, (sa_32_0 hs), rfl, by decide⟩) (f_cal (M := M) (us2 := [32]) [0] hn rfl (And.intro rfl trivial) rfl rfl rfl (c_X12_isStall hst hs   hq32)) (by decide) (Nat.le_of_ble_eq_true rfl) (Or.inl rfl) ?_
              show Ev g _ _ _ _ _ _ 117 [some (x_r (16 * 32 + 0)), some (x_i a), some (x_i v5), some (x_i v8), some (x_i v18), some (x_i v24), none, none, none, none] [x_i v32] (al, ro, fl (ml M [32] [S25])) _ _ _ _
              refine e_if_eq (pc := 117) (tgt := 126) dX12_monkLine_117 (by decide) (fun hb => ?_) (fun hb => ?_)
              · rw [if_pos hb] at hr30
                cases hr30
                exact hjhr30
              · rw [if_neg hb] at hr30
                refine e_aloadn (pc := 120) (i := 0) dX12_monkLine_120 rfl rfl ?_
                refine e_iload (pc := 121) dX12_monkLine_121 rfl ?_
                obtain ⟨S34, hq34, hr30⟩ := x_bd1 hr30
                refine e_invV (pc := 123) (K1 := 0) (S1 := 0) (K := 0) (S := 0) (dd2 := 0) (av := [x_i v18]) (st := []) (id := 16 * 32 + 0) dX12_monkLine_123 xmX12_108 rfl (Or.inl ⟨10, 27, TX12, (sa_32_0 hs), rfl, by decide⟩) (f_cal (M := M) (us2 := [32]) [0] hn rfl (And.intro rfl trivial) rfl rfl rfl (c_X12_wrong hst hs   hq34)) (by decide) (Nat.le_of_ble_eq_true rfl) (Or.inl rfl) ?_
                show Ev g _ _ _ _ _ _ 126 [some (x_r (16 * 32 + 0)), some (x_i a), some (x_i v5), some (x_i v8), some (x_i v18), some (x_i v24), none, none, none, none] [] (al, ro, fl (ml M [32] [S34])) _ _ _ _
                cases hr30
                exact hjhr30
          clear hG
          refine e_if_eq (pc := 87) (tgt := 100) dX12_monkLine_87 (by decide) (fun hb => ?_) (fun hb => ?_)
          · rw [if_pos hb] at hr25
            refine e_iconst (pc := 100) dX12_monkLine_100 (x_R rfl) ?_
            cases hr25
            exact hjhr25
          · rw [if_neg hb] at hr25
            refine e_aloadn (pc := 90) (i := 0) dX12_monkLine_90 rfl rfl ?_
            refine e_iconst (pc := 91) dX12_monkLine_91 (x_R rfl) ?_
            refine e_bipush (pc := 92) dX12_monkLine_92 (by decide +kernel) (x_R rfl) ?_
            obtain ⟨v27, S28, hq28, hr25⟩ := x_bd2 hr25
            refine e_invV (pc := 94) (K1 := 0) (S1 := 0) (K := 0) (S := 0) (dd2 := 3) (av := [x_i 0, x_i 11]) (st := []) (id := 16 * 32 + 0) dX12_monkLine_94 xmX12_116 rfl (Or.inl ⟨10, 27, TX12, (sa_32_0 hs), rfl, by decide⟩) (f_cal (M := M) (us2 := [32]) [0] hn rfl (And.intro rfl trivial) rfl rfl rfl (c_X12_figures hst hs   hq28)) (by decide) (Nat.le_of_ble_eq_true rfl) (Or.inl rfl) ?_
            show Ev g _ _ _ _ _ _ 97 [some (x_r (16 * 32 + 0)), some (x_i a), some (x_i v5), some (x_i v8), some (x_i v18), none, none, none, none, none] [x_i v27] (al, ro, fl (ml M [32] [S28])) _ _ _ _
            refine e_goto (pc := 97) (tgt := 101) dX12_monkLine_97 (by decide) ?_
            cases hr25
            exact hjhr25
        clear hG
        refine e_if_eq (pc := 70) (tgt := 80) dX12_monkLine_70 (by decide) (fun hb => ?_) (fun hb => ?_)
        · rw [if_pos hb] at hr19
          refine e_aloadn (pc := 80) (i := 0) dX12_monkLine_80 rfl rfl ?_
          refine f_geti (pc := 81) (k := 0) (u := 32) (q := 0) dX12_monkLine_81 xf12_82 (sa_32_0 hs) rfl hn rfl rfl (by decide) ?_
          show Ev g _ _ _ _ _ _ 84 [some (x_r (16 * 32 + 0)), some (x_i a), some (x_i v5), some (x_i v8), none, none, none, none, none, none] [x_i (S14 0 11)] (al, ro, fl (ml M [32] [S14])) _ _ _ _
          cases hr19
          exact hjhr19
        · rw [if_neg hb] at hr19
          refine e_aloadn (pc := 73) (i := 0) dX12_monkLine_73 rfl rfl ?_
          obtain ⟨v21, S22, hq22, hr19⟩ := x_bd2 hr19
          refine e_invV (pc := 74) (K1 := 0) (S1 := 0) (K := 0) (S := 0) (dd2 := 2) (av := []) (st := []) (id := 16 * 32 + 0) dX12_monkLine_74 xmX12_105 rfl (Or.inl ⟨10, 27, TX12, (sa_32_0 hs), rfl, by decide⟩) (f_cal (M := M) (us2 := [32]) [0] hn rfl (And.intro rfl trivial) rfl rfl rfl (c_X12_here hst hs   hq22)) (by decide) (Nat.le_of_ble_eq_true rfl) (Or.inl rfl) ?_
          show Ev g _ _ _ _ _ _ 77 [some (x_r (16 * 32 + 0)), some (x_i a), some (x_i v5), some (x_i v8), none, none, none, none, none, none] [x_i v21] (al, ro, fl (ml M [32] [S22])) _ _ _ _
          refine e_goto (pc := 77) (tgt := 84) dX12_monkLine_77 (by decide) ?_
          cases hr19
          exact hjhr19
      clear hG
      refine e_icmp_ne (pc := 54) (tgt := 69) dX12_monkLine_54 (by decide) (fun hb => ?_) (fun hb => ?_)
      · rw [if_neg hb] at hr14
        cases hr14
        exact hjhr14
      · rw [if_pos hb] at hr14
        refine e_iloadn (pc := 57) (i := 3) dX12_monkLine_57 rfl rfl ?_
        refine e_if_ne (pc := 58) (tgt := 69) dX12_monkLine_58 (by decide) (fun hb => ?_) (fun hb => ?_)
        · rw [if_neg hb] at hr14
          cases hr14
          exact hjhr14
        · rw [if_pos hb] at hr14
          refine e_aloadn (pc := 61) (i := 0) dX12_monkLine_61 rfl rfl ?_
          refine e_aloadn (pc := 62) (i := 0) dX12_monkLine_62 rfl rfl ?_
          refine f_geti (pc := 63) (k := 0) (u := 32) (q := 0) dX12_monkLine_63 xf12_82 (sa_32_0 hs) rfl hn rfl rfl (by decide) ?_
          show Ev g _ _ _ _ _ _ 66 [some (x_r (16 * 32 + 0)), some (x_i a), some (x_i v5), some (x_i v8), none, none, none, none, none, none] [x_i (S9 0 11), x_r (16 * 32 + 0)] (al, ro, fl (ml M [32] [S9])) _ _ _ _
          obtain ⟨S16, hq16, hr14⟩ := x_bd1 hr14
          refine e_invV (pc := 66) (K1 := 0) (S1 := 0) (K := 0) (S := 0) (dd2 := 0) (av := [x_i (S9 0 11)]) (st := []) (id := 16 * 32 + 0) dX12_monkLine_66 xmX12_108 rfl (Or.inl ⟨10, 27, TX12, (sa_32_0 hs), rfl, by decide⟩) (f_cal (M := M) (us2 := [32]) [0] hn rfl (And.intro rfl trivial) rfl rfl rfl (c_X12_wrong hst hs   hq16)) (by decide) (Nat.le_of_ble_eq_true rfl) (Or.inl rfl) ?_
          show Ev g _ _ _ _ _ _ 69 [some (x_r (16 * 32 + 0)), some (x_i a), some (x_i v5), some (x_i v8), none, none, none, none, none, none] [] (al, ro, fl (ml M [32] [S16])) _ _ _ _
          cases hr14
          exact hjhr14
    clear hG
    refine e_icmp_ne (pc := 31) (tgt := 47) dX12_monkLine_31 (by decide) (fun hb => ?_) (fun hb => ?_)
    · rw [if_neg hb] at hr9
      refine e_iconst (pc := 47) dX12_monkLine_47 (x_R rfl) ?_
      cases hr9
      exact hjhr9
    · rw [if_pos hb] at hr9
      refine e_aloadn (pc := 34) (i := 0) dX12_monkLine_34 rfl rfl ?_
      refine e_ldcS (pc := 35) (i := 2) (tx := "stall") dX12_monkLine_35 (List.mem_of_getElem? (i := 46) rfl) (by decide) ?_
      obtain ⟨v11, S12, hq12, hr9⟩ := x_bd2 hr9
      refine e_invV (pc := 37) (K1 := 0) (S1 := 0) (K := 0) (S := 0) (dd2 := 6) (av := [x_r (x_s0 + 2)]) (st := []) (id := 16 * 32 + 0) dX12_monkLine_37 xmX12_112 rfl (Or.inl ⟨10, 27, TX12, (sa_32_0 hs), rfl, by decide⟩) (f_cal (M := M) (us2 := [32]) [0] hn rfl (And.intro rfl trivial) rfl rfl rfl (c_X12_has hst hs  (by decide) hq12)) (by decide) (Nat.le_of_ble_eq_true rfl) (Or.inl rfl) ?_
      show Ev g _ _ _ _ _ _ 40 [some (x_r (16 * 32 + 0)), some (x_i a), some (x_i v5), none, none, none, none, none, none, none] [x_i v11] (al, ro, fl (ml M [32] [S12])) _ _ _ _
      refine e_if_eq (pc := 40) (tgt := 47) dX12_monkLine_40 (by decide) (fun hb => ?_) (fun hb => ?_)
      · rw [if_pos hb] at hr9
        refine e_iconst (pc := 47) dX12_monkLine_47 (x_R rfl) ?_
        cases hr9
        exact hjhr9
      · rw [if_neg hb] at hr9
        refine e_iconst (pc := 43) dX12_monkLine_43 (x_R rfl) ?_
        refine e_goto (pc := 44) (tgt := 48) dX12_monkLine_44 (by decide) ?_
        cases hr9
        exact hjhr9
  clear hG
  refine e_icmp_ne (pc := 8) (tgt := 16) dX12_monkLine_8 (by decide) (fun hb => ?_) (fun hb => ?_)
  · rw [if_neg hb] at hr1
    cases hr1
    exact hjhr1
  · rw [if_pos hb] at hr1
    refine e_aloadn (pc := 11) (i := 0) dX12_monkLine_11 rfl rfl ?_
    refine e_iloadn (pc := 12) (i := 1) dX12_monkLine_12 rfl rfl ?_
    obtain ⟨S3, hq3, hr1⟩ := x_bd1 hr1
    refine e_invV (pc := 13) (K1 := 0) (S1 := 0) (K := 0) (S := 0) (dd2 := 0) (av := [x_i a]) (st := []) (id := 16 * 32 + 0) dX12_monkLine_13 xmX12_108 rfl (Or.inl ⟨10, 27, TX12, (sa_32_0 hs), rfl, by decide⟩) (f_cal (M := M) (us2 := [32]) [0] hn rfl (And.intro rfl trivial) rfl rfl rfl (c_X12_wrong hst hs   hq3)) (by decide) (Nat.le_of_ble_eq_true rfl) (Or.inl rfl) ?_
    show Ev g _ _ _ _ _ _ 16 [some (x_r (16 * 32 + 0)), some (x_i a), none, none, none, none, none, none, none, none] [] (al, ro, fl (ml M [32] [S3])) _ _ _ _
    cases hr1
    exact hjhr1
set_option maxRecDepth 100000 in
set_option maxHeartbeats 4000000 in
theorem c_X12_seasonName {g : xG} {al : List (Nat × Nat × Nat)} {ro : Nat → Nat → Option Nat} (hst : g.1.stackTraces = false) (hs : SH al ro) {M : Nat → xU} {a : Int} {S : xU}  {t : (Int × xU)} (hG : G12_seasonName a S = some t) :
    Cal g yX12_seasonName cX12_seasonName 3 (some .int) 7 [x_r (16 * 32 + 0), x_i a] (al, ro, fl (ml M [32] [S])) 0 0 (.inl (some (x_i t.1))) (al, ro, fl (ml M [32] [t.2])) := by
  have hn : ([32] : List Nat).Nodup := by decide
  refine cal_of_ev (plainFor_of_name (by decide)) (x_c1 rfl) (Nat.le_of_ble_eq_true rfl) hst ?_
  show Ev g _ _ _ _ _ _ 0 [some (x_r (16 * 32 + 0)), some (x_i a), none] [] (al, ro, fl (ml M [32] [S])) _ _ _ _
  rw [G12_seasonName] at hG
  refine e_aloadn (pc := 0) (i := 0) dX12_seasonName_0 rfl rfl ?_
  refine f_geti (pc := 1) (k := 0) (u := 32) (q := 0) dX12_seasonName_1 xf12_25 (sa_32_0 hs) rfl hn rfl rfl (by decide) ?_
  show Ev g _ _ _ _ _ _ 4 [some (x_r (16 * 32 + 0)), some (x_i a), none] [x_i (S 0 12)] (al, ro, fl (ml M [32] [S])) _ _ _ _
  refine e_iconst (pc := 4) dX12_seasonName_4 (x_R rfl) ?_
  refine e_icmp_eq (pc := 5) (tgt := 10) dX12_seasonName_5 (by decide) (fun hb => ?_) (fun hb => ?_)
  · rw [if_pos hb] at hG
    refine e_aloadn (pc := 10) (i := 0) dX12_seasonName_10 rfl rfl ?_
    refine e_ldcS (pc := 11) (i := 8) (tx := "spring") dX12_seasonName_11 (List.mem_of_getElem? (i := 53) rfl) (by decide) ?_
    obtain ⟨v1, S2, hq2, hG⟩ := x_bd2 hG
    refine e_invV (pc := 13) (K1 := 0) (S1 := 0) (K := 0) (S := 0) (dd2 := 6) (av := [x_r (x_s0 + 8)]) (st := []) (id := 16 * 32 + 0) dX12_seasonName_13 xmX12_112 rfl (Or.inl ⟨10, 27, TX12, (sa_32_0 hs), rfl, by decide⟩) (f_cal (M := M) (us2 := [32]) [0] hn rfl (And.intro rfl trivial) rfl rfl rfl (c_X12_has hst hs  (by decide) hq2)) (by decide) (Nat.le_of_ble_eq_true rfl) (Or.inl rfl) ?_
    show Ev g _ _ _ _ _ _ 16 [some (x_r (16 * 32 + 0)), some (x_i a), none] [x_i v1] (al, ro, fl (ml M [32] [S2])) _ _ _ _
    obtain ⟨v4, S5, hr5, hG⟩ := x_bd2 hG
    have hjhr5 : Ev g yX12_seasonName cX12_seasonName 3 (some .int) [] 7 80 [some (x_r (16 * 32 + 0)), some (x_i a), none] [x_i v4] (al, ro, fl (ml M [32] [S5])) 0 0 (.inl (some (x_i t.1))) (al, ro, fl (ml M [32] [t.2])) := by
      refine e_istoren (pc := 80) (i := 2) dX12_seasonName_80 rfl (by decide) rfl ?_
      show Ev g _ _ _ _ _ _ 81 [some (x_r (16 * 32 + 0)), some (x_i a), some (x_i v4)] [] (al, ro, fl (ml M [32] [S5])) _ _ _ _
      refine e_iloadn (pc := 81) (i := 2) dX12_seasonName_81 rfl rfl ?_
      refine e_iconst (pc := 82) dX12_seasonName_82 (x_R rfl) ?_
      obtain ⟨S19, hr19, hG⟩ := x_bd1 hG
      have hjhr19 : Ev g yX12_seasonName cX12_seasonName 3 (some .int) [] 7 94 [some (x_r (16 * 32 + 0)), some (x_i a), some (x_i v4)] [] (al, ro, fl (ml M [32] [S19])) 0 0 (.inl (some (x_i t.1))) (al, ro, fl (ml M [32] [t.2])) := by
        refine e_iloadn (pc := 94) (i := 2) dX12_seasonName_94 rfl rfl ?_
        refine e_iconst (pc := 95) dX12_seasonName_95 (x_R rfl) ?_
        obtain ⟨v26, hr26, hG⟩ := x_bd1 hG
        have hjhr26 : Ev g yX12_seasonName cX12_seasonName 3 (some .int) [] 7 104 [some (x_r (16 * 32 + 0)), some (x_i a), some (x_i v4)] [x_i v26] (al, ro, fl (ml M [32] [S19])) 0 0 (.inl (some (x_i t.1))) (al, ro, fl (ml M [32] [t.2])) := by
          cases hG
          exact (e_ireturn rfl dX12_seasonName_104 rfl)
        clear hG
        refine e_icmp_ne (pc := 96) (tgt := 103) dX12_seasonName_96 (by decide) (fun hb => ?_) (fun hb => ?_)
        · rw [if_neg hb] at hr26
          refine e_iloadn (pc := 103) (i := 2) dX12_seasonName_103 rfl rfl ?_
          cases hr26
          exact hjhr26
        · rw [if_pos hb] at hr26
          refine e_iconst (pc := 99) dX12_seasonName_99 (x_R rfl) ?_
          refine e_goto (pc := 100) (tgt := 104) dX12_seasonName_100 (by decide) ?_
          cases hr26
          exact hjhr26
      clear hG
      refine e_icmp_ne (pc := 83) (tgt := 94) dX12_seasonName_83 (by decide) (fun hb => ?_) (fun hb => ?_)
      · rw [if_neg hb] at hr19
        cases hr19
        exact hjhr19
      · rw [if_pos hb] at hr19
        refine e_aloadn (pc := 86) (i := 0) dX12_seasonName_86 rfl rfl ?_
        refine e_aloadn (pc := 87) (i := 0) dX12_seasonName_87 rfl rfl ?_
        obtain ⟨v21, S22, hq22, hr19⟩ := x_bd2 hr19
        refine e_invV (pc := 88) (K1 := 0) (S1 := 0) (K := 0) (S := 0) (dd2 := 2) (av := []) (st := [x_r (16 * 32 + 0)]) (id := 16 * 32 + 0) dX12_seasonName_88 xmX12_105 rfl (Or.inl ⟨10, 27, TX12, (sa_32_0 hs), rfl, by decide⟩) (f_cal (M := M) (us2 := [32]) [0] hn rfl (And.intro rfl trivial) rfl rfl rfl (c_X12_here hst hs   hq22)) (by decide) (Nat.le_of_ble_eq_true rfl) (Or.inl rfl) ?_
        show Ev g _ _ _ _ _ _ 91 [some (x_r (16 * 32 + 0)), some (x_i a), some (x_i v4)] [x_i v21, x_r (16 * 32 + 0)] (al, ro, fl (ml M [32] [S22])) _ _ _ _
        obtain ⟨S24, hq24, hr19⟩ := x_bd1 hr19
        refine e_invV (pc := 91) (K1 := 0) (S1 := 0) (K := 0) (S := 0) (dd2 := 0) (av := [x_i v21]) (st := []) (id := 16 * 32 + 0) dX12_seasonName_91 xmX12_108 rfl (Or.inl ⟨10, 27, TX12, (sa_32_0 hs), rfl, by decide⟩) (f_cal (M := M) (us2 := [32]) [0] hn rfl (And.intro rfl trivial) rfl rfl rfl (c_X12_wrong hst hs   hq24)) (by decide) (Nat.le_of_ble_eq_true rfl) (Or.inl rfl) ?_
        show Ev g _ _ _ _ _ _ 94 [some (x_r (16 * 32 + 0)), some (x_i a), some (x_i v4)] [] (al, ro, fl (ml M [32] [S24])) _ _ _ _
        cases hr19
        exact hjhr19
    clear hG
    refine e_if_eq (pc := 16) (tgt := 23) dX12_seasonName_16 (by decide) (fun hb => ?_) (fun hb => ?_)
    · rw [if_pos hb] at hr5
      refine e_aloadn (pc := 23) (i := 0) dX12_seasonName_23 rfl rfl ?_
      refine e_ldcS (pc := 24) (i := 9) (tx := "summer") dX12_seasonName_24 (List.mem_of_getElem? (i := 54) rfl) (by decide) ?_
      obtain ⟨v7, S8, hq8, hr5⟩ := x_bd2 hr5
      refine e_invV (pc := 26) (K1 := 0) (S1 := 0) (K := 0) (S := 0) (dd2 := 6) (av := [x_r (x_s0 + 9)]) (st := []) (id := 16 * 32 + 0) dX12_seasonName_26 xmX12_112 rfl (Or.inl ⟨10, 27, TX12, (sa_32_0 hs), rfl, by decide⟩) (f_cal (M := M) (us2 := [32]) [0] hn rfl (And.intro rfl trivial) rfl rfl rfl (c_X12_has hst hs  (by decide) hq8)) (by decide) (Nat.le_of_ble_eq_true rfl) (Or.inl rfl) ?_
      show Ev g _ _ _ _ _ _ 29 [some (x_r (16 * 32 + 0)), some (x_i a), none] [x_i v7] (al, ro, fl (ml M [32] [S8])) _ _ _ _
      refine e_if_eq (pc := 29) (tgt := 36) dX12_seasonName_29 (by decide) (fun hb => ?_) (fun hb => ?_)
      · rw [if_pos hb] at hr5
        refine e_aloadn (pc := 36) (i := 0) dX12_seasonName_36 rfl rfl ?_
        refine e_ldcS (pc := 37) (i := 10) (tx := "autumn") dX12_seasonName_37 (List.mem_of_getElem? (i := 55) rfl) (by decide) ?_
        obtain ⟨v10, S11, hq11, hr5⟩ := x_bd2 hr5
        refine e_invV (pc := 39) (K1 := 0) (S1 := 0) (K := 0) (S := 0) (dd2 := 6) (av := [x_r (x_s0 + 10)]) (st := []) (id := 16 * 32 + 0) dX12_seasonName_39 xmX12_112 rfl (Or.inl ⟨10, 27, TX12, (sa_32_0 hs), rfl, by decide⟩) (f_cal (M := M) (us2 := [32]) [0] hn rfl (And.intro rfl trivial) rfl rfl rfl (c_X12_has hst hs  (by decide) hq11)) (by decide) (Nat.le_of_ble_eq_true rfl) (Or.inl rfl) ?_
        show Ev g _ _ _ _ _ _ 42 [some (x_r (16 * 32 + 0)), some (x_i a), none] [x_i v10] (al, ro, fl (ml M [32] [S11])) _ _ _ _
        refine e_if_eq (pc := 42) (tgt := 49) dX12_seasonName_42 (by decide) (fun hb => ?_) (fun hb => ?_)
        · rw [if_pos hb] at hr5
          refine e_aloadn (pc := 49) (i := 0) dX12_seasonName_49 rfl rfl ?_
          refine e_ldcS (pc := 50) (i := 11) (tx := "winter") dX12_seasonName_50 (List.mem_of_getElem? (i := 56) rfl) (by decide) ?_
          obtain ⟨v13, S14, hq14, hr5⟩ := x_bd2 hr5
          refine e_invV (pc := 52) (K1 := 0) (S1 := 0) (K := 0) (S := 0) (dd2 := 6) (av := [x_r (x_s0 + 11)]) (st := []) (id := 16 * 32 + 0) dX12_seasonName_52 xmX12_112 rfl (Or.inl ⟨10, 27, TX12, (sa_32_0 hs), rfl, by decide⟩) (f_cal (M := M) (us2 := [32]) [0] hn rfl (And.intro rfl trivial) rfl rfl rfl (c_X12_has hst hs  (by decide) hq14)) (by decide) (Nat.le_of_ble_eq_true rfl) (Or.inl rfl) ?_
          show Ev g _ _ _ _ _ _ 55 [some (x_r (16 * 32 + 0)), some (x_i a), none] [x_i v13] (al, ro, fl (ml M [32] [S14])) _ _ _ _
          refine e_if_eq (pc := 55) (tgt := 62) dX12_seasonName_55 (by decide) (fun hb => ?_) (fun hb => ?_)
          · rw [if_pos hb] at hr5
            refine e_iloadn (pc := 62) (i := 1) dX12_seasonName_62 rfl rfl ?_
            refine e_if_eq (pc := 63) (tgt := 79) dX12_seasonName_63 (by decide) (fun hb => ?_) (fun hb => ?_)
            · rw [if_pos hb] at hr5
              refine e_iconst (pc := 79) dX12_seasonName_79 (x_R rfl) ?_
              cases hr5
              exact hjhr5
            · rw [if_neg hb] at hr5
              refine e_aloadn (pc := 66) (i := 0) dX12_seasonName_66 rfl rfl ?_
              refine e_ldcS (pc := 67) (i := 7) (tx := "own") dX12_seasonName_67 (List.mem_of_getElem? (i := 57) rfl) (by decide) ?_
              obtain ⟨v16, S17, hq17, hr5⟩ := x_bd2 hr5
              refine e_invV (pc := 69) (K1 := 0) (S1 := 0) (K := 0) (S := 0) (dd2 := 6) (av := [x_r (x_s0 + 7)]) (st := []) (id := 16 * 32 + 0) dX12_seasonName_69 xmX12_112 rfl (Or.inl ⟨10, 27, TX12, (sa_32_0 hs), rfl, by decide⟩) (f_cal (M := M) (us2 := [32]) [0] hn rfl (And.intro rfl trivial) rfl rfl rfl (c_X12_has hst hs  (by decide) hq17)) (by decide) (Nat.le_of_ble_eq_true rfl) (Or.inl rfl) ?_
              show Ev g _ _ _ _ _ _ 72 [some (x_r (16 * 32 + 0)), some (x_i a), none] [x_i v16] (al, ro, fl (ml M [32] [S17])) _ _ _ _
              refine e_if_eq (pc := 72) (tgt := 79) dX12_seasonName_72 (by decide) (fun hb => ?_) (fun hb => ?_)
              · rw [if_pos hb] at hr5
                refine e_iconst (pc := 79) dX12_seasonName_79 (x_R rfl) ?_
                cases hr5
                exact hjhr5
              · rw [if_neg hb] at hr5
                refine e_iconst (pc := 75) dX12_seasonName_75 (x_R rfl) ?_
                refine e_goto (pc := 76) (tgt := 80) dX12_seasonName_76 (by decide) ?_
                cases hr5
                exact hjhr5
          · rw [if_neg hb] at hr5
            refine e_iconst (pc := 58) dX12_seasonName_58 (x_R rfl) ?_
            refine e_goto (pc := 59) (tgt := 80) dX12_seasonName_59 (by decide) ?_
            cases hr5
            exact hjhr5
        · rw [if_neg hb] at hr5
          refine e_iconst (pc := 45) dX12_seasonName_45 (x_R rfl) ?_
          refine e_goto (pc := 46) (tgt := 80) dX12_seasonName_46 (by decide) ?_
          cases hr5
          exact hjhr5
      · rw [if_neg hb] at hr5
        refine e_iconst (pc := 32) dX12_seasonName_32 (x_R rfl) ?_
        refine e_goto (pc := 33) (tgt := 80) dX12_seasonName_33 (by decide) ?_
        cases hr5
        exact hjhr5
    · rw [if_neg hb] at hr5
      refine e_iconst (pc := 19) dX12_seasonName_19 (x_R rfl) ?_
      refine e_goto (pc := 20) (tgt := 80) dX12_seasonName_20 (by decide) ?_
      cases hr5
      exact hjhr5
  · rw [if_neg hb] at hG
    refine e_iconst (pc := 8) dX12_seasonName_8 (x_R rfl) ?_
    cases hG
    exact (e_ireturn rfl dX12_seasonName_9 rfl)
set_option maxRecDepth 100000 in
set_option maxHeartbeats 4000000 in
theorem c_X12_says {g : xG} {al : List (Nat × Nat × Nat)} {ro : Nat → Nat → Option Nat} (hst : g.1.stackTraces = false) (hs : SH al ro) {M : Nat → xU} {a : Int} {b : Int} {c : Int} {S : xU}  {t : xU} (hG : G12_says a b c S = some t) :
    Cal g yX12_says cX12_says 5 none 4 [x_r (16 * 32 + 0), x_i a, x_i b, x_i c] (al, ro, fl (ml M [32] [S])) 0 0 (.inl none) (al, ro, fl (ml M [32] [t])) := by
  have hn : ([32] : List Nat).Nodup := by decide
  refine cal_of_ev (plainFor_of_name (by decide)) (x_c1 rfl) (Nat.le_of_ble_eq_true rfl) hst ?_
  show Ev g _ _ _ _ _ _ 0 [some (x_r (16 * 32 + 0)), some (x_i a), some (x_i b), some (x_i c), none] [] (al, ro, fl (ml M [32] [S])) _ _ _ _
  rw [G12_says] at hG
  refine e_aloadn (pc := 0) (i := 0) dX12_says_0 rfl rfl ?_
  refine e_iloadn (pc := 1) (i := 2) dX12_says_1 rfl rfl ?_
  refine e_iloadn (pc := 2) (i := 3) dX12_says_2 rfl rfl ?_
  obtain ⟨v1, S2, hq2, hG⟩ := x_bd2 hG
  refine e_invV (pc := 3) (K1 := 0) (S1 := 0) (K := 0) (S := 0) (dd2 := 3) (av := [x_i b, x_i c]) (st := []) (id := 16 * 32 + 0) dX12_says_3 xmX12_116 rfl (Or.inl ⟨10, 27, TX12, (sa_32_0 hs), rfl, by decide⟩) (f_cal (M := M) (us2 := [32]) [0] hn rfl (And.intro rfl trivial) rfl rfl rfl (c_X12_figures hst hs   hq2)) (by decide) (Nat.le_of_ble_eq_true rfl) (Or.inl rfl) ?_
  show Ev g _ _ _ _ _ _ 6 [some (x_r (16 * 32 + 0)), some (x_i a), some (x_i b), some (x_i c), none] [x_i v1] (al, ro, fl (ml M [32] [S2])) _ _ _ _
  refine e_istore (pc := 6) (i := 4) dX12_says_6 (by decide) rfl ?_
  show Ev g _ _ _ _ _ _ 8 [some (x_r (16 * 32 + 0)), some (x_i a), some (x_i b), some (x_i c), some (x_i v1)] [] (al, ro, fl (ml M [32] [S2])) _ _ _ _
  refine e_aloadn (pc := 8) (i := 0) dX12_says_8 rfl rfl ?_
  refine f_geti (pc := 9) (k := 0) (u := 32) (q := 0) dX12_says_9 xf12_25 (sa_32_0 hs) rfl hn rfl rfl (by decide) ?_
  show Ev g _ _ _ _ _ _ 12 [some (x_r (16 * 32 + 0)), some (x_i a), some (x_i b), some (x_i c), some (x_i v1)] [x_i (S2 0 12)] (al, ro, fl (ml M [32] [S2])) _ _ _ _
  refine e_iconst (pc := 12) dX12_says_12 (x_R rfl) ?_
  obtain ⟨S4, hr4, hG⟩ := x_bd1 hG
  have hjhr4 : Ev g yX12_says cX12_says 5 none [] 4 24 [some (x_r (16 * 32 + 0)), some (x_i a), some (x_i b), some (x_i c), some (x_i v1)] [] (al, ro, fl (ml M [32] [S4])) 0 0 (.inl none) (al, ro, fl (ml M [32] [t])) := by
    cases hG
    exact (e_return rfl dX12_says_24)
  clear hG
  refine e_icmp_ne (pc := 13) (tgt := 24) dX12_says_13 (by decide) (fun hb => ?_) (fun hb => ?_)
  · rw [if_neg hb] at hr4
    cases hr4
    exact hjhr4
  · rw [if_pos hb] at hr4
    refine e_aloadn (pc := 16) (i := 0) dX12_says_16 rfl rfl ?_
    refine f_getr (pc := 17) (u := 32) (q := 0) dX12_says_17 xf12_7 (sa_32_0 hs) rfl (sr_32_0_1 hs) ?_
    refine e_iloadn (pc := 20) (i := 1) dX12_says_20 rfl rfl ?_
    refine e_iload (pc := 21) dX12_says_21 rfl ?_
    obtain ⟨hc0, hr4⟩ := x_gd_some hr4
    refine f_iast (pc := 23) (k := 0) (u := 32) (q := 1) (len := 772) dX12_says_23 (sa_32_1 hs) hc0 hn rfl rfl rfl (by decide) ?_
    show Ev g _ _ _ _ _ _ 24 [some (x_r (16 * 32 + 0)), some (x_i a), some (x_i b), some (x_i c), some (x_i v1)] [] (al, ro, fl (ml M [32] [(x_up S2 1 (a).toNat v1)])) _ _ _ _
    cases hr4
    exact hjhr4
