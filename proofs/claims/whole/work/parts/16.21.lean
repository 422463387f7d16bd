set_option maxRecDepth 100000 in
set_option maxHeartbeats 4000000 in
theorem c_X11_count {g : xG} {al : List (Nat × Nat × Nat)} {ro : Nat → Nat → Option Nat} (hst : g.1.stackTraces = false) (hs : SH al ro) {M : Nat → xU} {a : Int} {X : xU} {N : xU} {La : xU}  {t : Int} (hG : G11_count a X N La = some t) :
    Cal g yX11_count cX11_count 2 (some .int) 2 [x_r (16 * 1 + 0), x_i a] (al, ro, fl (ml M [1, 3, 19] [X, N, La])) 0 0 (.inl (some (x_i t))) (al, ro, fl (ml M [1, 3, 19] [X, N, La])) := by
  have hn : ([1, 3, 19] : List Nat).Nodup := by decide
  refine cal_of_ev (plainFor_of_name (by decide)) (x_c1 rfl) (Nat.le_of_ble_eq_true rfl) hst ?_
  show Ev g _ _ _ _ _ _ 0 [some (x_r (16 * 1 + 0)), some (x_i a)] [] (al, ro, fl (ml M [1, 3, 19] [X, N, La])) _ _ _ _
  rw [G11_count] at hG
  refine e_iloadn (pc := 0) (i := 1) dX11_count_0 rfl rfl ?_
  by_cases hb0 : a = 0
  · rw [if_pos hb0] at hG
    refine e_tabIn (pc := 1) (tgt := 68) dX11_count_1 (by omega) (by omega) (by rw [hb0]; rfl) (by decide) ?_
    refine e_aloadn (pc := 68) (i := 0) dX11_count_68 rfl rfl ?_
    refine f_getr (pc := 69) (u := 1) (q := 0) dX11_count_69 xf11_19 (sa_1_0 hs) rfl (sr_1_0_1 hs) ?_
    refine f_geti (pc := 72) (k := 1) (u := 3) (q := 0) dX11_count_72 xf11_200 (sa_3_0 hs) rfl hn rfl rfl (by decide) ?_
    show Ev g _ _ _ _ _ _ 75 [some (x_r (16 * 1 + 0)), some (x_i a)] [x_i (N 0 3)] (al, ro, fl (ml M [1, 3, 19] [X, N, La])) _ _ _ _
    cases hG
    exact (e_ireturn rfl dX11_count_75 rfl)
  rw [if_neg hb0] at hG
  by_cases hb1 : a = 1
  · rw [if_pos hb1] at hG
    refine e_tabIn (pc := 1) (tgt := 76) dX11_count_1 (by omega) (by omega) (by rw [hb1]; rfl) (by decide) ?_
    refine e_aloadn (pc := 76) (i := 0) dX11_count_76 rfl rfl ?_
    refine f_getr (pc := 77) (u := 1) (q := 0) dX11_count_77 xf11_19 (sa_1_0 hs) rfl (sr_1_0_1 hs) ?_
    refine f_geti (pc := 80) (k := 1) (u := 3) (q := 0) dX11_count_80 xf11_108 (sa_3_0 hs) rfl hn rfl rfl (by decide) ?_
    show Ev g _ _ _ _ _ _ 83 [some (x_r (16 * 1 + 0)), some (x_i a)] [x_i (N 0 4)] (al, ro, fl (ml M [1, 3, 19] [X, N, La])) _ _ _ _
    cases hG
    exact (e_ireturn rfl dX11_count_83 rfl)
  rw [if_neg hb1] at hG
  by_cases hb2 : a = 2
  · rw [if_pos hb2] at hG
    refine e_tabIn (pc := 1) (tgt := 84) dX11_count_1 (by omega) (by omega) (by rw [hb2]; rfl) (by decide) ?_
    refine e_aloadn (pc := 84) (i := 0) dX11_count_84 rfl rfl ?_
    refine f_getr (pc := 85) (u := 1) (q := 0) dX11_count_85 xf11_32 (sa_1_0 hs) rfl (sr_1_0_4 hs) ?_
    refine f_geti (pc := 88) (k := 2) (u := 19) (q := 0) dX11_count_88 xf11_125 (sa_19_0 hs) rfl hn rfl rfl (by decide) ?_
    show Ev g _ _ _ _ _ _ 91 [some (x_r (16 * 1 + 0)), some (x_i a)] [x_i (La 0 6)] (al, ro, fl (ml M [1, 3, 19] [X, N, La])) _ _ _ _
    cases hG
    exact (e_ireturn rfl dX11_count_91 rfl)
  rw [if_neg hb2] at hG
  by_cases hb3 : a = 3
  · rw [if_pos hb3] at hG
    refine e_tabIn (pc := 1) (tgt := 92) dX11_count_1 (by omega) (by omega) (by rw [hb3]; rfl) (by decide) ?_
    refine e_aloadn (pc := 92) (i := 0) dX11_count_92 rfl rfl ?_
    refine f_getr (pc := 93) (u := 1) (q := 0) dX11_count_93 xf11_19 (sa_1_0 hs) rfl (sr_1_0_1 hs) ?_
    refine f_geti (pc := 96) (k := 1) (u := 3) (q := 0) dX11_count_96 xf11_369 (sa_3_0 hs) rfl hn rfl rfl (by decide) ?_
    show Ev g _ _ _ _ _ _ 99 [some (x_r (16 * 1 + 0)), some (x_i a)] [x_i (N 0 5)] (al, ro, fl (ml M [1, 3, 19] [X, N, La])) _ _ _ _
    cases hG
    exact (e_ireturn rfl dX11_count_99 rfl)
  rw [if_neg hb3] at hG
  by_cases hb4 : a = 4
  · rw [if_pos hb4] at hG
    refine e_tabIn (pc := 1) (tgt := 100) dX11_count_1 (by omega) (by omega) (by rw [hb4]; rfl) (by decide) ?_
    refine e_aloadn (pc := 100) (i := 0) dX11_count_100 rfl rfl ?_
    refine f_getr (pc := 101) (u := 1) (q := 0) dX11_count_101 xf11_19 (sa_1_0 hs) rfl (sr_1_0_1 hs) ?_
    refine f_geti (pc := 104) (k := 1) (u := 3) (q := 0) dX11_count_104 xf11_372 (sa_3_0 hs) rfl hn rfl rfl (by decide) ?_
    show Ev g _ _ _ _ _ _ 107 [some (x_r (16 * 1 + 0)), some (x_i a)] [x_i (N 0 6)] (al, ro, fl (ml M [1, 3, 19] [X, N, La])) _ _ _ _
    cases hG
    exact (e_ireturn rfl dX11_count_107 rfl)
  rw [if_neg hb4] at hG
  by_cases hb5 : a = 5
  · rw [if_pos hb5] at hG
    refine e_tabIn (pc := 1) (tgt := 108) dX11_count_1 (by omega) (by omega) (by rw [hb5]; rfl) (by decide) ?_
    refine e_aloadn (pc := 108) (i := 0) dX11_count_108 rfl rfl ?_
    refine f_getr (pc := 109) (u := 1) (q := 0) dX11_count_109 xf11_19 (sa_1_0 hs) rfl (sr_1_0_1 hs) ?_
    refine f_geti (pc := 112) (k := 1) (u := 3) (q := 0) dX11_count_112 xf11_184 (sa_3_0 hs) rfl hn rfl rfl (by decide) ?_
    show Ev g _ _ _ _ _ _ 115 [some (x_r (16 * 1 + 0)), some (x_i a)] [x_i (N 0 7)] (al, ro, fl (ml M [1, 3, 19] [X, N, La])) _ _ _ _
    cases hG
    exact (e_ireturn rfl dX11_count_115 rfl)
  rw [if_neg hb5] at hG
  by_cases hb6 : a = 6
  · rw [if_pos hb6] at hG
    refine e_tabIn (pc := 1) (tgt := 116) dX11_count_1 (by omega) (by omega) (by rw [hb6]; rfl) (by decide) ?_
    refine e_aloadn (pc := 116) (i := 0) dX11_count_116 rfl rfl ?_
    refine f_getr (pc := 117) (u := 1) (q := 0) dX11_count_117 xf11_19 (sa_1_0 hs) rfl (sr_1_0_1 hs) ?_
    refine f_geti (pc := 120) (k := 1) (u := 3) (q := 0) dX11_count_120 xf11_191 (sa_3_0 hs) rfl hn rfl rfl (by decide) ?_
    show Ev g _ _ _ _ _ _ 123 [some (x_r (16 * 1 + 0)), some (x_i a)] [x_i (N 0 8)] (al, ro, fl (ml M [1, 3, 19] [X, N, La])) _ _ _ _
    cases hG
    exact (e_ireturn rfl dX11_count_123 rfl)
  rw [if_neg hb6] at hG
  by_cases hb7 : a = 7
  · rw [if_pos hb7] at hG
    refine e_tabIn (pc := 1) (tgt := 124) dX11_count_1 (by omega) (by omega) (by rw [hb7]; rfl) (by decide) ?_
    refine e_aloadn (pc := 124) (i := 0) dX11_count_124 rfl rfl ?_
    refine f_getr (pc := 125) (u := 1) (q := 0) dX11_count_125 xf11_19 (sa_1_0 hs) rfl (sr_1_0_1 hs) ?_
    refine f_geti (pc := 128) (k := 1) (u := 3) (q := 0) dX11_count_128 xf11_375 (sa_3_0 hs) rfl hn rfl rfl (by decide) ?_
    show Ev g _ _ _ _ _ _ 131 [some (x_r (16 * 1 + 0)), some (x_i a)] [x_i (N 0 9)] (al, ro, fl (ml M [1, 3, 19] [X, N, La])) _ _ _ _
    cases hG
    exact (e_ireturn rfl dX11_count_131 rfl)
  rw [if_neg hb7] at hG
  by_cases hb8 : a = 8
  · rw [if_pos hb8] at hG
    refine e_tabIn (pc := 1) (tgt := 132) dX11_count_1 (by omega) (by omega) (by rw [hb8]; rfl) (by decide) ?_
    refine e_aloadn (pc := 132) (i := 0) dX11_count_132 rfl rfl ?_
    refine f_getr (pc := 133) (u := 1) (q := 0) dX11_count_133 xf11_19 (sa_1_0 hs) rfl (sr_1_0_1 hs) ?_
    refine f_geti (pc := 136) (k := 1) (u := 3) (q := 0) dX11_count_136 xf11_181 (sa_3_0 hs) rfl hn rfl rfl (by decide) ?_
    show Ev g _ _ _ _ _ _ 139 [some (x_r (16 * 1 + 0)), some (x_i a)] [x_i (N 0 10)] (al, ro, fl (ml M [1, 3, 19] [X, N, La])) _ _ _ _
    cases hG
    exact (e_ireturn rfl dX11_count_139 rfl)
  rw [if_neg hb8] at hG
  by_cases hb9 : a = 9
  · rw [if_pos hb9] at hG
    refine e_tabIn (pc := 1) (tgt := 140) dX11_count_1 (by omega) (by omega) (by rw [hb9]; rfl) (by decide) ?_
    refine e_aloadn (pc := 140) (i := 0) dX11_count_140 rfl rfl ?_
    refine f_getr (pc := 141) (u := 1) (q := 0) dX11_count_141 xf11_19 (sa_1_0 hs) rfl (sr_1_0_1 hs) ?_
    obtain ⟨v1, hq1, hG⟩ := x_bd1 hG
    refine e_invV (pc := 144) (K1 := 0) (S1 := 0) (K := 0) (S := 0) (dd2 := 0) (av := []) (st := []) (id := 16 * 3 + 0) dX11_count_144 xmX11_378 rfl (Or.inl ⟨1, 12, TX1, (sa_3_0 hs), rfl, by decide⟩) (f_cal (M := M) (us2 := [3]) [1] hn rfl (And.intro rfl trivial) rfl rfl rfl (c_X1_storeOfAll hst hs (by decide)  hq1)) (by decide) (Nat.le_of_ble_eq_true rfl) (Or.inl rfl) ?_
    show Ev g _ _ _ _ _ _ 147 [some (x_r (16 * 1 + 0)), some (x_i a)] [x_i v1] (al, ro, fl (ml M [1, 3, 19] [X, N, La])) _ _ _ _
    cases hG
    exact (e_ireturn rfl dX11_count_147 rfl)
  rw [if_neg hb9] at hG
  by_cases hb10 : a = 10
  · rw [if_pos hb10] at hG
    refine e_tabIn (pc := 1) (tgt := 148) dX11_count_1 (by omega) (by omega) (by rw [hb10]; rfl) (by decide) ?_
    refine e_aloadn (pc := 148) (i := 0) dX11_count_148 rfl rfl ?_
    refine f_getr (pc := 149) (u := 1) (q := 0) dX11_count_149 xf11_19 (sa_1_0 hs) rfl (sr_1_0_1 hs) ?_
    refine e_iconst (pc := 152) dX11_count_152 (x_R rfl) ?_
    obtain ⟨v3, hq3, hG⟩ := x_bd1 hG
    refine e_invV (pc := 153) (K1 := 0) (S1 := 0) (K := 0) (S := 0) (dd2 := 1) (av := [x_i 5]) (st := []) (id := 16 * 3 + 0) dX11_count_153 xmX11_336 rfl (Or.inl ⟨1, 12, TX1, (sa_3_0 hs), rfl, by decide⟩) (f_cal (M := M) (us2 := [3]) [1] hn rfl (And.intro rfl trivial) rfl rfl rfl (c_X1_sumOf hst hs (by decide)  hq3)) (by decide) (Nat.le_of_ble_eq_true rfl) (Or.inl rfl) ?_
    show Ev g _ _ _ _ _ _ 156 [some (x_r (16 * 1 + 0)), some (x_i a)] [x_i v3] (al, ro, fl (ml M [1, 3, 19] [X, N, La])) _ _ _ _
    cases hG
    exact (e_ireturn rfl dX11_count_156 rfl)
  rw [if_neg hb10] at hG
  by_cases hb11 : a = 11
  · rw [if_pos hb11] at hG
    refine e_tabIn (pc := 1) (tgt := 157) dX11_count_1 (by omega) (by omega) (by rw [hb11]; rfl) (by decide) ?_
    refine e_aloadn (pc := 157) (i := 0) dX11_count_157 rfl rfl ?_
    refine f_getr (pc := 158) (u := 1) (q := 0) dX11_count_158 xf11_19 (sa_1_0 hs) rfl (sr_1_0_1 hs) ?_
    refine f_getr (pc := 161) (u := 3) (q := 0) dX11_count_161 xf11_343 (sa_3_0 hs) rfl (sr_3_0_2 hs) ?_
    refine f_geti (pc := 164) (k := 1) (u := 3) (q := 3) dX11_count_164 xf11_381 (sa_3_3 hs) rfl hn rfl rfl (by decide) ?_
    show Ev g _ _ _ _ _ _ 167 [some (x_r (16 * 1 + 0)), some (x_i a)] [x_i (N 3 1)] (al, ro, fl (ml M [1, 3, 19] [X, N, La])) _ _ _ _
    cases hG
    exact (e_ireturn rfl dX11_count_167 rfl)
  rw [if_neg hb11] at hG
  by_cases hb12 : a = 12
  · rw [if_pos hb12] at hG
    refine e_tabIn (pc := 1) (tgt := 168) dX11_count_1 (by omega) (by omega) (by rw [hb12]; rfl) (by decide) ?_
    refine e_aloadn (pc := 168) (i := 0) dX11_count_168 rfl rfl ?_
    refine f_geti (pc := 169) (k := 0) (u := 1) (q := 0) dX11_count_169 xf11_114 (sa_1_0 hs) rfl hn rfl rfl (by decide) ?_
    show Ev g _ _ _ _ _ _ 172 [some (x_r (16 * 1 + 0)), some (x_i a)] [x_i (X 0 15)] (al, ro, fl (ml M [1, 3, 19] [X, N, La])) _ _ _ _
    cases hG
    exact (e_ireturn rfl dX11_count_172 rfl)
  rw [if_neg hb12] at hG
  refine e_tabOut (pc := 1) (tgt := 173) dX11_count_1 (by omega) (by decide) ?_
  refine e_iconst (pc := 173) dX11_count_173 (x_R rfl) ?_
  cases hG
  exact (e_ireturn rfl dX11_count_174 rfl)
set_option maxRecDepth 100000 in
set_option maxHeartbeats 4000000 in
theorem c_X12_thrown {g : xG} {al : List (Nat × Nat × Nat)} {ro : Nat → Nat → Option Nat} (hst : g.1.stackTraces = false) (hs : SH al ro) {M : Nat → xU} {S : xU}  {t : Int} (hG : G12_thrown S = some t) :
    Cal g yX12_thrown cX12_thrown 1 (some .int) 0 [x_r (16 * 32 + 0)] (al, ro, fl (ml M [32] [S])) 0 0 (.inl (some (x_i t))) (al, ro, fl (ml M [32] [S])) := by
  have hn : ([32] : List Nat).Nodup := by decide
  refine cal_of_ev (plainFor_of_name (by decide)) (x_c1 rfl) (Nat.le_of_ble_eq_true rfl) hst ?_
  show Ev g _ _ _ _ _ _ 0 [some (x_r (16 * 32 + 0))] [] (al, ro, fl (ml M [32] [S])) _ _ _ _
  rw [G12_thrown] at hG
  refine e_aloadn (pc := 0) (i := 0) dX12_thrown_0 rfl rfl ?_
  refine f_geti (pc := 1) (k := 0) (u := 32) (q := 0) dX12_thrown_1 xf12_58 (sa_32_0 hs) rfl hn rfl rfl (by decide) ?_
  show Ev g _ _ _ _ _ _ 4 [some (x_r (16 * 32 + 0))] [x_i (S 0 0)] (al, ro, fl (ml M [32] [S])) _ _ _ _
  cases hG
  exact (e_ireturn rfl dX12_thrown_4 rfl)
set_option maxRecDepth 100000 in
set_option maxHeartbeats 4000000 in
theorem c_X12_lesser {g : xG} {al : List (Nat × Nat × Nat)} {ro : Nat → Nat → Option Nat} (hst : g.1.stackTraces = false) (hs : SH al ro) {M : Nat → xU} {a : Int} {b : Int}  {t : Int} (hG : G12_lesser a b = some t) :
    Cal g yX12_lesser cX12_lesser 2 (some .int) 0 [x_i a, x_i b] (al, ro, fl (ml M [] [])) 0 0 (.inl (some (x_i t))) (al, ro, fl (ml M [] [])) := by
  have hn : ([] : List Nat).Nodup := by decide
  refine cal_of_ev (plainFor_of_name (by decide)) (x_c1 rfl) (Nat.le_of_ble_eq_true rfl) hst ?_
  show Ev g _ _ _ _ _ _ 0 [some (x_i a), some (x_i b)] [] (al, ro, fl (ml M [] [])) _ _ _ _
  rw [G12_lesser] at hG
  refine e_iloadn (pc := 0) (i := 0) dX12_lesser_0 rfl rfl ?_
  refine e_iloadn (pc := 1) (i := 1) dX12_lesser_1 rfl rfl ?_
  obtain ⟨v1, hr1, hG⟩ := x_bd1 hG
  have hjhr1 : Ev g yX12_lesser cX12_lesser 2 (some .int) [] 0 10 [some (x_i a), some (x_i b)] [x_i v1] (al, ro, fl (ml M [] [])) 0 0 (.inl (some (x_i t))) (al, ro, fl (ml M [] [])) := by
    cases hG
    exact (e_ireturn rfl dX12_lesser_10 rfl)
  clear hG
  refine e_icmp_ge (pc := 2) (tgt := 9) dX12_lesser_2 (by decide) (fun hb => ?_) (fun hb => ?_)
  · rw [if_pos hb] at hr1
    refine e_iloadn (pc := 9) (i := 1) dX12_lesser_9 rfl rfl ?_
    cases hr1
    exact hjhr1
  · rw [if_neg hb] at hr1
    refine e_iloadn (pc := 5) (i := 0) dX12_lesser_5 rfl rfl ?_
    refine e_goto (pc := 6) (tgt := 10) dX12_lesser_6 (by decide) ?_
    cases hr1
    exact hjhr1
set_option maxRecDepth 100000 in
set_option maxHeartbeats 4000000 in
theorem c_X12_greater {g : xG} {al : List (Nat × Nat × Nat)} {ro : Nat → Nat → Option Nat} (hst : g.1.stackTraces = false) (hs : SH al ro) {M : Nat → xU} {a : Int} {b : Int}  {t : Int} (hG : G12_greater a b = some t) :
    Cal g yX12_greater cX12_greater 2 (some .int) 0 [x_i a, x_i b] (al, ro, fl (ml M [] [])) 0 0 (.inl (some (x_i t))) (al, ro, fl (ml M [] [])) := by
  have hn : ([] : List Nat).Nodup := by decide
  refine cal_of_ev (plainFor_of_name (by decide)) (x_c1 rfl) (Nat.le_of_ble_eq_true rfl) hst ?_
  show Ev g _ _ _ _ _ _ 0 [some (x_i a), some (x_i b)] [] (al, ro, fl (ml M [] [])) _ _ _ _
  rw [G12_greater] at hG
  refine e_iloadn (pc := 0) (i := 0) dX12_greater_0 rfl rfl ?_
  refine e_iloadn (pc := 1) (i := 1) dX12_greater_1 rfl rfl ?_
  obtain ⟨v1, hr1, hG⟩ := x_bd1 hG
  have hjhr1 : Ev g yX12_greater cX12_greater 2 (some .int) [] 0 10 [some (x_i a), some (x_i b)] [x_i v1] (al, ro, fl (ml M [] [])) 0 0 (.inl (some (x_i t))) (al, ro, fl (ml M [] [])) := by
    cases hG
    exact (e_ireturn rfl dX12_greater_10 rfl)
  clear hG
  refine e_icmp_le (pc := 2) (tgt := 9) dX12_greater_2 (by decide) (fun hb => ?_) (fun hb => ?_)
  · rw [if_pos hb] at hr1
    refine e_iloadn (pc := 9) (i := 1) dX12_greater_9 rfl rfl ?_
    cases hr1
    exact hjhr1
  · rw [if_neg hb] at hr1
    refine e_iloadn (pc := 5) (i := 0) dX12_greater_5 rfl rfl ?_
    refine e_goto (pc := 6) (tgt := 10) dX12_greater_6 (by decide) ?_
    cases hr1
    exact hjhr1
set_option maxRecDepth 100000 in
set_option maxHeartbeats 4000000 in
theorem c_X12_isOf {g : xG} {al : List (Nat × Nat × Nat)} {ro : Nat → Nat → Option Nat} (hst : g.1.stackTraces = false) (hs : SH al ro) {M : Nat → xU} {a : Int} {b : Int}  {t : Int} (hG : G12_isOf a b = some t) :
    Cal g yX12_isOf cX12_isOf 2 (some .boolean) 0 [x_i a, x_i b] (al, ro, fl (ml M [] [])) 0 0 (.inl (some (x_i t))) (al, ro, fl (ml M [] [])) := by
  have hn : ([] : List Nat).Nodup := by decide
  refine cal_of_ev (plainFor_of_name (by decide)) (x_c1 rfl) (Nat.le_of_ble_eq_true rfl) hst ?_
  show Ev g _ _ _ _ _ _ 0 [some (x_i a), some (x_i b)] [] (al, ro, fl (ml M [] [])) _ _ _ _
  rw [G12_isOf] at hG
  refine e_iloadn (pc := 0) (i := 0) dX12_isOf_0 rfl rfl ?_
  refine e_iloadn (pc := 1) (i := 1) dX12_isOf_1 rfl rfl ?_
  refine e_ishr (pc := 2) dX12_isOf_2 ?_
  refine e_iconst (pc := 3) dX12_isOf_3 (x_R rfl) ?_
  refine e_iand (pc := 4) dX12_isOf_4 ?_
  refine e_iconst (pc := 5) dX12_isOf_5 (x_R rfl) ?_
  obtain ⟨v1, hr1, hG⟩ := x_bd1 hG
  have hjhr1 : Ev g yX12_isOf cX12_isOf 2 (some .boolean) [] 0 14 [some (x_i a), some (x_i b)] [x_i v1] (al, ro, fl (ml M [] [])) 0 0 (.inl (some (x_i t))) (al, ro, fl (ml M [] [])) := by
    obtain ⟨hc0, hG⟩ := x_gd_some hG
    cases hG
    exact (e_ireturn rfl dX12_isOf_14 (x_bool hc0).1)
  clear hG
  refine e_icmp_ne (pc := 6) (tgt := 13) dX12_isOf_6 (by decide) (fun hb => ?_) (fun hb => ?_)
  · rw [if_neg hb] at hr1
    refine e_iconst (pc := 13) dX12_isOf_13 (x_R rfl) ?_
    cases hr1
    exact hjhr1
  · rw [if_pos hb] at hr1
    refine e_iconst (pc := 9) dX12_isOf_9 (x_R rfl) ?_
    refine e_goto (pc := 10) (tgt := 14) dX12_isOf_10 (by decide) ?_
    cases hr1
    exact hjhr1
set_option maxRecDepth 100000 in
set_option maxHeartbeats 4000000 in
theorem c_X12_bits {g : xG} {al : List (Nat × Nat × Nat)} {ro : Nat → Nat → Option Nat} (hst : g.1.stackTraces = false) (hs : SH al ro) {M : Nat → xU} {a : Int}  {t : Int} (hG : G12_bits a = some t) :
    Cal g yX12_bits cX12_bits 3 (some .int) 0 [x_i a] (al, ro, fl (ml M [] [])) 0 0 (.inl (some (x_i t))) (al, ro, fl (ml M [] [])) := by
  have hn : ([] : List Nat).Nodup := by decide
  refine cal_of_ev (plainFor_of_name (by decide)) (x_c1 rfl) (Nat.le_of_ble_eq_true rfl) hst ?_
  show Ev g _ _ _ _ _ _ 0 [some (x_i a), none, none] [] (al, ro, fl (ml M [] [])) _ _ _ _
  rw [G12_bits] at hG
  refine e_iconst (pc := 0) dX12_bits_0 (x_R rfl) ?_
  refine e_istoren (pc := 1) (i := 1) dX12_bits_1 rfl (by decide) rfl ?_
  show Ev g _ _ _ _ _ _ 2 [some (x_i a), some (x_i 0), none] [] (al, ro, fl (ml M [] [])) _ _ _ _
  refine e_iconst (pc := 2) dX12_bits_2 (x_R rfl) ?_
  refine e_istoren (pc := 3) (i := 2) dX12_bits_3 rfl (by decide) rfl ?_
  show Ev g _ _ _ _ _ _ 4 [some (x_i a), some (x_i 0), some (x_i 0)] [] (al, ro, fl (ml M [] [])) _ _ _ _
  obtain ⟨v3, hl4, hG⟩ := x_bd1 hG
  have hk4 : ∀ q : Int, q = v3 → Ev g yX12_bits cX12_bits 3 (some .int) [] 0 24 [some (x_i a), some (x_i q), none] [] (al, ro, fl (ml M [] [])) 0 0 (.inl (some (x_i t))) (al, ro, fl (ml M [] [])) := by
    intro q hq
    replace hq := hq.symm
    subst hq
    refine e_iloadn (pc := 24) (i := 1) dX12_bits_24 rfl rfl ?_
    cases hG
    exact (e_ireturn rfl dX12_bits_25 rfl)
  clear hG
  refine e_whl (G12_bits_L4 a) (fun z : (Int × Int) => Ev g yX12_bits cX12_bits 3 (some .int) [] 0 4 [some (x_i a), some (x_i z.1), some (x_i z.2)] [] (al, ro, fl (ml M [] [])) 0 0 (.inl (some (x_i t))) (al, ro, fl (ml M [] []))) (fun q => q = v3) ?_ xFU (0, 0) _ hl4 rfl
  intro z t4 hf4 hi4 hx4
  obtain ⟨v1, v2⟩ := z
  rw [G12_bits_L4] at hf4
  show Ev g _ _ _ _ _ _ 4 [some (x_i a), some (x_i v1), some (x_i v2)] [] (al, ro, fl (ml M [] [])) _ _ _ _
  refine e_iloadn (pc := 4) (i := 2) dX12_bits_4 rfl rfl ?_
  refine e_bipush (pc := 5) dX12_bits_5 (by decide +kernel) (x_R rfl) ?_
  refine e_icmp_ge (pc := 7) (tgt := 24) dX12_bits_7 (by decide) (fun hb => ?_) (fun hb => ?_)
  · rw [if_pos hb] at hf4
    cases hf4
    refine e_drop (i := 2) ?_
    exact hk4 _ (hx4 _ rfl)
  · rw [if_neg hb] at hf4
    refine e_iloadn (pc := 10) (i := 1) dX12_bits_10 rfl rfl ?_
    refine e_iloadn (pc := 11) (i := 0) dX12_bits_11 rfl rfl ?_
    refine e_iloadn (pc := 12) (i := 2) dX12_bits_12 rfl rfl ?_
    refine e_ishr (pc := 13) dX12_bits_13 ?_
    refine e_iconst (pc := 14) dX12_bits_14 (x_R rfl) ?_
    refine e_iand (pc := 15) dX12_bits_15 ?_
    refine e_iadd (pc := 16) dX12_bits_16 ?_
    refine e_istoren (pc := 17) (i := 1) dX12_bits_17 rfl (by decide) rfl ?_
    show Ev g _ _ _ _ _ _ 18 [some (x_i a), some (x_i (x_add v1 (x_and (x_shr a v2) 1))), some (x_i v2)] [] (al, ro, fl (ml M [] [])) _ _ _ _
    refine e_iinc (pc := 18) dX12_bits_18 rfl (by decide) rfl ?_
    show Ev g _ _ _ _ _ _ 21 [some (x_i a), some (x_i (x_add v1 (x_and (x_shr a v2) 1))), some (x_i (x_add v2 1))] [] (al, ro, fl (ml M [] [])) _ _ _ _
    refine e_goto (pc := 21) (tgt := 4) dX12_bits_21 (by decide) ?_
    cases hf4
    exact hi4 _ rfl
set_option maxRecDepth 100000 in
set_option maxHeartbeats 4000000 in
theorem c_X12_of {g : xG} {al : List (Nat × Nat × Nat)} {ro : Nat → Nat → Option Nat} (hst : g.1.stackTraces = false) (hs : SH al ro) {M : Nat → xU} {a : Int} {b : Int} {S : xU}  {t : Int} (hG : G12_of a b S = some t) :
    Cal g yX12_of cX12_of 3 (some .int) 0 [x_r (16 * 32 + 0), x_i a, x_i b] (al, ro, fl (ml M [32] [S])) 0 0 (.inl (some (x_i t))) (al, ro, fl (ml M [32] [S])) := by
  have hn : ([32] : List Nat).Nodup := by decide
  refine cal_of_ev (plainFor_of_name (by decide)) (x_c1 rfl) (Nat.le_of_ble_eq_true rfl) hst ?_
  show Ev g _ _ _ _ _ _ 0 [some (x_r (16 * 32 + 0)), some (x_i a), some (x_i b)] [] (al, ro, fl (ml M [32] [S])) _ _ _ _
  rw [G12_of] at hG
  refine e_aloadn (pc := 0) (i := 0) dX12_of_0 rfl rfl ?_
  refine f_getr (pc := 1) (u := 32) (q := 0) dX12_of_1 xf12_7 (sa_32_0 hs) rfl (sr_32_0_1 hs) ?_
  refine e_bipush (pc := 4) dX12_of_4 (by decide +kernel) (x_R rfl) ?_
  refine e_bipush (pc := 6) dX12_of_6 (by decide +kernel) (x_R rfl) ?_
  refine e_iloadn (pc := 8) (i := 1) dX12_of_8 rfl rfl ?_
  refine e_imul (pc := 9) dX12_of_9 ?_
  refine e_iadd (pc := 10) dX12_of_10 ?_
  refine e_iloadn (pc := 11) (i := 2) dX12_of_11 rfl rfl ?_
  refine e_iadd (pc := 12) dX12_of_12 ?_
  obtain ⟨hc0, hG⟩ := x_gd_some hG
  refine f_iald (pc := 13) (k := 0) (u := 32) (q := 1) (len := 772) dX12_of_13 (sa_32_1 hs) hc0 hn rfl rfl (by decide) ?_
  show Ev g _ _ _ _ _ _ 14 [some (x_r (16 * 32 + 0)), some (x_i a), some (x_i b)] [x_i (S 1 ((x_add (x_add 16 (x_mul 8 a)) b)).toNat)] (al, ro, fl (ml M [32] [S])) _ _ _ _
  cases hG
  exact (e_ireturn rfl dX12_of_14 rfl)
set_option maxRecDepth 100000 in
set_option maxHeartbeats 4000000 in
theorem c_X12_lays {g : xG} {al : List (Nat × Nat × Nat)} {ro : Nat → Nat → Option Nat} (hst : g.1.stackTraces = false) (hs : SH al ro) {M : Nat → xU} {a : Int} {b : Int} {c : Int} {S : xU}  {t : xU} (hG : G12_lays a b c S = some t) :
    Cal g yX12_lays cX12_lays 4 none 0 [x_r (16 * 32 + 0), x_i a, x_i b, x_i c] (al, ro, fl (ml M [32] [S])) 0 0 (.inl none) (al, ro, fl (ml M [32] [t])) := by
  have hn : ([32] : List Nat).Nodup := by decide
  refine cal_of_ev (plainFor_of_name (by decide)) (x_c1 rfl) (Nat.le_of_ble_eq_true rfl) hst ?_
  show Ev g _ _ _ _ _ _ 0 [some (x_r (16 * 32 + 0)), some (x_i a), some (x_i b), some (x_i c)] [] (al, ro, fl (ml M [32] [S])) _ _ _ _
  rw [G12_lays] at hG
  refine e_aloadn (pc := 0) (i := 0) dX12_lays_0 rfl rfl ?_
  refine f_getr (pc := 1) (u := 32) (q := 0) dX12_lays_1 xf12_7 (sa_32_0 hs) rfl (sr_32_0_1 hs) ?_
  refine e_bipush (pc := 4) dX12_lays_4 (by decide +kernel) (x_R rfl) ?_
  refine e_bipush (pc := 6) dX12_lays_6 (by decide +kernel) (x_R rfl) ?_
  refine e_iloadn (pc := 8) (i := 1) dX12_lays_8 rfl rfl ?_
  refine e_imul (pc := 9) dX12_lays_9 ?_
  refine e_iadd (pc := 10) dX12_lays_10 ?_
  refine e_iloadn (pc := 11) (i := 2) dX12_lays_11 rfl rfl ?_
  refine e_iadd (pc := 12) dX12_lays_12 ?_
  refine e_iloadn (pc := 13) (i := 3) dX12_lays_13 rfl rfl ?_
  obtain ⟨hc0, hG⟩ := x_gd_some hG
  refine f_iast (pc := 14) (k := 0) (u := 32) (q := 1) (len := 772) dX12_lays_14 (sa_32_1 hs) hc0 hn rfl rfl rfl (by decide) ?_
  show Ev g _ _ _ _ _ _ 15 [some (x_r (16 * 32 + 0)), some (x_i a), some (x_i b), some (x_i c)] [] (al, ro, fl (ml M [32] [(x_up S 1 ((x_add (x_add 16 (x_mul 8 a)) b)).toNat c)])) _ _ _ _
  cases hG
  exact (e_return rfl dX12_lays_15)
set_option maxRecDepth 100000 in
set_option maxHeartbeats 4000000 in
theorem c_X12_isMonk {g : xG} {al : List (Nat × Nat × Nat)} {ro : Nat → Nat → Option Nat} (hst : g.1.stackTraces = false) (hs : SH al ro) {M : Nat → xU} {a : Int} {S : xU}  {t : Int} (hG : G12_isMonk a S = some t) :
    Cal g yX12_isMonk cX12_isMonk 2 (some .boolean) 1 [x_r (16 * 32 + 0), x_i a] (al, ro, fl (ml M [32] [S])) 0 0 (.inl (some (x_i t))) (al, ro, fl (ml M [32] [S])) := by
  have hn : ([32] : List Nat).Nodup := by decide
  refine cal_of_ev (plainFor_of_name (by decide)) (x_c1 rfl) (Nat.le_of_ble_eq_true rfl) hst ?_
  show Ev g _ _ _ _ _ _ 0 [some (x_r (16 * 32 + 0)), some (x_i a)] [] (al, ro, fl (ml M [32] [S])) _ _ _ _
  rw [G12_isMonk] at hG
  refine e_iloadn (pc := 0) (i := 1) dX12_isMonk_0 rfl rfl ?_
  refine e_iconst (pc := 1) dX12_isMonk_1 (x_R rfl) ?_
  refine e_aloadn (pc := 2) (i := 0) dX12_isMonk_2 rfl rfl ?_
  refine f_getr (pc := 3) (u := 32) (q := 0) dX12_isMonk_3 xf12_7 (sa_32_0 hs) rfl (sr_32_0_1 hs) ?_
  refine e_iconst (pc := 6) dX12_isMonk_6 (x_R rfl) ?_
  refine f_iald (pc := 7) (k := 0) (u := 32) (q := 1) (len := 772) dX12_isMonk_7 (sa_32_1 hs) (by decide) hn rfl rfl (by decide) ?_
  show Ev g _ _ _ _ _ _ 8 [some (x_r (16 * 32 + 0)), some (x_i a)] [x_i (S 1 3), x_i 0, x_i a] (al, ro, fl (ml M [32] [S])) _ _ _ _
  refine e_iconst (pc := 8) dX12_isMonk_8 (x_R rfl) ?_
  refine e_isub (pc := 9) dX12_isMonk_9 ?_
  obtain ⟨v1, hq1, hG⟩ := x_bd1 hG
  refine e_invS (pc := 10) (K1 := 0) (S1 := 0) (K := 0) (S := 0) (dd2 := 0) (av := [x_i a, x_i 0, x_i (x_sub (S 1 3) 1)]) (st := []) dX12_isMonk_10 xmX12_61 rfl (f_cal (M := M) (us2 := []) [] hn rfl trivial rfl rfl rfl (c_X12_isIn hst hs   hq1)) (by decide) (Nat.le_of_ble_eq_true rfl) (Or.inl rfl) ?_
  show Ev g _ _ _ _ _ _ 13 [some (x_r (16 * 32 + 0)), some (x_i a)] [x_i v1] (al, ro, fl (ml M [32] [S])) _ _ _ _
  obtain ⟨hc0, hG⟩ := x_gd_some hG
  cases hG
  exact (e_ireturn rfl dX12_isMonk_13 (x_bool hc0).1)
set_option maxRecDepth 100000 in
set_option maxHeartbeats 4000000 in
theorem c_X12_isFlag {g : xG} {al : List (Nat × Nat × Nat)} {ro : Nat → Nat → Option Nat} (hst : g.1.stackTraces = false) (hs : SH al ro) {M : Nat → xU} {a : Int}  {t : Int} (hG : G12_isFlag a = some t) :
    Cal g yX12_isFlag cX12_isFlag 1 (some .boolean) 1 [x_i a] (al, ro, fl (ml M [] [])) 0 0 (.inl (some (x_i t))) (al, ro, fl (ml M [] [])) := by
  have hn : ([] : List Nat).Nodup := by decide
  refine cal_of_ev (plainFor_of_name (by decide)) (x_c1 rfl) (Nat.le_of_ble_eq_true rfl) hst ?_
  show Ev g _ _ _ _ _ _ 0 [some (x_i a)] [] (al, ro, fl (ml M [] [])) _ _ _ _
  rw [G12_isFlag] at hG
  refine e_iloadn (pc := 0) (i := 0) dX12_isFlag_0 rfl rfl ?_
  refine e_iconst (pc := 1) dX12_isFlag_1 (x_R rfl) ?_
  refine e_bipush (pc := 2) dX12_isFlag_2 (by decide +kernel) (x_R rfl) ?_
  obtain ⟨v1, hq1, hG⟩ := x_bd1 hG
  refine e_invS (pc := 4) (K1 := 0) (S1 := 0) (K := 0) (S := 0) (dd2 := 0) (av := [x_i a, x_i 0, x_i 15]) (st := []) dX12_isFlag_4 xmX12_61 rfl (f_cal (M := M) (us2 := []) [] hn rfl trivial rfl rfl rfl (c_X12_isIn hst hs   hq1)) (by decide) (Nat.le_of_ble_eq_true rfl) (Or.inl rfl) ?_
  show Ev g _ _ _ _ _ _ 7 [some (x_i a)] [x_i v1] (al, ro, fl (ml M [] [])) _ _ _ _
  obtain ⟨hc0, hG⟩ := x_gd_some hG
  cases hG
  exact (e_ireturn rfl dX12_isFlag_7 (x_bool hc0).1)
set_option maxRecDepth 100000 in
set_option maxHeartbeats 4000000 in
theorem c_X12_isWalk {g : xG} {al : List (Nat × Nat × Nat)} {ro : Nat → Nat → Option Nat} (hst : g.1.stackTraces = false) (hs : SH al ro) {M : Nat → xU} {a : Int}  {t : Int} (hG : G12_isWalk a = some t) :
    Cal g yX12_isWalk cX12_isWalk 1 (some .boolean) 1 [x_i a] (al, ro, fl (ml M [] [])) 0 0 (.inl (some (x_i t))) (al, ro, fl (ml M [] [])) := by
  have hn : ([] : List Nat).Nodup := by decide
  refine cal_of_ev (plainFor_of_name (by decide)) (x_c1 rfl) (Nat.le_of_ble_eq_true rfl) hst ?_
  show Ev g _ _ _ _ _ _ 0 [some (x_i a)] [] (al, ro, fl (ml M [] [])) _ _ _ _
  rw [G12_isWalk] at hG
  refine e_iloadn (pc := 0) (i := 0) dX12_isWalk_0 rfl rfl ?_
  refine e_iconst (pc := 1) dX12_isWalk_1 (x_R rfl) ?_
  refine e_iconst (pc := 2) dX12_isWalk_2 (x_R rfl) ?_
  obtain ⟨v1, hq1, hG⟩ := x_bd1 hG
  refine e_invS (pc := 3) (K1 := 0) (S1 := 0) (K := 0) (S := 0) (dd2 := 0) (av := [x_i a, x_i 0, x_i 3]) (st := []) dX12_isWalk_3 xmX12_61 rfl (f_cal (M := M) (us2 := []) [] hn rfl trivial rfl rfl rfl (c_X12_isIn hst hs   hq1)) (by decide) (Nat.le_of_ble_eq_true rfl) (Or.inl rfl) ?_
  show Ev g _ _ _ _ _ _ 6 [some (x_i a)] [x_i v1] (al, ro, fl (ml M [] [])) _ _ _ _
  obtain ⟨hc0, hG⟩ := x_gd_some hG
  cases hG
  exact (e_ireturn rfl dX12_isWalk_6 (x_bool hc0).1)
set_option maxRecDepth 100000 in
set_option maxHeartbeats 4000000 in
theorem c_X12_seasonOf {g : xG} {al : List (Nat × Nat × Nat)} {ro : Nat → Nat → Option Nat} (hst : g.1.stackTraces = false) (hs : SH al ro) {M : Nat → xU} {a : Int} {S : xU}  {t : Int} (hG : G12_seasonOf a S = some t) :
    Cal g yX12_seasonOf cX12_seasonOf 2 (some .int) 0 [x_r (16 * 32 + 0), x_i a] (al, ro, fl (ml M [32] [S])) 0 0 (.inl (some (x_i t))) (al, ro, fl (ml M [32] [S])) := by
  have hn : ([32] : List Nat).Nodup := by decide
  refine cal_of_ev (plainFor_of_name (by decide)) (x_c1 rfl) (Nat.le_of_ble_eq_true rfl) hst ?_
  show Ev g _ _ _ _ _ _ 0 [some (x_r (16 * 32 + 0)), some (x_i a)] [] (al, ro, fl (ml M [32] [S])) _ _ _ _
  rw [G12_seasonOf] at hG
  refine e_aloadn (pc := 0) (i := 0) dX12_seasonOf_0 rfl rfl ?_
  refine f_getr (pc := 1) (u := 32) (q := 0) dX12_seasonOf_1 xf12_7 (sa_32_0 hs) rfl (sr_32_0_1 hs) ?_
  refine e_bipush (pc := 4) dX12_seasonOf_4 (by decide +kernel) (x_R rfl) ?_
  refine f_iald (pc := 6) (k := 0) (u := 32) (q := 1) (len := 772) dX12_seasonOf_6 (sa_32_1 hs) (by decide) hn rfl rfl (by decide) ?_
  show Ev g _ _ _ _ _ _ 7 [some (x_r (16 * 32 + 0)), some (x_i a)] [x_i (S 1 7)] (al, ro, fl (ml M [32] [S])) _ _ _ _
  refine e_iconst (pc := 7) dX12_seasonOf_7 (x_R rfl) ?_
  obtain ⟨v1, hr1, hG⟩ := x_bd1 hG
  have hjhr1 : Ev g yX12_seasonOf cX12_seasonOf 2 (some .int) [] 0 24 [some (x_r (16 * 32 + 0)), some (x_i a)] [x_i v1] (al, ro, fl (ml M [32] [S])) 0 0 (.inl (some (x_i t))) (al, ro, fl (ml M [32] [S])) := by
    cases hG
    exact (e_ireturn rfl dX12_seasonOf_24 rfl)
  clear hG
  refine e_icmp_ge (pc := 8) (tgt := 21) dX12_seasonOf_8 (by decide) (fun hb => ?_) (fun hb => ?_)
  · rw [if_pos hb] at hr1
    refine e_iloadn (pc := 21) (i := 1) dX12_seasonOf_21 rfl rfl ?_
    refine e_iconst (pc := 22) dX12_seasonOf_22 (x_R rfl) ?_
    refine e_idiv (pc := 23) dX12_seasonOf_23 (by decide) ?_
    cases hr1
    exact hjhr1
  · rw [if_neg hb] at hr1
    refine e_aloadn (pc := 11) (i := 0) dX12_seasonOf_11 rfl rfl ?_
    refine f_getr (pc := 12) (u := 32) (q := 0) dX12_seasonOf_12 xf12_7 (sa_32_0 hs) rfl (sr_32_0_1 hs) ?_
    refine e_bipush (pc := 15) dX12_seasonOf_15 (by decide +kernel) (x_R rfl) ?_
    refine f_iald (pc := 17) (k := 0) (u := 32) (q := 1) (len := 772) dX12_seasonOf_17 (sa_32_1 hs) (by decide) hn rfl rfl (by decide) ?_
    show Ev g _ _ _ _ _ _ 18 [some (x_r (16 * 32 + 0)), some (x_i a)] [x_i (S 1 7)] (al, ro, fl (ml M [32] [S])) _ _ _ _
    refine e_goto (pc := 18) (tgt := 24) dX12_seasonOf_18 (by decide) ?_
    cases hr1
    exact hjhr1
set_option maxRecDepth 100000 in
set_option maxHeartbeats 4000000 in
theorem c_X12_isLost {g : xG} {al : List (Nat × Nat × Nat)} {ro : Nat → Nat → Option Nat} (hst : g.1.stackTraces = false) (hs : SH al ro) {M : Nat → xU} {a : Int} {S : xU}  {t : Int} (hG : G12_isLost a S = some t) :
    Cal g yX12_isLost cX12_isLost 2 (some .boolean) 1 [x_r (16 * 32 + 0), x_i a] (al, ro, fl (ml M [32] [S])) 0 0 (.inl (some (x_i t))) (al, ro, fl (ml M [32] [S])) := by
  have hn : ([32] : List Nat).Nodup := by decide
  refine cal_of_ev (plainFor_of_name (by decide)) (x_c1 rfl) (Nat.le_of_ble_eq_true rfl) hst ?_
  show Ev g _ _ _ _ _ _ 0 [some (x_r (16 * 32 + 0)), some (x_i a)] [] (al, ro, fl (ml M [32] [S])) _ _ _ _
  rw [G12_isLost] at hG
  refine e_aloadn (pc := 0) (i := 0) dX12_isLost_0 rfl rfl ?_
  refine e_iloadn (pc := 1) (i := 1) dX12_isLost_1 rfl rfl ?_
  refine e_iconst (pc := 2) dX12_isLost_2 (x_R rfl) ?_
  obtain ⟨v1, hq1, hG⟩ := x_bd1 hG
  refine e_invV (pc := 3) (K1 := 0) (S1 := 0) (K := 0) (S := 0) (dd2 := 0) (av := [x_i a, x_i 4]) (st := []) (id := 16 * 32 + 0) dX12_isLost_3 xmX12_65 rfl (Or.inl ⟨10, 27, TX12, (sa_32_0 hs), rfl, by decide⟩) (f_cal (M := M) (us2 := [32]) [0] hn rfl (And.intro rfl trivial) rfl rfl rfl (c_X12_of hst hs   hq1)) (by decide) (Nat.le_of_ble_eq_true rfl) (Or.inl rfl) ?_
  show Ev g _ _ _ _ _ _ 6 [some (x_r (16 * 32 + 0)), some (x_i a)] [x_i v1] (al, ro, fl (ml M [32] [S])) _ _ _ _
  obtain ⟨v3, hr3, hG⟩ := x_bd1 hG
  have hjhr3 : Ev g yX12_isLost cX12_isLost 2 (some .boolean) [] 1 14 [some (x_r (16 * 32 + 0)), some (x_i a)] [x_i v3] (al, ro, fl (ml M [32] [S])) 0 0 (.inl (some (x_i t))) (al, ro, fl (ml M [32] [S])) := by
    obtain ⟨hc0, hG⟩ := x_gd_some hG
    cases hG
    exact (e_ireturn rfl dX12_isLost_14 (x_bool hc0).1)
  clear hG
  refine e_if_le (pc := 6) (tgt := 13) dX12_isLost_6 (by decide) (fun hb => ?_) (fun hb => ?_)
  · rw [if_pos hb] at hr3
    refine e_iconst (pc := 13) dX12_isLost_13 (x_R rfl) ?_
    cases hr3
    exact hjhr3
  · rw [if_neg hb] at hr3
    refine e_iconst (pc := 9) dX12_isLost_9 (x_R rfl) ?_
    refine e_goto (pc := 10) (tgt := 14) dX12_isLost_10 (by decide) ?_
    cases hr3
    exact hjhr3
set_option maxRecDepth 100000 in
set_option maxHeartbeats 4000000 in
theorem c_X12_inChoir {g : xG} {al : List (Nat × Nat × Nat)} {ro : Nat → Nat → Option Nat} (hst : g.1.stackTraces = false) (hs : SH al ro) {M : Nat → xU} {a : Int} {S : xU}  {t : Int} (hG : G12_inChoir a S = some t) :
    Cal g yX12_inChoir cX12_inChoir 2 (some .boolean) 2 [x_r (16 * 32 + 0), x_i a] (al, ro, fl (ml M [32] [S])) 0 0 (.inl (some (x_i t))) (al, ro, fl (ml M [32] [S])) := by
  have hn : ([32] : List Nat).Nodup := by decide
  refine cal_of_ev (plainFor_of_name (by decide)) (x_c1 rfl) (Nat.le_of_ble_eq_true rfl) hst ?_
  show Ev g _ _ _ _ _ _ 0 [some (x_r (16 * 32 + 0)), some (x_i a)] [] (al, ro, fl (ml M [32] [S])) _ _ _ _
  rw [G12_inChoir] at hG
  refine e_aloadn (pc := 0) (i := 0) dX12_inChoir_0 rfl rfl ?_
  refine e_iloadn (pc := 1) (i := 1) dX12_inChoir_1 rfl rfl ?_
  obtain ⟨v1, hq1, hG⟩ := x_bd1 hG
  refine e_invV (pc := 2) (K1 := 0) (S1 := 0) (K := 0) (S := 0) (dd2 := 1) (av := [x_i a]) (st := []) (id := 16 * 32 + 0) dX12_inChoir_2 xmX12_69 rfl (Or.inl ⟨10, 27, TX12, (sa_32_0 hs), rfl, by decide⟩) (f_cal (M := M) (us2 := [32]) [0] hn rfl (And.intro rfl trivial) rfl rfl rfl (c_X12_isLost hst hs   hq1)) (by decide) (Nat.le_of_ble_eq_true rfl) (Or.inl rfl) ?_
  show Ev g _ _ _ _ _ _ 5 [some (x_r (16 * 32 + 0)), some (x_i a)] [x_i v1] (al, ro, fl (ml M [32] [S])) _ _ _ _
  obtain ⟨v3, hr3, hG⟩ := x_bd1 hG
  have hjhr3 : Ev g yX12_inChoir cX12_inChoir 2 (some .boolean) [] 2 29 [some (x_r (16 * 32 + 0)), some (x_i a)] [x_i v3] (al, ro, fl (ml M [32] [S])) 0 0 (.inl (some (x_i t))) (al, ro, fl (ml M [32] [S])) := by
    obtain ⟨hc0, hG⟩ := x_gd_some hG
    cases hG
    exact (e_ireturn rfl dX12_inChoir_29 (x_bool hc0).1)
  clear hG
  refine e_if_ne (pc := 5) (tgt := 28) dX12_inChoir_5 (by decide) (fun hb => ?_) (fun hb => ?_)
  · rw [if_neg hb] at hr3
    refine e_iconst (pc := 28) dX12_inChoir_28 (x_R rfl) ?_
    cases hr3
    exact hjhr3
  · rw [if_pos hb] at hr3
    refine e_aloadn (pc := 8) (i := 0) dX12_inChoir_8 rfl rfl ?_
    refine e_iloadn (pc := 9) (i := 1) dX12_inChoir_9 rfl rfl ?_
    refine e_iconst (pc := 10) dX12_inChoir_10 (x_R rfl) ?_
    obtain ⟨v5, hq5, hr3⟩ := x_bd1 hr3
    refine e_invV (pc := 11) (K1 := 0) (S1 := 0) (K := 0) (S := 0) (dd2 := 0) (av := [x_i a, x_i 0]) (st := []) (id := 16 * 32 + 0) dX12_inChoir_11 xmX12_65 rfl (Or.inl ⟨10, 27, TX12, (sa_32_0 hs), rfl, by decide⟩) (f_cal (M := M) (us2 := [32]) [0] hn rfl (And.intro rfl trivial) rfl rfl rfl (c_X12_of hst hs   hq5)) (by decide) (Nat.le_of_ble_eq_true rfl) (Or.inl rfl) ?_
    show Ev g _ _ _ _ _ _ 14 [some (x_r (16 * 32 + 0)), some (x_i a)] [x_i v5] (al, ro, fl (ml M [32] [S])) _ _ _ _
    refine e_aloadn (pc := 14) (i := 0) dX12_inChoir_14 rfl rfl ?_
    refine f_getr (pc := 15) (u := 32) (q := 0) dX12_inChoir_15 xf12_7 (sa_32_0 hs) rfl (sr_32_0_1 hs) ?_
    refine e_bipush (pc := 18) dX12_inChoir_18 (by decide +kernel) (x_R rfl) ?_
    refine f_iald (pc := 20) (k := 0) (u := 32) (q := 1) (len := 772) dX12_inChoir_20 (sa_32_1 hs) (by decide) hn rfl rfl (by decide) ?_
    show Ev g _ _ _ _ _ _ 21 [some (x_r (16 * 32 + 0)), some (x_i a)] [x_i (S 1 6), x_i v5] (al, ro, fl (ml M [32] [S])) _ _ _ _
    refine e_icmp_ne (pc := 21) (tgt := 28) dX12_inChoir_21 (by decide) (fun hb => ?_) (fun hb => ?_)
    · rw [if_neg hb] at hr3
      refine e_iconst (pc := 28) dX12_inChoir_28 (x_R rfl) ?_
      cases hr3
      exact hjhr3
    · rw [if_pos hb] at hr3
      refine e_iconst (pc := 24) dX12_inChoir_24 (x_R rfl) ?_
      refine e_goto (pc := 25) (tgt := 29) dX12_inChoir_25 (by decide) ?_
      cases hr3
      exact hjhr3
set_option maxRecDepth 100000 in
set_option maxHeartbeats 4000000 in
theorem c_X12_steps {g : xG} {al : List (Nat × Nat × Nat)} {ro : Nat → Nat → Option Nat} (hst : g.1.stackTraces = false) (hs : SH al ro) {M : Nat → xU} {a : Int} {b : Int}  {t : Int} (hG : G12_steps a b = some t) :
    Cal g yX12_steps cX12_steps 3 (some .int) 1 [x_i a, x_i b] (al, ro, fl (ml M [] [])) 0 0 (.inl (some (x_i t))) (al, ro, fl (ml M [] [])) := by
  have hn : ([] : List Nat).Nodup := by decide
  refine cal_of_ev (plainFor_of_name (by decide)) (x_c1 rfl) (Nat.le_of_ble_eq_true rfl) hst ?_
  show Ev g _ _ _ _ _ _ 0 [some (x_i a), some (x_i b), none] [] (al, ro, fl (ml M [] [])) _ _ _ _
  rw [G12_steps] at hG
  refine e_iloadn (pc := 0) (i := 0) dX12_steps_0 rfl rfl ?_
  refine e_iloadn (pc := 1) (i := 1) dX12_steps_1 rfl rfl ?_
  refine e_isub (pc := 2) dX12_steps_2 ?_
  refine e_bipush (pc := 3) dX12_steps_3 (by decide +kernel) (x_R rfl) ?_
  refine e_iadd (pc := 5) dX12_steps_5 ?_
  refine e_bipush (pc := 6) dX12_steps_6 (by decide +kernel) (x_R rfl) ?_
  refine e_irem (pc := 8) dX12_steps_8 (by decide) ?_
  refine e_istoren (pc := 9) (i := 2) dX12_steps_9 rfl (by decide) rfl ?_
  show Ev g _ _ _ _ _ _ 10 [some (x_i a), some (x_i b), some (x_i (x_rem (x_add (x_sub a b) 16) 16))] [] (al, ro, fl (ml M [] [])) _ _ _ _
  refine e_iloadn (pc := 10) (i := 2) dX12_steps_10 rfl rfl ?_
  refine e_bipush (pc := 11) dX12_steps_11 (by decide +kernel) (x_R rfl) ?_
  refine e_iloadn (pc := 13) (i := 2) dX12_steps_13 rfl rfl ?_
  refine e_isub (pc := 14) dX12_steps_14 ?_
  obtain ⟨v1, hq1, hG⟩ := x_bd1 hG
  refine e_invS (pc := 15) (K1 := 0) (S1 := 0) (K := 0) (S := 0) (dd2 := 0) (av := [x_i (x_rem (x_add (x_sub a b) 16) 16), x_i (x_sub 16 (x_rem (x_add (x_sub a b) 16) 16))]) (st := []) dX12_steps_15 xmX12_73 rfl (f_cal (M := M) (us2 := []) [] hn rfl trivial rfl rfl rfl (c_X12_lesser hst hs   hq1)) (by decide) (Nat.le_of_ble_eq_true rfl) (Or.inl rfl) ?_
  show Ev g _ _ _ _ _ _ 18 [some (x_i a), some (x_i b), some (x_i (x_rem (x_add (x_sub a b) 16) 16))] [x_i v1] (al, ro, fl (ml M [] [])) _ _ _ _
  cases hG
  exact (e_ireturn rfl dX12_steps_18 rfl)
set_option maxRecDepth 100000 in
set_option maxHeartbeats 4000000 in
theorem c_X12_all {g : xG} {al : List (Nat × Nat × Nat)} {ro : Nat → Nat → Option Nat} (hst : g.1.stackTraces = false) (hs : SH al ro) {M : Nat → xU} {S : xU}  {t : Int} (hG : G12_all S = some t) :
    Cal g yX12_all cX12_all 1 (some .int) 0 [x_r (16 * 32 + 0)] (al, ro, fl (ml M [32] [S])) 0 0 (.inl (some (x_i t))) (al, ro, fl (ml M [32] [S])) := by
  have hn : ([32] : List Nat).Nodup := by decide
  refine cal_of_ev (plainFor_of_name (by decide)) (x_c1 rfl) (Nat.le_of_ble_eq_true rfl) hst ?_
  show Ev g _ _ _ _ _ _ 0 [some (x_r (16 * 32 + 0))] [] (al, ro, fl (ml M [32] [S])) _ _ _ _
  rw [G12_all] at hG
  refine e_iconst (pc := 0) dX12_all_0 (x_R rfl) ?_
  refine e_aloadn (pc := 1) (i := 0) dX12_all_1 rfl rfl ?_
  refine f_getr (pc := 2) (u := 32) (q := 0) dX12_all_2 xf12_7 (sa_32_0 hs) rfl (sr_32_0_1 hs) ?_
  refine e_iconst (pc := 5) dX12_all_5 (x_R rfl) ?_
  refine f_iald (pc := 6) (k := 0) (u := 32) (q := 1) (len := 772) dX12_all_6 (sa_32_1 hs) (by decide) hn rfl rfl (by decide) ?_
  show Ev g _ _ _ _ _ _ 7 [some (x_r (16 * 32 + 0))] [x_i (S 1 3), x_i 1] (al, ro, fl (ml M [32] [S])) _ _ _ _
  refine e_ishl (pc := 7) dX12_all_7 ?_
  refine e_iconst (pc := 8) dX12_all_8 (x_R rfl) ?_
  refine e_isub (pc := 9) dX12_all_9 ?_
  cases hG
  exact (e_ireturn rfl dX12_all_10 rfl)
set_option maxRecDepth 100000 in
set_option maxHeartbeats 4000000 in
theorem c_X12_feed {g : xG} {al : List (Nat × Nat × Nat)} {ro : Nat → Nat → Option Nat} (hst : g.1.stackTraces = false) (hs : SH al ro) {M : Nat → xU} {a : Int} {b : Int} {c : Int} {d : Int} {e : Int} {S : xU}  {t : (Int × xU)} (hG : G12_feed a b c d e S = some t) :
    Cal g yX12_feed cX12_feed 8 (some .int) 0 [x_r (16 * 32 + 0), x_i a, x_i b, x_i c, x_i d, x_i e] (al, ro, fl (ml M [32] [S])) 0 0 (.inl (some (x_i t.1))) (al, ro, fl (ml M [32] [t.2])) := by
  have hn : ([32] : List Nat).Nodup := by decide
  refine cal_of_ev (plainFor_of_name (by decide)) (x_c1 rfl) (Nat.le_of_ble_eq_true rfl) hst ?_
  show Ev g _ _ _ _ _ _ 0 [some (x_r (16 * 32 + 0)), some (x_i a), some (x_i b), some (x_i c), some (x_i d), some (x_i e), none, none] [] (al, ro, fl (ml M [32] [S])) _ _ _ _
  rw [G12_feed] at hG
  refine e_aloadn (pc := 0) (i := 0) dX12_feed_0 rfl rfl ?_
  refine e_iconst (pc := 1) dX12_feed_1 (x_R rfl) ?_
  refine f_puti (pc := 2) (k := 0) (u := 32) (q := 0) dX12_feed_2 xf12_58 xw10_0 (sa_32_0 hs) hn rfl rfl rfl (by decide) ?_
  show Ev g _ _ _ _ _ _ 5 [some (x_r (16 * 32 + 0)), some (x_i a), some (x_i b), some (x_i c), some (x_i d), some (x_i e), none, none] [] (al, ro, fl (ml M [32] [(x_up S 0 0 0)])) _ _ _ _
  refine e_aloadn (pc := 5) (i := 0) dX12_feed_5 rfl rfl ?_
  refine f_geti (pc := 6) (k := 0) (u := 32) (q := 0) dX12_feed_6 xf12_76 (sa_32_0 hs) rfl hn rfl rfl (by decide) ?_
  show Ev g _ _ _ _ _ _ 9 [some (x_r (16 * 32 + 0)), some (x_i a), some (x_i b), some (x_i c), some (x_i d), some (x_i e), none, none] [x_i ((x_up S 0 0 0) 0 8)] (al, ro, fl (ml M [32] [(x_up S 0 0 0)])) _ _ _ _
  refine e_bipush (pc := 9) dX12_feed_9 (by decide +kernel) (x_R rfl) ?_
  refine e_iadd (pc := 11) dX12_feed_11 ?_
  refine e_sipush (pc := 12) dX12_feed_12 (by decide +kernel) (x_R rfl) ?_
  refine e_icmp_le (pc := 15) (tgt := 20) dX12_feed_15 (by decide) (fun hb => ?_) (fun hb => ?_)
  · rw [if_pos hb] at hG
    refine e_iconst (pc := 20) dX12_feed_20 (x_R rfl) ?_
    refine e_istore (pc := 21) (i := 6) dX12_feed_21 (by decide) rfl ?_
    show Ev g _ _ _ _ _ _ 23 [some (x_r (16 * 32 + 0)), some (x_i a), some (x_i b), some (x_i c), some (x_i d), some (x_i e), some (x_i 0), none] [] (al, ro, fl (ml M [32] [(x_up S 0 0 0)])) _ _ _ _
    obtain ⟨S3, hl4, hG⟩ := x_bd1 hG
    have hk4 : ∀ q : xU, q = S3 → Ev g yX12_feed cX12_feed 8 (some .int) [] 0 120 [some (x_r (16 * 32 + 0)), some (x_i a), some (x_i b), some (x_i c), some (x_i d), some (x_i e), none, none] [] (al, ro, fl (ml M [32] [q])) 0 0 (.inl (some (x_i t.1))) (al, ro, fl (ml M [32] [t.2])) := by
      intro q hq
      replace hq := hq.symm
      subst hq
      refine e_aloadn (pc := 120) (i := 0) dX12_feed_120 rfl rfl ?_
      refine f_geti (pc := 121) (k := 0) (u := 32) (q := 0) dX12_feed_121 xf12_76 (sa_32_0 hs) rfl hn rfl rfl (by decide) ?_
      show Ev g _ _ _ _ _ _ 124 [some (x_r (16 * 32 + 0)), some (x_i a), some (x_i b), some (x_i c), some (x_i d), some (x_i e), none, none] [x_i (S3 0 8)] (al, ro, fl (ml M [32] [S3])) _ _ _ _
      cases hG
      exact (e_ireturn rfl dX12_feed_124 rfl)
    clear hG
    refine e_whl (G12_feed_L23 a b c d e) (fun z : (Int × xU) => Ev g yX12_feed cX12_feed 8 (some .int) [] 0 23 [some (x_r (16 * 32 + 0)), some (x_i a), some (x_i b), some (x_i c), some (x_i d), some (x_i e), some (x_i z.1), none] [] (al, ro, fl (ml M [32] [z.2])) 0 0 (.inl (some (x_i t.1))) (al, ro, fl (ml M [32] [t.2]))) (fun q => q = S3) ?_ xFU (0, (x_up S 0 0 0)) _ hl4 rfl
    intro z t4 hf4 hi4 hx4
    obtain ⟨v1, S2⟩ := z
    rw [G12_feed_L23] at hf4
    show Ev g _ _ _ _ _ _ 23 [some (x_r (16 * 32 + 0)), some (x_i a), some (x_i b), some (x_i c), some (x_i d), some (x_i e), some (x_i v1), none] [] (al, ro, fl (ml M [32] [S2])) _ _ _ _
    refine e_iload (pc := 23) dX12_feed_23 rfl ?_
    refine e_bipush (pc := 25) dX12_feed_25 (by decide +kernel) (x_R rfl) ?_
    refine e_icmp_ge (pc := 27) (tgt := 120) dX12_feed_27 (by decide) (fun hb => ?_) (fun hb => ?_)
    · rw [if_pos hb] at hf4
      cases hf4
      refine e_drop (i := 6) ?_
      exact hk4 _ (hx4 _ rfl)
    · rw [if_neg hb] at hf4
      refine e_iload (pc := 30) dX12_feed_30 rfl ?_
      refine e_iconst (pc := 32) dX12_feed_32 (x_R rfl) ?_
      obtain ⟨v6, hr6, hf4⟩ := x_bd1 hf4
      have hjhr6 : Ev g yX12_feed cX12_feed 8 (some .int) [] 0 76 [some (x_r (16 * 32 + 0)), some (x_i a), some (x_i b), some (x_i c), some (x_i d), some (x_i e), some (x_i v1), none] [x_i v6] (al, ro, fl (ml M [32] [S2])) 0 0 (.inl (some (x_i t.1))) (al, ro, fl (ml M [32] [t.2])) := by
        refine e_istore (pc := 76) (i := 7) dX12_feed_76 (by decide) rfl ?_
        show Ev g _ _ _ _ _ _ 78 [some (x_r (16 * 32 + 0)), some (x_i a), some (x_i b), some (x_i c), some (x_i d), some (x_i e), some (x_i v1), some (x_i v6)] [] (al, ro, fl (ml M [32] [S2])) _ _ _ _
        refine e_aloadn (pc := 78) (i := 0) dX12_feed_78 rfl rfl ?_
        refine f_getr (pc := 79) (u := 32) (q := 0) dX12_feed_79 xf12_22 (sa_32_0 hs) rfl (sr_32_0_7 hs) ?_
        refine e_aloadn (pc := 82) (i := 0) dX12_feed_82 rfl rfl ?_
        refine f_geti (pc := 83) (k := 0) (u := 32) (q := 0) dX12_feed_83 xf12_76 (sa_32_0 hs) rfl hn rfl rfl (by decide) ?_
        show Ev g _ _ _ _ _ _ 86 [some (x_r (16 * 32 + 0)), some (x_i a), some (x_i b), some (x_i c), some (x_i d), some (x_i e), some (x_i v1), some (x_i v6)] [x_i (S2 0 8), x_r (16 * 32 + 5)] (al, ro, fl (ml M [32] [S2])) _ _ _ _
        refine e_iload (pc := 86) dX12_feed_86 rfl ?_
        refine e_bipush (pc := 88) dX12_feed_88 (by decide +kernel) (x_R rfl) ?_
        refine e_bipush (pc := 90) dX12_feed_90 (by decide +kernel) (x_R rfl) ?_
        refine e_iload (pc := 92) dX12_feed_92 rfl ?_
        refine e_iconst (pc := 94) dX12_feed_94 (x_R rfl) ?_
        refine e_irem (pc := 95) dX12_feed_95 (by decide) ?_
        refine e_imul (pc := 96) dX12_feed_96 ?_
        refine e_isub (pc := 97) dX12_feed_97 ?_
        refine e_iushr (pc := 98) dX12_feed_98 ?_
        refine e_sipush (pc := 99) dX12_feed_99 (by decide +kernel) (x_R rfl) ?_
        refine e_iand (pc := 102) dX12_feed_102 ?_
        obtain ⟨hc0, hf4⟩ := x_gd_some hf4
        refine f_iast (pc := 103) (k := 0) (u := 32) (q := 5) (len := 400) dX12_feed_103 (sa_32_5 hs) hc0 hn rfl rfl rfl (by decide) ?_
        show Ev g _ _ _ _ _ _ 104 [some (x_r (16 * 32 + 0)), some (x_i a), some (x_i b), some (x_i c), some (x_i d), some (x_i e), some (x_i v1), some (x_i v6)] [] (al, ro, fl (ml M [32] [(x_up S2 5 ((S2 0 8)).toNat (x_and (x_ush v6 (x_sub 24 (x_mul 8 (x_rem v1 4)))) 255))])) _ _ _ _
        refine e_aloadn (pc := 104) (i := 0) dX12_feed_104 rfl rfl ?_
        refine e_dup (pc := 105) dX12_feed_105 rfl ?_
        refine f_geti (pc := 106) (k := 0) (u := 32) (q := 0) dX12_feed_106 xf12_76 (sa_32_0 hs) rfl hn rfl rfl (by decide) ?_
        show Ev g _ _ _ _ _ _ 109 [some (x_r (16 * 32 + 0)), some (x_i a), some (x_i b), some (x_i c), some (x_i d), some (x_i e), some (x_i v1), some (x_i v6)] [x_i ((x_up S2 5 ((S2 0 8)).toNat (x_and (x_ush v6 (x_sub 24 (x_mul 8 (x_rem v1 4)))) 255)) 0 8), x_r (16 * 32 + 0)] (al, ro, fl (ml M [32] [(x_up S2 5 ((S2 0 8)).toNat (x_and (x_ush v6 (x_sub 24 (x_mul 8 (x_rem v1 4)))) 255))])) _ _ _ _
        refine e_iconst (pc := 109) dX12_feed_109 (x_R rfl) ?_
        refine e_iadd (pc := 110) dX12_feed_110 ?_
        refine f_puti (pc := 111) (k := 0) (u := 32) (q := 0) dX12_feed_111 xf12_76 xw10_8 (sa_32_0 hs) hn rfl rfl rfl (by decide) ?_
        show Ev g _ _ _ _ _ _ 114 [some (x_r (16 * 32 + 0)), some (x_i a), some (x_i b), some (x_i c), some (x_i d), some (x_i e), some (x_i v1), some (x_i v6)] [] (al, ro, fl (ml M [32] [(x_up (x_up S2 5 ((S2 0 8)).toNat (x_and (x_ush v6 (x_sub 24 (x_mul 8 (x_rem v1 4)))) 255)) 0 8 (x_add ((x_up S2 5 ((S2 0 8)).toNat (x_and (x_ush v6 (x_sub 24 (x_mul 8 (x_rem v1 4)))) 255)) 0 8) 1))])) _ _ _ _
        refine e_iinc (pc := 114) dX12_feed_114 rfl (by decide) rfl ?_
        show Ev g _ _ _ _ _ _ 117 [some (x_r (16 * 32 + 0)), some (x_i a), some (x_i b), some (x_i c), some (x_i d), some (x_i e), some (x_i (x_add v1 1)), some (x_i v6)] [] (al, ro, fl (ml M [32] [(x_up (x_up S2 5 ((S2 0 8)).toNat (x_and (x_ush v6 (x_sub 24 (x_mul 8 (x_rem v1 4)))) 255)) 0 8 (x_add ((x_up S2 5 ((S2 0 8)).toNat (x_and (x_ush v6 (x_sub 24 (x_mul 8 (x_rem v1 4)))) 255)) 0 8) 1))])) _ _ _ _
        refine e_goto (pc := 117) (tgt := 23) dX12_feed_117 (by decide) ?_
        cases hf4
        refine e_drop (i := 7) ?_
        exact hi4 _ rfl
      clear hf4
      refine e_icmp_ge (pc := 33) (tgt := 40) dX12_feed_33 (by decide) (fun hb => ?_) (fun hb => ?_)
      · rw [if_pos hb] at hr6
        refine e_iload (pc := 40) dX12_feed_40 rfl ?_
        refine e_bipush (pc := 42) dX12_feed_42 (by decide +kernel) (x_R rfl) ?_
        refine e_icmp_ge (pc := 44) (tgt := 51) dX12_feed_44 (by decide) (fun hb => ?_) (fun hb => ?_)
        · rw [if_pos hb] at hr6
          refine e_iload (pc := 51) dX12_feed_51 rfl ?_
          refine e_bipush (pc := 53) dX12_feed_53 (by decide +kernel) (x_R rfl) ?_
          refine e_icmp_ge (pc := 55) (tgt := 62) dX12_feed_55 (by decide) (fun hb => ?_) (fun hb => ?_)
          · rw [if_pos hb] at hr6
            refine e_iload (pc := 62) dX12_feed_62 rfl ?_
            refine e_bipush (pc := 64) dX12_feed_64 (by decide +kernel) (x_R rfl) ?_
            refine e_icmp_ge (pc := 66) (tgt := 74) dX12_feed_66 (by decide) (fun hb => ?_) (fun hb => ?_)
            · rw [if_pos hb] at hr6
              refine e_iload (pc := 74) dX12_feed_74 rfl ?_
              cases hr6
              exact hjhr6
            · rw [if_neg hb] at hr6
              refine e_iload (pc := 69) dX12_feed_69 rfl ?_
              refine e_goto (pc := 71) (tgt := 76) dX12_feed_71 (by decide) ?_
              cases hr6
              exact hjhr6
          · rw [if_neg hb] at hr6
            refine e_iloadn (pc := 58) (i := 3) dX12_feed_58 rfl rfl ?_
            refine e_goto (pc := 59) (tgt := 76) dX12_feed_59 (by decide) ?_
            cases hr6
            exact hjhr6
        · rw [if_neg hb] at hr6
          refine e_iloadn (pc := 47) (i := 2) dX12_feed_47 rfl rfl ?_
          refine e_goto (pc := 48) (tgt := 76) dX12_feed_48 (by decide) ?_
          cases hr6
          exact hjhr6
      · rw [if_neg hb] at hr6
        refine e_iloadn (pc := 36) (i := 1) dX12_feed_36 rfl rfl ?_
        refine e_goto (pc := 37) (tgt := 76) dX12_feed_37 (by decide) ?_
        cases hr6
        exact hjhr6
  · rw [if_neg hb] at hG
    refine e_iconst (pc := 18) dX12_feed_18 (x_R rfl) ?_
    cases hG
    exact (e_ireturn rfl dX12_feed_19 rfl)
set_option maxRecDepth 100000 in
set_option maxHeartbeats 4000000 in
theorem c_X12_end {g : xG} {al : List (Nat × Nat × Nat)} {ro : Nat → Nat → Option Nat} (hst : g.1.stackTraces = false) (hs : SH al ro) {M : Nat → xU} {a : Int} {S : xU}  {t : (Int × xU)} (hG : G12_end a S = some t) :
    Cal g yX12_end cX12_end 2 (some .boolean) 1 [x_r (16 * 32 + 0), x_i a] (al, ro, fl (ml M [32] [S])) 0 0 (.inl (some (x_i t.1))) (al, ro, fl (ml M [32] [t.2])) := by
  have hn : ([32] : List Nat).Nodup := by decide
  refine cal_of_ev (plainFor_of_name (by decide)) (x_c1 rfl) (Nat.le_of_ble_eq_true rfl) hst ?_
  show Ev g _ _ _ _ _ _ 0 [some (x_r (16 * 32 + 0)), some (x_i a)] [] (al, ro, fl (ml M [32] [S])) _ _ _ _
  rw [G12_end] at hG
  refine e_aloadn (pc := 0) (i := 0) dX12_end_0 rfl rfl ?_
  refine e_iconst (pc := 1) dX12_end_1 (x_R rfl) ?_
  refine f_puti (pc := 2) (k := 0) (u := 32) (q := 0) dX12_end_2 xf12_58 xw10_0 (sa_32_0 hs) hn rfl rfl rfl (by decide) ?_
  show Ev g _ _ _ _ _ _ 5 [some (x_r (16 * 32 + 0)), some (x_i a)] [] (al, ro, fl (ml M [32] [(x_up S 0 0 0)])) _ _ _ _
  refine e_iloadn (pc := 5) (i := 1) dX12_end_5 rfl rfl ?_
  refine e_iconst (pc := 6) dX12_end_6 (x_R rfl) ?_
  refine e_aloadn (pc := 7) (i := 0) dX12_end_7 rfl rfl ?_
  refine f_geti (pc := 8) (k := 0) (u := 32) (q := 0) dX12_end_8 xf12_76 (sa_32_0 hs) rfl hn rfl rfl (by decide) ?_
  show Ev g _ _ _ _ _ _ 11 [some (x_r (16 * 32 + 0)), some (x_i a)] [x_i ((x_up S 0 0 0) 0 8), x_i 0, x_i a] (al, ro, fl (ml M [32] [(x_up S 0 0 0)])) _ _ _ _
  obtain ⟨v1, hq1, hG⟩ := x_bd1 hG
  refine e_invS (pc := 11) (K1 := 0) (S1 := 0) (K := 0) (S := 0) (dd2 := 0) (av := [x_i a, x_i 0, x_i ((x_up S 0 0 0) 0 8)]) (st := []) dX12_end_11 xmX12_61 rfl (f_cal (M := M) (us2 := []) [] hn rfl trivial rfl rfl rfl (c_X12_isIn hst hs   hq1)) (by decide) (Nat.le_of_ble_eq_true rfl) (Or.inl rfl) ?_
  show Ev g _ _ _ _ _ _ 14 [some (x_r (16 * 32 + 0)), some (x_i a)] [x_i v1] (al, ro, fl (ml M [32] [(x_up S 0 0 0)])) _ _ _ _
  refine e_if_ne (pc := 14) (tgt := 19) dX12_end_14 (by decide) (fun hb => ?_) (fun hb => ?_)
  · rw [if_neg hb] at hG
    refine e_aloadn (pc := 19) (i := 0) dX12_end_19 rfl rfl ?_
    refine e_iloadn (pc := 20) (i := 1) dX12_end_20 rfl rfl ?_
    refine f_puti (pc := 21) (k := 0) (u := 32) (q := 0) dX12_end_21 xf12_76 xw10_8 (sa_32_0 hs) hn rfl rfl rfl (by decide) ?_
    show Ev g _ _ _ _ _ _ 24 [some (x_r (16 * 32 + 0)), some (x_i a)] [] (al, ro, fl (ml M [32] [(x_up (x_up S 0 0 0) 0 8 a)])) _ _ _ _
    refine e_iconst (pc := 24) dX12_end_24 (x_R rfl) ?_
    cases hG
    exact (e_ireturn rfl dX12_end_25 (x_bool (by decide)).1)
  · rw [if_pos hb] at hG
    refine e_iconst (pc := 17) dX12_end_17 (x_R rfl) ?_
    cases hG
    exact (e_ireturn rfl dX12_end_18 (x_bool (by decide)).1)
set_option maxRecDepth 100000 in
set_option maxHeartbeats 4000000 in
theorem c_X12_after {g : xG} {al : List (Nat × Nat × Nat)} {ro : Nat → Nat → Option Nat} (hst : g.1.stackTraces = false) (hs : SH al ro) {M : Nat → xU} {w : Nat} {a : Int} {b : Int} {S : xU} (hw : w < x_nS)  {t : (Int × xU)} (hG : G12_after w a b S = some t) :
    Cal g yX12_after cX12_after 4 (some .int) 7 [x_r (16 * 32 + 0), x_r (x_s0 + w), x_i a, x_i b] (al, ro, fl (ml M [32] [S])) 0 0 (.inl (some (x_i t.1))) (al, ro, fl (ml M [32] [t.2])) := by
  have hn : ([32] : List Nat).Nodup := by decide
  refine cal_of_ev (plainFor_of_name (by decide)) (x_c1 rfl) (Nat.le_of_ble_eq_true rfl) hst ?_
  show Ev g _ _ _ _ _ _ 0 [some (x_r (16 * 32 + 0)), some (x_r (x_s0 + w)), some (x_i a), some (x_i b)] [] (al, ro, fl (ml M [32] [S])) _ _ _ _
  rw [G12_after] at hG
  refine e_aloadn (pc := 0) (i := 0) dX12_after_0 rfl rfl ?_
  refine f_geti (pc := 1) (k := 0) (u := 32) (q := 0) dX12_after_1 xf12_25 (sa_32_0 hs) rfl hn rfl rfl (by decide) ?_
  show Ev g _ _ _ _ _ _ 4 [some (x_r (16 * 32 + 0)), some (x_r (x_s0 + w)), some (x_i a), some (x_i b)] [x_i (S 0 12)] (al, ro, fl (ml M [32] [S])) _ _ _ _
  refine e_iconst (pc := 4) dX12_after_4 (x_R rfl) ?_
  obtain ⟨S1, hr1, hG⟩ := x_bd1 hG
  have hjhr1 : Ev g yX12_after cX12_after 4 (some .int) [] 7 24 [some (x_r (16 * 32 + 0)), some (x_r (x_s0 + w)), some (x_i a), some (x_i b)] [] (al, ro, fl (ml M [32] [S1])) 0 0 (.inl (some (x_i t.1))) (al, ro, fl (ml M [32] [t.2])) := by
    refine e_aloadn (pc := 24) (i := 0) dX12_after_24 rfl rfl ?_
    refine e_iloadn (pc := 25) (i := 2) dX12_after_25 rfl rfl ?_
    refine e_iloadn (pc := 26) (i := 3) dX12_after_26 rfl rfl ?_
    obtain ⟨v8, S9, hq9, hG⟩ := x_bd2 hG
    refine e_invV (pc := 27) (K1 := 0) (S1 := 0) (K := 0) (S := 0) (dd2 := 3) (av := [x_i a, x_i b]) (st := []) (id := 16 * 32 + 0) dX12_after_27 xmX12_116 rfl (Or.inl ⟨10, 27, TX12, (sa_32_0 hs), rfl, by decide⟩) (f_cal (M := M) (us2 := [32]) [0] hn rfl (And.intro rfl trivial) rfl rfl rfl (c_X12_figures hst hs   hq9)) (by decide) (Nat.le_of_ble_eq_true rfl) (Or.inl rfl) ?_
    show Ev g _ _ _ _ _ _ 30 [some (x_r (16 * 32 + 0)), some (x_r (x_s0 + w)), some (x_i a), some (x_i b)] [x_i v8] (al, ro, fl (ml M [32] [S9])) _ _ _ _
    cases hG
    exact (e_ireturn rfl dX12_after_30 rfl)
  clear hG
  refine e_icmp_ne (pc := 5) (tgt := 24) dX12_after_5 (by decide) (fun hb => ?_) (fun hb => ?_)
  · rw [if_neg hb] at hr1
    cases hr1
    exact hjhr1
  · rw [if_pos hb] at hr1
    refine e_aloadn (pc := 8) (i := 0) dX12_after_8 rfl rfl ?_
    refine e_aloadn (pc := 9) (i := 1) dX12_after_9 rfl rfl ?_
    obtain ⟨v3, S4, hq4, hr1⟩ := x_bd2 hr1
    refine e_invV (pc := 10) (K1 := 0) (S1 := 0) (K := 0) (S := 0) (dd2 := 6) (av := [x_r (x_s0 + w)]) (st := []) (id := 16 * 32 + 0) dX12_after_10 xmX12_112 rfl (Or.inl ⟨10, 27, TX12, (sa_32_0 hs), rfl, by decide⟩) (f_cal (M := M) (us2 := [32]) [0] hn rfl (And.intro rfl trivial) rfl rfl rfl (c_X12_has hst hs  hw hq4)) (by decide) (Nat.le_of_ble_eq_true rfl) (Or.inl rfl) ?_
    show Ev g _ _ _ _ _ _ 13 [some (x_r (16 * 32 + 0)), some (x_r (x_s0 + w)), some (x_i a), some (x_i b)] [x_i v3] (al, ro, fl (ml M [32] [S4])) _ _ _ _
    refine e_if_ne (pc := 13) (tgt := 24) dX12_after_13 (by decide) (fun hb => ?_) (fun hb => ?_)
    · rw [if_neg hb] at hr1
      cases hr1
      exact hjhr1
    · rw [if_pos hb] at hr1
      refine e_aloadn (pc := 16) (i := 0) dX12_after_16 rfl rfl ?_
      refine e_aloadn (pc := 17) (i := 0) dX12_after_17 rfl rfl ?_
      refine f_geti (pc := 18) (k := 0) (u := 32) (q := 0) dX12_after_18 xf12_82 (sa_32_0 hs) rfl hn rfl rfl (by decide) ?_
      show Ev g _ _ _ _ _ _ 21 [some (x_r (16 * 32 + 0)), some (x_r (x_s0 + w)), some (x_i a), some (x_i b)] [x_i (S4 0 11), x_r (16 * 32 + 0)] (al, ro, fl (ml M [32] [S4])) _ _ _ _
      obtain ⟨S6, hq6, hr1⟩ := x_bd1 hr1
      refine e_invV (pc := 21) (K1 := 0) (S1 := 0) (K := 0) (S := 0) (dd2 := 0) (av := [x_i (S4 0 11)]) (st := []) (id := 16 * 32 + 0) dX12_after_21 xmX12_108 rfl (Or.inl ⟨10, 27, TX12, (sa_32_0 hs), rfl, by decide⟩) (f_cal (M := M) (us2 := [32]) [0] hn rfl (And.intro rfl trivial) rfl rfl rfl (c_X12_wrong hst hs   hq6)) (by decide) (Nat.le_of_ble_eq_true rfl) (Or.inl rfl) ?_
      show Ev g _ _ _ _ _ _ 24 [some (x_r (16 * 32 + 0)), some (x_r (x_s0 + w)), some (x_i a), some (x_i b)] [] (al, ro, fl (ml M [32] [S6])) _ _ _ _
      cases hr1
      exact hjhr1
set_option maxRecDepth 100000 in
set_option maxHeartbeats 4000000 in
theorem c_X12_isStall {g : xG} {al : List (Nat × Nat × Nat)} {ro : Nat → Nat → Option Nat} (hst : g.1.stackTraces = false) (hs : SH al ro) {M : Nat → xU} {a : Int} {S : xU}  {t : Int} (hG : G12_isStall a S = some t) :
    Cal g yX12_isStall cX12_isStall 4 (some .boolean) 1 [x_r (16 * 32 + 0), x_i a] (al, ro, fl (ml M [32] [S])) 0 0 (.inl (some (x_i t))) (al, ro, fl (ml M [32] [S])) := by
  have hn : ([32] : List Nat).Nodup := by decide
  refine cal_of_ev (plainFor_of_name (by decide)) (x_c1 rfl) (Nat.le_of_ble_eq_true rfl) hst ?_
  show Ev g _ _ _ _ _ _ 0 [some (x_r (16 * 32 + 0)), some (x_i a), none, none] [] (al, ro, fl (ml M [32] [S])) _ _ _ _
  rw [G12_isStall] at hG
  refine e_iconst (pc := 0) dX12_isStall_0 (x_R rfl) ?_
  refine e_istoren (pc := 1) (i := 2) dX12_isStall_1 rfl (by decide) rfl ?_
  show Ev g _ _ _ _ _ _ 2 [some (x_r (16 * 32 + 0)), some (x_i a), some (x_i 0), none] [] (al, ro, fl (ml M [32] [S])) _ _ _ _
  refine e_iconst (pc := 2) dX12_isStall_2 (x_R rfl) ?_
  refine e_istoren (pc := 3) (i := 3) dX12_isStall_3 rfl (by decide) rfl ?_
  show Ev g _ _ _ _ _ _ 4 [some (x_r (16 * 32 + 0)), some (x_i a), some (x_i 0), some (x_i 0)] [] (al, ro, fl (ml M [32] [S])) _ _ _ _
  obtain ⟨v3, hl4, hG⟩ := x_bd1 hG
  have hk4 : ∀ q : Int, q = v3 → Ev g yX12_isStall cX12_isStall 4 (some .boolean) [] 1 40 [some (x_r (16 * 32 + 0)), some (x_i a), some (x_i q), none] [] (al, ro, fl (ml M [32] [S])) 0 0 (.inl (some (x_i t))) (al, ro, fl (ml M [32] [S])) := by
    intro q hq
    replace hq := hq.symm
    subst hq
    refine e_iloadn (pc := 40) (i := 2) dX12_isStall_40 rfl rfl ?_
    obtain ⟨hc0, hG⟩ := x_gd_some hG
    cases hG
    exact (e_ireturn rfl dX12_isStall_41 (x_bool hc0).1)
  clear hG
  refine e_whl (G12_isStall_L4 a S) (fun z : (Int × Int) => Ev g yX12_isStall cX12_isStall 4 (some .boolean) [] 1 4 [some (x_r (16 * 32 + 0)), some (x_i a), some (x_i z.1), some (x_i z.2)] [] (al, ro, fl (ml M [32] [S])) 0 0 (.inl (some (x_i t))) (al, ro, fl (ml M [32] [S]))) (fun q => q = v3) ?_ xFU (0, 0) _ hl4 rfl
  intro z t4 hf4 hi4 hx4
  obtain ⟨v1, v2⟩ := z
  rw [G12_isStall_L4] at hf4
  show Ev g _ _ _ _ _ _ 4 [some (x_r (16 * 32 + 0)), some (x_i a), some (x_i v1), some (x_i v2)] [] (al, ro, fl (ml M [32] [S])) _ _ _ _
  refine e_iloadn (pc := 4) (i := 3) dX12_isStall_4 rfl rfl ?_
  refine e_aloadn (pc := 5) (i := 0) dX12_isStall_5 rfl rfl ?_
  refine f_getr (pc := 6) (u := 32) (q := 0) dX12_isStall_6 xf12_7 (sa_32_0 hs) rfl (sr_32_0_1 hs) ?_
  refine e_iconst (pc := 9) dX12_isStall_9 (x_R rfl) ?_
  refine f_iald (pc := 10) (k := 0) (u := 32) (q := 1) (len := 772) dX12_isStall_10 (sa_32_1 hs) (by decide) hn rfl rfl (by decide) ?_
  show Ev g _ _ _ _ _ _ 11 [some (x_r (16 * 32 + 0)), some (x_i a), some (x_i v1), some (x_i v2)] [x_i (S 1 3), x_i v2] (al, ro, fl (ml M [32] [S])) _ _ _ _
  refine e_icmp_ge (pc := 11) (tgt := 40) dX12_isStall_11 (by decide) (fun hb => ?_) (fun hb => ?_)
  · rw [if_pos hb] at hf4
    cases hf4
    refine e_drop (i := 3) ?_
    exact hk4 _ (hx4 _ rfl)
  · rw [if_neg hb] at hf4
    refine e_iloadn (pc := 14) (i := 2) dX12_isStall_14 rfl rfl ?_
    obtain ⟨v6, hr6, hf4⟩ := x_bd1 hf4
    have hjhr6 : Ev g yX12_isStall cX12_isStall 4 (some .boolean) [] 1 33 [some (x_r (16 * 32 + 0)), some (x_i a), some (x_i v1), some (x_i v2)] [x_i v6] (al, ro, fl (ml M [32] [S])) 0 0 (.inl (some (x_i t))) (al, ro, fl (ml M [32] [S])) := by
      refine e_istoren (pc := 33) (i := 2) dX12_isStall_33 rfl (by decide) rfl ?_
      show Ev g _ _ _ _ _ _ 34 [some (x_r (16 * 32 + 0)), some (x_i a), some (x_i v6), some (x_i v2)] [] (al, ro, fl (ml M [32] [S])) _ _ _ _
      refine e_iinc (pc := 34) dX12_isStall_34 rfl (by decide) rfl ?_
      show Ev g _ _ _ _ _ _ 37 [some (x_r (16 * 32 + 0)), some (x_i a), some (x_i v6), some (x_i (x_add v2 1))] [] (al, ro, fl (ml M [32] [S])) _ _ _ _
      refine e_goto (pc := 37) (tgt := 4) dX12_isStall_37 (by decide) ?_
      cases hf4
      exact hi4 _ rfl
    clear hf4
    refine e_if_ne (pc := 15) (tgt := 28) dX12_isStall_15 (by decide) (fun hb => ?_) (fun hb => ?_)
    · rw [if_neg hb] at hr6
      refine e_iconst (pc := 28) dX12_isStall_28 (x_R rfl) ?_
      refine e_goto (pc := 29) (tgt := 33) dX12_isStall_29 (by decide) ?_
      cases hr6
      exact hjhr6
    · rw [if_pos hb] at hr6
      refine e_aloadn (pc := 18) (i := 0) dX12_isStall_18 rfl rfl ?_
      refine e_iloadn (pc := 19) (i := 3) dX12_isStall_19 rfl rfl ?_
      refine e_iconst (pc := 20) dX12_isStall_20 (x_R rfl) ?_
      obtain ⟨v8, hq8, hr6⟩ := x_bd1 hr6
      refine e_invV (pc := 21) (K1 := 0) (S1 := 0) (K := 0) (S := 0) (dd2 := 0) (av := [x_i v2, x_i 2]) (st := []) (id := 16 * 32 + 0) dX12_isStall_21 xmX12_65 rfl (Or.inl ⟨10, 27, TX12, (sa_32_0 hs), rfl, by decide⟩) (f_cal (M := M) (us2 := [32]) [0] hn rfl (And.intro rfl trivial) rfl rfl rfl (c_X12_of hst hs   hq8)) (by decide) (Nat.le_of_ble_eq_true rfl) (Or.inl rfl) ?_
      show Ev g _ _ _ _ _ _ 24 [some (x_r (16 * 32 + 0)), some (x_i a), some (x_i v1), some (x_i v2)] [x_i v8] (al, ro, fl (ml M [32] [S])) _ _ _ _
      refine e_iloadn (pc := 24) (i := 1) dX12_isStall_24 rfl rfl ?_
      refine e_icmp_ne (pc := 25) (tgt := 32) dX12_isStall_25 (by decide) (fun hb => ?_) (fun hb => ?_)
      · rw [if_neg hb] at hr6
        refine e_iconst (pc := 32) dX12_isStall_32 (x_R rfl) ?_
        cases hr6
        exact hjhr6
      · rw [if_pos hb] at hr6
        refine e_iconst (pc := 28) dX12_isStall_28 (x_R rfl) ?_
        refine e_goto (pc := 29) (tgt := 33) dX12_isStall_29 (by decide) ?_
        cases hr6
        exact hjhr6
