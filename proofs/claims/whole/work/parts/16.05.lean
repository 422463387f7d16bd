set_option maxRecDepth 100000 in
set_option maxHeartbeats 4000000 in
theorem c_X5_readAny_b {g : xG} {al : List (Nat × Nat × Nat)} {ro : Nat → Nat → Option Nat} (hst : g.1.stackTraces = false) (hs : SH al ro) {dn : Nat} (hdn : 9 ≤ dn) {M : Nat → xU} {R0 : Int → xU → xU → Option (xU × xU)} {R1 : Int → xU → xU → Option (xU × xU)} {a : Int} {T : xU} {Lb : xU} (hR0 : ∀ {M : Nat → xU} {a : Int} {T : xU} {Lb : xU} {t : (xU × xU)}, R0 a T Lb = some t → Cal g yX5_readAny cX5_readAny 5 none dn [x_r (16 * 2 + 0), x_r (16 * 20 + 0), x_i a] (al, ro, fl (ml M [2, 20] [T, Lb])) 0 0 (.inl none) (al, ro, fl (ml M [2, 20] [t.1, t.2]))) (hR1 : ∀ {M : Nat → xU} {a : Int} {T : xU} {Lb : xU} {t : (xU × xU)}, R1 a T Lb = some t → Cal g yX5_readAtom cX5_readAtom 5 none dn [x_r (16 * 2 + 0), x_r (16 * 20 + 0), x_i a] (al, ro, fl (ml M [2, 20] [T, Lb])) 0 0 (.inl none) (al, ro, fl (ml M [2, 20] [t.1, t.2]))) {t : (xU × xU)} (hG : G5_readAny_b R0 R1 a T Lb = some t) :
    Cal g yX5_readAny cX5_readAny 5 none (dn + 1) [x_r (16 * 2 + 0), x_r (16 * 20 + 0), x_i a] (al, ro, fl (ml M [2, 20] [T, Lb])) 0 0 (.inl none) (al, ro, fl (ml M [2, 20] [t.1, t.2])) := by
  have hn : ([2, 20] : List Nat).Nodup := by decide
  refine cal_of_ev (plainFor_of_name (by decide)) (x_c1 rfl) (Nat.le_of_ble_eq_true rfl) hst ?_
  show Ev g _ _ _ _ _ _ 0 [some (x_r (16 * 2 + 0)), some (x_r (16 * 20 + 0)), some (x_i a), none, none] [] (al, ro, fl (ml M [2, 20] [T, Lb])) _ _ _ _
  rw [G5_readAny_b] at hG
  refine e_iconst (pc := 0) dX5_readAny_0 (x_R rfl) ?_
  refine e_istoren (pc := 1) (i := 3) dX5_readAny_1 rfl (by decide) rfl ?_
  show Ev g _ _ _ _ _ _ 2 [some (x_r (16 * 2 + 0)), some (x_r (16 * 20 + 0)), some (x_i a), some (x_i 0), none] [] (al, ro, fl (ml M [2, 20] [T, Lb])) _ _ _ _
  obtain ⟨T4, Lb5, hl6, hG⟩ := x_bd2 hG
  have hk6 : ∀ q : (xU × xU), q = (T4, Lb5) → Ev g yX5_readAny cX5_readAny 5 none [] (dn + 1) 102 [some (x_r (16 * 2 + 0)), some (x_r (16 * 20 + 0)), some (x_i a), none, none] [] (al, ro, fl (ml M [2, 20] [q.1, q.2])) 0 0 (.inl none) (al, ro, fl (ml M [2, 20] [t.1, t.2])) := by
    intro q hq
    cases hq
    cases hG
    exact (e_return rfl dX5_readAny_102)
  clear hG
  refine e_whl (G5_readAny_b_L2 a R1) (fun z : (Int × xU × xU) => Ev g yX5_readAny cX5_readAny 5 none [] (dn + 1) 2 [some (x_r (16 * 2 + 0)), some (x_r (16 * 20 + 0)), some (x_i a), some (x_i z.1), none] [] (al, ro, fl (ml M [2, 20] [z.2.1, z.2.2])) 0 0 (.inl none) (al, ro, fl (ml M [2, 20] [t.1, t.2]))) (fun q => q = (T4, Lb5)) ?_ xFU (0, T, Lb) _ hl6 rfl
  intro z t6 hf6 hi6 hx6
  obtain ⟨v1, T2, Lb3⟩ := z
  rw [G5_readAny_b_L2] at hf6
  show Ev g _ _ _ _ _ _ 2 [some (x_r (16 * 2 + 0)), some (x_r (16 * 20 + 0)), some (x_i a), some (x_i v1), none] [] (al, ro, fl (ml M [2, 20] [T2, Lb3])) _ _ _ _
  refine e_iloadn (pc := 2) (i := 3) dX5_readAny_2 rfl rfl ?_
  refine e_sipush (pc := 3) dX5_readAny_3 (by decide +kernel) (x_R rfl) ?_
  refine e_icmp_ge (pc := 6) (tgt := 102) dX5_readAny_6 (by decide) (fun hb => ?_) (fun hb => ?_)
  · rw [if_pos hb] at hf6
    cases hf6
    refine e_drop (i := 3) ?_
    have hh := hk6 _ (hx6 _ rfl)
    try dsimp only at hh
    exact hh
  · rw [if_neg hb] at hf6
    refine e_aloadn (pc := 9) (i := 0) dX5_readAny_9 rfl rfl ?_
    obtain ⟨v8, hq8, hf6⟩ := x_bd1 hf6
    refine e_invV (pc := 10) (K1 := 0) (S1 := 0) (K := 0) (S := 0) (dd2 := 0) (av := []) (st := []) (id := 16 * 2 + 0) dX5_readAny_10 xmX5_48 rfl (Or.inl ⟨8, 8, TX10, (sa_2_0 hs), rfl, by decide⟩) (f_cal (M := M) (us2 := [2]) [0] hn rfl (And.intro rfl trivial) rfl rfl rfl (c_X10_isRight hst hs   hq8)) (by omega) (Nat.le_of_ble_eq_true rfl) (Or.inl rfl) ?_
    show Ev g _ _ _ _ _ _ 13 [some (x_r (16 * 2 + 0)), some (x_r (16 * 20 + 0)), some (x_i a), some (x_i v1), none] [x_i v8] (al, ro, fl (ml M [2, 20] [T2, Lb3])) _ _ _ _
    refine e_if_eq (pc := 13) (tgt := 102) dX5_readAny_13 (by decide) (fun hb => ?_) (fun hb => ?_)
    · rw [if_pos hb] at hf6
      cases hf6
      refine e_drop (i := 3) ?_
      have hh := hk6 _ (hx6 _ rfl)
      try dsimp only at hh
      exact hh
    · rw [if_neg hb] at hf6
      refine e_iloadn (pc := 16) (i := 3) dX5_readAny_16 rfl rfl ?_
      refine e_if_eq (pc := 17) (tgt := 29) dX5_readAny_17 (by decide) (fun hb => ?_) (fun hb => ?_)
      · rw [if_pos hb] at hf6
        refine e_iconst (pc := 29) dX5_readAny_29 (x_R rfl) ?_
        refine e_istore (pc := 30) (i := 4) dX5_readAny_30 (by decide) rfl ?_
        show Ev g _ _ _ _ _ _ 32 [some (x_r (16 * 2 + 0)), some (x_r (16 * 20 + 0)), some (x_i a), some (x_i v1), some (x_i 0)] [] (al, ro, fl (ml M [2, 20] [T2, Lb3])) _ _ _ _
        obtain ⟨T13, Lb14, hl15, hf6⟩ := x_bd2 hf6
        have hk15 : ∀ q : (xU × xU), q = (T13, Lb14) → Ev g yX5_readAny cX5_readAny 5 none [] (dn + 1) 85 [some (x_r (16 * 2 + 0)), some (x_r (16 * 20 + 0)), some (x_i a), some (x_i v1), none] [] (al, ro, fl (ml M [2, 20] [q.1, q.2])) 0 0 (.inl none) (al, ro, fl (ml M [2, 20] [t.1, t.2])) := by
          intro q hq
          cases hq
          refine e_iloadn (pc := 85) (i := 3) dX5_readAny_85 rfl rfl ?_
          obtain ⟨Lb36, hr36, hf6⟩ := x_bd1 hf6
          have hjhr36 : Ev g yX5_readAny cX5_readAny 5 none [] (dn + 1) 96 [some (x_r (16 * 2 + 0)), some (x_r (16 * 20 + 0)), some (x_i a), some (x_i v1), none] [] (al, ro, fl (ml M [2, 20] [T13, Lb36])) 0 0 (.inl none) (al, ro, fl (ml M [2, 20] [t.1, t.2])) := by
            refine e_iinc (pc := 96) dX5_readAny_96 rfl (by decide) rfl ?_
            show Ev g _ _ _ _ _ _ 99 [some (x_r (16 * 2 + 0)), some (x_r (16 * 20 + 0)), some (x_i a), some (x_i (x_add v1 1)), none] [] (al, ro, fl (ml M [2, 20] [T13, Lb36])) _ _ _ _
            refine e_goto (pc := 99) (tgt := 2) dX5_readAny_99 (by decide) ?_
            cases hf6
            have hh := hi6 _ rfl
            try dsimp only at hh
            exact hh
          clear hf6
          refine e_if_le (pc := 86) (tgt := 96) dX5_readAny_86 (by decide) (fun hb => ?_) (fun hb => ?_)
          · rw [if_pos hb] at hr36
            cases hr36
            exact hjhr36
          · rw [if_neg hb] at hr36
            refine e_aloadn (pc := 89) (i := 1) dX5_readAny_89 rfl rfl ?_
            refine e_bipush (pc := 90) dX5_readAny_90 (by decide +kernel) (x_R rfl) ?_
            refine e_iconst (pc := 92) dX5_readAny_92 (x_R rfl) ?_
            obtain ⟨Lb38, hq38, hr36⟩ := x_bd1 hr36
            refine e_invV (pc := 93) (K1 := 0) (S1 := 0) (K := 0) (S := 0) (dd2 := 0) (av := [x_i 9, x_i 0]) (st := []) (id := 16 * 20 + 0) dX5_readAny_93 xmX5_69 rfl (Or.inl ⟨3, 7, TX4, (sa_20_0 hs), rfl, by decide⟩) (f_cal (M := M) (us2 := [20]) [1] hn rfl (And.intro rfl trivial) rfl rfl rfl (c_X4_addStep hst hs   hq38)) (by omega) (Nat.le_of_ble_eq_true rfl) (Or.inl rfl) ?_
            show Ev g _ _ _ _ _ _ 96 [some (x_r (16 * 2 + 0)), some (x_r (16 * 20 + 0)), some (x_i a), some (x_i v1), none] [] (al, ro, fl (ml M [2, 20] [T13, Lb38])) _ _ _ _
            cases hr36
            exact hjhr36
        clear hf6
        refine e_whl (G5_readAny_b_L32 a R1) (fun z : (Int × xU × xU) => Ev g yX5_readAny cX5_readAny 5 none [] (dn + 1) 32 [some (x_r (16 * 2 + 0)), some (x_r (16 * 20 + 0)), some (x_i a), some (x_i v1), some (x_i z.1)] [] (al, ro, fl (ml M [2, 20] [z.2.1, z.2.2])) 0 0 (.inl none) (al, ro, fl (ml M [2, 20] [t.1, t.2]))) (fun q => q = (T13, Lb14)) ?_ xFU (0, T2, Lb3) _ hl15 rfl
        intro z t15 hf15 hi15 hx15
        obtain ⟨v10, T11, Lb12⟩ := z
        rw [G5_readAny_b_L32] at hf15
        show Ev g _ _ _ _ _ _ 32 [some (x_r (16 * 2 + 0)), some (x_r (16 * 20 + 0)), some (x_i a), some (x_i v1), some (x_i v10)] [] (al, ro, fl (ml M [2, 20] [T11, Lb12])) _ _ _ _
        refine e_iload (pc := 32) dX5_readAny_32 rfl ?_
        refine e_sipush (pc := 34) dX5_readAny_34 (by decide +kernel) (x_R rfl) ?_
        refine e_icmp_ge (pc := 37) (tgt := 85) dX5_readAny_37 (by decide) (fun hb => ?_) (fun hb => ?_)
        · rw [if_pos hb] at hf15
          cases hf15
          refine e_drop (i := 4) ?_
          have hh := hk15 _ (hx15 _ rfl)
          try dsimp only at hh
          exact hh
        · rw [if_neg hb] at hf15
          refine e_aloadn (pc := 40) (i := 0) dX5_readAny_40 rfl rfl ?_
          obtain ⟨v17, hq17, hf15⟩ := x_bd1 hf15
          refine e_invV (pc := 41) (K1 := 0) (S1 := 0) (K := 0) (S := 0) (dd2 := 0) (av := []) (st := []) (id := 16 * 2 + 0) dX5_readAny_41 xmX5_48 rfl (Or.inl ⟨8, 8, TX10, (sa_2_0 hs), rfl, by decide⟩) (f_cal (M := M) (us2 := [2]) [0] hn rfl (And.intro rfl trivial) rfl rfl rfl (c_X10_isRight hst hs   hq17)) (by omega) (Nat.le_of_ble_eq_true rfl) (Or.inl rfl) ?_
          show Ev g _ _ _ _ _ _ 44 [some (x_r (16 * 2 + 0)), some (x_r (16 * 20 + 0)), some (x_i a), some (x_i v1), some (x_i v10)] [x_i v17] (al, ro, fl (ml M [2, 20] [T11, Lb12])) _ _ _ _
          refine e_if_eq (pc := 44) (tgt := 85) dX5_readAny_44 (by decide) (fun hb => ?_) (fun hb => ?_)
          · rw [if_pos hb] at hf15
            cases hf15
            refine e_drop (i := 4) ?_
            have hh := hk15 _ (hx15 _ rfl)
            try dsimp only at hh
            exact hh
          · rw [if_neg hb] at hf15
            refine e_iload (pc := 47) dX5_readAny_47 rfl ?_
            refine e_if_eq (pc := 49) (tgt := 61) dX5_readAny_49 (by decide) (fun hb => ?_) (fun hb => ?_)
            · rw [if_pos hb] at hf15
              refine e_aloadn (pc := 61) (i := 0) dX5_readAny_61 rfl rfl ?_
              refine e_aloadn (pc := 62) (i := 1) dX5_readAny_62 rfl rfl ?_
              refine e_iloadn (pc := 63) (i := 2) dX5_readAny_63 rfl rfl ?_
              obtain ⟨T19, Lb20, hq20, hf15⟩ := x_bd2 hf15
              refine e_invS (pc := 64) (K1 := 0) (S1 := 0) (K := 0) (S := 0) (dd2 := dn) (av := [x_r (16 * 2 + 0), x_r (16 * 20 + 0), x_i a]) (st := []) dX5_readAny_64 xmX5_66 rfl (f_cal (M := M) (us2 := [2, 20]) [0, 1] hn rfl (And.intro rfl (And.intro rfl trivial)) rfl rfl rfl (hR1 hq20)) (Nat.le_refl _) (Nat.le_of_ble_eq_true rfl) (Or.inl rfl) ?_
              show Ev g _ _ _ _ _ _ 67 [some (x_r (16 * 2 + 0)), some (x_r (16 * 20 + 0)), some (x_i a), some (x_i v1), some (x_i v10)] [] (al, ro, fl (ml M [2, 20] [T19, Lb20])) _ _ _ _
              refine e_iload (pc := 67) dX5_readAny_67 rfl ?_
              obtain ⟨Lb22, hr22, hf15⟩ := x_bd1 hf15
              have hjhr22 : Ev g yX5_readAny cX5_readAny 5 none [] (dn + 1) 79 [some (x_r (16 * 2 + 0)), some (x_r (16 * 20 + 0)), some (x_i a), some (x_i v1), some (x_i v10)] [] (al, ro, fl (ml M [2, 20] [T19, Lb22])) 0 0 (.inl none) (al, ro, fl (ml M [2, 20] [t.1, t.2])) := by
                refine e_iinc (pc := 79) dX5_readAny_79 rfl (by decide) rfl ?_
                show Ev g _ _ _ _ _ _ 82 [some (x_r (16 * 2 + 0)), some (x_r (16 * 20 + 0)), some (x_i a), some (x_i v1), some (x_i (x_add v10 1))] [] (al, ro, fl (ml M [2, 20] [T19, Lb22])) _ _ _ _
                refine e_goto (pc := 82) (tgt := 32) dX5_readAny_82 (by decide) ?_
                cases hf15
                have hh := hi15 _ rfl
                try dsimp only at hh
                exact hh
              clear hf15
              refine e_if_le (pc := 69) (tgt := 79) dX5_readAny_69 (by decide) (fun hb => ?_) (fun hb => ?_)
              · rw [if_pos hb] at hr22
                cases hr22
                exact hjhr22
              · rw [if_neg hb] at hr22
                refine e_aloadn (pc := 72) (i := 1) dX5_readAny_72 rfl rfl ?_
                refine e_bipush (pc := 73) dX5_readAny_73 (by decide +kernel) (x_R rfl) ?_
                refine e_iconst (pc := 75) dX5_readAny_75 (x_R rfl) ?_
                obtain ⟨Lb24, hq24, hr22⟩ := x_bd1 hr22
                refine e_invV (pc := 76) (K1 := 0) (S1 := 0) (K := 0) (S := 0) (dd2 := 0) (av := [x_i 8, x_i 0]) (st := []) (id := 16 * 20 + 0) dX5_readAny_76 xmX5_69 rfl (Or.inl ⟨3, 7, TX4, (sa_20_0 hs), rfl, by decide⟩) (f_cal (M := M) (us2 := [20]) [1] hn rfl (And.intro rfl trivial) rfl rfl rfl (c_X4_addStep hst hs   hq24)) (by omega) (Nat.le_of_ble_eq_true rfl) (Or.inl rfl) ?_
                show Ev g _ _ _ _ _ _ 79 [some (x_r (16 * 2 + 0)), some (x_r (16 * 20 + 0)), some (x_i a), some (x_i v1), some (x_i v10)] [] (al, ro, fl (ml M [2, 20] [T19, Lb24])) _ _ _ _
                cases hr22
                exact hjhr22
            · rw [if_neg hb] at hf15
              refine e_aloadn (pc := 52) (i := 0) dX5_readAny_52 rfl rfl ?_
              refine e_ldcS (pc := 53) (i := 22) (tx := "and") dX5_readAny_53 (List.mem_of_getElem? (i := 22) rfl) (by decide) ?_
              obtain ⟨v26, T27, hq27, hf15⟩ := x_bd2 hf15
              refine e_invV (pc := 55) (K1 := 0) (S1 := 0) (K := 0) (S := 0) (dd2 := 7) (av := [x_r (x_s0 + 22)]) (st := []) (id := 16 * 2 + 0) dX5_readAny_55 xmX5_32 rfl (Or.inl ⟨8, 8, TX10, (sa_2_0 hs), rfl, by decide⟩) (f_cal (M := M) (us2 := [2]) [0] hn rfl (And.intro rfl trivial) rfl rfl rfl (c_X10_takeWord hst hs  (by decide) hq27)) (by omega) (Nat.le_of_ble_eq_true rfl) (Or.inl rfl) ?_
              show Ev g _ _ _ _ _ _ 58 [some (x_r (16 * 2 + 0)), some (x_r (16 * 20 + 0)), some (x_i a), some (x_i v1), some (x_i v10)] [x_i v26] (al, ro, fl (ml M [2, 20] [T27, Lb12])) _ _ _ _
              refine e_if_eq (pc := 58) (tgt := 85) dX5_readAny_58 (by decide) (fun hb => ?_) (fun hb => ?_)
              · rw [if_pos hb] at hf15
                cases hf15
                refine e_drop (i := 4) ?_
                have hh := hk15 _ (hx15 _ rfl)
                try dsimp only at hh
                exact hh
              · rw [if_neg hb] at hf15
                refine e_aloadn (pc := 61) (i := 0) dX5_readAny_61 rfl rfl ?_
                refine e_aloadn (pc := 62) (i := 1) dX5_readAny_62 rfl rfl ?_
                refine e_iloadn (pc := 63) (i := 2) dX5_readAny_63 rfl rfl ?_
                obtain ⟨T29, Lb30, hq30, hf15⟩ := x_bd2 hf15
                refine e_invS (pc := 64) (K1 := 0) (S1 := 0) (K := 0) (S := 0) (dd2 := dn) (av := [x_r (16 * 2 + 0), x_r (16 * 20 + 0), x_i a]) (st := []) dX5_readAny_64 xmX5_66 rfl (f_cal (M := M) (us2 := [2, 20]) [0, 1] hn rfl (And.intro rfl (And.intro rfl trivial)) rfl rfl rfl (hR1 hq30)) (Nat.le_refl _) (Nat.le_of_ble_eq_true rfl) (Or.inl rfl) ?_
                show Ev g _ _ _ _ _ _ 67 [some (x_r (16 * 2 + 0)), some (x_r (16 * 20 + 0)), some (x_i a), some (x_i v1), some (x_i v10)] [] (al, ro, fl (ml M [2, 20] [T29, Lb30])) _ _ _ _
                refine e_iload (pc := 67) dX5_readAny_67 rfl ?_
                obtain ⟨Lb32, hr32, hf15⟩ := x_bd1 hf15
                have hjhr32 : Ev g yX5_readAny cX5_readAny 5 none [] (dn + 1) 79 [some (x_r (16 * 2 + 0)), some (x_r (16 * 20 + 0)), some (x_i a), some (x_i v1), some (x_i v10)] [] (al, ro, fl (ml M [2, 20] [T29, Lb32])) 0 0 (.inl none) (al, ro, fl (ml M [2, 20] [t.1, t.2])) := by
                  refine e_iinc (pc := 79) dX5_readAny_79 rfl (by decide) rfl ?_
                  show Ev g _ _ _ _ _ _ 82 [some (x_r (16 * 2 + 0)), some (x_r (16 * 20 + 0)), some (x_i a), some (x_i v1), some (x_i (x_add v10 1))] [] (al, ro, fl (ml M [2, 20] [T29, Lb32])) _ _ _ _
                  refine e_goto (pc := 82) (tgt := 32) dX5_readAny_82 (by decide) ?_
                  cases hf15
                  have hh := hi15 _ rfl
                  try dsimp only at hh
                  exact hh
                clear hf15
                refine e_if_le (pc := 69) (tgt := 79) dX5_readAny_69 (by decide) (fun hb => ?_) (fun hb => ?_)
                · rw [if_pos hb] at hr32
                  cases hr32
                  exact hjhr32
                · rw [if_neg hb] at hr32
                  refine e_aloadn (pc := 72) (i := 1) dX5_readAny_72 rfl rfl ?_
                  refine e_bipush (pc := 73) dX5_readAny_73 (by decide +kernel) (x_R rfl) ?_
                  refine e_iconst (pc := 75) dX5_readAny_75 (x_R rfl) ?_
                  obtain ⟨Lb34, hq34, hr32⟩ := x_bd1 hr32
                  refine e_invV (pc := 76) (K1 := 0) (S1 := 0) (K := 0) (S := 0) (dd2 := 0) (av := [x_i 8, x_i 0]) (st := []) (id := 16 * 20 + 0) dX5_readAny_76 xmX5_69 rfl (Or.inl ⟨3, 7, TX4, (sa_20_0 hs), rfl, by decide⟩) (f_cal (M := M) (us2 := [20]) [1] hn rfl (And.intro rfl trivial) rfl rfl rfl (c_X4_addStep hst hs   hq34)) (by omega) (Nat.le_of_ble_eq_true rfl) (Or.inl rfl) ?_
                  show Ev g _ _ _ _ _ _ 79 [some (x_r (16 * 2 + 0)), some (x_r (16 * 20 + 0)), some (x_i a), some (x_i v1), some (x_i v10)] [] (al, ro, fl (ml M [2, 20] [T29, Lb34])) _ _ _ _
                  cases hr32
                  exact hjhr32
      · rw [if_neg hb] at hf6
        refine e_aloadn (pc := 20) (i := 0) dX5_readAny_20 rfl rfl ?_
        refine e_ldcS (pc := 21) (i := 21) (tx := "or") dX5_readAny_21 (List.mem_of_getElem? (i := 21) rfl) (by decide) ?_
        obtain ⟨v40, T41, hq41, hf6⟩ := x_bd2 hf6
        refine e_invV (pc := 23) (K1 := 0) (S1 := 0) (K := 0) (S := 0) (dd2 := 7) (av := [x_r (x_s0 + 21)]) (st := []) (id := 16 * 2 + 0) dX5_readAny_23 xmX5_32 rfl (Or.inl ⟨8, 8, TX10, (sa_2_0 hs), rfl, by decide⟩) (f_cal (M := M) (us2 := [2]) [0] hn rfl (And.intro rfl trivial) rfl rfl rfl (c_X10_takeWord hst hs  (by decide) hq41)) (by omega) (Nat.le_of_ble_eq_true rfl) (Or.inl rfl) ?_
        show Ev g _ _ _ _ _ _ 26 [some (x_r (16 * 2 + 0)), some (x_r (16 * 20 + 0)), some (x_i a), some (x_i v1), none] [x_i v40] (al, ro, fl (ml M [2, 20] [T41, Lb3])) _ _ _ _
        refine e_if_eq (pc := 26) (tgt := 102) dX5_readAny_26 (by decide) (fun hb => ?_) (fun hb => ?_)
        · rw [if_pos hb] at hf6
          cases hf6
          refine e_drop (i := 3) ?_
          have hh := hk6 _ (hx6 _ rfl)
          try dsimp only at hh
          exact hh
        · rw [if_neg hb] at hf6
          refine e_iconst (pc := 29) dX5_readAny_29 (x_R rfl) ?_
          refine e_istore (pc := 30) (i := 4) dX5_readAny_30 (by decide) rfl ?_
          show Ev g _ _ _ _ _ _ 32 [some (x_r (16 * 2 + 0)), some (x_r (16 * 20 + 0)), some (x_i a), some (x_i v1), some (x_i 0)] [] (al, ro, fl (ml M [2, 20] [T41, Lb3])) _ _ _ _
          obtain ⟨T46, Lb47, hl48, hf6⟩ := x_bd2 hf6
          have hk48 : ∀ q : (xU × xU), q = (T46, Lb47) → Ev g yX5_readAny cX5_readAny 5 none [] (dn + 1) 85 [some (x_r (16 * 2 + 0)), some (x_r (16 * 20 + 0)), some (x_i a), some (x_i v1), none] [] (al, ro, fl (ml M [2, 20] [q.1, q.2])) 0 0 (.inl none) (al, ro, fl (ml M [2, 20] [t.1, t.2])) := by
            intro q hq
            cases hq
            refine e_iloadn (pc := 85) (i := 3) dX5_readAny_85 rfl rfl ?_
            obtain ⟨Lb69, hr69, hf6⟩ := x_bd1 hf6
            have hjhr69 : Ev g yX5_readAny cX5_readAny 5 none [] (dn + 1) 96 [some (x_r (16 * 2 + 0)), some (x_r (16 * 20 + 0)), some (x_i a), some (x_i v1), none] [] (al, ro, fl (ml M [2, 20] [T46, Lb69])) 0 0 (.inl none) (al, ro, fl (ml M [2, 20] [t.1, t.2])) := by
              refine e_iinc (pc := 96) dX5_readAny_96 rfl (by decide) rfl ?_
              show Ev g _ _ _ _ _ _ 99 [some (x_r (16 * 2 + 0)), some (x_r (16 * 20 + 0)), some (x_i a), some (x_i (x_add v1 1)), none] [] (al, ro, fl (ml M [2, 20] [T46, Lb69])) _ _ _ _
              refine e_goto (pc := 99) (tgt := 2) dX5_readAny_99 (by decide) ?_
              cases hf6
              have hh := hi6 _ rfl
              try dsimp only at hh
              exact hh
            clear hf6
            refine e_if_le (pc := 86) (tgt := 96) dX5_readAny_86 (by decide) (fun hb => ?_) (fun hb => ?_)
            · rw [if_pos hb] at hr69
              cases hr69
              exact hjhr69
            · rw [if_neg hb] at hr69
              refine e_aloadn (pc := 89) (i := 1) dX5_readAny_89 rfl rfl ?_
              refine e_bipush (pc := 90) dX5_readAny_90 (by decide +kernel) (x_R rfl) ?_
              refine e_iconst (pc := 92) dX5_readAny_92 (x_R rfl) ?_
              obtain ⟨Lb71, hq71, hr69⟩ := x_bd1 hr69
              refine e_invV (pc := 93) (K1 := 0) (S1 := 0) (K := 0) (S := 0) (dd2 := 0) (av := [x_i 9, x_i 0]) (st := []) (id := 16 * 20 + 0) dX5_readAny_93 xmX5_69 rfl (Or.inl ⟨3, 7, TX4, (sa_20_0 hs), rfl, by decide⟩) (f_cal (M := M) (us2 := [20]) [1] hn rfl (And.intro rfl trivial) rfl rfl rfl (c_X4_addStep hst hs   hq71)) (by omega) (Nat.le_of_ble_eq_true rfl) (Or.inl rfl) ?_
              show Ev g _ _ _ _ _ _ 96 [some (x_r (16 * 2 + 0)), some (x_r (16 * 20 + 0)), some (x_i a), some (x_i v1), none] [] (al, ro, fl (ml M [2, 20] [T46, Lb71])) _ _ _ _
              cases hr69
              exact hjhr69
          clear hf6
          refine e_whl (G5_readAny_b_L32x a R1) (fun z : (Int × xU × xU) => Ev g yX5_readAny cX5_readAny 5 none [] (dn + 1) 32 [some (x_r (16 * 2 + 0)), some (x_r (16 * 20 + 0)), some (x_i a), some (x_i v1), some (x_i z.1)] [] (al, ro, fl (ml M [2, 20] [z.2.1, z.2.2])) 0 0 (.inl none) (al, ro, fl (ml M [2, 20] [t.1, t.2]))) (fun q => q = (T46, Lb47)) ?_ xFU (0, T41, Lb3) _ hl48 rfl
          intro z t48 hf48 hi48 hx48
          obtain ⟨v43, T44, Lb45⟩ := z
          rw [G5_readAny_b_L32x] at hf48
          show Ev g _ _ _ _ _ _ 32 [some (x_r (16 * 2 + 0)), some (x_r (16 * 20 + 0)), some (x_i a), some (x_i v1), some (x_i v43)] [] (al, ro, fl (ml M [2, 20] [T44, Lb45])) _ _ _ _
          refine e_iload (pc := 32) dX5_readAny_32 rfl ?_
          refine e_sipush (pc := 34) dX5_readAny_34 (by decide +kernel) (x_R rfl) ?_
          refine e_icmp_ge (pc := 37) (tgt := 85) dX5_readAny_37 (by decide) (fun hb => ?_) (fun hb => ?_)
          · rw [if_pos hb] at hf48
            cases hf48
            refine e_drop (i := 4) ?_
            have hh := hk48 _ (hx48 _ rfl)
            try dsimp only at hh
            exact hh
          · rw [if_neg hb] at hf48
            refine e_aloadn (pc := 40) (i := 0) dX5_readAny_40 rfl rfl ?_
            obtain ⟨v50, hq50, hf48⟩ := x_bd1 hf48
            refine e_invV (pc := 41) (K1 := 0) (S1 := 0) (K := 0) (S := 0) (dd2 := 0) (av := []) (st := []) (id := 16 * 2 + 0) dX5_readAny_41 xmX5_48 rfl (Or.inl ⟨8, 8, TX10, (sa_2_0 hs), rfl, by decide⟩) (f_cal (M := M) (us2 := [2]) [0] hn rfl (And.intro rfl trivial) rfl rfl rfl (c_X10_isRight hst hs   hq50)) (by omega) (Nat.le_of_ble_eq_true rfl) (Or.inl rfl) ?_
            show Ev g _ _ _ _ _ _ 44 [some (x_r (16 * 2 + 0)), some (x_r (16 * 20 + 0)), some (x_i a), some (x_i v1), some (x_i v43)] [x_i v50] (al, ro, fl (ml M [2, 20] [T44, Lb45])) _ _ _ _
            refine e_if_eq (pc := 44) (tgt := 85) dX5_readAny_44 (by decide) (fun hb => ?_) (fun hb => ?_)
            · rw [if_pos hb] at hf48
              cases hf48
              refine e_drop (i := 4) ?_
              have hh := hk48 _ (hx48 _ rfl)
              try dsimp only at hh
              exact hh
            · rw [if_neg hb] at hf48
              refine e_iload (pc := 47) dX5_readAny_47 rfl ?_
              refine e_if_eq (pc := 49) (tgt := 61) dX5_readAny_49 (by decide) (fun hb => ?_) (fun hb => ?_)
              · rw [if_pos hb] at hf48
                refine e_aloadn (pc := 61) (i := 0) dX5_readAny_61 rfl rfl ?_
                refine e_aloadn (pc := 62) (i := 1) dX5_readAny_62 rfl rfl ?_
                refine e_iloadn (pc := 63) (i := 2) dX5_readAny_63 rfl rfl ?_
                obtain ⟨T52, Lb53, hq53, hf48⟩ := x_bd2 hf48
                refine e_invS (pc := 64) (K1 := 0) (S1 := 0) (K := 0) (S := 0) (dd2 := dn) (av := [x_r (16 * 2 + 0), x_r (16 * 20 + 0), x_i a]) (st := []) dX5_readAny_64 xmX5_66 rfl (f_cal (M := M) (us2 := [2, 20]) [0, 1] hn rfl (And.intro rfl (And.intro rfl trivial)) rfl rfl rfl (hR1 hq53)) (Nat.le_refl _) (Nat.le_of_ble_eq_true rfl) (Or.inl rfl) ?_
                show Ev g _ _ _ _ _ _ 67 [some (x_r (16 * 2 + 0)), some (x_r (16 * 20 + 0)), some (x_i a), some (x_i v1), some (x_i v43)] [] (al, ro, fl (ml M [2, 20] [T52, Lb53])) _ _ _ _
                refine e_iload (pc := 67) dX5_readAny_67 rfl ?_
                obtain ⟨Lb55, hr55, hf48⟩ := x_bd1 hf48
                have hjhr55 : Ev g yX5_readAny cX5_readAny 5 none [] (dn + 1) 79 [some (x_r (16 * 2 + 0)), some (x_r (16 * 20 + 0)), some (x_i a), some (x_i v1), some (x_i v43)] [] (al, ro, fl (ml M [2, 20] [T52, Lb55])) 0 0 (.inl none) (al, ro, fl (ml M [2, 20] [t.1, t.2])) := by
                  refine e_iinc (pc := 79) dX5_readAny_79 rfl (by decide) rfl ?_
                  show Ev g _ _ _ _ _ _ 82 [some (x_r (16 * 2 + 0)), some (x_r (16 * 20 + 0)), some (x_i a), some (x_i v1), some (x_i (x_add v43 1))] [] (al, ro, fl (ml M [2, 20] [T52, Lb55])) _ _ _ _
                  refine e_goto (pc := 82) (tgt := 32) dX5_readAny_82 (by decide) ?_
                  cases hf48
                  have hh := hi48 _ rfl
                  try dsimp only at hh
                  exact hh
                clear hf48
                refine e_if_le (pc := 69) (tgt := 79) dX5_readAny_69 (by decide) (fun hb => ?_) (fun hb => ?_)
                · rw [if_pos hb] at hr55
                  cases hr55
                  exact hjhr55
                · rw [if_neg hb] at hr55
                  refine e_aloadn (pc := 72) (i := 1) dX5_readAny_72 rfl rfl ?_
                  refine e_bipush (pc := 73) dX5_readAny_73 (by decide +kernel) (x_R rfl) ?_
                  refine e_iconst (pc := 75) dX5_readAny_75 (x_R rfl) ?_
                  obtain ⟨Lb57, hq57, hr55⟩ := x_bd1 hr55
                  refine e_invV (pc := 76) (K1 := 0) (S1 := 0) (K := 0) (S := 0) (dd2 := 0) (av := [x_i 8, x_i 0]) (st := []) (id := 16 * 20 + 0) dX5_readAny_76 xmX5_69 rfl (Or.inl ⟨3, 7, TX4, (sa_20_0 hs), rfl, by decide⟩) (f_cal (M := M) (us2 := [20]) [1] hn rfl (And.intro rfl trivial) rfl rfl rfl (c_X4_addStep hst hs   hq57)) (by omega) (Nat.le_of_ble_eq_true rfl) (Or.inl rfl) ?_
                  show Ev g _ _ _ _ _ _ 79 [some (x_r (16 * 2 + 0)), some (x_r (16 * 20 + 0)), some (x_i a), some (x_i v1), some (x_i v43)] [] (al, ro, fl (ml M [2, 20] [T52, Lb57])) _ _ _ _
                  cases hr55
                  exact hjhr55
              · rw [if_neg hb] at hf48
                refine e_aloadn (pc := 52) (i := 0) dX5_readAny_52 rfl rfl ?_
                refine e_ldcS (pc := 53) (i := 22) (tx := "and") dX5_readAny_53 (List.mem_of_getElem? (i := 22) rfl) (by decide) ?_
                obtain ⟨v59, T60, hq60, hf48⟩ := x_bd2 hf48
                refine e_invV (pc := 55) (K1 := 0) (S1 := 0) (K := 0) (S := 0) (dd2 := 7) (av := [x_r (x_s0 + 22)]) (st := []) (id := 16 * 2 + 0) dX5_readAny_55 xmX5_32 rfl (Or.inl ⟨8, 8, TX10, (sa_2_0 hs), rfl, by decide⟩) (f_cal (M := M) (us2 := [2]) [0] hn rfl (And.intro rfl trivial) rfl rfl rfl (c_X10_takeWord hst hs  (by decide) hq60)) (by omega) (Nat.le_of_ble_eq_true rfl) (Or.inl rfl) ?_
                show Ev g _ _ _ _ _ _ 58 [some (x_r (16 * 2 + 0)), some (x_r (16 * 20 + 0)), some (x_i a), some (x_i v1), some (x_i v43)] [x_i v59] (al, ro, fl (ml M [2, 20] [T60, Lb45])) _ _ _ _
                refine e_if_eq (pc := 58) (tgt := 85) dX5_readAny_58 (by decide) (fun hb => ?_) (fun hb => ?_)
                · rw [if_pos hb] at hf48
                  cases hf48
                  refine e_drop (i := 4) ?_
                  have hh := hk48 _ (hx48 _ rfl)
                  try dsimp only at hh
                  exact hh
                · rw [if_neg hb] at hf48
                  refine e_aloadn (pc := 61) (i := 0) dX5_readAny_61 rfl rfl ?_
                  refine e_aloadn (pc := 62) (i := 1) dX5_readAny_62 rfl rfl ?_
                  refine e_iloadn (pc := 63) (i := 2) dX5_readAny_63 rfl rfl ?_
                  obtain ⟨T62, Lb63, hq63, hf48⟩ := x_bd2 hf48
                  refine e_invS (pc := 64) (K1 := 0) (S1 := 0) (K := 0) (S := 0) (dd2 := dn) (av := [x_r (16 * 2 + 0), x_r (16 * 20 + 0), x_i a]) (st := []) dX5_readAny_64 xmX5_66 rfl (f_cal (M := M) (us2 := [2, 20]) [0, 1] hn rfl (And.intro rfl (And.intro rfl trivial)) rfl rfl rfl (hR1 hq63)) (Nat.le_refl _) (Nat.le_of_ble_eq_true rfl) (Or.inl rfl) ?_
                  show Ev g _ _ _ _ _ _ 67 [some (x_r (16 * 2 + 0)), some (x_r (16 * 20 + 0)), some (x_i a), some (x_i v1), some (x_i v43)] [] (al, ro, fl (ml M [2, 20] [T62, Lb63])) _ _ _ _
                  refine e_iload (pc := 67) dX5_readAny_67 rfl ?_
                  obtain ⟨Lb65, hr65, hf48⟩ := x_bd1 hf48
                  have hjhr65 : Ev g yX5_readAny cX5_readAny 5 none [] (dn + 1) 79 [some (x_r (16 * 2 + 0)), some (x_r (16 * 20 + 0)), some (x_i a), some (x_i v1), some (x_i v43)] [] (al, ro, fl (ml M [2, 20] [T62, Lb65])) 0 0 (.inl none) (al, ro, fl (ml M [2, 20] [t.1, t.2])) := by
                    refine e_iinc (pc := 79) dX5_readAny_79 rfl (by decide) rfl ?_
                    show Ev g _ _ _ _ _ _ 82 [some (x_r (16 * 2 + 0)), some (x_r (16 * 20 + 0)), some (x_i a), some (x_i v1), some (x_i (x_add v43 1))] [] (al, ro, fl (ml M [2, 20] [T62, Lb65])) _ _ _ _
                    refine e_goto (pc := 82) (tgt := 32) dX5_readAny_82 (by decide) ?_
                    cases hf48
                    have hh := hi48 _ rfl
                    try dsimp only at hh
                    exact hh
                  clear hf48
                  refine e_if_le (pc := 69) (tgt := 79) dX5_readAny_69 (by decide) (fun hb => ?_) (fun hb => ?_)
                  · rw [if_pos hb] at hr65
                    cases hr65
                    exact hjhr65
                  · rw [if_neg hb] at hr65
                    refine e_aloadn (pc := 72) (i := 1) dX5_readAny_72 rfl rfl ?_
                    refine e_bipush (pc := 73) dX5_readAny_73 (by decide +kernel) (x_R rfl) ?_
                    refine e_iconst (pc := 75) dX5_readAny_75 (x_R rfl) ?_
                    obtain ⟨Lb67, hq67, hr65⟩ := x_bd1 hr65
                    refine e_invV (pc := 76) (K1 := 0) (S1 := 0) (K := 0) (S := 0) (dd2 := 0) (av := [x_i 8, x_i 0]) (st := []) (id := 16 * 20 + 0) dX5_readAny_76 xmX5_69 rfl (Or.inl ⟨3, 7, TX4, (sa_20_0 hs), rfl, by decide⟩) (f_cal (M := M) (us2 := [20]) [1] hn rfl (And.intro rfl trivial) rfl rfl rfl (c_X4_addStep hst hs   hq67)) (by omega) (Nat.le_of_ble_eq_true rfl) (Or.inl rfl) ?_
                    show Ev g _ _ _ _ _ _ 79 [some (x_r (16 * 2 + 0)), some (x_r (16 * 20 + 0)), some (x_i a), some (x_i v1), some (x_i v43)] [] (al, ro, fl (ml M [2, 20] [T62, Lb67])) _ _ _ _
                    cases hr65
                    exact hjhr65
set_option maxRecDepth 100000 in
set_option maxHeartbeats 4000000 in
theorem c_X5_readAtom_b {g : xG} {al : List (Nat × Nat × Nat)} {ro : Nat → Nat → Option Nat} (hst : g.1.stackTraces = false) (hs : SH al ro) {dn : Nat} (hdn : 9 ≤ dn) {M : Nat → xU} {R0 : Int → xU → xU → Option (xU × xU)} {R1 : Int → xU → xU → Option (xU × xU)} {a : Int} {T : xU} {Lb : xU} (hR0 : ∀ {M : Nat → xU} {a : Int} {T : xU} {Lb : xU} {t : (xU × xU)}, R0 a T Lb = some t → Cal g yX5_readAny cX5_readAny 5 none dn [x_r (16 * 2 + 0), x_r (16 * 20 + 0), x_i a] (al, ro, fl (ml M [2, 20] [T, Lb])) 0 0 (.inl none) (al, ro, fl (ml M [2, 20] [t.1, t.2]))) (hR1 : ∀ {M : Nat → xU} {a : Int} {T : xU} {Lb : xU} {t : (xU × xU)}, R1 a T Lb = some t → Cal g yX5_readAtom cX5_readAtom 5 none dn [x_r (16 * 2 + 0), x_r (16 * 20 + 0), x_i a] (al, ro, fl (ml M [2, 20] [T, Lb])) 0 0 (.inl none) (al, ro, fl (ml M [2, 20] [t.1, t.2]))) {t : (xU × xU)} (hG : G5_readAtom_b R0 R1 a T Lb = some t) :
    Cal g yX5_readAtom cX5_readAtom 5 none (dn + 1) [x_r (16 * 2 + 0), x_r (16 * 20 + 0), x_i a] (al, ro, fl (ml M [2, 20] [T, Lb])) 0 0 (.inl none) (al, ro, fl (ml M [2, 20] [t.1, t.2])) := by
  have hn : ([2, 20] : List Nat).Nodup := by decide
  refine cal_of_ev (plainFor_of_name (by decide)) (x_c1 rfl) (Nat.le_of_ble_eq_true rfl) hst ?_
  show Ev g _ _ _ _ _ _ 0 [some (x_r (16 * 2 + 0)), some (x_r (16 * 20 + 0)), some (x_i a), none, none] [] (al, ro, fl (ml M [2, 20] [T, Lb])) _ _ _ _
  rw [G5_readAtom_b] at hG
  refine e_aloadn (pc := 0) (i := 0) dX5_readAtom_0 rfl rfl ?_
  refine e_bipush (pc := 1) dX5_readAtom_1 (by decide +kernel) (x_R rfl) ?_
  obtain ⟨v1, hq1, hG⟩ := x_bd1 hG
  refine e_invV (pc := 3) (K1 := 0) (S1 := 0) (K := 0) (S := 0) (dd2 := 0) (av := [x_i 40]) (st := []) (id := 16 * 2 + 0) dX5_readAtom_3 xmX5_72 rfl (Or.inl ⟨8, 8, TX10, (sa_2_0 hs), rfl, by decide⟩) (f_cal (M := M) (us2 := [2]) [0] hn rfl (And.intro rfl trivial) rfl rfl rfl (c_X10_isSign hst hs   hq1)) (by omega) (Nat.le_of_ble_eq_true rfl) (Or.inl rfl) ?_
  show Ev g _ _ _ _ _ _ 6 [some (x_r (16 * 2 + 0)), some (x_r (16 * 20 + 0)), some (x_i a), none, none] [x_i v1] (al, ro, fl (ml M [2, 20] [T, Lb])) _ _ _ _
  refine e_istoren (pc := 6) (i := 3) dX5_readAtom_6 rfl (by decide) rfl ?_
  show Ev g _ _ _ _ _ _ 7 [some (x_r (16 * 2 + 0)), some (x_r (16 * 20 + 0)), some (x_i a), some (x_i v1), none] [] (al, ro, fl (ml M [2, 20] [T, Lb])) _ _ _ _
  refine e_iloadn (pc := 7) (i := 3) dX5_readAtom_7 rfl rfl ?_
  refine e_if_ne (pc := 8) (tgt := 20) dX5_readAtom_8 (by decide) (fun hb => ?_) (fun hb => ?_)
  · rw [if_neg hb] at hG
    refine e_iloadn (pc := 20) (i := 2) dX5_readAtom_20 rfl rfl ?_
    refine e_bipush (pc := 21) dX5_readAtom_21 (by decide +kernel) (x_R rfl) ?_
    refine e_icmp_lt (pc := 23) (tgt := 31) dX5_readAtom_23 (by decide) (fun hb => ?_) (fun hb => ?_)
    · rw [if_pos hb] at hG
      refine e_aloadn (pc := 31) (i := 0) dX5_readAtom_31 rfl rfl ?_
      obtain ⟨T3, hq3, hG⟩ := x_bd1 hG
      refine e_invV (pc := 32) (K1 := 0) (S1 := 0) (K := 0) (S := 0) (dd2 := 0) (av := []) (st := []) (id := 16 * 2 + 0) dX5_readAtom_32 xmX5_84 rfl (Or.inl ⟨8, 8, TX10, (sa_2_0 hs), rfl, by decide⟩) (f_cal (M := M) (us2 := [2]) [0] hn rfl (And.intro rfl trivial) rfl rfl rfl (c_X10_readNext hst hs   hq3)) (by omega) (Nat.le_of_ble_eq_true rfl) (Or.inl rfl) ?_
      show Ev g _ _ _ _ _ _ 35 [some (x_r (16 * 2 + 0)), some (x_r (16 * 20 + 0)), some (x_i a), some (x_i v1), none] [] (al, ro, fl (ml M [2, 20] [T3, Lb])) _ _ _ _
      refine e_iloadn (pc := 35) (i := 3) dX5_readAtom_35 rfl rfl ?_
      obtain ⟨T5, Lb6, hr6, hG⟩ := x_bd2 hG
      have hjhr6 : Ev g yX5_readAtom cX5_readAtom 5 none [] (dn + 1) 166 [some (x_r (16 * 2 + 0)), some (x_r (16 * 20 + 0)), some (x_i a), some (x_i v1), none] [] (al, ro, fl (ml M [2, 20] [T5, Lb6])) 0 0 (.inl none) (al, ro, fl (ml M [2, 20] [t.1, t.2])) := by
        cases hG
        exact (e_return rfl dX5_readAtom_166)
      clear hG
      refine e_if_eq (pc := 36) (tgt := 56) dX5_readAtom_36 (by decide) (fun hb => ?_) (fun hb => ?_)
      · rw [if_pos hb] at hr6
        refine e_aloadn (pc := 56) (i := 0) dX5_readAtom_56 rfl rfl ?_
        refine e_aloadn (pc := 57) (i := 1) dX5_readAtom_57 rfl rfl ?_
        refine e_iloadn (pc := 58) (i := 2) dX5_readAtom_58 rfl rfl ?_
        refine e_iconst (pc := 59) dX5_readAtom_59 (x_R rfl) ?_
        refine e_iadd (pc := 60) dX5_readAtom_60 ?_
        obtain ⟨T8, Lb9, hq9, hr6⟩ := x_bd2 hr6
        refine e_invS (pc := 61) (K1 := 0) (S1 := 0) (K := 0) (S := 0) (dd2 := dn) (av := [x_r (16 * 2 + 0), x_r (16 * 20 + 0), x_i (x_add a 1)]) (st := []) dX5_readAtom_61 xmX5_66 rfl (f_cal (M := M) (us2 := [2, 20]) [0, 1] hn rfl (And.intro rfl (And.intro rfl trivial)) rfl rfl rfl (hR1 hq9)) (Nat.le_refl _) (Nat.le_of_ble_eq_true rfl) (Or.inl rfl) ?_
        show Ev g _ _ _ _ _ _ 64 [some (x_r (16 * 2 + 0)), some (x_r (16 * 20 + 0)), some (x_i a), some (x_i v1), none] [] (al, ro, fl (ml M [2, 20] [T8, Lb9])) _ _ _ _
        refine e_aloadn (pc := 64) (i := 1) dX5_readAtom_64 rfl rfl ?_
        refine e_bipush (pc := 65) dX5_readAtom_65 (by decide +kernel) (x_R rfl) ?_
        refine e_iconst (pc := 67) dX5_readAtom_67 (x_R rfl) ?_
        obtain ⟨Lb11, hq11, hr6⟩ := x_bd1 hr6
        refine e_invV (pc := 68) (K1 := 0) (S1 := 0) (K := 0) (S := 0) (dd2 := 0) (av := [x_i 7, x_i 0]) (st := []) (id := 16 * 20 + 0) dX5_readAtom_68 xmX5_69 rfl (Or.inl ⟨3, 7, TX4, (sa_20_0 hs), rfl, by decide⟩) (f_cal (M := M) (us2 := [20]) [1] hn rfl (And.intro rfl trivial) rfl rfl rfl (c_X4_addStep hst hs   hq11)) (by omega) (Nat.le_of_ble_eq_true rfl) (Or.inl rfl) ?_
        show Ev g _ _ _ _ _ _ 71 [some (x_r (16 * 2 + 0)), some (x_r (16 * 20 + 0)), some (x_i a), some (x_i v1), none] [] (al, ro, fl (ml M [2, 20] [T8, Lb11])) _ _ _ _
        refine e_goto (pc := 71) (tgt := 166) dX5_readAtom_71 (by decide) ?_
        cases hr6
        exact hjhr6
      · rw [if_neg hb] at hr6
        refine e_aloadn (pc := 39) (i := 0) dX5_readAtom_39 rfl rfl ?_
        refine e_aloadn (pc := 40) (i := 1) dX5_readAtom_40 rfl rfl ?_
        refine e_iloadn (pc := 41) (i := 2) dX5_readAtom_41 rfl rfl ?_
        refine e_iconst (pc := 42) dX5_readAtom_42 (x_R rfl) ?_
        refine e_iadd (pc := 43) dX5_readAtom_43 ?_
        obtain ⟨T13, Lb14, hq14, hr6⟩ := x_bd2 hr6
        refine e_invS (pc := 44) (K1 := 0) (S1 := 0) (K := 0) (S := 0) (dd2 := dn) (av := [x_r (16 * 2 + 0), x_r (16 * 20 + 0), x_i (x_add a 1)]) (st := []) dX5_readAtom_44 xmX5_54 rfl (f_cal (M := M) (us2 := [2, 20]) [0, 1] hn rfl (And.intro rfl (And.intro rfl trivial)) rfl rfl rfl (hR0 hq14)) (Nat.le_refl _) (Nat.le_of_ble_eq_true rfl) (Or.inl rfl) ?_
        show Ev g _ _ _ _ _ _ 47 [some (x_r (16 * 2 + 0)), some (x_r (16 * 20 + 0)), some (x_i a), some (x_i v1), none] [] (al, ro, fl (ml M [2, 20] [T13, Lb14])) _ _ _ _
        refine e_aloadn (pc := 47) (i := 0) dX5_readAtom_47 rfl rfl ?_
        refine e_bipush (pc := 48) dX5_readAtom_48 (by decide +kernel) (x_R rfl) ?_
        obtain ⟨T16, hq16, hr6⟩ := x_bd1 hr6
        refine e_invV (pc := 50) (K1 := 0) (S1 := 0) (K := 0) (S := 0) (dd2 := 2) (av := [x_i 41]) (st := []) (id := 16 * 2 + 0) dX5_readAtom_50 xmX5_87 rfl (Or.inl ⟨8, 8, TX10, (sa_2_0 hs), rfl, by decide⟩) (f_cal (M := M) (us2 := [2]) [0] hn rfl (And.intro rfl trivial) rfl rfl rfl (c_X10_expectSign hst hs   hq16)) (by omega) (Nat.le_of_ble_eq_true rfl) (Or.inl rfl) ?_
        show Ev g _ _ _ _ _ _ 53 [some (x_r (16 * 2 + 0)), some (x_r (16 * 20 + 0)), some (x_i a), some (x_i v1), none] [] (al, ro, fl (ml M [2, 20] [T16, Lb14])) _ _ _ _
        refine e_goto (pc := 53) (tgt := 166) dX5_readAtom_53 (by decide) ?_
        cases hr6
        exact hjhr6
    · rw [if_neg hb] at hG
      refine e_aloadn (pc := 26) (i := 0) dX5_readAtom_26 rfl rfl ?_
      obtain ⟨T18, hq18, hG⟩ := x_bd1 hG
      refine e_invV (pc := 27) (K1 := 0) (S1 := 0) (K := 0) (S := 0) (dd2 := 0) (av := []) (st := []) (id := 16 * 2 + 0) dX5_readAtom_27 xmX5_81 rfl (Or.inl ⟨8, 8, TX10, (sa_2_0 hs), rfl, by decide⟩) (f_cal (M := M) (us2 := [2]) [0] hn rfl (And.intro rfl trivial) rfl rfl rfl (c_X10_refuse hst hs   hq18)) (by omega) (Nat.le_of_ble_eq_true rfl) (Or.inl rfl) ?_
      show Ev g _ _ _ _ _ _ 30 [some (x_r (16 * 2 + 0)), some (x_r (16 * 20 + 0)), some (x_i a), some (x_i v1), none] [] (al, ro, fl (ml M [2, 20] [T18, Lb])) _ _ _ _
      cases hG
      exact (e_return rfl dX5_readAtom_30)
  · rw [if_pos hb] at hG
    refine e_aloadn (pc := 11) (i := 0) dX5_readAtom_11 rfl rfl ?_
    refine e_ldcS (pc := 12) (i := 23) (tx := "not") dX5_readAtom_12 (List.mem_of_getElem? (i := 23) rfl) (by decide) ?_
    obtain ⟨v20, hq20, hG⟩ := x_bd1 hG
    refine e_invV (pc := 14) (K1 := 0) (S1 := 0) (K := 0) (S := 0) (dd2 := 6) (av := [x_r (x_s0 + 23)]) (st := []) (id := 16 * 2 + 0) dX5_readAtom_14 xmX5_78 rfl (Or.inl ⟨8, 8, TX10, (sa_2_0 hs), rfl, by decide⟩) (f_cal (M := M) (us2 := [2]) [0] hn rfl (And.intro rfl trivial) rfl rfl rfl (c_X10_isWord hst hs  (by decide) hq20)) (by omega) (Nat.le_of_ble_eq_true rfl) (Or.inl rfl) ?_
    show Ev g _ _ _ _ _ _ 17 [some (x_r (16 * 2 + 0)), some (x_r (16 * 20 + 0)), some (x_i a), some (x_i v1), none] [x_i v20] (al, ro, fl (ml M [2, 20] [T, Lb])) _ _ _ _
    refine e_if_eq (pc := 17) (tgt := 74) dX5_readAtom_17 (by decide) (fun hb => ?_) (fun hb => ?_)
    · rw [if_pos hb] at hG
      refine e_aloadn (pc := 74) (i := 0) dX5_readAtom_74 rfl rfl ?_
      refine e_ldcS (pc := 75) (i := 24) (tx := "corner") dX5_readAtom_75 (List.mem_of_getElem? (i := 24) rfl) (by decide) ?_
      obtain ⟨v22, T23, hq23, hG⟩ := x_bd2 hG
      refine e_invV (pc := 77) (K1 := 0) (S1 := 0) (K := 0) (S := 0) (dd2 := 7) (av := [x_r (x_s0 + 24)]) (st := []) (id := 16 * 2 + 0) dX5_readAtom_77 xmX5_32 rfl (Or.inl ⟨8, 8, TX10, (sa_2_0 hs), rfl, by decide⟩) (f_cal (M := M) (us2 := [2]) [0] hn rfl (And.intro rfl trivial) rfl rfl rfl (c_X10_takeWord hst hs  (by decide) hq23)) (by omega) (Nat.le_of_ble_eq_true rfl) (Or.inl rfl) ?_
      show Ev g _ _ _ _ _ _ 80 [some (x_r (16 * 2 + 0)), some (x_r (16 * 20 + 0)), some (x_i a), some (x_i v1), none] [x_i v22] (al, ro, fl (ml M [2, 20] [T23, Lb])) _ _ _ _
      obtain ⟨T25, Lb26, hr26, hG⟩ := x_bd2 hG
      have hjhr26 : Ev g yX5_readAtom cX5_readAtom 5 none [] (dn + 1) 166 [some (x_r (16 * 2 + 0)), some (x_r (16 * 20 + 0)), some (x_i a), some (x_i v1), none] [] (al, ro, fl (ml M [2, 20] [T25, Lb26])) 0 0 (.inl none) (al, ro, fl (ml M [2, 20] [t.1, t.2])) := by
        cases hG
        exact (e_return rfl dX5_readAtom_166)
      clear hG
      refine e_if_eq (pc := 80) (tgt := 92) dX5_readAtom_80 (by decide) (fun hb => ?_) (fun hb => ?_)
      · rw [if_pos hb] at hr26
        refine e_aloadn (pc := 92) (i := 0) dX5_readAtom_92 rfl rfl ?_
        refine e_ldcS (pc := 93) (i := 25) (tx := "hungry") dX5_readAtom_93 (List.mem_of_getElem? (i := 25) rfl) (by decide) ?_
        obtain ⟨v28, T29, hq29, hr26⟩ := x_bd2 hr26
        refine e_invV (pc := 95) (K1 := 0) (S1 := 0) (K := 0) (S := 0) (dd2 := 7) (av := [x_r (x_s0 + 25)]) (st := []) (id := 16 * 2 + 0) dX5_readAtom_95 xmX5_32 rfl (Or.inl ⟨8, 8, TX10, (sa_2_0 hs), rfl, by decide⟩) (f_cal (M := M) (us2 := [2]) [0] hn rfl (And.intro rfl trivial) rfl rfl rfl (c_X10_takeWord hst hs  (by decide) hq29)) (by omega) (Nat.le_of_ble_eq_true rfl) (Or.inl rfl) ?_
        show Ev g _ _ _ _ _ _ 98 [some (x_r (16 * 2 + 0)), some (x_r (16 * 20 + 0)), some (x_i a), some (x_i v1), none] [x_i v28] (al, ro, fl (ml M [2, 20] [T29, Lb])) _ _ _ _
        refine e_if_eq (pc := 98) (tgt := 111) dX5_readAtom_98 (by decide) (fun hb => ?_) (fun hb => ?_)
        · rw [if_pos hb] at hr26
          refine e_aloadn (pc := 111) (i := 0) dX5_readAtom_111 rfl rfl ?_
          refine e_aloadn (pc := 112) (i := 1) dX5_readAtom_112 rfl rfl ?_
          obtain ⟨T31, Lb32, hq32, hr26⟩ := x_bd2 hr26
          refine e_invS (pc := 113) (K1 := 0) (S1 := 0) (K := 0) (S := 0) (dd2 := 8) (av := [x_r (16 * 2 + 0), x_r (16 * 20 + 0)]) (st := []) dX5_readAtom_113 xmX5_95 rfl (f_cal (M := M) (us2 := [2, 20]) [0, 1] hn rfl (And.intro rfl (And.intro rfl trivial)) rfl rfl rfl (c_X5_readSum hst hs   hq32)) (by omega) (Nat.le_of_ble_eq_true rfl) (Or.inl rfl) ?_
          show Ev g _ _ _ _ _ _ 116 [some (x_r (16 * 2 + 0)), some (x_r (16 * 20 + 0)), some (x_i a), some (x_i v1), none] [] (al, ro, fl (ml M [2, 20] [T31, Lb32])) _ _ _ _
          refine e_aloadn (pc := 116) (i := 0) dX5_readAtom_116 rfl rfl ?_
          refine e_bipush (pc := 117) dX5_readAtom_117 (by decide +kernel) (x_R rfl) ?_
          obtain ⟨v34, hq34, hr26⟩ := x_bd1 hr26
          refine e_invV (pc := 119) (K1 := 0) (S1 := 0) (K := 0) (S := 0) (dd2 := 0) (av := [x_i 60]) (st := []) (id := 16 * 2 + 0) dX5_readAtom_119 xmX5_72 rfl (Or.inl ⟨8, 8, TX10, (sa_2_0 hs), rfl, by decide⟩) (f_cal (M := M) (us2 := [2]) [0] hn rfl (And.intro rfl trivial) rfl rfl rfl (c_X10_isSign hst hs   hq34)) (by omega) (Nat.le_of_ble_eq_true rfl) (Or.inl rfl) ?_
          show Ev g _ _ _ _ _ _ 122 [some (x_r (16 * 2 + 0)), some (x_r (16 * 20 + 0)), some (x_i a), some (x_i v1), none] [x_i v34] (al, ro, fl (ml M [2, 20] [T31, Lb32])) _ _ _ _
          refine e_istore (pc := 122) (i := 4) dX5_readAtom_122 (by decide) rfl ?_
          show Ev g _ _ _ _ _ _ 124 [some (x_r (16 * 2 + 0)), some (x_r (16 * 20 + 0)), some (x_i a), some (x_i v1), some (x_i v34)] [] (al, ro, fl (ml M [2, 20] [T31, Lb32])) _ _ _ _
          refine e_aloadn (pc := 124) (i := 0) dX5_readAtom_124 rfl rfl ?_
          refine e_iload (pc := 125) dX5_readAtom_125 rfl ?_
          obtain ⟨v36, hr36, hr26⟩ := x_bd1 hr26
          have hjhr36 : Ev g yX5_readAtom cX5_readAtom 5 none [] (dn + 1) 137 [some (x_r (16 * 2 + 0)), some (x_r (16 * 20 + 0)), some (x_i a), some (x_i v1), some (x_i v34)] [x_i v36, x_r (16 * 2 + 0)] (al, ro, fl (ml M [2, 20] [T31, Lb32])) 0 0 (.inl none) (al, ro, fl (ml M [2, 20] [t.1, t.2])) := by
            obtain ⟨T38, hq38, hr26⟩ := x_bd1 hr26
            refine e_invV (pc := 137) (K1 := 0) (S1 := 0) (K := 0) (S := 0) (dd2 := 2) (av := [x_i v36]) (st := []) (id := 16 * 2 + 0) dX5_readAtom_137 xmX5_87 rfl (Or.inl ⟨8, 8, TX10, (sa_2_0 hs), rfl, by decide⟩) (f_cal (M := M) (us2 := [2]) [0] hn rfl (And.intro rfl trivial) rfl rfl rfl (c_X10_expectSign hst hs   hq38)) (by omega) (Nat.le_of_ble_eq_true rfl) (Or.inl rfl) ?_
            show Ev g _ _ _ _ _ _ 140 [some (x_r (16 * 2 + 0)), some (x_r (16 * 20 + 0)), some (x_i a), some (x_i v1), some (x_i v34)] [] (al, ro, fl (ml M [2, 20] [T38, Lb32])) _ _ _ _
            refine e_aloadn (pc := 140) (i := 1) dX5_readAtom_140 rfl rfl ?_
            refine e_iconst (pc := 141) dX5_readAtom_141 (x_R rfl) ?_
            refine e_iconst (pc := 142) dX5_readAtom_142 (x_R rfl) ?_
            obtain ⟨Lb40, hq40, hr26⟩ := x_bd1 hr26
            refine e_invV (pc := 143) (K1 := 0) (S1 := 0) (K := 0) (S := 0) (dd2 := 0) (av := [x_i 2, x_i 0]) (st := []) (id := 16 * 20 + 0) dX5_readAtom_143 xmX5_69 rfl (Or.inl ⟨3, 7, TX4, (sa_20_0 hs), rfl, by decide⟩) (f_cal (M := M) (us2 := [20]) [1] hn rfl (And.intro rfl trivial) rfl rfl rfl (c_X4_addStep hst hs   hq40)) (by omega) (Nat.le_of_ble_eq_true rfl) (Or.inl rfl) ?_
            show Ev g _ _ _ _ _ _ 146 [some (x_r (16 * 2 + 0)), some (x_r (16 * 20 + 0)), some (x_i a), some (x_i v1), some (x_i v34)] [] (al, ro, fl (ml M [2, 20] [T38, Lb40])) _ _ _ _
            refine e_aloadn (pc := 146) (i := 0) dX5_readAtom_146 rfl rfl ?_
            refine e_aloadn (pc := 147) (i := 1) dX5_readAtom_147 rfl rfl ?_
            obtain ⟨T42, Lb43, hq43, hr26⟩ := x_bd2 hr26
            refine e_invS (pc := 148) (K1 := 0) (S1 := 0) (K := 0) (S := 0) (dd2 := 8) (av := [x_r (16 * 2 + 0), x_r (16 * 20 + 0)]) (st := []) dX5_readAtom_148 xmX5_95 rfl (f_cal (M := M) (us2 := [2, 20]) [0, 1] hn rfl (And.intro rfl (And.intro rfl trivial)) rfl rfl rfl (c_X5_readSum hst hs   hq43)) (by omega) (Nat.le_of_ble_eq_true rfl) (Or.inl rfl) ?_
            show Ev g _ _ _ _ _ _ 151 [some (x_r (16 * 2 + 0)), some (x_r (16 * 20 + 0)), some (x_i a), some (x_i v1), some (x_i v34)] [] (al, ro, fl (ml M [2, 20] [T42, Lb43])) _ _ _ _
            refine e_aloadn (pc := 151) (i := 1) dX5_readAtom_151 rfl rfl ?_
            refine e_iload (pc := 152) dX5_readAtom_152 rfl ?_
            obtain ⟨v45, hr45, hr26⟩ := x_bd1 hr26
            have hjhr45 : Ev g yX5_readAtom cX5_readAtom 5 none [] (dn + 1) 162 [some (x_r (16 * 2 + 0)), some (x_r (16 * 20 + 0)), some (x_i a), some (x_i v1), some (x_i v34)] [x_i v45, x_r (16 * 20 + 0)] (al, ro, fl (ml M [2, 20] [T42, Lb43])) 0 0 (.inl none) (al, ro, fl (ml M [2, 20] [t.1, t.2])) := by
              refine e_iconst (pc := 162) dX5_readAtom_162 (x_R rfl) ?_
              obtain ⟨Lb47, hq47, hr26⟩ := x_bd1 hr26
              refine e_invV (pc := 163) (K1 := 0) (S1 := 0) (K := 0) (S := 0) (dd2 := 0) (av := [x_i v45, x_i 0]) (st := []) (id := 16 * 20 + 0) dX5_readAtom_163 xmX5_69 rfl (Or.inl ⟨3, 7, TX4, (sa_20_0 hs), rfl, by decide⟩) (f_cal (M := M) (us2 := [20]) [1] hn rfl (And.intro rfl trivial) rfl rfl rfl (c_X4_addStep hst hs   hq47)) (by omega) (Nat.le_of_ble_eq_true rfl) (Or.inl rfl) ?_
              show Ev g _ _ _ _ _ _ 166 [some (x_r (16 * 2 + 0)), some (x_r (16 * 20 + 0)), some (x_i a), some (x_i v1), some (x_i v34)] [] (al, ro, fl (ml M [2, 20] [T42, Lb47])) _ _ _ _
              cases hr26
              refine e_drop (i := 4) ?_
              exact hjhr26
            clear hr26
            refine e_if_eq (pc := 154) (tgt := 161) dX5_readAtom_154 (by decide) (fun hb => ?_) (fun hb => ?_)
            · rw [if_pos hb] at hr45
              refine e_iconst (pc := 161) dX5_readAtom_161 (x_R rfl) ?_
              cases hr45
              exact hjhr45
            · rw [if_neg hb] at hr45
              refine e_iconst (pc := 157) dX5_readAtom_157 (x_R rfl) ?_
              refine e_goto (pc := 158) (tgt := 162) dX5_readAtom_158 (by decide) ?_
              cases hr45
              exact hjhr45
          clear hr26
          refine e_if_eq (pc := 127) (tgt := 135) dX5_readAtom_127 (by decide) (fun hb => ?_) (fun hb => ?_)
          · rw [if_pos hb] at hr36
            refine e_bipush (pc := 135) dX5_readAtom_135 (by decide +kernel) (x_R rfl) ?_
            cases hr36
            exact hjhr36
          · rw [if_neg hb] at hr36
            refine e_bipush (pc := 130) dX5_readAtom_130 (by decide +kernel) (x_R rfl) ?_
            refine e_goto (pc := 132) (tgt := 137) dX5_readAtom_132 (by decide) ?_
            cases hr36
            exact hjhr36
        · rw [if_neg hb] at hr26
          refine e_aloadn (pc := 101) (i := 1) dX5_readAtom_101 rfl rfl ?_
          refine e_bipush (pc := 102) dX5_readAtom_102 (by decide +kernel) (x_R rfl) ?_
          refine e_iconst (pc := 104) dX5_readAtom_104 (x_R rfl) ?_
          obtain ⟨Lb49, hq49, hr26⟩ := x_bd1 hr26
          refine e_invV (pc := 105) (K1 := 0) (S1 := 0) (K := 0) (S := 0) (dd2 := 0) (av := [x_i 6, x_i 0]) (st := []) (id := 16 * 20 + 0) dX5_readAtom_105 xmX5_69 rfl (Or.inl ⟨3, 7, TX4, (sa_20_0 hs), rfl, by decide⟩) (f_cal (M := M) (us2 := [20]) [1] hn rfl (And.intro rfl trivial) rfl rfl rfl (c_X4_addStep hst hs   hq49)) (by omega) (Nat.le_of_ble_eq_true rfl) (Or.inl rfl) ?_
          show Ev g _ _ _ _ _ _ 108 [some (x_r (16 * 2 + 0)), some (x_r (16 * 20 + 0)), some (x_i a), some (x_i v1), none] [] (al, ro, fl (ml M [2, 20] [T29, Lb49])) _ _ _ _
          refine e_goto (pc := 108) (tgt := 166) dX5_readAtom_108 (by decide) ?_
          cases hr26
          exact hjhr26
      · rw [if_neg hb] at hr26
        refine e_aloadn (pc := 83) (i := 1) dX5_readAtom_83 rfl rfl ?_
        refine e_iconst (pc := 84) dX5_readAtom_84 (x_R rfl) ?_
        refine e_iconst (pc := 85) dX5_readAtom_85 (x_R rfl) ?_
        obtain ⟨Lb51, hq51, hr26⟩ := x_bd1 hr26
        refine e_invV (pc := 86) (K1 := 0) (S1 := 0) (K := 0) (S := 0) (dd2 := 0) (av := [x_i 5, x_i 0]) (st := []) (id := 16 * 20 + 0) dX5_readAtom_86 xmX5_69 rfl (Or.inl ⟨3, 7, TX4, (sa_20_0 hs), rfl, by decide⟩) (f_cal (M := M) (us2 := [20]) [1] hn rfl (And.intro rfl trivial) rfl rfl rfl (c_X4_addStep hst hs   hq51)) (by omega) (Nat.le_of_ble_eq_true rfl) (Or.inl rfl) ?_
        show Ev g _ _ _ _ _ _ 89 [some (x_r (16 * 2 + 0)), some (x_r (16 * 20 + 0)), some (x_i a), some (x_i v1), none] [] (al, ro, fl (ml M [2, 20] [T23, Lb51])) _ _ _ _
        refine e_goto (pc := 89) (tgt := 166) dX5_readAtom_89 (by decide) ?_
        cases hr26
        exact hjhr26
    · rw [if_neg hb] at hG
      refine e_iloadn (pc := 20) (i := 2) dX5_readAtom_20 rfl rfl ?_
      refine e_bipush (pc := 21) dX5_readAtom_21 (by decide +kernel) (x_R rfl) ?_
      refine e_icmp_lt (pc := 23) (tgt := 31) dX5_readAtom_23 (by decide) (fun hb => ?_) (fun hb => ?_)
      · rw [if_pos hb] at hG
        refine e_aloadn (pc := 31) (i := 0) dX5_readAtom_31 rfl rfl ?_
        obtain ⟨T53, hq53, hG⟩ := x_bd1 hG
        refine e_invV (pc := 32) (K1 := 0) (S1 := 0) (K := 0) (S := 0) (dd2 := 0) (av := []) (st := []) (id := 16 * 2 + 0) dX5_readAtom_32 xmX5_84 rfl (Or.inl ⟨8, 8, TX10, (sa_2_0 hs), rfl, by decide⟩) (f_cal (M := M) (us2 := [2]) [0] hn rfl (And.intro rfl trivial) rfl rfl rfl (c_X10_readNext hst hs   hq53)) (by omega) (Nat.le_of_ble_eq_true rfl) (Or.inl rfl) ?_
        show Ev g _ _ _ _ _ _ 35 [some (x_r (16 * 2 + 0)), some (x_r (16 * 20 + 0)), some (x_i a), some (x_i v1), none] [] (al, ro, fl (ml M [2, 20] [T53, Lb])) _ _ _ _
        refine e_iloadn (pc := 35) (i := 3) dX5_readAtom_35 rfl rfl ?_
        obtain ⟨T55, Lb56, hr56, hG⟩ := x_bd2 hG
        have hjhr56 : Ev g yX5_readAtom cX5_readAtom 5 none [] (dn + 1) 166 [some (x_r (16 * 2 + 0)), some (x_r (16 * 20 + 0)), some (x_i a), some (x_i v1), none] [] (al, ro, fl (ml M [2, 20] [T55, Lb56])) 0 0 (.inl none) (al, ro, fl (ml M [2, 20] [t.1, t.2])) := by
          cases hG
          exact (e_return rfl dX5_readAtom_166)
        clear hG
        refine e_if_eq (pc := 36) (tgt := 56) dX5_readAtom_36 (by decide) (fun hb => ?_) (fun hb => ?_)
        · rw [if_pos hb] at hr56
          refine e_aloadn (pc := 56) (i := 0) dX5_readAtom_56 rfl rfl ?_
          refine e_aloadn (pc := 57) (i := 1) dX5_readAtom_57 rfl rfl ?_
          refine e_iloadn (pc := 58) (i := 2) dX5_readAtom_58 rfl rfl ?_
          refine e_iconst (pc := 59) dX5_readAtom_59 (x_R rfl) ?_
          refine e_iadd (pc := 60) dX5_readAtom_60 ?_
          obtain ⟨T58, Lb59, hq59, hr56⟩ := x_bd2 hr56
          refine e_invS (pc := 61) (K1 := 0) (S1 := 0) (K := 0) (S := 0) (dd2 := dn) (av := [x_r (16 * 2 + 0), x_r (16 * 20 + 0), x_i (x_add a 1)]) (st := []) dX5_readAtom_61 xmX5_66 rfl (f_cal (M := M) (us2 := [2, 20]) [0, 1] hn rfl (And.intro rfl (And.intro rfl trivial)) rfl rfl rfl (hR1 hq59)) (Nat.le_refl _) (Nat.le_of_ble_eq_true rfl) (Or.inl rfl) ?_
          show Ev g _ _ _ _ _ _ 64 [some (x_r (16 * 2 + 0)), some (x_r (16 * 20 + 0)), some (x_i a), some (x_i v1), none] [] (al, ro, fl (ml M [2, 20] [T58, Lb59])) _ _ _ _
          refine e_aloadn (pc := 64) (i := 1) dX5_readAtom_64 rfl rfl ?_
          refine e_bipush (pc := 65) dX5_readAtom_65 (by decide +kernel) (x_R rfl) ?_
          refine e_iconst (pc := 67) dX5_readAtom_67 (x_R rfl) ?_
          obtain ⟨Lb61, hq61, hr56⟩ := x_bd1 hr56
          refine e_invV (pc := 68) (K1 := 0) (S1 := 0) (K := 0) (S := 0) (dd2 := 0) (av := [x_i 7, x_i 0]) (st := []) (id := 16 * 20 + 0) dX5_readAtom_68 xmX5_69 rfl (Or.inl ⟨3, 7, TX4, (sa_20_0 hs), rfl, by decide⟩) (f_cal (M := M) (us2 := [20]) [1] hn rfl (And.intro rfl trivial) rfl rfl rfl (c_X4_addStep hst hs   hq61)) (by omega) (Nat.le_of_ble_eq_true rfl) (Or.inl rfl) ?_
          show Ev g _ _ _ _ _ _ 71 [some (x_r (16 * 2 + 0)), some (x_r (16 * 20 + 0)), some (x_i a), some (x_i v1), none] [] (al, ro, fl (ml M [2, 20] [T58, Lb61])) _ _ _ _
          refine e_goto (pc := 71) (tgt := 166) dX5_readAtom_71 (by decide) ?_
          cases hr56
          exact hjhr56
        · rw [if_neg hb] at hr56
          refine e_aloadn (pc := 39) (i := 0) dX5_readAtom_39 rfl rfl ?_
          refine e_aloadn (pc := 40) (i := 1) dX5_readAtom_40 rfl rfl ?_
          refine e_iloadn (pc := 41) (i := 2) dX5_readAtom_41 rfl rfl ?_
          refine e_iconst (pc := 42) dX5_readAtom_42 (x_R rfl) ?_
          refine e_iadd (pc := 43) dX5_readAtom_43 ?_
          obtain ⟨T63, Lb64, hq64, hr56⟩ := x_bd2 hr56
          refine e_invS (pc := 44) (K1 := 0) (S1 := 0) (K := 0) (S := 0) (dd2 := dn) (av := [x_r (16 * 2 + 0), x_r (16 * 20 + 0), x_i (x_add a 1)]) (st := []) dX5_readAtom_44 xmX5_54 rfl (f_cal (M := M) (us2 := [2, 20]) [0, 1] hn rfl (And.intro rfl (And.intro rfl trivial)) rfl rfl rfl (hR0 hq64)) (Nat.le_refl _) (Nat.le_of_ble_eq_true rfl) (Or.inl rfl) ?_
          show Ev g _ _ _ _ _ _ 47 [some (x_r (16 * 2 + 0)), some (x_r (16 * 20 + 0)), some (x_i a), some (x_i v1), none] [] (al, ro, fl (ml M [2, 20] [T63, Lb64])) _ _ _ _
          refine e_aloadn (pc := 47) (i := 0) dX5_readAtom_47 rfl rfl ?_
          refine e_bipush (pc := 48) dX5_readAtom_48 (by decide +kernel) (x_R rfl) ?_
          obtain ⟨T66, hq66, hr56⟩ := x_bd1 hr56
          refine e_invV (pc := 50) (K1 := 0) (S1 := 0) (K := 0) (S := 0) (dd2 := 2) (av := [x_i 41]) (st := []) (id := 16 * 2 + 0) dX5_readAtom_50 xmX5_87 rfl (Or.inl ⟨8, 8, TX10, (sa_2_0 hs), rfl, by decide⟩) (f_cal (M := M) (us2 := [2]) [0] hn rfl (And.intro rfl trivial) rfl rfl rfl (c_X10_expectSign hst hs   hq66)) (by omega) (Nat.le_of_ble_eq_true rfl) (Or.inl rfl) ?_
          show Ev g _ _ _ _ _ _ 53 [some (x_r (16 * 2 + 0)), some (x_r (16 * 20 + 0)), some (x_i a), some (x_i v1), none] [] (al, ro, fl (ml M [2, 20] [T66, Lb64])) _ _ _ _
          refine e_goto (pc := 53) (tgt := 166) dX5_readAtom_53 (by decide) ?_
          cases hr56
          exact hjhr56
      · rw [if_neg hb] at hG
        refine e_aloadn (pc := 26) (i := 0) dX5_readAtom_26 rfl rfl ?_
        obtain ⟨T68, hq68, hG⟩ := x_bd1 hG
        refine e_invV (pc := 27) (K1 := 0) (S1 := 0) (K := 0) (S := 0) (dd2 := 0) (av := []) (st := []) (id := 16 * 2 + 0) dX5_readAtom_27 xmX5_81 rfl (Or.inl ⟨8, 8, TX10, (sa_2_0 hs), rfl, by decide⟩) (f_cal (M := M) (us2 := [2]) [0] hn rfl (And.intro rfl trivial) rfl rfl rfl (c_X10_refuse hst hs   hq68)) (by omega) (Nat.le_of_ble_eq_true rfl) (Or.inl rfl) ?_
        show Ev g _ _ _ _ _ _ 30 [some (x_r (16 * 2 + 0)), some (x_r (16 * 20 + 0)), some (x_i a), some (x_i v1), none] [] (al, ro, fl (ml M [2, 20] [T68, Lb])) _ _ _ _
        cases hG
        exact (e_return rfl dX5_readAtom_30)
theorem c_rec5 {g : xG} {al : List (Nat × Nat × Nat)} {ro : Nat → Nat → Option Nat} (hst : g.1.stackTraces = false) (hs : SH al ro) : ∀ n : Nat, (∀ (M : Nat → xU) (a : Int) (T : xU) (Lb : xU) (t : (xU × xU)), G5_rec n 0 a T Lb = some t → Cal g yX5_readAny cX5_readAny 5 none (9 + n) [x_r (16 * 2 + 0), x_r (16 * 20 + 0), x_i a] (al, ro, fl (ml M [2, 20] [T, Lb])) 0 0 (.inl none) (al, ro, fl (ml M [2, 20] [t.1, t.2]))) ∧ (∀ (M : Nat → xU) (a : Int) (T : xU) (Lb : xU) (t : (xU × xU)), G5_rec n 1 a T Lb = some t → Cal g yX5_readAtom cX5_readAtom 5 none (9 + n) [x_r (16 * 2 + 0), x_r (16 * 20 + 0), x_i a] (al, ro, fl (ml M [2, 20] [T, Lb])) 0 0 (.inl none) (al, ro, fl (ml M [2, 20] [t.1, t.2]))) := by
  intro n
  induction n with
  | zero => exact ⟨(fun M a T Lb t h => by cases h), (fun M a T Lb t h => by cases h)⟩
  | succ n ih =>
    refine ⟨fun M a T Lb t h => ?_, fun M a T Lb t h => ?_⟩
    · exact c_X5_readAny_b hst hs (dn := 9 + n) (Nat.le_add_right _ _) (fun {M a T Lb t} q => ih.1 M a T Lb t q) (fun {M a T Lb t} q => ih.2 M a T Lb t q) (M := M) h
    · exact c_X5_readAtom_b hst hs (dn := 9 + n) (Nat.le_add_right _ _) (fun {M a T Lb t} q => ih.1 M a T Lb t q) (fun {M a T Lb t} q => ih.2 M a T Lb t q) (M := M) h
theorem c_X5_readAny {g : xG} {al : List (Nat × Nat × Nat)} {ro : Nat → Nat → Option Nat} (hst : g.1.stackTraces = false) (hs : SH al ro) {M : Nat → xU} {a : Int} {T : xU} {Lb : xU} {t : (xU × xU)} (hG : G5_readAny a T Lb = some t) : Cal g yX5_readAny cX5_readAny 5 none 29 [x_r (16 * 2 + 0), x_r (16 * 20 + 0), x_i a] (al, ro, fl (ml M [2, 20] [T, Lb])) 0 0 (.inl none) (al, ro, fl (ml M [2, 20] [t.1, t.2])) := (c_rec5 hst hs 20).1 M a T Lb t hG
theorem c_X5_readAtom {g : xG} {al : List (Nat × Nat × Nat)} {ro : Nat → Nat → Option Nat} (hst : g.1.stackTraces = false) (hs : SH al ro) {M : Nat → xU} {a : Int} {T : xU} {Lb : xU} {t : (xU × xU)} (hG : G5_readAtom a T Lb = some t) : Cal g yX5_readAtom cX5_readAtom 5 none 29 [x_r (16 * 2 + 0), x_r (16 * 20 + 0), x_i a] (al, ro, fl (ml M [2, 20] [T, Lb])) 0 0 (.inl none) (al, ro, fl (ml M [2, 20] [t.1, t.2])) := (c_rec5 hst hs 20).2 M a T Lb t hG
set_option maxRecDepth 100000 in
set_option maxHeartbeats 4000000 in
theorem c_X0_sharedOf {g : xG} {al : List (Nat × Nat × Nat)} {ro : Nat → Nat → Option Nat} (hst : g.1.stackTraces = false) (hs : SH al ro) {M : Nat → xU} {a : Int} {Br : xU}  {t : Int} (hG : G0_sharedOf a Br = some t) :
    Cal g yX0_sharedOf cX0_sharedOf 2 (some .int) 0 [x_r (16 * 25 + 0), x_i a] (al, ro, fl (ml M [25] [Br])) 0 0 (.inl (some (x_i t))) (al, ro, fl (ml M [25] [Br])) := by
  have hn : ([25] : List Nat).Nodup := by decide
  refine cal_of_ev (plainFor_of_name (by decide)) (x_c1 rfl) (Nat.le_of_ble_eq_true rfl) hst ?_
  show Ev g _ _ _ _ _ _ 0 [some (x_r (16 * 25 + 0)), some (x_i a)] [] (al, ro, fl (ml M [25] [Br])) _ _ _ _
  rw [G0_sharedOf] at hG
  refine e_iloadn (pc := 0) (i := 1) dX0_sharedOf_0 rfl rfl ?_
  obtain ⟨v1, hr1, hG⟩ := x_bd1 hG
  have hjhr1 : Ev g yX0_sharedOf cX0_sharedOf 2 (some .int) [] 0 21 [some (x_r (16 * 25 + 0)), some (x_i a)] [x_i v1] (al, ro, fl (ml M [25] [Br])) 0 0 (.inl (some (x_i t))) (al, ro, fl (ml M [25] [Br])) := by
    cases hG
    exact (e_ireturn rfl dX0_sharedOf_21 rfl)
  clear hG
  refine e_if_le (pc := 1) (tgt := 20) dX0_sharedOf_1 (by decide) (fun hb => ?_) (fun hb => ?_)
  · rw [if_pos hb] at hr1
    refine e_iconst (pc := 20) dX0_sharedOf_20 (x_R rfl) ?_
    cases hr1
    exact hjhr1
  · rw [if_neg hb] at hr1
    refine e_iloadn (pc := 4) (i := 1) dX0_sharedOf_4 rfl rfl ?_
    refine e_sipush (pc := 5) dX0_sharedOf_5 (by decide +kernel) (x_R rfl) ?_
    refine e_icmp_ge (pc := 8) (tgt := 20) dX0_sharedOf_8 (by decide) (fun hb => ?_) (fun hb => ?_)
    · rw [if_pos hb] at hr1
      refine e_iconst (pc := 20) dX0_sharedOf_20 (x_R rfl) ?_
      cases hr1
      exact hjhr1
    · rw [if_neg hb] at hr1
      refine e_aloadn (pc := 11) (i := 0) dX0_sharedOf_11 rfl rfl ?_
      refine f_getr (pc := 12) (u := 25) (q := 0) dX0_sharedOf_12 xf0_9 (sa_25_0 hs) rfl (sr_25_0_0 hs) ?_
      refine e_iloadn (pc := 15) (i := 1) dX0_sharedOf_15 rfl rfl ?_
      obtain ⟨hc0, hr1⟩ := x_gd_some hr1
      refine f_iald (pc := 16) (k := 0) (u := 25) (q := 1) (len := 128) dX0_sharedOf_16 (sa_25_1 hs) hc0 hn rfl rfl (by decide) ?_
      show Ev g _ _ _ _ _ _ 17 [some (x_r (16 * 25 + 0)), some (x_i a)] [x_i (Br 1 (a).toNat)] (al, ro, fl (ml M [25] [Br])) _ _ _ _
      refine e_goto (pc := 17) (tgt := 21) dX0_sharedOf_17 (by decide) ?_
      cases hr1
      exact hjhr1
set_option maxRecDepth 100000 in
set_option maxHeartbeats 4000000 in
theorem c_X11_holdsBit {g : xG} {al : List (Nat × Nat × Nat)} {ro : Nat → Nat → Option Nat} (hst : g.1.stackTraces = false) (hs : SH al ro) {M : Nat → xU} {a : Int} {b : Int}  {t : Int} (hG : G11_holdsBit a b = some t) :
    Cal g yX11_holdsBit cX11_holdsBit 2 (some .boolean) 0 [x_i a, x_i b] (al, ro, fl (ml M [] [])) 0 0 (.inl (some (x_i t))) (al, ro, fl (ml M [] [])) := by
  have hn : ([] : List Nat).Nodup := by decide
  refine cal_of_ev (plainFor_of_name (by decide)) (x_c1 rfl) (Nat.le_of_ble_eq_true rfl) hst ?_
  show Ev g _ _ _ _ _ _ 0 [some (x_i a), some (x_i b)] [] (al, ro, fl (ml M [] [])) _ _ _ _
  rw [G11_holdsBit] at hG
  refine e_iloadn (pc := 0) (i := 0) dX11_holdsBit_0 rfl rfl ?_
  refine e_iloadn (pc := 1) (i := 1) dX11_holdsBit_1 rfl rfl ?_
  refine e_ishr (pc := 2) dX11_holdsBit_2 ?_
  refine e_iconst (pc := 3) dX11_holdsBit_3 (x_R rfl) ?_
  refine e_iand (pc := 4) dX11_holdsBit_4 ?_
  obtain ⟨v1, hr1, hG⟩ := x_bd1 hG
  have hjhr1 : Ev g yX11_holdsBit cX11_holdsBit 2 (some .boolean) [] 0 13 [some (x_i a), some (x_i b)] [x_i v1] (al, ro, fl (ml M [] [])) 0 0 (.inl (some (x_i t))) (al, ro, fl (ml M [] [])) := by
    obtain ⟨hc0, hG⟩ := x_gd_some hG
    cases hG
    exact (e_ireturn rfl dX11_holdsBit_13 (x_bool hc0).1)
  clear hG
  refine e_if_eq (pc := 5) (tgt := 12) dX11_holdsBit_5 (by decide) (fun hb => ?_) (fun hb => ?_)
  · rw [if_pos hb] at hr1
    refine e_iconst (pc := 12) dX11_holdsBit_12 (x_R rfl) ?_
    cases hr1
    exact hjhr1
  · rw [if_neg hb] at hr1
    refine e_iconst (pc := 8) dX11_holdsBit_8 (x_R rfl) ?_
    refine e_goto (pc := 9) (tgt := 13) dX11_holdsBit_9 (by decide) ?_
    cases hr1
    exact hjhr1
set_option maxRecDepth 100000 in
set_option maxHeartbeats 4000000 in
theorem c_X1_of {g : xG} {al : List (Nat × Nat × Nat)} {ro : Nat → Nat → Option Nat} (hst : g.1.stackTraces = false) (hs : SH al ro) {u : Nat} (hu : 3 ≤ u ∧ u ≤ 18) {M : Nat → xU} {a : Int} {b : Int} {C : xU}  {t : Int} (hG : G1_of a b C = some t) :
    Cal g yX1_of cX1_of 4 (some .int) 0 [x_r (16 * u + 0), x_i a, x_i b] (al, ro, fl (ml M [u] [C])) 0 0 (.inl (some (x_i t))) (al, ro, fl (ml M [u] [C])) := by
  have hn : ([u] : List Nat).Nodup := by simp
  refine cal_of_ev (plainFor_of_name (by decide)) (x_c1 rfl) (Nat.le_of_ble_eq_true rfl) hst ?_
  show Ev g _ _ _ _ _ _ 0 [some (x_r (16 * u + 0)), some (x_i a), some (x_i b), none] [] (al, ro, fl (ml M [u] [C])) _ _ _ _
  rw [G1_of] at hG
  refine e_iloadn (pc := 0) (i := 1) dX1_of_0 rfl rfl ?_
  refine e_bipush (pc := 1) dX1_of_1 (by decide +kernel) (x_R rfl) ?_
  refine e_imul (pc := 3) dX1_of_3 ?_
  refine e_iloadn (pc := 4) (i := 2) dX1_of_4 rfl rfl ?_
  refine e_iadd (pc := 5) dX1_of_5 ?_
  refine e_istoren (pc := 6) (i := 3) dX1_of_6 rfl (by decide) rfl ?_
  show Ev g _ _ _ _ _ _ 7 [some (x_r (16 * u + 0)), some (x_i a), some (x_i b), some (x_i (x_add (x_mul a 7) b))] [] (al, ro, fl (ml M [u] [C])) _ _ _ _
  refine e_iloadn (pc := 7) (i := 3) dX1_of_7 rfl rfl ?_
  obtain ⟨v1, hr1, hG⟩ := x_bd1 hG
  have hjhr1 : Ev g yX1_of cX1_of 4 (some .int) [] 0 30 [some (x_r (16 * u + 0)), some (x_i a), some (x_i b), some (x_i (x_add (x_mul a 7) b))] [x_i v1] (al, ro, fl (ml M [u] [C])) 0 0 (.inl (some (x_i t))) (al, ro, fl (ml M [u] [C])) := by
    cases hG
    exact (e_ireturn rfl dX1_of_30 rfl)
  clear hG
  refine e_if_lt (pc := 8) (tgt := 29) dX1_of_8 (by decide) (fun hb => ?_) (fun hb => ?_)
  · rw [if_pos hb] at hr1
    refine e_iconst (pc := 29) dX1_of_29 (x_R rfl) ?_
    cases hr1
    exact hjhr1
  · rw [if_neg hb] at hr1
    refine e_iloadn (pc := 11) (i := 3) dX1_of_11 rfl rfl ?_
    refine e_aloadn (pc := 12) (i := 0) dX1_of_12 rfl rfl ?_
    refine f_getr (pc := 13) (u := u) (q := 0) dX1_of_13 xf1_9 (sc_a0 hs hu) rfl (sc_r0_0 hs hu) ?_
    refine e_alen_i (pc := 16) (id := 16 * u + 1) (len := 56) dX1_of_16 (sc_a1 hs hu) (by decide) ?_
    show Ev g _ _ _ _ _ _ 17 [some (x_r (16 * u + 0)), some (x_i a), some (x_i b), some (x_i (x_add (x_mul a 7) b))] [x_i 56, x_i (x_add (x_mul a 7) b)] (al, ro, fl (ml M [u] [C])) _ _ _ _
    refine e_icmp_ge (pc := 17) (tgt := 29) dX1_of_17 (by decide) (fun hb => ?_) (fun hb => ?_)
    · rw [if_pos hb] at hr1
      refine e_iconst (pc := 29) dX1_of_29 (x_R rfl) ?_
      cases hr1
      exact hjhr1
    · rw [if_neg hb] at hr1
      refine e_aloadn (pc := 20) (i := 0) dX1_of_20 rfl rfl ?_
      refine f_getr (pc := 21) (u := u) (q := 0) dX1_of_21 xf1_9 (sc_a0 hs hu) rfl (sc_r0_0 hs hu) ?_
      refine e_iloadn (pc := 24) (i := 3) dX1_of_24 rfl rfl ?_
      obtain ⟨hc0, hr1⟩ := x_gd_some hr1
      refine f_iald (pc := 25) (k := 0) (u := u) (q := 1) (len := 56) dX1_of_25 (sc_a1 hs hu) hc0 hn rfl rfl (by decide) ?_
      show Ev g _ _ _ _ _ _ 26 [some (x_r (16 * u + 0)), some (x_i a), some (x_i b), some (x_i (x_add (x_mul a 7) b))] [x_i (C 1 ((x_add (x_mul a 7) b)).toNat)] (al, ro, fl (ml M [u] [C])) _ _ _ _
      refine e_goto (pc := 26) (tgt := 30) dX1_of_26 (by decide) ?_
      cases hr1
      exact hjhr1
