/-! The law from its start (DRAFT, not yet built). -/
def mu0 : xM := fun _ _ => 0
def ro0 : Nat → Nat → Option Nat := fun _ _ => none
def muS : xM := x_nw (m12 (x_nw (m11 (x_nw mu0 (16 * 1 + 0))) (16 * 32 + 0))) (16 * 27 + 0)
def roS : Nat → Nat → Option Nat := x_nwr (r12 (x_nwr (r11 (x_nwr ro0 (16 * 1 + 0))) (16 * 32 + 0))) (16 * 27 + 0)
def alS : List (Nat × Nat × Nat) := x_KL.take 135 ++ [(16 * 27 + 0, 21, 1)]
/-- the units at the start -/
def UU (u : Nat) : xU := fun o i => muS (16 * u + o) i
theorem ml_same {U : Nat → xU} : ∀ us : List Nat, ml U us (us.map U) = U := by
  intro us
  induction us with
  | nil => rfl
  | cons u us ih =>
    have e : u_s U u (U u) = U := by
      funext v
      by_cases h : v = u
      · subst h; exact u_s_same
      · exact u_s_ne h
    show ml (u_s U u (U u)) us (us.map U) = U
    rw [e]
    exact ih
theorem ac_same : x_ac UU UU = UU := by
  funext v
  show (if 6 ≤ v ∧ v ≤ 17 then UU v else UU v) = UU v
  by_cases h : 6 ≤ v ∧ v ≤ 17
  · rw [if_pos h]
  · rw [if_neg h]
theorem mu_U : fl (ml (x_ac UU UU) [1, 2, 3, 4, 5, 18, 19, 20, 21, 22, 23, 24, 25, 26, 27, 32] [UU 1, UU 2, UU 3, UU 4, UU 5, UU 18, UU 19, UU 20, UU 21, UU 22, UU 23, UU 24, UU 25, UU 26, UU 27, UU 32]) = muS := by
  have e := ml_same (U := UU) [1, 2, 3, 4, 5, 18, 19, 20, 21, 22, 23, 24, 25, 26, 27, 32]
  rw [ac_same]
  refine (congrArg fl e).trans ?_
  funext id i
  show muS (16 * (id / 16) + id % 16) i = muS id i
  rw [show 16 * (id / 16) + id % 16 = id by omega]
theorem sh_S : SH alS roS := ⟨by decide +kernel, by decide +kernel⟩
theorem gr_S : GR (UU 1) (UU 2) (UU 3) (UU 19) (UU 5) (UU 21) UU (UU 32) := by
  refine gr_start rfl rfl rfl rfl rfl rfl rfl rfl rfl (by decide +kernel) (fun _ => rfl) rfl rfl rfl rfl rfl rfl rfl rfl rfl rfl rfl rfl rfl rfl rfl rfl rfl rfl rfl (by decide +kernel) rfl rfl rfl rfl rfl
theorem law_start {g : xG} (hst : g.1.stackTraces = false) (hL : x_L g ≤ 3072) : ∃ h', Ev g yL_law_ cL_law_ 7 (some .boolean) [] 60 0 [some (x_r 1), none, none, none, none, none, none] [] ([], ro0, mu0) 601024 7293034 (.inl (some (x_i 1))) h' := by
  obtain ⟨h9, kk⟩ := zl_all (M := UU) (al := alS) (ro := roS) hst sh_S (by decide +kernel) (by omega) 512 0 (by omega) (by omega) (UU 1) (UU 2) (UU 3) (UU 4) (UU 5) (UU 18) (UU 19) (UU 20) (UU 21) (UU 22) (UU 23) (UU 24) (UU 25) (UU 26) (UU 27) (UU 32) UU gr_S
  rw [mu_U] at kk
  refine ⟨h9, ?_⟩
  refine e_new (pc := 0) (K := 601023) (S := 7293017) (N := 17) (id := 16 * 1 + 0) dL_law__0 xnL_8 (x_frD (al := []) (by decide +kernel)) rfl rfl ?_
  show Ev g _ _ _ _ _ _ 3 [some (x_r 1), none, none, none, none, none, none] [x_r (16 * 1 + 0)] (x_KL.take 1, x_nwr ro0 (16 * 1 + 0), x_nw mu0 (16 * 1 + 0)) _ _ _ _
  refine e_dup (pc := 3) dL_law__3 rfl ?_
  refine e_invI (pc := 4) (K1 := 119) (S1 := 5735) (K := 600904) (S := 7287282) (dd2 := 3) (av := []) (st := [x_r (16 * 1 + 0)]) (id := 16 * 1 + 0) (h1 := (x_KL.take 120, r11 (x_nwr ro0 (16 * 1 + 0)), m11 (x_nw mu0 (16 * 1 + 0)))) dL_law__4 xmL_136 rfl (c_X11_init hst) (by decide) (Nat.le_of_ble_eq_true rfl) (Or.inr ⟨x_vLD (al := x_KL.take 1) (L := [some (x_r 1), none, none, none, none, none, none]) (by decide +kernel), x_vSD (al := x_KL.take 1) (st := [x_r (16 * 1 + 0)]) (by decide +kernel)⟩) ?_
  show Ev g _ _ _ _ _ _ 7 [some (x_r 1), none, none, none, none, none, none] [x_r (16 * 1 + 0)] (x_KL.take 120, r11 (x_nwr ro0 (16 * 1 + 0)), m11 (x_nw mu0 (16 * 1 + 0))) _ _ _ _
  refine e_astoren (pc := 7) (i := 1) dL_law__7 rfl (by decide) rfl ?_
  refine e_new (pc := 8) (K := 600903) (S := 7287255) (N := 27) (id := 16 * 32 + 0) dL_law__8 xnL_137 (x_frD (al := x_KL.take 120) (by decide +kernel)) rfl rfl ?_
  show Ev g _ _ _ _ _ _ 11 [some (x_r 1), some (x_r (16 * 1 + 0)), none, none, none, none, none] [x_r (16 * 32 + 0)] (x_KL.take 121, x_nwr (r11 (x_nwr ro0 (16 * 1 + 0))) (16 * 32 + 0), x_nw (m11 (x_nw mu0 (16 * 1 + 0))) (16 * 32 + 0)) _ _ _ _
  refine e_dup (pc := 11) dL_law__11 rfl ?_
  refine e_invI (pc := 12) (K1 := 14) (S1 := 40876) (K := 600889) (S := 7246379) (dd2 := 0) (av := []) (st := [x_r (16 * 32 + 0)]) (id := 16 * 32 + 0) (h1 := (x_KL.take 135, r12 (x_nwr (r11 (x_nwr ro0 (16 * 1 + 0))) (16 * 32 + 0)), m12 (x_nw (m11 (x_nw mu0 (16 * 1 + 0))) (16 * 32 + 0)))) dL_law__12 xmL_139 rfl (c_X12_init hst) (by decide) (Nat.le_of_ble_eq_true rfl) (Or.inr ⟨x_vLD (al := x_KL.take 121) (L := [some (x_r 1), some (x_r (16 * 1 + 0)), none, none, none, none, none]) (by decide +kernel), x_vSD (al := x_KL.take 121) (st := [x_r (16 * 32 + 0)]) (by decide +kernel)⟩) ?_
  show Ev g _ _ _ _ _ _ 15 [some (x_r 1), some (x_r (16 * 1 + 0)), none, none, none, none, none] [x_r (16 * 32 + 0)] (x_KL.take 135, r12 (x_nwr (r11 (x_nwr ro0 (16 * 1 + 0))) (16 * 32 + 0)), m12 (x_nw (m11 (x_nw mu0 (16 * 1 + 0))) (16 * 32 + 0))) _ _ _ _
  refine e_astoren (pc := 15) (i := 2) dL_law__15 rfl (by decide) rfl ?_
  refine e_iconst (pc := 16) dL_law__16 (x_R rfl) ?_
  refine e_newarray_l (pc := 17) (K := 600888) (S := 7246378) (id := 16 * 27 + 0) (n := 1) dL_law__17 xa_long (by decide) (x_frD (al := x_KL.take 135) (by decide +kernel)) rfl rfl ?_
  show Ev g _ _ _ _ _ _ 19 [some (x_r 1), some (x_r (16 * 1 + 0)), some (x_r (16 * 32 + 0)), none, none, none, none] [x_r (16 * 27 + 0)] (alS, roS, muS) _ _ _ _
  refine e_astoren (pc := 19) (i := 3) dL_law__19 rfl (by decide) rfl ?_
  refine e_iconst (pc := 20) dL_law__20 (x_R rfl) ?_
  refine e_istore (pc := 21) (i := 4) dL_law__21 (by decide) rfl ?_
  exact e_wide (by omega) (by omega) kk
