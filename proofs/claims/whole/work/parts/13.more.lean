/-! more pure words: rows copied, the acts -/
/-- a row of n copied -/
def x_cp (A : xU) (oa : Nat) (B : xU) (ob n : Nat) : xU := fun o i => if o = oa ∧ i < n then B ob i else A o i
/-- the acts: twelve units from the sixth on -/
abbrev xA : Type := Nat → xU
def x_ac (M : Nat → xU) (A : xA) : Nat → xU := fun v => if 6 ≤ v ∧ v ≤ 17 then A v else M v
def x_aw (A : xA) (u : Nat) (C : xU) : xA := fun v => if v = u then C else A v
