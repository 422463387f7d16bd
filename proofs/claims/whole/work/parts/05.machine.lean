/-! A PLAIN MACHINE over the kit's W: ints are Int, references are numbers of cells, the memory is flat. -/
abbrev xV : Type := Int ⊕ (Option Nat) ⊕ Int
abbrev xH : Type := List (Nat × Nat × Nat) × (Nat → Nat → Option Nat) × xM
/-- what stays for a whole run: the launch, classes and slots, array classes, the base of what may change, the texts' places, the script -/
abbrev xG : Type := Launch × va_G × (Nat → ClassId) × Nat × (Nat → Nat) × (Nat → Nat) × Nat × Nat × (Nat → Int32) × Nat
def x_D (g : xG) : va_G := g.2.1
def x_cA (g : xG) : Nat → ClassId := g.2.2.1
def x_B (g : xG) : Nat := g.2.2.2.1
def x_sK (g : xG) : Nat → Nat := g.2.2.2.2.1
def x_sV (g : xG) : Nat → Nat := g.2.2.2.2.2.1
def x_b (g : xG) : Nat := g.2.2.2.2.2.2.1
def x_L (g : xG) : Nat := g.2.2.2.2.2.2.2.1
def x_xs (g : xG) : Nat → Int32 := g.2.2.2.2.2.2.2.2.1
def x_fm (g : xG) : Nat := g.2.2.2.2.2.2.2.2.2
def x_A (g : xG) : Nat → Prop := fun q => x_B g ≤ q
def x_i (x : Int) : xV := .inl x
def x_r (n : Nat) : xV := .inr (.inl (some n))
def x_n : xV := .inr (.inl none)
def x_l (x : Int) : xV := .inr (.inr x)
def x_o (r : Option Nat) : xV := .inr (.inl r)
def x_cv (ad : Nat → Nat) : xV → Value
  | .inl x => .int (Int32.ofInt x)
  | .inr (.inl r) => va_rf (r.map ad)
  | .inr (.inr x) => .long (Int64.ofInt x)
def x_cat : xV → Nat
  | .inr (.inr _) => 2
  | _ => 1
def x_ok : xV → Prop
  | .inl x => R32 x
  | .inr (.inl _) => True
  | .inr (.inr x) => R64 x
theorem x_cv_i (ad : Nat → Nat) (x : Int) : x_cv ad (x_i x) = .int (Int32.ofInt x) := rfl
theorem x_cv_r (ad : Nat → Nat) (n : Nat) : x_cv ad (x_r n) = .ref (ad n) := rfl
theorem x_cv_l (ad : Nat → Nat) (x : Int) : x_cv ad (x_l x) = .long (Int64.ofInt x) := rfl
theorem x_cv_cat (ad : Nat → Nat) (v : xV) : (x_cv ad v).category = x_cat v := by
  rcases v with x | r | x
  · rfl
  · cases r <;> rfl
  · rfl
def x_lcmp (a b : Int) : Int := (lg_cmp (Int64.ofInt a) (Int64.ofInt b)).toInt
/-- classes whose objects the world holds, the exceptions behind them -/
def x_en : List String := ["java/lang/IllegalArgumentException", "java/lang/IndexOutOfBoundsException", "java/lang/IllegalStateException", "java/util/NoSuchElementException", "java/lang/UnsupportedOperationException"]
def x_te (E : String) : u_T := fun _ => (E, "", "I", false)
def x_cl : List vw_C := [(RX0, TX0, 1), (RX1, TX1, 12), (RX3, TX3, 3), (RX4, TX4, 7), (RX6, TX6, 3), (RX7, TX7, 8), (RX8, TX8, 3), (RX9, TX9, 4), (RX10, TX10, 8), (RX11, TX11, 17), (RX12, TX12, 27)] ++ x_en.map (fun E => (E, x_te E, 0))
/-- whether a field holds a reference, by its class's number and its own -/
def x_rs : List (List Nat) := [[1], [1, 1, 1, 0, 0, 0, 0, 0, 0, 0, 0, 0], [1, 1, 1], [1, 1, 1, 1, 1, 0, 0], [1, 0, 0], [1, 1, 1, 0, 0, 0, 0, 0], [1, 1, 0], [1, 1, 1, 1], [1, 1, 0, 0, 0, 0, 0, 0], [1, 1, 1, 1, 1, 1, 1, 1, 1, 1, 1, 1, 1, 0, 0, 0, 0], [0, 1, 1, 0, 1, 1, 0, 1, 0, 0, 0, 0, 0, 0, 1, 0, 0, 0, 0, 1, 1, 1, 1, 1, 1, 1, 1]]
def x_tg (ci k : Nat) : Nat := (x_rs.getD ci []).getD k 0
def x_fv (ad : Nat → Nat) (ci k : Nat) (r : Option Nat) (x : Int) : Value := if x_tg ci k = 1 then va_rf (r.map ad) else .int (Int32.ofInt x)
def x_e (g : xG) (ad : Nat → Nat) (kind len : Nat) (ro : Nat → Option Nat) (f : Nat → Int) : va_E :=
  if kind = 20 then .inl (x_cA g 0, len, .inl (fun i => Int32.ofInt (f i)))
  else if kind = 21 then .inl (x_cA g 1, len, .inr (.inl (fun i => Int64.ofInt (f i))))
  else if kind = 22 then .inl (x_cA g 2, len, .inl (fun i => Int32.ofInt (f i)))
  else if kind = 23 then .inl (x_cA g 3, len, .inr (.inr (.inr (.inr (fun i => (ro i).map ad)))))
  else .inr (kind, (List.range len).map (fun k => x_fv ad kind k (ro k) (f k)))
def x_ws (g : xG) (ad : Nat → Nat) (h : xH) : va_W := h.1.map (fun e => (ad e.1, x_e g ad e.2.1 e.2.2 (h.2.1 e.1) (h.2.2 e.1)))
def x_tys (g : xG) : List (ClassId × FieldType) := [(x_cA g 0, .int), (x_cA g 1, .long), (x_cA g 2, .boolean), (x_cA g 3, .object "SeasonWalks$Cloister")]
def x_rng (kind : Nat) (x : Int) : Prop := if kind = 21 then R64 x else R32 x
/-- the texts: class, pool number, text, its place -/
def x_tx : List (String × Nat × String × Nat) := [("SeasonWalks$CloisterText", 25, "monk", 0), ("SeasonWalks$CloisterText", 90, "at", 1), ("SeasonWalks$CloisterText", 92, "stall", 2), ("SeasonWalks$CloisterText", 101, "pace", 3), ("SeasonWalks$CloisterText", 103, "likes", 4), ("SeasonWalks$CloisterText", 34, "bell", 5), ("SeasonWalks$CloisterText", 47, "mood", 6), ("SeasonWalks$Tape", 100, "own", 7), ("SeasonWalks$Tape", 92, "spring", 8), ("SeasonWalks$Tape", 94, "summer", 9), ("SeasonWalks$Tape", 96, "autumn", 10), ("SeasonWalks$Tape", 98, "winter", 11), ("SeasonWalks$CloisterText", 55, "fickle", 12), ("SeasonWalks$CloisterText", 59, "grass", 13), ("SeasonWalks$CloisterText", 63, "store", 14), ("SeasonWalks$CloisterText", 72, "hour", 15), ("SeasonWalks$CloisterText", 76, "day", 16), ("SeasonWalks$LawText", 30, "slow", 17), ("SeasonWalks$LawText", 40, "haste", 18), ("SeasonWalks$LawText", 42, "keep", 19), ("SeasonWalks$LawText", 52, "if", 20), ("SeasonWalks$LawText", 62, "or", 21), ("SeasonWalks$LawText", 64, "and", 22), ("SeasonWalks$LawText", 76, "not", 23), ("SeasonWalks$LawText", 91, "corner", 24), ("SeasonWalks$LawText", 93, "hungry", 25), ("SeasonWalks$LawText", 108, "monk", 0), ("SeasonWalks$LawText", 110, "flag", 26), ("SeasonWalks$LawText", 112, "pace", 3), ("SeasonWalks$LawText", 114, "season", 27), ("SeasonWalks$LawText", 116, "late", 28), ("SeasonWalks$LawText", 118, "hour", 15), ("SeasonWalks$LawText", 120, "stall", 2), ("SeasonWalksModel", 249, "slow", 17), ("SeasonWalksModel", 251, "haste", 18), ("SeasonWalksModel", 253, "keep", 19), ("SeasonWalksModel", 255, "if", 20), ("SeasonWalksModel", 230, "not", 23), ("SeasonWalksModel", 216, "corner", 24), ("SeasonWalksModel", 222, "hungry", 25), ("SeasonWalksModel", 154, "monk", 0), ("SeasonWalksModel", 207, "flag", 26), ("SeasonWalksModel", 133, "pace", 3), ("SeasonWalksModel", 209, "season", 27), ("SeasonWalksModel", 211, "late", 28), ("SeasonWalksModel", 176, "hour", 15), ("SeasonWalksModel", 128, "stall", 2), ("SeasonWalksModel", 242, "and", 22), ("SeasonWalksModel", 247, "or", 21), ("SeasonWalksModel", 123, "at", 1), ("SeasonWalksModel", 135, "likes", 4), ("SeasonWalksModel", 159, "bell", 5), ("SeasonWalksModel", 164, "mood", 6), ("SeasonWalksModel", 144, "spring", 8), ("SeasonWalksModel", 146, "summer", 9), ("SeasonWalksModel", 148, "autumn", 10), ("SeasonWalksModel", 150, "winter", 11), ("SeasonWalksModel", 152, "own", 7), ("SeasonWalksModel", 170, "fickle", 12), ("SeasonWalksModel", 172, "grass", 13), ("SeasonWalksModel", 174, "store", 14), ("SeasonWalksModel", 178, "day", 16)]
/-- the script is cell 1, a constant of the JDK's cell 2, the texts are cells from 100000 on, their bytes from 200000 on -/
def x_s0 : Nat := 100000
/-- the world: the cells lie in the heap, apart, above the base; numbers are in range -/
def x_W (g : xG) (ad : Nat → Nat) (h : xH) (H : Heap) : Prop :=
  va_P (x_D g) x_cl (x_ws g ad h) H ∧ va_D (x_A g) (x_ws g ad h) ∧ (h.1.map (·.1)).Nodup ∧ (∀ e ∈ h.1, ∀ i, x_rng e.2.1 (h.2.2 e.1 i)) ∧ (∀ i j n, h.2.1 i j = some n → n ∈ h.1.map (·.1)) ∧ (∀ e ∈ h.1, e.1 < x_s0 ∧ 16 ≤ e.1) ∧ ad 1 = x_b g ∧ ad 2 = x_fm g ∧ ∀ i, i < x_nS → ad (x_s0 + i) = x_sK g i ∧ ad (2 * x_s0 + i) = x_sV g i
/-- words that may be taken anywhere; and the nest's words, which want more care -/
def x_big : List Cond := lw_tbl.filter goodWord
def x_isN : Cond → Bool
  | .fieldLinkNest _ _ _ _ _ _ => true
  | .methodLinkNest _ _ _ _ => true
  | .castable _ _ => true
  | .declares _ => true
  | .arrayOver (.object _) => true
  | _ => false
def x_nst : List Cond := lw_tbl.filter x_isN
theorem x_in {w : Cond} (k : Nat) (h : lw_tbl[k]? = some w) (hg : goodWord w = true) : w ∈ x_big := List.mem_filter.mpr ⟨List.mem_of_getElem? h, hg⟩
theorem x_inN {w : Cond} (k : Nat) (h : lw_tbl[k]? = some w) (hg : x_isN w = true) : w ∈ x_nst := List.mem_filter.mpr ⟨List.mem_of_getElem? h, hg⟩
theorem x_pos {ws : List Cond} (ps : List Nat) (h : ws.length = ps.length) (h2 : (ws.zip ps).all (fun q => decide (lw_tbl[q.2]? = some q.1) && (goodWord q.1 || (x_isN q.1 && q.1.onTables))) = true) : ∀ w ∈ ws, w ∈ x_big ∨ (w ∈ x_nst ∧ w.onTables = true) := fun w hw => by
  obtain ⟨k, hk⟩ := List.getElem?_of_mem hw
  have hl := (List.getElem?_eq_some_iff.mp hk).1
  have hz : (w, ps[k]'(h ▸ hl)) ∈ ws.zip ps := by
    refine List.mem_of_getElem? (i := k) ?_
    rw [List.getElem?_zip_eq_some]
    exact ⟨hk, List.getElem?_eq_getElem _⟩
  have h1 := List.all_eq_true.mp h2 _ hz
  rw [Bool.and_eq_true, Bool.or_eq_true, Bool.and_eq_true] at h1
  have hm := List.mem_of_getElem? (of_decide_eq_true h1.1)
  exact h1.2.elim (fun q => Or.inl (List.mem_filter.mpr ⟨hm, q⟩)) (fun q => Or.inr ⟨List.mem_filter.mpr ⟨hm, q.1⟩, q.2⟩)
theorem x_posB {ws : List Cond} (ps : List Nat) (h : ws.length = ps.length) (h2 : (ws.zip ps).all (fun q => decide (lw_tbl[q.2]? = some q.1) && (goodWord q.1 || (x_isN q.1 && q.1.onTables))) = true) (h3 : ws.all (fun w => !x_isN w) = true) : ∀ w ∈ ws, w ∈ x_big := fun w hw => (x_pos ps h h2 w hw).elim id (fun q => by
  have h4 := List.all_eq_true.mp h3 w hw
  rw [(List.mem_filter.mp q.1).2] at h4
  cases h4)
def x_E (g : xG) (U : State) (H : Heap) : Prop :=
  x_B g ≤ H.size ∧ x_b g < x_B g ∧ va_X (x_b g) (x_L g) (x_xs g) U H ∧ vk_S x_nS x_sl x_sb (x_sK g) (x_sV g) (x_A g) U H ∧ (∀ q ∈ x_tx, vk_R q.1 q.2.1 q.2.2.1 (x_sK g q.2.2.2) U) ∧
  vx_Zq Bundle.tN "UNASSIGNED_STACK" Bundle.steD (x_A g) U H ∧ vx_Zq Bundle.tN "SUPPRESSED_SENTINEL" Bundle.listD (x_A g) U H ∧ (∀ w ∈ x_nst, va_Nw w U) ∧
  (∀ i j : Nat, i < 5 → j < 5 → i ≠ j → va_Nc (x_en.getD i "") (x_en.getD j "") U) ∧ va_Z "java/lang/String" "COMPACT_STRINGS" "Z" (.int 1) (x_A g) U H ∧ (va_Z "jdk/internal/util/Preconditions" "SIOOBE_FORMATTER" "Ljava/util/function/BiFunction;" (.ref (x_fm g)) (x_A g) U H ∨ va_Z "jdk/internal/util/Preconditions" "SIOOBE_FORMATTER" "Ljava/util/function/BiFunction;" .null (x_A g) U H)
