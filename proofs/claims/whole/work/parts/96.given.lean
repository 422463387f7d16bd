/-! What holds at the law's entry, out of what is given: texts, statics, classes. -/
def nF : List Cond := flatC (Cond.and given_1 narrow_1)
theorem nf_at {args : Array Value} {s : State} (h : (Cond.and given_1 narrow_1).before args s = true) {w : Cond} (k : Nat) (e : nF[k]? = some w) : w.before args s = true := flat_of_before _ h w (List.mem_of_getElem? e)
/-- each text: whose constant it is, its pool number, where its facts begin -/
def tmO : List (String × Nat × Nat) := [("SeasonWalks$CloisterText", 25, 86), ("SeasonWalks$CloisterText", 90, 94), ("SeasonWalks$CloisterText", 92, 100), ("SeasonWalks$CloisterText", 101, 109), ("SeasonWalks$CloisterText", 103, 117), ("SeasonWalks$CloisterText", 34, 126), ("SeasonWalks$CloisterText", 47, 134), ("SeasonWalks$Tape", 100, 142), ("SeasonWalks$Tape", 92, 149), ("SeasonWalks$Tape", 94, 159), ("SeasonWalks$Tape", 96, 169), ("SeasonWalks$Tape", 98, 179), ("SeasonWalks$CloisterText", 55, 189), ("SeasonWalks$CloisterText", 59, 199), ("SeasonWalks$CloisterText", 63, 208), ("SeasonWalks$CloisterText", 72, 217), ("SeasonWalks$CloisterText", 76, 225), ("SeasonWalks$LawText", 30, 232), ("SeasonWalks$LawText", 40, 240), ("SeasonWalks$LawText", 42, 249), ("SeasonWalks$LawText", 52, 257), ("SeasonWalks$LawText", 62, 263), ("SeasonWalks$LawText", 64, 269), ("SeasonWalks$LawText", 76, 276), ("SeasonWalks$LawText", 91, 283), ("SeasonWalks$LawText", 93, 293), ("SeasonWalks$LawText", 110, 312), ("SeasonWalks$LawText", 114, 329), ("SeasonWalks$LawText", 116, 339)]
def tmT (i : Nat) : Term := .string (tmO.getD i ("", 0, 0)).1 (tmO.getD i ("", 0, 0)).2.1
def tmV (i : Nat) : Term := .field (tmT i) "java/lang/String" "value" "[B"
def tmK (i : Nat) : Nat := (tmO.getD i ("", 0, 0)).2.2
theorem tm_ok : (List.range 29).all (fun i => decide (nF[tmK i]? = some (.exactly (tmT i) "java/lang/String")) && decide (nF[tmK i + 1]? = some (.eq (.field (tmT i) "java/lang/String" "coder" "B") (.int 0))) && decide (nF[tmK i + 2]? = some (.arrayOf (tmV i) .byte)) && decide (nF[tmK i + 3]? = some (.eq (.length (tmV i)) (.int (Int32.ofNat (x_sl.getD i 0))))) && (List.range (x_sl.getD i 0)).all (fun j => decide (nF[tmK i + 4 + j]? = some (.eq (.elem (tmV i) (.int (Int32.ofNat j))) (.int ((x_sb.getD i []).getD j 0)))))) = true := by decide +kernel
theorem tm_at {args : Array Value} {s : State} (h : (Cond.and given_1 narrow_1).before args s = true) {i : Nat} (hi : i < 29) : (Cond.exactly (tmT i) "java/lang/String").before args s = true ∧ (Cond.eq (.field (tmT i) "java/lang/String" "coder" "B") (.int 0)).before args s = true ∧ (Cond.arrayOf (tmV i) .byte).before args s = true ∧ (Cond.eq (.length (tmV i)) (.int (Int32.ofNat (x_sl.getD i 0)))).before args s = true ∧ ∀ j : Nat, j < x_sl.getD i 0 → (Cond.eq (.elem (tmV i) (.int (Int32.ofNat j))) (.int ((x_sb.getD i []).getD j 0))).before args s = true := by
  have h1 := List.all_eq_true.mp tm_ok i (List.mem_range.mpr hi)
  rw [Bool.and_eq_true, Bool.and_eq_true, Bool.and_eq_true, Bool.and_eq_true] at h1
  obtain ⟨⟨⟨⟨w1, w2⟩, w3⟩, w4⟩, w5⟩ := h1
  exact ⟨nf_at h _ (of_decide_eq_true w1), nf_at h _ (of_decide_eq_true w2), nf_at h _ (of_decide_eq_true w3), nf_at h _ (of_decide_eq_true w4), fun j hj => nf_at h _ (of_decide_eq_true (List.all_eq_true.mp w5 j (List.mem_range.mpr hj)))⟩
/-- two places of the texts hold the same bytes only where they are one -/
def tm_same (i j : Nat) : Bool := decide (x_sl.getD i 0 = x_sl.getD j 0) && (List.range (x_sl.getD i 0)).all (fun k => decide ((x_sb.getD i []).getD k 0 = (x_sb.getD j []).getD k 0))
theorem tm_apart : (List.range 29).all (fun i => (List.range 29).all (fun j => !(tm_same i j) || decide (i = j))) = true := by decide +kernel
theorem tm_len : (List.range 29).all (fun i => decide (x_sl.getD i 0 < 7)) = true := by decide +kernel
theorem tm_l7 {i : Nat} (hi : i < 29) : x_sl.getD i 0 < 7 := of_decide_eq_true (List.all_eq_true.mp tm_len i (List.mem_range.mpr hi))
theorem zi7 : ∀ a : Nat, a < 7 → ∀ b : Nat, b < 7 → Int32.ofNat a = Int32.ofNat b → a = b := by decide +kernel
theorem va_OF_det {o9 n9 d9 : String} {v w : Value} {t : Nat} {A : Nat → Prop} {U : State} {H : Heap} (h1 : va_OF o9 n9 d9 v t A U H) (h2 : va_OF o9 n9 d9 w t A U H) : v = w := by
  obtain ⟨cf, k9, i9, f9, cell, a1, a2, a3, a4, a5, a6⟩ := h1
  obtain ⟨cg, k8, i8, f8, cell8, b1, b2, b3, b4, b5, b6⟩ := h2
  rw [a1] at b1
  cases b1
  rw [a3] at b3
  cases b3
  rw [a5] at b5
  cases b5
  rfl
theorem va_T_det {ty : FieldType} {t N1 N2 : Nat} {f1 f2 : Nat → Value} {A : Nat → Prop} {U : State} {H : Heap} (h1 : va_T ty t N1 f1 A U H) (h2 : va_T ty t N2 f2 A U H) : Int32.ofNat N1 = Int32.ofNat N2 ∧ ∀ j : Nat, j < N1 → j < N2 → f1 j = f2 j := by
  obtain ⟨cell, a1, a2, a3, a4, a5, a6, a7⟩ := h1
  obtain ⟨cell8, b1, b2, b3, b4, b5, b6, b7⟩ := h2
  rw [a1] at b1
  cases b1
  refine ⟨a5.symm.trans b5, fun j q1 q2 => ?_⟩
  exact Option.some.inj ((a6 j q1).symm.trans (b6 j q2))
theorem st_texts {args : Array Value} {s : State} {A : Nat → Prop} (h : (Cond.and given_1 narrow_1).before args s = true) (hA : ∀ a : Nat, a < s.heap.size → ¬ A a) :
    ∃ adK adV : Nat → Nat, vk_S x_nS x_sl x_sb adK adV A s s.heap ∧ ∀ i : Nat, i < 29 → (tmT i).eval args s none [] s = some (.ref (adK i)) := by
  have h0 : ∀ i : Nat, ∃ q : Nat × Nat, i < 29 → (tmT i).eval args s none [] s = some (.ref q.1) ∧ va_O "java/lang/String" q.1 A s s.heap ∧ va_OF "java/lang/String" "coder" "B" (.int 0) q.1 A s s.heap ∧ va_OF "java/lang/String" "value" "[B" (.ref q.2) q.1 A s s.heap ∧ va_T .byte q.2 (x_sl.getD i 0) (fun j => .int ((x_sb.getD i []).getD j 0)) A s s.heap := by
    intro i
    by_cases hi : i < 29
    · obtain ⟨w1, w2, w3, w4, w5⟩ := tm_at h hi
      have hN : x_sl.getD i 0 < 2 ^ 31 := Nat.lt_trans (tm_l7 hi) (by decide)
      obtain ⟨a, c, cA, kA, q1, q2, q3, q4, q5, q6, -⟩ := Cond.exactly_spec (args := args) (first := s) (o := none) (s := s) (idx := []) (t := tmT i) (cls := "java/lang/String") w1
      obtain ⟨t, ht, hT⟩ := va_Tof (tm := tmV i) (f := fun j => .int ((x_sb.getD i []).getD j 0)) (A := A) hN w3 (va_eqt w4) (fun j hj => va_eqt (w5 j hj)) hA
      exact ⟨(a, t), fun _ => ⟨q1, ⟨cA, q3, q5, by rw [q6]; exact q2, hA a (Array.getElem?_eq_some_iff.mp q3).1⟩, vk_OFof q1 (va_eqt w2) hA, vk_OFof q1 ht hA, hT⟩⟩
    · exact ⟨(0, 0), fun q => absurd q hi⟩
  obtain ⟨ad, had⟩ := Classical.axiomOfChoice h0
  refine ⟨fun i => (ad i).1, fun i => (ad i).2, ⟨fun i hi => (had i hi).2, fun i j hi hj e => ?_⟩, fun i hi => (had i hi).1⟩
  have hi9 : i < 29 := hi
  have hj9 : j < 29 := hj
  obtain ⟨-, -, -, u4, u5⟩ := had i hi9
  obtain ⟨-, -, -, v4, v5⟩ := had j hj9
  have e1 : (ad i).1 = (ad j).1 := e
  rw [← e1] at v4
  have e2 := va_OF_det u4 v4
  have e3 : (ad i).2 = (ad j).2 := by injection e2
  rw [← e3] at v5
  obtain ⟨e4, e5⟩ := va_T_det u5 v5
  have e6 := zi7 _ (tm_l7 hi9) _ (tm_l7 hj9) e4
  have z1 := List.all_eq_true.mp (List.all_eq_true.mp tm_apart i (List.mem_range.mpr hi9)) j (List.mem_range.mpr hj9)
  have z2 : tm_same i j = true := by
    rw [tm_same, Bool.and_eq_true]
    refine ⟨decide_eq_true e6, List.all_eq_true.mpr fun k hk => decide_eq_true ?_⟩
    have hk2 := List.mem_range.mp hk
    have e7 := e5 k hk2 (e6 ▸ hk2)
    injection e7
  rw [z2] at z1
  exact of_decide_eq_true (by simpa using z1)
theorem tx_w : (x_tx.zip [888, 954, 963, 969, 971, 985, 986, 991, 996, 997, 998, 999, 1000, 1001, 1002, 1005, 1006, 1110, 1113, 1114, 1117, 1121, 1122, 1127, 1136, 1137, 1145, 1146, 1147, 1148, 1149, 1150, 1151, 1824, 1831, 1832, 1841, 1854, 1863, 1864, 1873, 1874, 1875, 1876, 1877, 1878, 1879, 1880, 1881, 1890, 1903, 1915, 1920, 1925, 1926, 1927, 1928, 1929, 1930, 1931, 1932, 1933]).all (fun q => decide (lw_tbl[q.2]? = some (Cond.stringRef q.1.1 q.1.2.1 q.1.2.2.1))) = true := by decide +kernel
theorem tx_e : (x_tx.zip [0, 0, 0, 0, 0, 0, 0, 0, 0, 0, 0, 0, 0, 0, 0, 0, 0, 0, 0, 0, 0, 0, 0, 0, 0, 0, 311, 0, 328, 0, 0, 355, 365, 374, 384, 393, 400, 408, 419, 430, 439, 449, 458, 470, 479, 488, 499, 508, 515, 522, 532, 541, 550, 561, 572, 583, 594, 602, 613, 623, 633, 641]).all (fun q => decide (q.1.2.2.2 < 29) && (decide (tmT q.1.2.2.2 = .string q.1.1 q.1.2.1) || decide (nF[q.2]? = some (.eq (tmT q.1.2.2.2) (.string q.1.1 q.1.2.1))))) = true := by decide +kernel
theorem zip_at {α β : Type} {P9 : α × β → Bool} {xs : List α} {ys : List β} (hl : xs.length = ys.length) (h : (xs.zip ys).all P9 = true) {q : α} (hq : q ∈ xs) : ∃ y : β, P9 (q, y) = true := by
  obtain ⟨k, hk⟩ := List.getElem?_of_mem hq
  have hlt := (List.getElem?_eq_some_iff.mp hk).1
  refine ⟨ys[k]'(hl ▸ hlt), List.all_eq_true.mp h _ (List.mem_of_getElem? (i := k) ?_)⟩
  rw [List.getElem?_zip_eq_some]
  exact ⟨hk, List.getElem?_eq_getElem _⟩
theorem st_pool {args : Array Value} {s : State} {adK : Nat → Nat} (h : (Cond.and given_1 narrow_1).before args s = true) (hts : ∀ w ∈ lw_tbl, w.before args s = true) (hK : ∀ i : Nat, i < 29 → (tmT i).eval args s none [] s = some (.ref (adK i))) : ∀ q ∈ x_tx, vk_R q.1 q.2.1 q.2.2.1 (adK q.2.2.2) s := by
  intro q hq
  obtain ⟨y1, w1⟩ := zip_at (by rfl) tx_w hq
  obtain ⟨y2, w2⟩ := zip_at (by rfl) tx_e hq
  rw [Bool.and_eq_true, Bool.or_eq_true] at w2
  have h1 := hK _ (of_decide_eq_true w2.1)
  refine vk_R.of (hts _ (List.mem_of_getElem? (of_decide_eq_true w1))) ?_
  rcases w2.2 with w3 | w3
  · have e := of_decide_eq_true w3
    rw [← e]
    exact h1
  · exact va_eqR (nf_at h _ (of_decide_eq_true w3)) h1
def ncP : List Nat := [0, 52, 82, 67, 37, 23, 0, 84, 69, 38, 25, 55, 0, 70, 40, 24, 54, 85, 0, 39, 22, 53, 83, 68, 0]
theorem nc_ok : (List.range 5).all (fun i => (List.range 5).all (fun j => decide (i = j) || decide (nF[ncP.getD (5 * i + j) 0]? = some (.not (.castable (x_en.getD i "") (x_en.getD j "")))))) = true := by decide +kernel
theorem st_nc {args : Array Value} {s : State} (h : (Cond.and given_1 narrow_1).before args s = true) : ∀ i j : Nat, i < 5 → j < 5 → i ≠ j → va_Nc (x_en.getD i "") (x_en.getD j "") s := by
  intro i j hi hj hij
  have h1 := List.all_eq_true.mp (List.all_eq_true.mp nc_ok i (List.mem_range.mpr hi)) j (List.mem_range.mpr hj)
  rw [Bool.or_eq_true] at h1
  rcases h1 with h1 | h1
  · exact absurd (of_decide_eq_true h1) hij
  · exact va_Nc.of (nf_at h _ (of_decide_eq_true h1))
theorem nf_cs : nF[4]? = some (.eq (.static "java/lang/String" "COMPACT_STRINGS" "Z") (.int 1)) := by decide +kernel
theorem nf_si : nF[5]? = some (.isRef (.static "jdk/internal/util/Preconditions" "SIOOBE_FORMATTER" "Ljava/util/function/BiFunction;")) := by decide +kernel
theorem nf_us : nF[9]? = some (.isRef (.static Bundle.tN "UNASSIGNED_STACK" Bundle.steD)) := by decide +kernel
theorem nf_ss : nF[10]? = some (.isRef (.static Bundle.tN "SUPPRESSED_SENTINEL" Bundle.listD)) := by decide +kernel
section ZWORLD
variable {args : Array Value} {s : State} {A : Nat → Prop}
theorem st_cs (h : (Cond.and given_1 narrow_1).before args s = true) (hts : ∀ w ∈ lw_tbl, w.before args s = true) (hA : ∀ a : Nat, a < s.heap.size → ¬ A a) : va_Z "java/lang/String" "COMPACT_STRINGS" "Z" (.int 1) A s s.heap :=
  va_Zof (hts (.laysStatic "java/lang/String" "COMPACT_STRINGS" "Z") (x_t3 (List.mem_of_getElem? (i := 239) rfl))) (hts (.initialized "java/lang/String") (x_t1 (List.mem_of_getElem? (i := 13) rfl))) (va_eqt (nf_at h _ nf_cs)) hA
theorem st_si (h : (Cond.and given_1 narrow_1).before args s = true) (hts : ∀ w ∈ lw_tbl, w.before args s = true) (hA : ∀ a : Nat, a < s.heap.size → ¬ A a) : ∃ fm : Nat, va_Z "jdk/internal/util/Preconditions" "SIOOBE_FORMATTER" "Ljava/util/function/BiFunction;" (.ref fm) A s s.heap ∨ va_Z "jdk/internal/util/Preconditions" "SIOOBE_FORMATTER" "Ljava/util/function/BiFunction;" .null A s s.heap := by
  have hz : va_Zq "jdk/internal/util/Preconditions" "SIOOBE_FORMATTER" "Ljava/util/function/BiFunction;" A s s.heap := va_Zqof (hts (.laysStatic "jdk/internal/util/Preconditions" "SIOOBE_FORMATTER" "Ljava/util/function/BiFunction;") (x_t4 (List.mem_of_getElem? (i := 15) rfl))) (hts (.initialized "jdk/internal/util/Preconditions") (x_t1 (List.mem_of_getElem? (i := 15) rfl))) (nf_at h _ nf_si) hA
  rcases hz with hz | ⟨t, hz⟩
  · exact ⟨0, Or.inr hz⟩
  · exact ⟨t, Or.inl hz⟩
theorem st_us (h : (Cond.and given_1 narrow_1).before args s = true) (hts : ∀ w ∈ lw_tbl, w.before args s = true) (hA : ∀ a : Nat, a < s.heap.size → ¬ A a) : vx_Zq Bundle.tN "UNASSIGNED_STACK" Bundle.steD A s s.heap :=
  vx_Zqof (hts (.laysStatic Bundle.tN "UNASSIGNED_STACK" Bundle.steD) (x_t4 (List.mem_of_getElem? (i := 135) rfl))) (hts (.initialized Bundle.tN) (x_t1 (List.mem_of_getElem? (i := 17) rfl))) (nf_at h _ nf_us) hA
theorem st_ss (h : (Cond.and given_1 narrow_1).before args s = true) (hts : ∀ w ∈ lw_tbl, w.before args s = true) (hA : ∀ a : Nat, a < s.heap.size → ¬ A a) : vx_Zq Bundle.tN "SUPPRESSED_SENTINEL" Bundle.listD A s s.heap :=
  vx_Zqof (hts (.laysStatic Bundle.tN "SUPPRESSED_SENTINEL" Bundle.listD) (x_t4 (List.mem_of_getElem? (i := 137) rfl))) (hts (.initialized Bundle.tN) (x_t1 (List.mem_of_getElem? (i := 17) rfl))) (nf_at h _ nf_ss) hA
theorem st_nst (hts : ∀ w ∈ lw_tbl, w.before args s = true) : ∀ w ∈ x_nst, va_Nw w s := by
  intro w hw
  obtain ⟨h1, h2⟩ := List.mem_filter.mp hw
  have h3 := hts w h1
  cases w <;> first | exact va_Nw.of rfl h3 | (rename_i ty; cases ty <;> first | exact va_AO.of h3 | exact absurd h2 (by simp [x_isN])) | (exact absurd h2 (by simp [x_isN]))
theorem st_cls (hts : ∀ w ∈ lw_tbl, w.before args s = true) : ∃ (dC : Nat → ClassId) (dI : Nat → Nat → Nat), ∀ (c : Nat) (q : vw_C), x_cl[c]? = some q → u_Kn s q.1 q.2.1 q.2.2 (dC c) (dI c) := by
  have hb : ∀ w ∈ x_big, w.before args s = true := fun w hw => hts w (List.mem_filter.mp hw).1
  have h0 : ∀ c : Nat, ∃ d : ClassId × (Nat → Nat), ∀ q : vw_C, x_cl[c]? = some q → u_Kn s q.1 q.2.1 q.2.2 d.1 d.2 := by
    intro c
    match c with
    | 0 =>
      obtain ⟨c9, i9, h9⟩ := u_known (n := 1) hb xu0 (hts (.instantiable RX0 1) (x_t2 (List.mem_of_getElem? (i := 23) rfl)))
      exact ⟨(c9, i9), fun q hq => by cases hq; exact h9⟩
    | 1 =>
      obtain ⟨c9, i9, h9⟩ := u_known (n := 12) hb xu1 (hts (.instantiable RX1 12) (x_t1 (List.mem_of_getElem? (i := 74) rfl)))
      exact ⟨(c9, i9), fun q hq => by cases hq; exact h9⟩
    | 2 =>
      obtain ⟨c9, i9, h9⟩ := u_known (n := 3) hb xu2 (hts (.instantiable RX3 3) (x_t1 (List.mem_of_getElem? (i := 191) rfl)))
      exact ⟨(c9, i9), fun q hq => by cases hq; exact h9⟩
    | 3 =>
      obtain ⟨c9, i9, h9⟩ := u_known (n := 7) hb xu3 (hts (.instantiable RX4 7) (x_t1 (List.mem_of_getElem? (i := 161) rfl)))
      exact ⟨(c9, i9), fun q hq => by cases hq; exact h9⟩
    | 4 =>
      obtain ⟨c9, i9, h9⟩ := u_known (n := 3) hb xu4 (hts (.instantiable RX6 3) (x_t1 (List.mem_of_getElem? (i := 80) rfl)))
      exact ⟨(c9, i9), fun q hq => by cases hq; exact h9⟩
    | 5 =>
      obtain ⟨c9, i9, h9⟩ := u_known (n := 8) hb xu5 (hts (.instantiable RX7 8) (x_t1 (List.mem_of_getElem? (i := 230) rfl)))
      exact ⟨(c9, i9), fun q hq => by cases hq; exact h9⟩
    | 6 =>
      obtain ⟨c9, i9, h9⟩ := u_known (n := 3) hb xu6 (hts (.instantiable RX8 3) (x_t2 (List.mem_of_getElem? (i := 33) rfl)))
      exact ⟨(c9, i9), fun q hq => by cases hq; exact h9⟩
    | 7 =>
      obtain ⟨c9, i9, h9⟩ := u_known (n := 4) hb xu7 (hts (.instantiable RX9 4) (x_t1 (List.mem_of_getElem? (i := 211) rfl)))
      exact ⟨(c9, i9), fun q hq => by cases hq; exact h9⟩
    | 8 =>
      obtain ⟨c9, i9, h9⟩ := u_known (n := 8) hb xu8 (hts (.instantiable RX10 8) (x_t1 (List.mem_of_getElem? (i := 37) rfl)))
      exact ⟨(c9, i9), fun q hq => by cases hq; exact h9⟩
    | 9 =>
      obtain ⟨c9, i9, h9⟩ := u_known (n := 17) hb xu9 (hts (.instantiable RX11 17) (x_t1 (List.mem_of_getElem? (i := 29) rfl)))
      exact ⟨(c9, i9), fun q hq => by cases hq; exact h9⟩
    | 10 =>
      obtain ⟨c9, i9, h9⟩ := u_known (n := 27) hb xu10 (hts (.instantiable RX12 27) (x_t7 (List.mem_of_getElem? (i := 66) rfl)))
      exact ⟨(c9, i9), fun q hq => by cases hq; exact h9⟩
    | 11 =>
      obtain ⟨c9, i9, h9⟩ := u_known (C := "java/lang/IllegalArgumentException") (T := x_te "java/lang/IllegalArgumentException") (N := 0) (n := 6) hb (fun w hw => absurd hw List.not_mem_nil) (hts (.instantiable "java/lang/IllegalArgumentException" 6) (x_t4 (List.mem_of_getElem? (i := 109) rfl)))
      exact ⟨(c9, i9), fun q hq => by cases hq; exact h9⟩
    | 12 =>
      obtain ⟨c9, i9, h9⟩ := u_known (C := "java/lang/IndexOutOfBoundsException") (T := x_te "java/lang/IndexOutOfBoundsException") (N := 0) (n := 6) hb (fun w hw => absurd hw List.not_mem_nil) (hts (.instantiable "java/lang/IndexOutOfBoundsException" 6) (x_t5 (List.mem_of_getElem? (i := 31) rfl)))
      exact ⟨(c9, i9), fun q hq => by cases hq; exact h9⟩
    | 13 =>
      obtain ⟨c9, i9, h9⟩ := u_known (C := "java/lang/IllegalStateException") (T := x_te "java/lang/IllegalStateException") (N := 0) (n := 6) hb (fun w hw => absurd hw List.not_mem_nil) (hts (.instantiable "java/lang/IllegalStateException" 6) (x_t5 (List.mem_of_getElem? (i := 110) rfl)))
      exact ⟨(c9, i9), fun q hq => by cases hq; exact h9⟩
    | 14 =>
      obtain ⟨c9, i9, h9⟩ := u_known (C := "java/util/NoSuchElementException") (T := x_te "java/util/NoSuchElementException") (N := 0) (n := 6) hb (fun w hw => absurd hw List.not_mem_nil) (hts (.instantiable "java/util/NoSuchElementException" 6) (x_t5 (List.mem_of_getElem? (i := 46) rfl)))
      exact ⟨(c9, i9), fun q hq => by cases hq; exact h9⟩
    | 15 =>
      obtain ⟨c9, i9, h9⟩ := u_known (C := "java/lang/UnsupportedOperationException") (T := x_te "java/lang/UnsupportedOperationException") (N := 0) (n := 6) hb (fun w hw => absurd hw List.not_mem_nil) (hts (.instantiable "java/lang/UnsupportedOperationException" 6) (x_t4 (List.mem_of_getElem? (i := 175) rfl)))
      exact ⟨(c9, i9), fun q hq => by cases hq; exact h9⟩
    | c + 16 => exact ⟨(0, fun _ => 0), fun q hq => by simp [x_cl, x_en] at hq⟩
  obtain ⟨f9, hf⟩ := Classical.axiomOfChoice h0
  exact ⟨fun c => (f9 c).1, fun c => (f9 c).2, hf⟩
theorem st_arr {ty : FieldType} (h : (Cond.arrayClass ty).before args s = true) : ∃ cA : ClassId, ArrOfT s cA ty ∧ s.vm.findClass ("[" ++ ty.toString) = some cA := by
  obtain ⟨cA, kA, comp, h1, h2, h3⟩ := Cond.arrayClass_spec (args := args) (first := s) (o := none) (s := s) (idx := []) h
  exact ⟨cA, fun n z => ⟨(fun k9 h9 => by cases h9), kA, h2, comp, h3⟩, h1⟩
theorem st_tys (hts : ∀ w ∈ lw_tbl, w.before args s = true) : ∃ cA : Nat → ClassId, ∀ (k : Nat) (q : ClassId × FieldType), [(cA 0, FieldType.int), (cA 1, .long), (cA 2, .boolean), (cA 3, .object "SeasonWalks$Cloister")][k]? = some q → ArrOfT s q.1 q.2 ∧ va_RA s q.1 q.2 := by
  obtain ⟨c0, a0, b0⟩ := st_arr (hts (.arrayClass .int) (x_t1 (List.mem_of_getElem? (i := 72) rfl)))
  obtain ⟨c1, a1, b1⟩ := st_arr (hts (.arrayClass .long) (x_t1 (List.mem_of_getElem? (i := 209) rfl)))
  obtain ⟨c2, a2, b2⟩ := st_arr (hts (.arrayClass .boolean) (x_t2 (List.mem_of_getElem? (i := 21) rfl)))
  obtain ⟨comp, c3, kA, f1, -, f2, f3, f4⟩ := Cond.arrayOver_spec (args := args) (first := s) (o := none) (s := s) (idx := []) (hts (.arrayOver (.object "SeasonWalks$Cloister")) (x_t1 (List.mem_of_getElem? (i := 189) rfl)))
  refine ⟨fun k => if k = 0 then c0 else if k = 1 then c1 else if k = 2 then c2 else c3, ?_⟩
  intro k q hq
  match k, hq with
  | 0, hq => cases hq; exact ⟨a0, b0⟩
  | 1, hq => cases hq; exact ⟨a1, b1⟩
  | 2, hq => cases hq; exact ⟨a2, b2⟩
  | 3, hq => cases hq; exact ⟨fun n z => ⟨(fun k9 h9 => by cases h9), kA, f2, comp, f3⟩, kA, comp, f2, f3, f1, f4⟩
  | k + 4, hq => simp at hq
end ZWORLD
