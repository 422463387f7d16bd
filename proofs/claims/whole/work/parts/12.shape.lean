/-! where the cells lie: unit by unit -/
set_option maxRecDepth 100000 in
def x_AL : List (Nat × Nat × Nat) := [(16 * 1 + 0, 9, 17), (16 * 1 + 1, 23, 12), (16 * 2 + 0, 8, 8), (16 * 2 + 1, 20, 400), (16 * 2 + 2, 20, 400), (16 * 3 + 0, 1, 12), (16 * 3 + 1, 20, 56), (16 * 3 + 2, 20, 4), (16 * 3 + 3, 4, 3), (16 * 3 + 4, 20, 60), (16 * 4 + 0, 1, 12), (16 * 4 + 1, 20, 56), (16 * 4 + 2, 20, 4), (16 * 4 + 3, 4, 3), (16 * 4 + 4, 20, 60), (16 * 5 + 0, 1, 12), (16 * 5 + 1, 20, 56), (16 * 5 + 2, 20, 4), (16 * 5 + 3, 4, 3), (16 * 5 + 4, 20, 60), (16 * 6 + 0, 1, 12), (16 * 6 + 1, 20, 56), (16 * 6 + 2, 20, 4), (16 * 6 + 3, 4, 3), (16 * 6 + 4, 20, 60), (16 * 7 + 0, 1, 12), (16 * 7 + 1, 20, 56), (16 * 7 + 2, 20, 4), (16 * 7 + 3, 4, 3), (16 * 7 + 4, 20, 60), (16 * 8 + 0, 1, 12), (16 * 8 + 1, 20, 56), (16 * 8 + 2, 20, 4), (16 * 8 + 3, 4, 3), (16 * 8 + 4, 20, 60), (16 * 9 + 0, 1, 12), (16 * 9 + 1, 20, 56), (16 * 9 + 2, 20, 4), (16 * 9 + 3, 4, 3), (16 * 9 + 4, 20, 60), (16 * 10 + 0, 1, 12), (16 * 10 + 1, 20, 56), (16 * 10 + 2, 20, 4), (16 * 10 + 3, 4, 3), (16 * 10 + 4, 20, 60), (16 * 11 + 0, 1, 12), (16 * 11 + 1, 20, 56), (16 * 11 + 2, 20, 4), (16 * 11 + 3, 4, 3), (16 * 11 + 4, 20, 60), (16 * 12 + 0, 1, 12), (16 * 12 + 1, 20, 56), (16 * 12 + 2, 20, 4), (16 * 12 + 3, 4, 3), (16 * 12 + 4, 20, 60), (16 * 13 + 0, 1, 12), (16 * 13 + 1, 20, 56), (16 * 13 + 2, 20, 4), (16 * 13 + 3, 4, 3), (16 * 13 + 4, 20, 60), (16 * 14 + 0, 1, 12), (16 * 14 + 1, 20, 56), (16 * 14 + 2, 20, 4), (16 * 14 + 3, 4, 3), (16 * 14 + 4, 20, 60), (16 * 15 + 0, 1, 12), (16 * 15 + 1, 20, 56), (16 * 15 + 2, 20, 4), (16 * 15 + 3, 4, 3), (16 * 15 + 4, 20, 60), (16 * 16 + 0, 1, 12), (16 * 16 + 1, 20, 56), (16 * 16 + 2, 20, 4), (16 * 16 + 3, 4, 3), (16 * 16 + 4, 20, 60), (16 * 17 + 0, 1, 12), (16 * 17 + 1, 20, 56), (16 * 17 + 2, 20, 4), (16 * 17 + 3, 4, 3), (16 * 17 + 4, 20, 60), (16 * 18 + 0, 1, 12), (16 * 18 + 1, 20, 56), (16 * 18 + 2, 20, 4), (16 * 18 + 3, 4, 3), (16 * 18 + 4, 20, 60), (16 * 19 + 0, 3, 7), (16 * 19 + 1, 20, 12), (16 * 19 + 2, 20, 12), (16 * 19 + 3, 20, 12), (16 * 19 + 4, 20, 400), (16 * 19 + 5, 20, 8), (16 * 20 + 0, 3, 7), (16 * 20 + 1, 20, 12), (16 * 20 + 2, 20, 12), (16 * 20 + 3, 20, 12), (16 * 20 + 4, 20, 400), (16 * 20 + 5, 20, 8), (16 * 21 + 0, 3, 7), (16 * 21 + 1, 20, 12), (16 * 21 + 2, 20, 12), (16 * 21 + 3, 20, 12), (16 * 21 + 4, 20, 400), (16 * 21 + 5, 20, 8), (16 * 22 + 0, 2, 3), (16 * 22 + 1, 20, 7), (16 * 22 + 2, 21, 7), (16 * 23 + 0, 7, 4), (16 * 23 + 1, 20, 128), (16 * 23 + 2, 20, 7), (16 * 23 + 3, 20, 7), (16 * 23 + 4, 20, 7), (16 * 24 + 0, 5, 8), (16 * 24 + 1, 20, 40), (16 * 24 + 2, 22, 144), (16 * 24 + 3, 20, 5), (16 * 25 + 0, 0, 1), (16 * 25 + 1, 20, 128), (16 * 26 + 0, 6, 3), (16 * 26 + 1, 20, 7), (16 * 26 + 2, 20, 896), (16 * 32 + 0, 10, 27), (16 * 32 + 1, 20, 772), (16 * 32 + 2, 20, 772), (16 * 32 + 3, 20, 372), (16 * 32 + 4, 20, 4464), (16 * 32 + 5, 20, 400), (16 * 32 + 6, 20, 7), (16 * 32 + 7, 20, 7), (16 * 32 + 8, 20, 32768), (16 * 32 + 9, 20, 128), (16 * 32 + 10, 20, 1024), (16 * 32 + 11, 22, 144), (16 * 32 + 12, 20, 7), (16 * 32 + 13, 20, 7), (16 * 32 + 14, 20, 4)]
set_option maxRecDepth 100000 in
def x_RL : List (Nat × Nat × Nat) := [(16 * 1 + 0, 0, 16 * 2 + 0), (16 * 1 + 0, 1, 16 * 3 + 0), (16 * 1 + 0, 2, 16 * 4 + 0), (16 * 1 + 0, 3, 16 * 5 + 0), (16 * 1 + 0, 4, 16 * 19 + 0), (16 * 1 + 0, 5, 16 * 20 + 0), (16 * 1 + 0, 6, 16 * 21 + 0), (16 * 1 + 0, 7, 16 * 1 + 1), (16 * 1 + 0, 8, 16 * 22 + 0), (16 * 1 + 0, 9, 16 * 23 + 0), (16 * 1 + 0, 10, 16 * 24 + 0), (16 * 1 + 0, 11, 16 * 25 + 0), (16 * 1 + 0, 12, 16 * 26 + 0), (16 * 1 + 1, 0, 16 * 6 + 0), (16 * 1 + 1, 1, 16 * 7 + 0), (16 * 1 + 1, 2, 16 * 8 + 0), (16 * 1 + 1, 3, 16 * 9 + 0), (16 * 1 + 1, 4, 16 * 10 + 0), (16 * 1 + 1, 5, 16 * 11 + 0), (16 * 1 + 1, 6, 16 * 12 + 0), (16 * 1 + 1, 7, 16 * 13 + 0), (16 * 1 + 1, 8, 16 * 14 + 0), (16 * 1 + 1, 9, 16 * 15 + 0), (16 * 1 + 1, 10, 16 * 16 + 0), (16 * 1 + 1, 11, 16 * 17 + 0), (16 * 2 + 0, 0, 16 * 2 + 1), (16 * 2 + 0, 1, 16 * 2 + 2), (16 * 3 + 0, 0, 16 * 3 + 1), (16 * 3 + 0, 1, 16 * 3 + 2), (16 * 3 + 0, 2, 16 * 3 + 3), (16 * 3 + 3, 0, 16 * 3 + 4), (16 * 4 + 0, 0, 16 * 4 + 1), (16 * 4 + 0, 1, 16 * 4 + 2), (16 * 4 + 0, 2, 16 * 4 + 3), (16 * 4 + 3, 0, 16 * 4 + 4), (16 * 5 + 0, 0, 16 * 5 + 1), (16 * 5 + 0, 1, 16 * 5 + 2), (16 * 5 + 0, 2, 16 * 5 + 3), (16 * 5 + 3, 0, 16 * 5 + 4), (16 * 6 + 0, 0, 16 * 6 + 1), (16 * 6 + 0, 1, 16 * 6 + 2), (16 * 6 + 0, 2, 16 * 6 + 3), (16 * 6 + 3, 0, 16 * 6 + 4), (16 * 7 + 0, 0, 16 * 7 + 1), (16 * 7 + 0, 1, 16 * 7 + 2), (16 * 7 + 0, 2, 16 * 7 + 3), (16 * 7 + 3, 0, 16 * 7 + 4), (16 * 8 + 0, 0, 16 * 8 + 1), (16 * 8 + 0, 1, 16 * 8 + 2), (16 * 8 + 0, 2, 16 * 8 + 3), (16 * 8 + 3, 0, 16 * 8 + 4), (16 * 9 + 0, 0, 16 * 9 + 1), (16 * 9 + 0, 1, 16 * 9 + 2), (16 * 9 + 0, 2, 16 * 9 + 3), (16 * 9 + 3, 0, 16 * 9 + 4), (16 * 10 + 0, 0, 16 * 10 + 1), (16 * 10 + 0, 1, 16 * 10 + 2), (16 * 10 + 0, 2, 16 * 10 + 3), (16 * 10 + 3, 0, 16 * 10 + 4), (16 * 11 + 0, 0, 16 * 11 + 1), (16 * 11 + 0, 1, 16 * 11 + 2), (16 * 11 + 0, 2, 16 * 11 + 3), (16 * 11 + 3, 0, 16 * 11 + 4), (16 * 12 + 0, 0, 16 * 12 + 1), (16 * 12 + 0, 1, 16 * 12 + 2), (16 * 12 + 0, 2, 16 * 12 + 3), (16 * 12 + 3, 0, 16 * 12 + 4), (16 * 13 + 0, 0, 16 * 13 + 1), (16 * 13 + 0, 1, 16 * 13 + 2), (16 * 13 + 0, 2, 16 * 13 + 3), (16 * 13 + 3, 0, 16 * 13 + 4), (16 * 14 + 0, 0, 16 * 14 + 1), (16 * 14 + 0, 1, 16 * 14 + 2), (16 * 14 + 0, 2, 16 * 14 + 3), (16 * 14 + 3, 0, 16 * 14 + 4), (16 * 15 + 0, 0, 16 * 15 + 1), (16 * 15 + 0, 1, 16 * 15 + 2), (16 * 15 + 0, 2, 16 * 15 + 3), (16 * 15 + 3, 0, 16 * 15 + 4), (16 * 16 + 0, 0, 16 * 16 + 1), (16 * 16 + 0, 1, 16 * 16 + 2), (16 * 16 + 0, 2, 16 * 16 + 3), (16 * 16 + 3, 0, 16 * 16 + 4), (16 * 17 + 0, 0, 16 * 17 + 1), (16 * 17 + 0, 1, 16 * 17 + 2), (16 * 17 + 0, 2, 16 * 17 + 3), (16 * 17 + 3, 0, 16 * 17 + 4), (16 * 18 + 0, 0, 16 * 18 + 1), (16 * 18 + 0, 1, 16 * 18 + 2), (16 * 18 + 0, 2, 16 * 18 + 3), (16 * 18 + 3, 0, 16 * 18 + 4), (16 * 19 + 0, 0, 16 * 19 + 1), (16 * 19 + 0, 1, 16 * 19 + 2), (16 * 19 + 0, 2, 16 * 19 + 3), (16 * 19 + 0, 3, 16 * 19 + 4), (16 * 19 + 0, 4, 16 * 19 + 5), (16 * 20 + 0, 0, 16 * 20 + 1), (16 * 20 + 0, 1, 16 * 20 + 2), (16 * 20 + 0, 2, 16 * 20 + 3), (16 * 20 + 0, 3, 16 * 20 + 4), (16 * 20 + 0, 4, 16 * 20 + 5), (16 * 21 + 0, 0, 16 * 21 + 1), (16 * 21 + 0, 1, 16 * 21 + 2), (16 * 21 + 0, 2, 16 * 21 + 3), (16 * 21 + 0, 3, 16 * 21 + 4), (16 * 21 + 0, 4, 16 * 21 + 5), (16 * 22 + 0, 0, 16 * 18 + 0), (16 * 22 + 0, 1, 16 * 22 + 1), (16 * 22 + 0, 2, 16 * 22 + 2), (16 * 23 + 0, 0, 16 * 23 + 1), (16 * 23 + 0, 1, 16 * 23 + 2), (16 * 23 + 0, 2, 16 * 23 + 3), (16 * 23 + 0, 3, 16 * 23 + 4), (16 * 24 + 0, 0, 16 * 24 + 1), (16 * 24 + 0, 1, 16 * 24 + 2), (16 * 24 + 0, 2, 16 * 24 + 3), (16 * 25 + 0, 0, 16 * 25 + 1), (16 * 26 + 0, 0, 16 * 26 + 1), (16 * 26 + 0, 1, 16 * 26 + 2), (16 * 32 + 0, 1, 16 * 32 + 1), (16 * 32 + 0, 2, 16 * 32 + 2), (16 * 32 + 0, 4, 16 * 32 + 3), (16 * 32 + 0, 5, 16 * 32 + 4), (16 * 32 + 0, 7, 16 * 32 + 5), (16 * 32 + 0, 14, 16 * 32 + 6), (16 * 32 + 0, 19, 16 * 32 + 7), (16 * 32 + 0, 20, 16 * 32 + 8), (16 * 32 + 0, 21, 16 * 32 + 9), (16 * 32 + 0, 22, 16 * 32 + 10), (16 * 32 + 0, 23, 16 * 32 + 11), (16 * 32 + 0, 24, 16 * 32 + 12), (16 * 32 + 0, 25, 16 * 32 + 13), (16 * 32 + 0, 26, 16 * 32 + 14)]
def SH (al : List (Nat × Nat × Nat)) (ro : Nat → Nat → Option Nat) : Prop := (∀ e ∈ x_AL, e ∈ al) ∧ ∀ e ∈ x_RL, ro e.1 e.2.1 = some e.2.2
set_option maxRecDepth 100000 in
theorem sa_1_0 {al : List (Nat × Nat × Nat)} {ro : Nat → Nat → Option Nat} (hs : SH al ro) : (16 * 1 + 0, 9, 17) ∈ al := hs.1 _ (List.mem_of_getElem? (i := 0) rfl)
set_option maxRecDepth 100000 in
theorem sa_1_1 {al : List (Nat × Nat × Nat)} {ro : Nat → Nat → Option Nat} (hs : SH al ro) : (16 * 1 + 1, 23, 12) ∈ al := hs.1 _ (List.mem_of_getElem? (i := 1) rfl)
set_option maxRecDepth 100000 in
theorem sa_2_0 {al : List (Nat × Nat × Nat)} {ro : Nat → Nat → Option Nat} (hs : SH al ro) : (16 * 2 + 0, 8, 8) ∈ al := hs.1 _ (List.mem_of_getElem? (i := 2) rfl)
set_option maxRecDepth 100000 in
theorem sa_2_1 {al : List (Nat × Nat × Nat)} {ro : Nat → Nat → Option Nat} (hs : SH al ro) : (16 * 2 + 1, 20, 400) ∈ al := hs.1 _ (List.mem_of_getElem? (i := 3) rfl)
set_option maxRecDepth 100000 in
theorem sa_2_2 {al : List (Nat × Nat × Nat)} {ro : Nat → Nat → Option Nat} (hs : SH al ro) : (16 * 2 + 2, 20, 400) ∈ al := hs.1 _ (List.mem_of_getElem? (i := 4) rfl)
set_option maxRecDepth 100000 in
theorem sa_3_0 {al : List (Nat × Nat × Nat)} {ro : Nat → Nat → Option Nat} (hs : SH al ro) : (16 * 3 + 0, 1, 12) ∈ al := hs.1 _ (List.mem_of_getElem? (i := 5) rfl)
set_option maxRecDepth 100000 in
theorem sa_3_1 {al : List (Nat × Nat × Nat)} {ro : Nat → Nat → Option Nat} (hs : SH al ro) : (16 * 3 + 1, 20, 56) ∈ al := hs.1 _ (List.mem_of_getElem? (i := 6) rfl)
set_option maxRecDepth 100000 in
theorem sa_3_2 {al : List (Nat × Nat × Nat)} {ro : Nat → Nat → Option Nat} (hs : SH al ro) : (16 * 3 + 2, 20, 4) ∈ al := hs.1 _ (List.mem_of_getElem? (i := 7) rfl)
set_option maxRecDepth 100000 in
theorem sa_3_3 {al : List (Nat × Nat × Nat)} {ro : Nat → Nat → Option Nat} (hs : SH al ro) : (16 * 3 + 3, 4, 3) ∈ al := hs.1 _ (List.mem_of_getElem? (i := 8) rfl)
set_option maxRecDepth 100000 in
theorem sa_3_4 {al : List (Nat × Nat × Nat)} {ro : Nat → Nat → Option Nat} (hs : SH al ro) : (16 * 3 + 4, 20, 60) ∈ al := hs.1 _ (List.mem_of_getElem? (i := 9) rfl)
set_option maxRecDepth 100000 in
theorem sa_4_0 {al : List (Nat × Nat × Nat)} {ro : Nat → Nat → Option Nat} (hs : SH al ro) : (16 * 4 + 0, 1, 12) ∈ al := hs.1 _ (List.mem_of_getElem? (i := 10) rfl)
set_option maxRecDepth 100000 in
theorem sa_4_1 {al : List (Nat × Nat × Nat)} {ro : Nat → Nat → Option Nat} (hs : SH al ro) : (16 * 4 + 1, 20, 56) ∈ al := hs.1 _ (List.mem_of_getElem? (i := 11) rfl)
set_option maxRecDepth 100000 in
theorem sa_4_2 {al : List (Nat × Nat × Nat)} {ro : Nat → Nat → Option Nat} (hs : SH al ro) : (16 * 4 + 2, 20, 4) ∈ al := hs.1 _ (List.mem_of_getElem? (i := 12) rfl)
set_option maxRecDepth 100000 in
theorem sa_4_3 {al : List (Nat × Nat × Nat)} {ro : Nat → Nat → Option Nat} (hs : SH al ro) : (16 * 4 + 3, 4, 3) ∈ al := hs.1 _ (List.mem_of_getElem? (i := 13) rfl)
set_option maxRecDepth 100000 in
theorem sa_4_4 {al : List (Nat × Nat × Nat)} {ro : Nat → Nat → Option Nat} (hs : SH al ro) : (16 * 4 + 4, 20, 60) ∈ al := hs.1 _ (List.mem_of_getElem? (i := 14) rfl)
set_option maxRecDepth 100000 in
theorem sa_5_0 {al : List (Nat × Nat × Nat)} {ro : Nat → Nat → Option Nat} (hs : SH al ro) : (16 * 5 + 0, 1, 12) ∈ al := hs.1 _ (List.mem_of_getElem? (i := 15) rfl)
set_option maxRecDepth 100000 in
theorem sa_5_1 {al : List (Nat × Nat × Nat)} {ro : Nat → Nat → Option Nat} (hs : SH al ro) : (16 * 5 + 1, 20, 56) ∈ al := hs.1 _ (List.mem_of_getElem? (i := 16) rfl)
set_option maxRecDepth 100000 in
theorem sa_5_2 {al : List (Nat × Nat × Nat)} {ro : Nat → Nat → Option Nat} (hs : SH al ro) : (16 * 5 + 2, 20, 4) ∈ al := hs.1 _ (List.mem_of_getElem? (i := 17) rfl)
set_option maxRecDepth 100000 in
theorem sa_5_3 {al : List (Nat × Nat × Nat)} {ro : Nat → Nat → Option Nat} (hs : SH al ro) : (16 * 5 + 3, 4, 3) ∈ al := hs.1 _ (List.mem_of_getElem? (i := 18) rfl)
set_option maxRecDepth 100000 in
theorem sa_5_4 {al : List (Nat × Nat × Nat)} {ro : Nat → Nat → Option Nat} (hs : SH al ro) : (16 * 5 + 4, 20, 60) ∈ al := hs.1 _ (List.mem_of_getElem? (i := 19) rfl)
set_option maxRecDepth 100000 in
theorem sa_6_0 {al : List (Nat × Nat × Nat)} {ro : Nat → Nat → Option Nat} (hs : SH al ro) : (16 * 6 + 0, 1, 12) ∈ al := hs.1 _ (List.mem_of_getElem? (i := 20) rfl)
set_option maxRecDepth 100000 in
theorem sa_6_1 {al : List (Nat × Nat × Nat)} {ro : Nat → Nat → Option Nat} (hs : SH al ro) : (16 * 6 + 1, 20, 56) ∈ al := hs.1 _ (List.mem_of_getElem? (i := 21) rfl)
set_option maxRecDepth 100000 in
theorem sa_6_2 {al : List (Nat × Nat × Nat)} {ro : Nat → Nat → Option Nat} (hs : SH al ro) : (16 * 6 + 2, 20, 4) ∈ al := hs.1 _ (List.mem_of_getElem? (i := 22) rfl)
set_option maxRecDepth 100000 in
theorem sa_6_3 {al : List (Nat × Nat × Nat)} {ro : Nat → Nat → Option Nat} (hs : SH al ro) : (16 * 6 + 3, 4, 3) ∈ al := hs.1 _ (List.mem_of_getElem? (i := 23) rfl)
set_option maxRecDepth 100000 in
theorem sa_6_4 {al : List (Nat × Nat × Nat)} {ro : Nat → Nat → Option Nat} (hs : SH al ro) : (16 * 6 + 4, 20, 60) ∈ al := hs.1 _ (List.mem_of_getElem? (i := 24) rfl)
set_option maxRecDepth 100000 in
theorem sa_7_0 {al : List (Nat × Nat × Nat)} {ro : Nat → Nat → Option Nat} (hs : SH al ro) : (16 * 7 + 0, 1, 12) ∈ al := hs.1 _ (List.mem_of_getElem? (i := 25) rfl)
set_option maxRecDepth 100000 in
theorem sa_7_1 {al : List (Nat × Nat × Nat)} {ro : Nat → Nat → Option Nat} (hs : SH al ro) : (16 * 7 + 1, 20, 56) ∈ al := hs.1 _ (List.mem_of_getElem? (i := 26) rfl)
set_option maxRecDepth 100000 in
theorem sa_7_2 {al : List (Nat × Nat × Nat)} {ro : Nat → Nat → Option Nat} (hs : SH al ro) : (16 * 7 + 2, 20, 4) ∈ al := hs.1 _ (List.mem_of_getElem? (i := 27) rfl)
set_option maxRecDepth 100000 in
theorem sa_7_3 {al : List (Nat × Nat × Nat)} {ro : Nat → Nat → Option Nat} (hs : SH al ro) : (16 * 7 + 3, 4, 3) ∈ al := hs.1 _ (List.mem_of_getElem? (i := 28) rfl)
set_option maxRecDepth 100000 in
theorem sa_7_4 {al : List (Nat × Nat × Nat)} {ro : Nat → Nat → Option Nat} (hs : SH al ro) : (16 * 7 + 4, 20, 60) ∈ al := hs.1 _ (List.mem_of_getElem? (i := 29) rfl)
set_option maxRecDepth 100000 in
theorem sa_8_0 {al : List (Nat × Nat × Nat)} {ro : Nat → Nat → Option Nat} (hs : SH al ro) : (16 * 8 + 0, 1, 12) ∈ al := hs.1 _ (List.mem_of_getElem? (i := 30) rfl)
set_option maxRecDepth 100000 in
theorem sa_8_1 {al : List (Nat × Nat × Nat)} {ro : Nat → Nat → Option Nat} (hs : SH al ro) : (16 * 8 + 1, 20, 56) ∈ al := hs.1 _ (List.mem_of_getElem? (i := 31) rfl)
set_option maxRecDepth 100000 in
theorem sa_8_2 {al : List (Nat × Nat × Nat)} {ro : Nat → Nat → Option Nat} (hs : SH al ro) : (16 * 8 + 2, 20, 4) ∈ al := hs.1 _ (List.mem_of_getElem? (i := 32) rfl)
set_option maxRecDepth 100000 in
theorem sa_8_3 {al : List (Nat × Nat × Nat)} {ro : Nat → Nat → Option Nat} (hs : SH al ro) : (16 * 8 + 3, 4, 3) ∈ al := hs.1 _ (List.mem_of_getElem? (i := 33) rfl)
set_option maxRecDepth 100000 in
theorem sa_8_4 {al : List (Nat × Nat × Nat)} {ro : Nat → Nat → Option Nat} (hs : SH al ro) : (16 * 8 + 4, 20, 60) ∈ al := hs.1 _ (List.mem_of_getElem? (i := 34) rfl)
set_option maxRecDepth 100000 in
theorem sa_9_0 {al : List (Nat × Nat × Nat)} {ro : Nat → Nat → Option Nat} (hs : SH al ro) : (16 * 9 + 0, 1, 12) ∈ al := hs.1 _ (List.mem_of_getElem? (i := 35) rfl)
set_option maxRecDepth 100000 in
theorem sa_9_1 {al : List (Nat × Nat × Nat)} {ro : Nat → Nat → Option Nat} (hs : SH al ro) : (16 * 9 + 1, 20, 56) ∈ al := hs.1 _ (List.mem_of_getElem? (i := 36) rfl)
set_option maxRecDepth 100000 in
theorem sa_9_2 {al : List (Nat × Nat × Nat)} {ro : Nat → Nat → Option Nat} (hs : SH al ro) : (16 * 9 + 2, 20, 4) ∈ al := hs.1 _ (List.mem_of_getElem? (i := 37) rfl)
set_option maxRecDepth 100000 in
theorem sa_9_3 {al : List (Nat × Nat × Nat)} {ro : Nat → Nat → Option Nat} (hs : SH al ro) : (16 * 9 + 3, 4, 3) ∈ al := hs.1 _ (List.mem_of_getElem? (i := 38) rfl)
set_option maxRecDepth 100000 in
theorem sa_9_4 {al : List (Nat × Nat × Nat)} {ro : Nat → Nat → Option Nat} (hs : SH al ro) : (16 * 9 + 4, 20, 60) ∈ al := hs.1 _ (List.mem_of_getElem? (i := 39) rfl)
set_option maxRecDepth 100000 in
theorem sa_10_0 {al : List (Nat × Nat × Nat)} {ro : Nat → Nat → Option Nat} (hs : SH al ro) : (16 * 10 + 0, 1, 12) ∈ al := hs.1 _ (List.mem_of_getElem? (i := 40) rfl)
set_option maxRecDepth 100000 in
theorem sa_10_1 {al : List (Nat × Nat × Nat)} {ro : Nat → Nat → Option Nat} (hs : SH al ro) : (16 * 10 + 1, 20, 56) ∈ al := hs.1 _ (List.mem_of_getElem? (i := 41) rfl)
set_option maxRecDepth 100000 in
theorem sa_10_2 {al : List (Nat × Nat × Nat)} {ro : Nat → Nat → Option Nat} (hs : SH al ro) : (16 * 10 + 2, 20, 4) ∈ al := hs.1 _ (List.mem_of_getElem? (i := 42) rfl)
set_option maxRecDepth 100000 in
theorem sa_10_3 {al : List (Nat × Nat × Nat)} {ro : Nat → Nat → Option Nat} (hs : SH al ro) : (16 * 10 + 3, 4, 3) ∈ al := hs.1 _ (List.mem_of_getElem? (i := 43) rfl)
set_option maxRecDepth 100000 in
theorem sa_10_4 {al : List (Nat × Nat × Nat)} {ro : Nat → Nat → Option Nat} (hs : SH al ro) : (16 * 10 + 4, 20, 60) ∈ al := hs.1 _ (List.mem_of_getElem? (i := 44) rfl)
set_option maxRecDepth 100000 in
theorem sa_11_0 {al : List (Nat × Nat × Nat)} {ro : Nat → Nat → Option Nat} (hs : SH al ro) : (16 * 11 + 0, 1, 12) ∈ al := hs.1 _ (List.mem_of_getElem? (i := 45) rfl)
set_option maxRecDepth 100000 in
theorem sa_11_1 {al : List (Nat × Nat × Nat)} {ro : Nat → Nat → Option Nat} (hs : SH al ro) : (16 * 11 + 1, 20, 56) ∈ al := hs.1 _ (List.mem_of_getElem? (i := 46) rfl)
set_option maxRecDepth 100000 in
theorem sa_11_2 {al : List (Nat × Nat × Nat)} {ro : Nat → Nat → Option Nat} (hs : SH al ro) : (16 * 11 + 2, 20, 4) ∈ al := hs.1 _ (List.mem_of_getElem? (i := 47) rfl)
set_option maxRecDepth 100000 in
theorem sa_11_3 {al : List (Nat × Nat × Nat)} {ro : Nat → Nat → Option Nat} (hs : SH al ro) : (16 * 11 + 3, 4, 3) ∈ al := hs.1 _ (List.mem_of_getElem? (i := 48) rfl)
set_option maxRecDepth 100000 in
theorem sa_11_4 {al : List (Nat × Nat × Nat)} {ro : Nat → Nat → Option Nat} (hs : SH al ro) : (16 * 11 + 4, 20, 60) ∈ al := hs.1 _ (List.mem_of_getElem? (i := 49) rfl)
set_option maxRecDepth 100000 in
theorem sa_12_0 {al : List (Nat × Nat × Nat)} {ro : Nat → Nat → Option Nat} (hs : SH al ro) : (16 * 12 + 0, 1, 12) ∈ al := hs.1 _ (List.mem_of_getElem? (i := 50) rfl)
set_option maxRecDepth 100000 in
theorem sa_12_1 {al : List (Nat × Nat × Nat)} {ro : Nat → Nat → Option Nat} (hs : SH al ro) : (16 * 12 + 1, 20, 56) ∈ al := hs.1 _ (List.mem_of_getElem? (i := 51) rfl)
set_option maxRecDepth 100000 in
theorem sa_12_2 {al : List (Nat × Nat × Nat)} {ro : Nat → Nat → Option Nat} (hs : SH al ro) : (16 * 12 + 2, 20, 4) ∈ al := hs.1 _ (List.mem_of_getElem? (i := 52) rfl)
set_option maxRecDepth 100000 in
theorem sa_12_3 {al : List (Nat × Nat × Nat)} {ro : Nat → Nat → Option Nat} (hs : SH al ro) : (16 * 12 + 3, 4, 3) ∈ al := hs.1 _ (List.mem_of_getElem? (i := 53) rfl)
set_option maxRecDepth 100000 in
theorem sa_12_4 {al : List (Nat × Nat × Nat)} {ro : Nat → Nat → Option Nat} (hs : SH al ro) : (16 * 12 + 4, 20, 60) ∈ al := hs.1 _ (List.mem_of_getElem? (i := 54) rfl)
set_option maxRecDepth 100000 in
theorem sa_13_0 {al : List (Nat × Nat × Nat)} {ro : Nat → Nat → Option Nat} (hs : SH al ro) : (16 * 13 + 0, 1, 12) ∈ al := hs.1 _ (List.mem_of_getElem? (i := 55) rfl)
set_option maxRecDepth 100000 in
theorem sa_13_1 {al : List (Nat × Nat × Nat)} {ro : Nat → Nat → Option Nat} (hs : SH al ro) : (16 * 13 + 1, 20, 56) ∈ al := hs.1 _ (List.mem_of_getElem? (i := 56) rfl)
set_option maxRecDepth 100000 in
theorem sa_13_2 {al : List (Nat × Nat × Nat)} {ro : Nat → Nat → Option Nat} (hs : SH al ro) : (16 * 13 + 2, 20, 4) ∈ al := hs.1 _ (List.mem_of_getElem? (i := 57) rfl)
set_option maxRecDepth 100000 in
theorem sa_13_3 {al : List (Nat × Nat × Nat)} {ro : Nat → Nat → Option Nat} (hs : SH al ro) : (16 * 13 + 3, 4, 3) ∈ al := hs.1 _ (List.mem_of_getElem? (i := 58) rfl)
set_option maxRecDepth 100000 in
theorem sa_13_4 {al : List (Nat × Nat × Nat)} {ro : Nat → Nat → Option Nat} (hs : SH al ro) : (16 * 13 + 4, 20, 60) ∈ al := hs.1 _ (List.mem_of_getElem? (i := 59) rfl)
set_option maxRecDepth 100000 in
theorem sa_14_0 {al : List (Nat × Nat × Nat)} {ro : Nat → Nat → Option Nat} (hs : SH al ro) : (16 * 14 + 0, 1, 12) ∈ al := hs.1 _ (List.mem_of_getElem? (i := 60) rfl)
set_option maxRecDepth 100000 in
theorem sa_14_1 {al : List (Nat × Nat × Nat)} {ro : Nat → Nat → Option Nat} (hs : SH al ro) : (16 * 14 + 1, 20, 56) ∈ al := hs.1 _ (List.mem_of_getElem? (i := 61) rfl)
set_option maxRecDepth 100000 in
theorem sa_14_2 {al : List (Nat × Nat × Nat)} {ro : Nat → Nat → Option Nat} (hs : SH al ro) : (16 * 14 + 2, 20, 4) ∈ al := hs.1 _ (List.mem_of_getElem? (i := 62) rfl)
set_option maxRecDepth 100000 in
theorem sa_14_3 {al : List (Nat × Nat × Nat)} {ro : Nat → Nat → Option Nat} (hs : SH al ro) : (16 * 14 + 3, 4, 3) ∈ al := hs.1 _ (List.mem_of_getElem? (i := 63) rfl)
set_option maxRecDepth 100000 in
theorem sa_14_4 {al : List (Nat × Nat × Nat)} {ro : Nat → Nat → Option Nat} (hs : SH al ro) : (16 * 14 + 4, 20, 60) ∈ al := hs.1 _ (List.mem_of_getElem? (i := 64) rfl)
set_option maxRecDepth 100000 in
theorem sa_15_0 {al : List (Nat × Nat × Nat)} {ro : Nat → Nat → Option Nat} (hs : SH al ro) : (16 * 15 + 0, 1, 12) ∈ al := hs.1 _ (List.mem_of_getElem? (i := 65) rfl)
set_option maxRecDepth 100000 in
theorem sa_15_1 {al : List (Nat × Nat × Nat)} {ro : Nat → Nat → Option Nat} (hs : SH al ro) : (16 * 15 + 1, 20, 56) ∈ al := hs.1 _ (List.mem_of_getElem? (i := 66) rfl)
set_option maxRecDepth 100000 in
theorem sa_15_2 {al : List (Nat × Nat × Nat)} {ro : Nat → Nat → Option Nat} (hs : SH al ro) : (16 * 15 + 2, 20, 4) ∈ al := hs.1 _ (List.mem_of_getElem? (i := 67) rfl)
set_option maxRecDepth 100000 in
theorem sa_15_3 {al : List (Nat × Nat × Nat)} {ro : Nat → Nat → Option Nat} (hs : SH al ro) : (16 * 15 + 3, 4, 3) ∈ al := hs.1 _ (List.mem_of_getElem? (i := 68) rfl)
set_option maxRecDepth 100000 in
theorem sa_15_4 {al : List (Nat × Nat × Nat)} {ro : Nat → Nat → Option Nat} (hs : SH al ro) : (16 * 15 + 4, 20, 60) ∈ al := hs.1 _ (List.mem_of_getElem? (i := 69) rfl)
set_option maxRecDepth 100000 in
theorem sa_16_0 {al : List (Nat × Nat × Nat)} {ro : Nat → Nat → Option Nat} (hs : SH al ro) : (16 * 16 + 0, 1, 12) ∈ al := hs.1 _ (List.mem_of_getElem? (i := 70) rfl)
set_option maxRecDepth 100000 in
theorem sa_16_1 {al : List (Nat × Nat × Nat)} {ro : Nat → Nat → Option Nat} (hs : SH al ro) : (16 * 16 + 1, 20, 56) ∈ al := hs.1 _ (List.mem_of_getElem? (i := 71) rfl)
set_option maxRecDepth 100000 in
theorem sa_16_2 {al : List (Nat × Nat × Nat)} {ro : Nat → Nat → Option Nat} (hs : SH al ro) : (16 * 16 + 2, 20, 4) ∈ al := hs.1 _ (List.mem_of_getElem? (i := 72) rfl)
set_option maxRecDepth 100000 in
theorem sa_16_3 {al : List (Nat × Nat × Nat)} {ro : Nat → Nat → Option Nat} (hs : SH al ro) : (16 * 16 + 3, 4, 3) ∈ al := hs.1 _ (List.mem_of_getElem? (i := 73) rfl)
set_option maxRecDepth 100000 in
theorem sa_16_4 {al : List (Nat × Nat × Nat)} {ro : Nat → Nat → Option Nat} (hs : SH al ro) : (16 * 16 + 4, 20, 60) ∈ al := hs.1 _ (List.mem_of_getElem? (i := 74) rfl)
set_option maxRecDepth 100000 in
theorem sa_17_0 {al : List (Nat × Nat × Nat)} {ro : Nat → Nat → Option Nat} (hs : SH al ro) : (16 * 17 + 0, 1, 12) ∈ al := hs.1 _ (List.mem_of_getElem? (i := 75) rfl)
set_option maxRecDepth 100000 in
theorem sa_17_1 {al : List (Nat × Nat × Nat)} {ro : Nat → Nat → Option Nat} (hs : SH al ro) : (16 * 17 + 1, 20, 56) ∈ al := hs.1 _ (List.mem_of_getElem? (i := 76) rfl)
set_option maxRecDepth 100000 in
theorem sa_17_2 {al : List (Nat × Nat × Nat)} {ro : Nat → Nat → Option Nat} (hs : SH al ro) : (16 * 17 + 2, 20, 4) ∈ al := hs.1 _ (List.mem_of_getElem? (i := 77) rfl)
set_option maxRecDepth 100000 in
theorem sa_17_3 {al : List (Nat × Nat × Nat)} {ro : Nat → Nat → Option Nat} (hs : SH al ro) : (16 * 17 + 3, 4, 3) ∈ al := hs.1 _ (List.mem_of_getElem? (i := 78) rfl)
set_option maxRecDepth 100000 in
theorem sa_17_4 {al : List (Nat × Nat × Nat)} {ro : Nat → Nat → Option Nat} (hs : SH al ro) : (16 * 17 + 4, 20, 60) ∈ al := hs.1 _ (List.mem_of_getElem? (i := 79) rfl)
set_option maxRecDepth 100000 in
theorem sa_18_0 {al : List (Nat × Nat × Nat)} {ro : Nat → Nat → Option Nat} (hs : SH al ro) : (16 * 18 + 0, 1, 12) ∈ al := hs.1 _ (List.mem_of_getElem? (i := 80) rfl)
set_option maxRecDepth 100000 in
theorem sa_18_1 {al : List (Nat × Nat × Nat)} {ro : Nat → Nat → Option Nat} (hs : SH al ro) : (16 * 18 + 1, 20, 56) ∈ al := hs.1 _ (List.mem_of_getElem? (i := 81) rfl)
set_option maxRecDepth 100000 in
theorem sa_18_2 {al : List (Nat × Nat × Nat)} {ro : Nat → Nat → Option Nat} (hs : SH al ro) : (16 * 18 + 2, 20, 4) ∈ al := hs.1 _ (List.mem_of_getElem? (i := 82) rfl)
set_option maxRecDepth 100000 in
theorem sa_18_3 {al : List (Nat × Nat × Nat)} {ro : Nat → Nat → Option Nat} (hs : SH al ro) : (16 * 18 + 3, 4, 3) ∈ al := hs.1 _ (List.mem_of_getElem? (i := 83) rfl)
set_option maxRecDepth 100000 in
theorem sa_18_4 {al : List (Nat × Nat × Nat)} {ro : Nat → Nat → Option Nat} (hs : SH al ro) : (16 * 18 + 4, 20, 60) ∈ al := hs.1 _ (List.mem_of_getElem? (i := 84) rfl)
set_option maxRecDepth 100000 in
theorem sa_19_0 {al : List (Nat × Nat × Nat)} {ro : Nat → Nat → Option Nat} (hs : SH al ro) : (16 * 19 + 0, 3, 7) ∈ al := hs.1 _ (List.mem_of_getElem? (i := 85) rfl)
set_option maxRecDepth 100000 in
theorem sa_19_1 {al : List (Nat × Nat × Nat)} {ro : Nat → Nat → Option Nat} (hs : SH al ro) : (16 * 19 + 1, 20, 12) ∈ al := hs.1 _ (List.mem_of_getElem? (i := 86) rfl)
set_option maxRecDepth 100000 in
theorem sa_19_2 {al : List (Nat × Nat × Nat)} {ro : Nat → Nat → Option Nat} (hs : SH al ro) : (16 * 19 + 2, 20, 12) ∈ al := hs.1 _ (List.mem_of_getElem? (i := 87) rfl)
set_option maxRecDepth 100000 in
theorem sa_19_3 {al : List (Nat × Nat × Nat)} {ro : Nat → Nat → Option Nat} (hs : SH al ro) : (16 * 19 + 3, 20, 12) ∈ al := hs.1 _ (List.mem_of_getElem? (i := 88) rfl)
set_option maxRecDepth 100000 in
theorem sa_19_4 {al : List (Nat × Nat × Nat)} {ro : Nat → Nat → Option Nat} (hs : SH al ro) : (16 * 19 + 4, 20, 400) ∈ al := hs.1 _ (List.mem_of_getElem? (i := 89) rfl)
set_option maxRecDepth 100000 in
theorem sa_19_5 {al : List (Nat × Nat × Nat)} {ro : Nat → Nat → Option Nat} (hs : SH al ro) : (16 * 19 + 5, 20, 8) ∈ al := hs.1 _ (List.mem_of_getElem? (i := 90) rfl)
set_option maxRecDepth 100000 in
theorem sa_20_0 {al : List (Nat × Nat × Nat)} {ro : Nat → Nat → Option Nat} (hs : SH al ro) : (16 * 20 + 0, 3, 7) ∈ al := hs.1 _ (List.mem_of_getElem? (i := 91) rfl)
set_option maxRecDepth 100000 in
theorem sa_20_1 {al : List (Nat × Nat × Nat)} {ro : Nat → Nat → Option Nat} (hs : SH al ro) : (16 * 20 + 1, 20, 12) ∈ al := hs.1 _ (List.mem_of_getElem? (i := 92) rfl)
set_option maxRecDepth 100000 in
theorem sa_20_2 {al : List (Nat × Nat × Nat)} {ro : Nat → Nat → Option Nat} (hs : SH al ro) : (16 * 20 + 2, 20, 12) ∈ al := hs.1 _ (List.mem_of_getElem? (i := 93) rfl)
set_option maxRecDepth 100000 in
theorem sa_20_3 {al : List (Nat × Nat × Nat)} {ro : Nat → Nat → Option Nat} (hs : SH al ro) : (16 * 20 + 3, 20, 12) ∈ al := hs.1 _ (List.mem_of_getElem? (i := 94) rfl)
set_option maxRecDepth 100000 in
theorem sa_20_4 {al : List (Nat × Nat × Nat)} {ro : Nat → Nat → Option Nat} (hs : SH al ro) : (16 * 20 + 4, 20, 400) ∈ al := hs.1 _ (List.mem_of_getElem? (i := 95) rfl)
set_option maxRecDepth 100000 in
theorem sa_20_5 {al : List (Nat × Nat × Nat)} {ro : Nat → Nat → Option Nat} (hs : SH al ro) : (16 * 20 + 5, 20, 8) ∈ al := hs.1 _ (List.mem_of_getElem? (i := 96) rfl)
set_option maxRecDepth 100000 in
theorem sa_21_0 {al : List (Nat × Nat × Nat)} {ro : Nat → Nat → Option Nat} (hs : SH al ro) : (16 * 21 + 0, 3, 7) ∈ al := hs.1 _ (List.mem_of_getElem? (i := 97) rfl)
set_option maxRecDepth 100000 in
theorem sa_21_1 {al : List (Nat × Nat × Nat)} {ro : Nat → Nat → Option Nat} (hs : SH al ro) : (16 * 21 + 1, 20, 12) ∈ al := hs.1 _ (List.mem_of_getElem? (i := 98) rfl)
set_option maxRecDepth 100000 in
theorem sa_21_2 {al : List (Nat × Nat × Nat)} {ro : Nat → Nat → Option Nat} (hs : SH al ro) : (16 * 21 + 2, 20, 12) ∈ al := hs.1 _ (List.mem_of_getElem? (i := 99) rfl)
set_option maxRecDepth 100000 in
theorem sa_21_3 {al : List (Nat × Nat × Nat)} {ro : Nat → Nat → Option Nat} (hs : SH al ro) : (16 * 21 + 3, 20, 12) ∈ al := hs.1 _ (List.mem_of_getElem? (i := 100) rfl)
set_option maxRecDepth 100000 in
theorem sa_21_4 {al : List (Nat × Nat × Nat)} {ro : Nat → Nat → Option Nat} (hs : SH al ro) : (16 * 21 + 4, 20, 400) ∈ al := hs.1 _ (List.mem_of_getElem? (i := 101) rfl)
set_option maxRecDepth 100000 in
theorem sa_21_5 {al : List (Nat × Nat × Nat)} {ro : Nat → Nat → Option Nat} (hs : SH al ro) : (16 * 21 + 5, 20, 8) ∈ al := hs.1 _ (List.mem_of_getElem? (i := 102) rfl)
set_option maxRecDepth 100000 in
theorem sa_22_0 {al : List (Nat × Nat × Nat)} {ro : Nat → Nat → Option Nat} (hs : SH al ro) : (16 * 22 + 0, 2, 3) ∈ al := hs.1 _ (List.mem_of_getElem? (i := 103) rfl)
set_option maxRecDepth 100000 in
theorem sa_22_1 {al : List (Nat × Nat × Nat)} {ro : Nat → Nat → Option Nat} (hs : SH al ro) : (16 * 22 + 1, 20, 7) ∈ al := hs.1 _ (List.mem_of_getElem? (i := 104) rfl)
set_option maxRecDepth 100000 in
theorem sa_22_2 {al : List (Nat × Nat × Nat)} {ro : Nat → Nat → Option Nat} (hs : SH al ro) : (16 * 22 + 2, 21, 7) ∈ al := hs.1 _ (List.mem_of_getElem? (i := 105) rfl)
set_option maxRecDepth 100000 in
theorem sa_23_0 {al : List (Nat × Nat × Nat)} {ro : Nat → Nat → Option Nat} (hs : SH al ro) : (16 * 23 + 0, 7, 4) ∈ al := hs.1 _ (List.mem_of_getElem? (i := 106) rfl)
set_option maxRecDepth 100000 in
theorem sa_23_1 {al : List (Nat × Nat × Nat)} {ro : Nat → Nat → Option Nat} (hs : SH al ro) : (16 * 23 + 1, 20, 128) ∈ al := hs.1 _ (List.mem_of_getElem? (i := 107) rfl)
set_option maxRecDepth 100000 in
theorem sa_23_2 {al : List (Nat × Nat × Nat)} {ro : Nat → Nat → Option Nat} (hs : SH al ro) : (16 * 23 + 2, 20, 7) ∈ al := hs.1 _ (List.mem_of_getElem? (i := 108) rfl)
set_option maxRecDepth 100000 in
theorem sa_23_3 {al : List (Nat × Nat × Nat)} {ro : Nat → Nat → Option Nat} (hs : SH al ro) : (16 * 23 + 3, 20, 7) ∈ al := hs.1 _ (List.mem_of_getElem? (i := 109) rfl)
set_option maxRecDepth 100000 in
theorem sa_23_4 {al : List (Nat × Nat × Nat)} {ro : Nat → Nat → Option Nat} (hs : SH al ro) : (16 * 23 + 4, 20, 7) ∈ al := hs.1 _ (List.mem_of_getElem? (i := 110) rfl)
set_option maxRecDepth 100000 in
theorem sa_24_0 {al : List (Nat × Nat × Nat)} {ro : Nat → Nat → Option Nat} (hs : SH al ro) : (16 * 24 + 0, 5, 8) ∈ al := hs.1 _ (List.mem_of_getElem? (i := 111) rfl)
set_option maxRecDepth 100000 in
theorem sa_24_1 {al : List (Nat × Nat × Nat)} {ro : Nat → Nat → Option Nat} (hs : SH al ro) : (16 * 24 + 1, 20, 40) ∈ al := hs.1 _ (List.mem_of_getElem? (i := 112) rfl)
set_option maxRecDepth 100000 in
theorem sa_24_2 {al : List (Nat × Nat × Nat)} {ro : Nat → Nat → Option Nat} (hs : SH al ro) : (16 * 24 + 2, 22, 144) ∈ al := hs.1 _ (List.mem_of_getElem? (i := 113) rfl)
set_option maxRecDepth 100000 in
theorem sa_24_3 {al : List (Nat × Nat × Nat)} {ro : Nat → Nat → Option Nat} (hs : SH al ro) : (16 * 24 + 3, 20, 5) ∈ al := hs.1 _ (List.mem_of_getElem? (i := 114) rfl)
set_option maxRecDepth 100000 in
theorem sa_25_0 {al : List (Nat × Nat × Nat)} {ro : Nat → Nat → Option Nat} (hs : SH al ro) : (16 * 25 + 0, 0, 1) ∈ al := hs.1 _ (List.mem_of_getElem? (i := 115) rfl)
set_option maxRecDepth 100000 in
theorem sa_25_1 {al : List (Nat × Nat × Nat)} {ro : Nat → Nat → Option Nat} (hs : SH al ro) : (16 * 25 + 1, 20, 128) ∈ al := hs.1 _ (List.mem_of_getElem? (i := 116) rfl)
set_option maxRecDepth 100000 in
theorem sa_26_0 {al : List (Nat × Nat × Nat)} {ro : Nat → Nat → Option Nat} (hs : SH al ro) : (16 * 26 + 0, 6, 3) ∈ al := hs.1 _ (List.mem_of_getElem? (i := 117) rfl)
set_option maxRecDepth 100000 in
theorem sa_26_1 {al : List (Nat × Nat × Nat)} {ro : Nat → Nat → Option Nat} (hs : SH al ro) : (16 * 26 + 1, 20, 7) ∈ al := hs.1 _ (List.mem_of_getElem? (i := 118) rfl)
set_option maxRecDepth 100000 in
theorem sa_26_2 {al : List (Nat × Nat × Nat)} {ro : Nat → Nat → Option Nat} (hs : SH al ro) : (16 * 26 + 2, 20, 896) ∈ al := hs.1 _ (List.mem_of_getElem? (i := 119) rfl)
set_option maxRecDepth 100000 in
theorem sa_32_0 {al : List (Nat × Nat × Nat)} {ro : Nat → Nat → Option Nat} (hs : SH al ro) : (16 * 32 + 0, 10, 27) ∈ al := hs.1 _ (List.mem_of_getElem? (i := 120) rfl)
set_option maxRecDepth 100000 in
theorem sa_32_1 {al : List (Nat × Nat × Nat)} {ro : Nat → Nat → Option Nat} (hs : SH al ro) : (16 * 32 + 1, 20, 772) ∈ al := hs.1 _ (List.mem_of_getElem? (i := 121) rfl)
set_option maxRecDepth 100000 in
theorem sa_32_2 {al : List (Nat × Nat × Nat)} {ro : Nat → Nat → Option Nat} (hs : SH al ro) : (16 * 32 + 2, 20, 772) ∈ al := hs.1 _ (List.mem_of_getElem? (i := 122) rfl)
set_option maxRecDepth 100000 in
theorem sa_32_3 {al : List (Nat × Nat × Nat)} {ro : Nat → Nat → Option Nat} (hs : SH al ro) : (16 * 32 + 3, 20, 372) ∈ al := hs.1 _ (List.mem_of_getElem? (i := 123) rfl)
set_option maxRecDepth 100000 in
theorem sa_32_4 {al : List (Nat × Nat × Nat)} {ro : Nat → Nat → Option Nat} (hs : SH al ro) : (16 * 32 + 4, 20, 4464) ∈ al := hs.1 _ (List.mem_of_getElem? (i := 124) rfl)
set_option maxRecDepth 100000 in
theorem sa_32_5 {al : List (Nat × Nat × Nat)} {ro : Nat → Nat → Option Nat} (hs : SH al ro) : (16 * 32 + 5, 20, 400) ∈ al := hs.1 _ (List.mem_of_getElem? (i := 125) rfl)
set_option maxRecDepth 100000 in
theorem sa_32_6 {al : List (Nat × Nat × Nat)} {ro : Nat → Nat → Option Nat} (hs : SH al ro) : (16 * 32 + 6, 20, 7) ∈ al := hs.1 _ (List.mem_of_getElem? (i := 126) rfl)
set_option maxRecDepth 100000 in
theorem sa_32_7 {al : List (Nat × Nat × Nat)} {ro : Nat → Nat → Option Nat} (hs : SH al ro) : (16 * 32 + 7, 20, 7) ∈ al := hs.1 _ (List.mem_of_getElem? (i := 127) rfl)
set_option maxRecDepth 100000 in
theorem sa_32_8 {al : List (Nat × Nat × Nat)} {ro : Nat → Nat → Option Nat} (hs : SH al ro) : (16 * 32 + 8, 20, 32768) ∈ al := hs.1 _ (List.mem_of_getElem? (i := 128) rfl)
set_option maxRecDepth 100000 in
theorem sa_32_9 {al : List (Nat × Nat × Nat)} {ro : Nat → Nat → Option Nat} (hs : SH al ro) : (16 * 32 + 9, 20, 128) ∈ al := hs.1 _ (List.mem_of_getElem? (i := 129) rfl)
set_option maxRecDepth 100000 in
theorem sa_32_10 {al : List (Nat × Nat × Nat)} {ro : Nat → Nat → Option Nat} (hs : SH al ro) : (16 * 32 + 10, 20, 1024) ∈ al := hs.1 _ (List.mem_of_getElem? (i := 130) rfl)
set_option maxRecDepth 100000 in
theorem sa_32_11 {al : List (Nat × Nat × Nat)} {ro : Nat → Nat → Option Nat} (hs : SH al ro) : (16 * 32 + 11, 22, 144) ∈ al := hs.1 _ (List.mem_of_getElem? (i := 131) rfl)
set_option maxRecDepth 100000 in
theorem sa_32_12 {al : List (Nat × Nat × Nat)} {ro : Nat → Nat → Option Nat} (hs : SH al ro) : (16 * 32 + 12, 20, 7) ∈ al := hs.1 _ (List.mem_of_getElem? (i := 132) rfl)
set_option maxRecDepth 100000 in
theorem sa_32_13 {al : List (Nat × Nat × Nat)} {ro : Nat → Nat → Option Nat} (hs : SH al ro) : (16 * 32 + 13, 20, 7) ∈ al := hs.1 _ (List.mem_of_getElem? (i := 133) rfl)
set_option maxRecDepth 100000 in
theorem sa_32_14 {al : List (Nat × Nat × Nat)} {ro : Nat → Nat → Option Nat} (hs : SH al ro) : (16 * 32 + 14, 20, 4) ∈ al := hs.1 _ (List.mem_of_getElem? (i := 134) rfl)
set_option maxRecDepth 100000 in
theorem sr_1_0_0 {al : List (Nat × Nat × Nat)} {ro : Nat → Nat → Option Nat} (hs : SH al ro) : ro (16 * 1 + 0) 0 = some (16 * 2 + 0) := hs.2 (16 * 1 + 0, 0, 16 * 2 + 0) (List.mem_of_getElem? (i := 0) rfl)
set_option maxRecDepth 100000 in
theorem sr_1_0_1 {al : List (Nat × Nat × Nat)} {ro : Nat → Nat → Option Nat} (hs : SH al ro) : ro (16 * 1 + 0) 1 = some (16 * 3 + 0) := hs.2 (16 * 1 + 0, 1, 16 * 3 + 0) (List.mem_of_getElem? (i := 1) rfl)
set_option maxRecDepth 100000 in
theorem sr_1_0_2 {al : List (Nat × Nat × Nat)} {ro : Nat → Nat → Option Nat} (hs : SH al ro) : ro (16 * 1 + 0) 2 = some (16 * 4 + 0) := hs.2 (16 * 1 + 0, 2, 16 * 4 + 0) (List.mem_of_getElem? (i := 2) rfl)
set_option maxRecDepth 100000 in
theorem sr_1_0_3 {al : List (Nat × Nat × Nat)} {ro : Nat → Nat → Option Nat} (hs : SH al ro) : ro (16 * 1 + 0) 3 = some (16 * 5 + 0) := hs.2 (16 * 1 + 0, 3, 16 * 5 + 0) (List.mem_of_getElem? (i := 3) rfl)
set_option maxRecDepth 100000 in
theorem sr_1_0_4 {al : List (Nat × Nat × Nat)} {ro : Nat → Nat → Option Nat} (hs : SH al ro) : ro (16 * 1 + 0) 4 = some (16 * 19 + 0) := hs.2 (16 * 1 + 0, 4, 16 * 19 + 0) (List.mem_of_getElem? (i := 4) rfl)
set_option maxRecDepth 100000 in
theorem sr_1_0_5 {al : List (Nat × Nat × Nat)} {ro : Nat → Nat → Option Nat} (hs : SH al ro) : ro (16 * 1 + 0) 5 = some (16 * 20 + 0) := hs.2 (16 * 1 + 0, 5, 16 * 20 + 0) (List.mem_of_getElem? (i := 5) rfl)
set_option maxRecDepth 100000 in
theorem sr_1_0_6 {al : List (Nat × Nat × Nat)} {ro : Nat → Nat → Option Nat} (hs : SH al ro) : ro (16 * 1 + 0) 6 = some (16 * 21 + 0) := hs.2 (16 * 1 + 0, 6, 16 * 21 + 0) (List.mem_of_getElem? (i := 6) rfl)
set_option maxRecDepth 100000 in
theorem sr_1_0_7 {al : List (Nat × Nat × Nat)} {ro : Nat → Nat → Option Nat} (hs : SH al ro) : ro (16 * 1 + 0) 7 = some (16 * 1 + 1) := hs.2 (16 * 1 + 0, 7, 16 * 1 + 1) (List.mem_of_getElem? (i := 7) rfl)
set_option maxRecDepth 100000 in
theorem sr_1_0_8 {al : List (Nat × Nat × Nat)} {ro : Nat → Nat → Option Nat} (hs : SH al ro) : ro (16 * 1 + 0) 8 = some (16 * 22 + 0) := hs.2 (16 * 1 + 0, 8, 16 * 22 + 0) (List.mem_of_getElem? (i := 8) rfl)
set_option maxRecDepth 100000 in
theorem sr_1_0_9 {al : List (Nat × Nat × Nat)} {ro : Nat → Nat → Option Nat} (hs : SH al ro) : ro (16 * 1 + 0) 9 = some (16 * 23 + 0) := hs.2 (16 * 1 + 0, 9, 16 * 23 + 0) (List.mem_of_getElem? (i := 9) rfl)
set_option maxRecDepth 100000 in
theorem sr_1_0_10 {al : List (Nat × Nat × Nat)} {ro : Nat → Nat → Option Nat} (hs : SH al ro) : ro (16 * 1 + 0) 10 = some (16 * 24 + 0) := hs.2 (16 * 1 + 0, 10, 16 * 24 + 0) (List.mem_of_getElem? (i := 10) rfl)
set_option maxRecDepth 100000 in
theorem sr_1_0_11 {al : List (Nat × Nat × Nat)} {ro : Nat → Nat → Option Nat} (hs : SH al ro) : ro (16 * 1 + 0) 11 = some (16 * 25 + 0) := hs.2 (16 * 1 + 0, 11, 16 * 25 + 0) (List.mem_of_getElem? (i := 11) rfl)
set_option maxRecDepth 100000 in
theorem sr_1_0_12 {al : List (Nat × Nat × Nat)} {ro : Nat → Nat → Option Nat} (hs : SH al ro) : ro (16 * 1 + 0) 12 = some (16 * 26 + 0) := hs.2 (16 * 1 + 0, 12, 16 * 26 + 0) (List.mem_of_getElem? (i := 12) rfl)
set_option maxRecDepth 100000 in
theorem sr_1_1_0 {al : List (Nat × Nat × Nat)} {ro : Nat → Nat → Option Nat} (hs : SH al ro) : ro (16 * 1 + 1) 0 = some (16 * 6 + 0) := hs.2 (16 * 1 + 1, 0, 16 * 6 + 0) (List.mem_of_getElem? (i := 13) rfl)
set_option maxRecDepth 100000 in
theorem sr_1_1_1 {al : List (Nat × Nat × Nat)} {ro : Nat → Nat → Option Nat} (hs : SH al ro) : ro (16 * 1 + 1) 1 = some (16 * 7 + 0) := hs.2 (16 * 1 + 1, 1, 16 * 7 + 0) (List.mem_of_getElem? (i := 14) rfl)
set_option maxRecDepth 100000 in
theorem sr_1_1_2 {al : List (Nat × Nat × Nat)} {ro : Nat → Nat → Option Nat} (hs : SH al ro) : ro (16 * 1 + 1) 2 = some (16 * 8 + 0) := hs.2 (16 * 1 + 1, 2, 16 * 8 + 0) (List.mem_of_getElem? (i := 15) rfl)
set_option maxRecDepth 100000 in
theorem sr_1_1_3 {al : List (Nat × Nat × Nat)} {ro : Nat → Nat → Option Nat} (hs : SH al ro) : ro (16 * 1 + 1) 3 = some (16 * 9 + 0) := hs.2 (16 * 1 + 1, 3, 16 * 9 + 0) (List.mem_of_getElem? (i := 16) rfl)
set_option maxRecDepth 100000 in
theorem sr_1_1_4 {al : List (Nat × Nat × Nat)} {ro : Nat → Nat → Option Nat} (hs : SH al ro) : ro (16 * 1 + 1) 4 = some (16 * 10 + 0) := hs.2 (16 * 1 + 1, 4, 16 * 10 + 0) (List.mem_of_getElem? (i := 17) rfl)
set_option maxRecDepth 100000 in
theorem sr_1_1_5 {al : List (Nat × Nat × Nat)} {ro : Nat → Nat → Option Nat} (hs : SH al ro) : ro (16 * 1 + 1) 5 = some (16 * 11 + 0) := hs.2 (16 * 1 + 1, 5, 16 * 11 + 0) (List.mem_of_getElem? (i := 18) rfl)
set_option maxRecDepth 100000 in
theorem sr_1_1_6 {al : List (Nat × Nat × Nat)} {ro : Nat → Nat → Option Nat} (hs : SH al ro) : ro (16 * 1 + 1) 6 = some (16 * 12 + 0) := hs.2 (16 * 1 + 1, 6, 16 * 12 + 0) (List.mem_of_getElem? (i := 19) rfl)
set_option maxRecDepth 100000 in
theorem sr_1_1_7 {al : List (Nat × Nat × Nat)} {ro : Nat → Nat → Option Nat} (hs : SH al ro) : ro (16 * 1 + 1) 7 = some (16 * 13 + 0) := hs.2 (16 * 1 + 1, 7, 16 * 13 + 0) (List.mem_of_getElem? (i := 20) rfl)
set_option maxRecDepth 100000 in
theorem sr_1_1_8 {al : List (Nat × Nat × Nat)} {ro : Nat → Nat → Option Nat} (hs : SH al ro) : ro (16 * 1 + 1) 8 = some (16 * 14 + 0) := hs.2 (16 * 1 + 1, 8, 16 * 14 + 0) (List.mem_of_getElem? (i := 21) rfl)
set_option maxRecDepth 100000 in
theorem sr_1_1_9 {al : List (Nat × Nat × Nat)} {ro : Nat → Nat → Option Nat} (hs : SH al ro) : ro (16 * 1 + 1) 9 = some (16 * 15 + 0) := hs.2 (16 * 1 + 1, 9, 16 * 15 + 0) (List.mem_of_getElem? (i := 22) rfl)
set_option maxRecDepth 100000 in
theorem sr_1_1_10 {al : List (Nat × Nat × Nat)} {ro : Nat → Nat → Option Nat} (hs : SH al ro) : ro (16 * 1 + 1) 10 = some (16 * 16 + 0) := hs.2 (16 * 1 + 1, 10, 16 * 16 + 0) (List.mem_of_getElem? (i := 23) rfl)
set_option maxRecDepth 100000 in
theorem sr_1_1_11 {al : List (Nat × Nat × Nat)} {ro : Nat → Nat → Option Nat} (hs : SH al ro) : ro (16 * 1 + 1) 11 = some (16 * 17 + 0) := hs.2 (16 * 1 + 1, 11, 16 * 17 + 0) (List.mem_of_getElem? (i := 24) rfl)
set_option maxRecDepth 100000 in
theorem sr_2_0_0 {al : List (Nat × Nat × Nat)} {ro : Nat → Nat → Option Nat} (hs : SH al ro) : ro (16 * 2 + 0) 0 = some (16 * 2 + 1) := hs.2 (16 * 2 + 0, 0, 16 * 2 + 1) (List.mem_of_getElem? (i := 25) rfl)
set_option maxRecDepth 100000 in
theorem sr_2_0_1 {al : List (Nat × Nat × Nat)} {ro : Nat → Nat → Option Nat} (hs : SH al ro) : ro (16 * 2 + 0) 1 = some (16 * 2 + 2) := hs.2 (16 * 2 + 0, 1, 16 * 2 + 2) (List.mem_of_getElem? (i := 26) rfl)
set_option maxRecDepth 100000 in
theorem sr_3_0_0 {al : List (Nat × Nat × Nat)} {ro : Nat → Nat → Option Nat} (hs : SH al ro) : ro (16 * 3 + 0) 0 = some (16 * 3 + 1) := hs.2 (16 * 3 + 0, 0, 16 * 3 + 1) (List.mem_of_getElem? (i := 27) rfl)
set_option maxRecDepth 100000 in
theorem sr_3_0_1 {al : List (Nat × Nat × Nat)} {ro : Nat → Nat → Option Nat} (hs : SH al ro) : ro (16 * 3 + 0) 1 = some (16 * 3 + 2) := hs.2 (16 * 3 + 0, 1, 16 * 3 + 2) (List.mem_of_getElem? (i := 28) rfl)
set_option maxRecDepth 100000 in
theorem sr_3_0_2 {al : List (Nat × Nat × Nat)} {ro : Nat → Nat → Option Nat} (hs : SH al ro) : ro (16 * 3 + 0) 2 = some (16 * 3 + 3) := hs.2 (16 * 3 + 0, 2, 16 * 3 + 3) (List.mem_of_getElem? (i := 29) rfl)
set_option maxRecDepth 100000 in
theorem sr_3_3_0 {al : List (Nat × Nat × Nat)} {ro : Nat → Nat → Option Nat} (hs : SH al ro) : ro (16 * 3 + 3) 0 = some (16 * 3 + 4) := hs.2 (16 * 3 + 3, 0, 16 * 3 + 4) (List.mem_of_getElem? (i := 30) rfl)
set_option maxRecDepth 100000 in
theorem sr_4_0_0 {al : List (Nat × Nat × Nat)} {ro : Nat → Nat → Option Nat} (hs : SH al ro) : ro (16 * 4 + 0) 0 = some (16 * 4 + 1) := hs.2 (16 * 4 + 0, 0, 16 * 4 + 1) (List.mem_of_getElem? (i := 31) rfl)
set_option maxRecDepth 100000 in
theorem sr_4_0_1 {al : List (Nat × Nat × Nat)} {ro : Nat → Nat → Option Nat} (hs : SH al ro) : ro (16 * 4 + 0) 1 = some (16 * 4 + 2) := hs.2 (16 * 4 + 0, 1, 16 * 4 + 2) (List.mem_of_getElem? (i := 32) rfl)
set_option maxRecDepth 100000 in
theorem sr_4_0_2 {al : List (Nat × Nat × Nat)} {ro : Nat → Nat → Option Nat} (hs : SH al ro) : ro (16 * 4 + 0) 2 = some (16 * 4 + 3) := hs.2 (16 * 4 + 0, 2, 16 * 4 + 3) (List.mem_of_getElem? (i := 33) rfl)
set_option maxRecDepth 100000 in
theorem sr_4_3_0 {al : List (Nat × Nat × Nat)} {ro : Nat → Nat → Option Nat} (hs : SH al ro) : ro (16 * 4 + 3) 0 = some (16 * 4 + 4) := hs.2 (16 * 4 + 3, 0, 16 * 4 + 4) (List.mem_of_getElem? (i := 34) rfl)
set_option maxRecDepth 100000 in
theorem sr_5_0_0 {al : List (Nat × Nat × Nat)} {ro : Nat → Nat → Option Nat} (hs : SH al ro) : ro (16 * 5 + 0) 0 = some (16 * 5 + 1) := hs.2 (16 * 5 + 0, 0, 16 * 5 + 1) (List.mem_of_getElem? (i := 35) rfl)
set_option maxRecDepth 100000 in
theorem sr_5_0_1 {al : List (Nat × Nat × Nat)} {ro : Nat → Nat → Option Nat} (hs : SH al ro) : ro (16 * 5 + 0) 1 = some (16 * 5 + 2) := hs.2 (16 * 5 + 0, 1, 16 * 5 + 2) (List.mem_of_getElem? (i := 36) rfl)
set_option maxRecDepth 100000 in
theorem sr_5_0_2 {al : List (Nat × Nat × Nat)} {ro : Nat → Nat → Option Nat} (hs : SH al ro) : ro (16 * 5 + 0) 2 = some (16 * 5 + 3) := hs.2 (16 * 5 + 0, 2, 16 * 5 + 3) (List.mem_of_getElem? (i := 37) rfl)
set_option maxRecDepth 100000 in
theorem sr_5_3_0 {al : List (Nat × Nat × Nat)} {ro : Nat → Nat → Option Nat} (hs : SH al ro) : ro (16 * 5 + 3) 0 = some (16 * 5 + 4) := hs.2 (16 * 5 + 3, 0, 16 * 5 + 4) (List.mem_of_getElem? (i := 38) rfl)
set_option maxRecDepth 100000 in
theorem sr_6_0_0 {al : List (Nat × Nat × Nat)} {ro : Nat → Nat → Option Nat} (hs : SH al ro) : ro (16 * 6 + 0) 0 = some (16 * 6 + 1) := hs.2 (16 * 6 + 0, 0, 16 * 6 + 1) (List.mem_of_getElem? (i := 39) rfl)
set_option maxRecDepth 100000 in
theorem sr_6_0_1 {al : List (Nat × Nat × Nat)} {ro : Nat → Nat → Option Nat} (hs : SH al ro) : ro (16 * 6 + 0) 1 = some (16 * 6 + 2) := hs.2 (16 * 6 + 0, 1, 16 * 6 + 2) (List.mem_of_getElem? (i := 40) rfl)
set_option maxRecDepth 100000 in
theorem sr_6_0_2 {al : List (Nat × Nat × Nat)} {ro : Nat → Nat → Option Nat} (hs : SH al ro) : ro (16 * 6 + 0) 2 = some (16 * 6 + 3) := hs.2 (16 * 6 + 0, 2, 16 * 6 + 3) (List.mem_of_getElem? (i := 41) rfl)
set_option maxRecDepth 100000 in
theorem sr_6_3_0 {al : List (Nat × Nat × Nat)} {ro : Nat → Nat → Option Nat} (hs : SH al ro) : ro (16 * 6 + 3) 0 = some (16 * 6 + 4) := hs.2 (16 * 6 + 3, 0, 16 * 6 + 4) (List.mem_of_getElem? (i := 42) rfl)
set_option maxRecDepth 100000 in
theorem sr_7_0_0 {al : List (Nat × Nat × Nat)} {ro : Nat → Nat → Option Nat} (hs : SH al ro) : ro (16 * 7 + 0) 0 = some (16 * 7 + 1) := hs.2 (16 * 7 + 0, 0, 16 * 7 + 1) (List.mem_of_getElem? (i := 43) rfl)
set_option maxRecDepth 100000 in
theorem sr_7_0_1 {al : List (Nat × Nat × Nat)} {ro : Nat → Nat → Option Nat} (hs : SH al ro) : ro (16 * 7 + 0) 1 = some (16 * 7 + 2) := hs.2 (16 * 7 + 0, 1, 16 * 7 + 2) (List.mem_of_getElem? (i := 44) rfl)
set_option maxRecDepth 100000 in
theorem sr_7_0_2 {al : List (Nat × Nat × Nat)} {ro : Nat → Nat → Option Nat} (hs : SH al ro) : ro (16 * 7 + 0) 2 = some (16 * 7 + 3) := hs.2 (16 * 7 + 0, 2, 16 * 7 + 3) (List.mem_of_getElem? (i := 45) rfl)
set_option maxRecDepth 100000 in
theorem sr_7_3_0 {al : List (Nat × Nat × Nat)} {ro : Nat → Nat → Option Nat} (hs : SH al ro) : ro (16 * 7 + 3) 0 = some (16 * 7 + 4) := hs.2 (16 * 7 + 3, 0, 16 * 7 + 4) (List.mem_of_getElem? (i := 46) rfl)
set_option maxRecDepth 100000 in
theorem sr_8_0_0 {al : List (Nat × Nat × Nat)} {ro : Nat → Nat → Option Nat} (hs : SH al ro) : ro (16 * 8 + 0) 0 = some (16 * 8 + 1) := hs.2 (16 * 8 + 0, 0, 16 * 8 + 1) (List.mem_of_getElem? (i := 47) rfl)
set_option maxRecDepth 100000 in
theorem sr_8_0_1 {al : List (Nat × Nat × Nat)} {ro : Nat → Nat → Option Nat} (hs : SH al ro) : ro (16 * 8 + 0) 1 = some (16 * 8 + 2) := hs.2 (16 * 8 + 0, 1, 16 * 8 + 2) (List.mem_of_getElem? (i := 48) rfl)
set_option maxRecDepth 100000 in
theorem sr_8_0_2 {al : List (Nat × Nat × Nat)} {ro : Nat → Nat → Option Nat} (hs : SH al ro) : ro (16 * 8 + 0) 2 = some (16 * 8 + 3) := hs.2 (16 * 8 + 0, 2, 16 * 8 + 3) (List.mem_of_getElem? (i := 49) rfl)
set_option maxRecDepth 100000 in
theorem sr_8_3_0 {al : List (Nat × Nat × Nat)} {ro : Nat → Nat → Option Nat} (hs : SH al ro) : ro (16 * 8 + 3) 0 = some (16 * 8 + 4) := hs.2 (16 * 8 + 3, 0, 16 * 8 + 4) (List.mem_of_getElem? (i := 50) rfl)
set_option maxRecDepth 100000 in
theorem sr_9_0_0 {al : List (Nat × Nat × Nat)} {ro : Nat → Nat → Option Nat} (hs : SH al ro) : ro (16 * 9 + 0) 0 = some (16 * 9 + 1) := hs.2 (16 * 9 + 0, 0, 16 * 9 + 1) (List.mem_of_getElem? (i := 51) rfl)
set_option maxRecDepth 100000 in
theorem sr_9_0_1 {al : List (Nat × Nat × Nat)} {ro : Nat → Nat → Option Nat} (hs : SH al ro) : ro (16 * 9 + 0) 1 = some (16 * 9 + 2) := hs.2 (16 * 9 + 0, 1, 16 * 9 + 2) (List.mem_of_getElem? (i := 52) rfl)
set_option maxRecDepth 100000 in
theorem sr_9_0_2 {al : List (Nat × Nat × Nat)} {ro : Nat → Nat → Option Nat} (hs : SH al ro) : ro (16 * 9 + 0) 2 = some (16 * 9 + 3) := hs.2 (16 * 9 + 0, 2, 16 * 9 + 3) (List.mem_of_getElem? (i := 53) rfl)
set_option maxRecDepth 100000 in
theorem sr_9_3_0 {al : List (Nat × Nat × Nat)} {ro : Nat → Nat → Option Nat} (hs : SH al ro) : ro (16 * 9 + 3) 0 = some (16 * 9 + 4) := hs.2 (16 * 9 + 3, 0, 16 * 9 + 4) (List.mem_of_getElem? (i := 54) rfl)
set_option maxRecDepth 100000 in
theorem sr_10_0_0 {al : List (Nat × Nat × Nat)} {ro : Nat → Nat → Option Nat} (hs : SH al ro) : ro (16 * 10 + 0) 0 = some (16 * 10 + 1) := hs.2 (16 * 10 + 0, 0, 16 * 10 + 1) (List.mem_of_getElem? (i := 55) rfl)
set_option maxRecDepth 100000 in
theorem sr_10_0_1 {al : List (Nat × Nat × Nat)} {ro : Nat → Nat → Option Nat} (hs : SH al ro) : ro (16 * 10 + 0) 1 = some (16 * 10 + 2) := hs.2 (16 * 10 + 0, 1, 16 * 10 + 2) (List.mem_of_getElem? (i := 56) rfl)
set_option maxRecDepth 100000 in
theorem sr_10_0_2 {al : List (Nat × Nat × Nat)} {ro : Nat → Nat → Option Nat} (hs : SH al ro) : ro (16 * 10 + 0) 2 = some (16 * 10 + 3) := hs.2 (16 * 10 + 0, 2, 16 * 10 + 3) (List.mem_of_getElem? (i := 57) rfl)
set_option maxRecDepth 100000 in
theorem sr_10_3_0 {al : List (Nat × Nat × Nat)} {ro : Nat → Nat → Option Nat} (hs : SH al ro) : ro (16 * 10 + 3) 0 = some (16 * 10 + 4) := hs.2 (16 * 10 + 3, 0, 16 * 10 + 4) (List.mem_of_getElem? (i := 58) rfl)
set_option maxRecDepth 100000 in
theorem sr_11_0_0 {al : List (Nat × Nat × Nat)} {ro : Nat → Nat → Option Nat} (hs : SH al ro) : ro (16 * 11 + 0) 0 = some (16 * 11 + 1) := hs.2 (16 * 11 + 0, 0, 16 * 11 + 1) (List.mem_of_getElem? (i := 59) rfl)
set_option maxRecDepth 100000 in
theorem sr_11_0_1 {al : List (Nat × Nat × Nat)} {ro : Nat → Nat → Option Nat} (hs : SH al ro) : ro (16 * 11 + 0) 1 = some (16 * 11 + 2) := hs.2 (16 * 11 + 0, 1, 16 * 11 + 2) (List.mem_of_getElem? (i := 60) rfl)
set_option maxRecDepth 100000 in
theorem sr_11_0_2 {al : List (Nat × Nat × Nat)} {ro : Nat → Nat → Option Nat} (hs : SH al ro) : ro (16 * 11 + 0) 2 = some (16 * 11 + 3) := hs.2 (16 * 11 + 0, 2, 16 * 11 + 3) (List.mem_of_getElem? (i := 61) rfl)
set_option maxRecDepth 100000 in
theorem sr_11_3_0 {al : List (Nat × Nat × Nat)} {ro : Nat → Nat → Option Nat} (hs : SH al ro) : ro (16 * 11 + 3) 0 = some (16 * 11 + 4) := hs.2 (16 * 11 + 3, 0, 16 * 11 + 4) (List.mem_of_getElem? (i := 62) rfl)
set_option maxRecDepth 100000 in
theorem sr_12_0_0 {al : List (Nat × Nat × Nat)} {ro : Nat → Nat → Option Nat} (hs : SH al ro) : ro (16 * 12 + 0) 0 = some (16 * 12 + 1) := hs.2 (16 * 12 + 0, 0, 16 * 12 + 1) (List.mem_of_getElem? (i := 63) rfl)
set_option maxRecDepth 100000 in
theorem sr_12_0_1 {al : List (Nat × Nat × Nat)} {ro : Nat → Nat → Option Nat} (hs : SH al ro) : ro (16 * 12 + 0) 1 = some (16 * 12 + 2) := hs.2 (16 * 12 + 0, 1, 16 * 12 + 2) (List.mem_of_getElem? (i := 64) rfl)
set_option maxRecDepth 100000 in
theorem sr_12_0_2 {al : List (Nat × Nat × Nat)} {ro : Nat → Nat → Option Nat} (hs : SH al ro) : ro (16 * 12 + 0) 2 = some (16 * 12 + 3) := hs.2 (16 * 12 + 0, 2, 16 * 12 + 3) (List.mem_of_getElem? (i := 65) rfl)
set_option maxRecDepth 100000 in
theorem sr_12_3_0 {al : List (Nat × Nat × Nat)} {ro : Nat → Nat → Option Nat} (hs : SH al ro) : ro (16 * 12 + 3) 0 = some (16 * 12 + 4) := hs.2 (16 * 12 + 3, 0, 16 * 12 + 4) (List.mem_of_getElem? (i := 66) rfl)
set_option maxRecDepth 100000 in
theorem sr_13_0_0 {al : List (Nat × Nat × Nat)} {ro : Nat → Nat → Option Nat} (hs : SH al ro) : ro (16 * 13 + 0) 0 = some (16 * 13 + 1) := hs.2 (16 * 13 + 0, 0, 16 * 13 + 1) (List.mem_of_getElem? (i := 67) rfl)
set_option maxRecDepth 100000 in
theorem sr_13_0_1 {al : List (Nat × Nat × Nat)} {ro : Nat → Nat → Option Nat} (hs : SH al ro) : ro (16 * 13 + 0) 1 = some (16 * 13 + 2) := hs.2 (16 * 13 + 0, 1, 16 * 13 + 2) (List.mem_of_getElem? (i := 68) rfl)
set_option maxRecDepth 100000 in
theorem sr_13_0_2 {al : List (Nat × Nat × Nat)} {ro : Nat → Nat → Option Nat} (hs : SH al ro) : ro (16 * 13 + 0) 2 = some (16 * 13 + 3) := hs.2 (16 * 13 + 0, 2, 16 * 13 + 3) (List.mem_of_getElem? (i := 69) rfl)
set_option maxRecDepth 100000 in
theorem sr_13_3_0 {al : List (Nat × Nat × Nat)} {ro : Nat → Nat → Option Nat} (hs : SH al ro) : ro (16 * 13 + 3) 0 = some (16 * 13 + 4) := hs.2 (16 * 13 + 3, 0, 16 * 13 + 4) (List.mem_of_getElem? (i := 70) rfl)
set_option maxRecDepth 100000 in
theorem sr_14_0_0 {al : List (Nat × Nat × Nat)} {ro : Nat → Nat → Option Nat} (hs : SH al ro) : ro (16 * 14 + 0) 0 = some (16 * 14 + 1) := hs.2 (16 * 14 + 0, 0, 16 * 14 + 1) (List.mem_of_getElem? (i := 71) rfl)
set_option maxRecDepth 100000 in
theorem sr_14_0_1 {al : List (Nat × Nat × Nat)} {ro : Nat → Nat → Option Nat} (hs : SH al ro) : ro (16 * 14 + 0) 1 = some (16 * 14 + 2) := hs.2 (16 * 14 + 0, 1, 16 * 14 + 2) (List.mem_of_getElem? (i := 72) rfl)
set_option maxRecDepth 100000 in
theorem sr_14_0_2 {al : List (Nat × Nat × Nat)} {ro : Nat → Nat → Option Nat} (hs : SH al ro) : ro (16 * 14 + 0) 2 = some (16 * 14 + 3) := hs.2 (16 * 14 + 0, 2, 16 * 14 + 3) (List.mem_of_getElem? (i := 73) rfl)
set_option maxRecDepth 100000 in
theorem sr_14_3_0 {al : List (Nat × Nat × Nat)} {ro : Nat → Nat → Option Nat} (hs : SH al ro) : ro (16 * 14 + 3) 0 = some (16 * 14 + 4) := hs.2 (16 * 14 + 3, 0, 16 * 14 + 4) (List.mem_of_getElem? (i := 74) rfl)
set_option maxRecDepth 100000 in
theorem sr_15_0_0 {al : List (Nat × Nat × Nat)} {ro : Nat → Nat → Option Nat} (hs : SH al ro) : ro (16 * 15 + 0) 0 = some (16 * 15 + 1) := hs.2 (16 * 15 + 0, 0, 16 * 15 + 1) (List.mem_of_getElem? (i := 75) rfl)
set_option maxRecDepth 100000 in
theorem sr_15_0_1 {al : List (Nat × Nat × Nat)} {ro : Nat → Nat → Option Nat} (hs : SH al ro) : ro (16 * 15 + 0) 1 = some (16 * 15 + 2) := hs.2 (16 * 15 + 0, 1, 16 * 15 + 2) (List.mem_of_getElem? (i := 76) rfl)
set_option maxRecDepth 100000 in
theorem sr_15_0_2 {al : List (Nat × Nat × Nat)} {ro : Nat → Nat → Option Nat} (hs : SH al ro) : ro (16 * 15 + 0) 2 = some (16 * 15 + 3) := hs.2 (16 * 15 + 0, 2, 16 * 15 + 3) (List.mem_of_getElem? (i := 77) rfl)
set_option maxRecDepth 100000 in
theorem sr_15_3_0 {al : List (Nat × Nat × Nat)} {ro : Nat → Nat → Option Nat} (hs : SH al ro) : ro (16 * 15 + 3) 0 = some (16 * 15 + 4) := hs.2 (16 * 15 + 3, 0, 16 * 15 + 4) (List.mem_of_getElem? (i := 78) rfl)
set_option maxRecDepth 100000 in
theorem sr_16_0_0 {al : List (Nat × Nat × Nat)} {ro : Nat → Nat → Option Nat} (hs : SH al ro) : ro (16 * 16 + 0) 0 = some (16 * 16 + 1) := hs.2 (16 * 16 + 0, 0, 16 * 16 + 1) (List.mem_of_getElem? (i := 79) rfl)
set_option maxRecDepth 100000 in
theorem sr_16_0_1 {al : List (Nat × Nat × Nat)} {ro : Nat → Nat → Option Nat} (hs : SH al ro) : ro (16 * 16 + 0) 1 = some (16 * 16 + 2) := hs.2 (16 * 16 + 0, 1, 16 * 16 + 2) (List.mem_of_getElem? (i := 80) rfl)
set_option maxRecDepth 100000 in
theorem sr_16_0_2 {al : List (Nat × Nat × Nat)} {ro : Nat → Nat → Option Nat} (hs : SH al ro) : ro (16 * 16 + 0) 2 = some (16 * 16 + 3) := hs.2 (16 * 16 + 0, 2, 16 * 16 + 3) (List.mem_of_getElem? (i := 81) rfl)
set_option maxRecDepth 100000 in
theorem sr_16_3_0 {al : List (Nat × Nat × Nat)} {ro : Nat → Nat → Option Nat} (hs : SH al ro) : ro (16 * 16 + 3) 0 = some (16 * 16 + 4) := hs.2 (16 * 16 + 3, 0, 16 * 16 + 4) (List.mem_of_getElem? (i := 82) rfl)
set_option maxRecDepth 100000 in
theorem sr_17_0_0 {al : List (Nat × Nat × Nat)} {ro : Nat → Nat → Option Nat} (hs : SH al ro) : ro (16 * 17 + 0) 0 = some (16 * 17 + 1) := hs.2 (16 * 17 + 0, 0, 16 * 17 + 1) (List.mem_of_getElem? (i := 83) rfl)
set_option maxRecDepth 100000 in
theorem sr_17_0_1 {al : List (Nat × Nat × Nat)} {ro : Nat → Nat → Option Nat} (hs : SH al ro) : ro (16 * 17 + 0) 1 = some (16 * 17 + 2) := hs.2 (16 * 17 + 0, 1, 16 * 17 + 2) (List.mem_of_getElem? (i := 84) rfl)
set_option maxRecDepth 100000 in
theorem sr_17_0_2 {al : List (Nat × Nat × Nat)} {ro : Nat → Nat → Option Nat} (hs : SH al ro) : ro (16 * 17 + 0) 2 = some (16 * 17 + 3) := hs.2 (16 * 17 + 0, 2, 16 * 17 + 3) (List.mem_of_getElem? (i := 85) rfl)
set_option maxRecDepth 100000 in
theorem sr_17_3_0 {al : List (Nat × Nat × Nat)} {ro : Nat → Nat → Option Nat} (hs : SH al ro) : ro (16 * 17 + 3) 0 = some (16 * 17 + 4) := hs.2 (16 * 17 + 3, 0, 16 * 17 + 4) (List.mem_of_getElem? (i := 86) rfl)
set_option maxRecDepth 100000 in
theorem sr_18_0_0 {al : List (Nat × Nat × Nat)} {ro : Nat → Nat → Option Nat} (hs : SH al ro) : ro (16 * 18 + 0) 0 = some (16 * 18 + 1) := hs.2 (16 * 18 + 0, 0, 16 * 18 + 1) (List.mem_of_getElem? (i := 87) rfl)
set_option maxRecDepth 100000 in
theorem sr_18_0_1 {al : List (Nat × Nat × Nat)} {ro : Nat → Nat → Option Nat} (hs : SH al ro) : ro (16 * 18 + 0) 1 = some (16 * 18 + 2) := hs.2 (16 * 18 + 0, 1, 16 * 18 + 2) (List.mem_of_getElem? (i := 88) rfl)
set_option maxRecDepth 100000 in
theorem sr_18_0_2 {al : List (Nat × Nat × Nat)} {ro : Nat → Nat → Option Nat} (hs : SH al ro) : ro (16 * 18 + 0) 2 = some (16 * 18 + 3) := hs.2 (16 * 18 + 0, 2, 16 * 18 + 3) (List.mem_of_getElem? (i := 89) rfl)
set_option maxRecDepth 100000 in
theorem sr_18_3_0 {al : List (Nat × Nat × Nat)} {ro : Nat → Nat → Option Nat} (hs : SH al ro) : ro (16 * 18 + 3) 0 = some (16 * 18 + 4) := hs.2 (16 * 18 + 3, 0, 16 * 18 + 4) (List.mem_of_getElem? (i := 90) rfl)
set_option maxRecDepth 100000 in
theorem sr_19_0_0 {al : List (Nat × Nat × Nat)} {ro : Nat → Nat → Option Nat} (hs : SH al ro) : ro (16 * 19 + 0) 0 = some (16 * 19 + 1) := hs.2 (16 * 19 + 0, 0, 16 * 19 + 1) (List.mem_of_getElem? (i := 91) rfl)
set_option maxRecDepth 100000 in
theorem sr_19_0_1 {al : List (Nat × Nat × Nat)} {ro : Nat → Nat → Option Nat} (hs : SH al ro) : ro (16 * 19 + 0) 1 = some (16 * 19 + 2) := hs.2 (16 * 19 + 0, 1, 16 * 19 + 2) (List.mem_of_getElem? (i := 92) rfl)
set_option maxRecDepth 100000 in
theorem sr_19_0_2 {al : List (Nat × Nat × Nat)} {ro : Nat → Nat → Option Nat} (hs : SH al ro) : ro (16 * 19 + 0) 2 = some (16 * 19 + 3) := hs.2 (16 * 19 + 0, 2, 16 * 19 + 3) (List.mem_of_getElem? (i := 93) rfl)
set_option maxRecDepth 100000 in
theorem sr_19_0_3 {al : List (Nat × Nat × Nat)} {ro : Nat → Nat → Option Nat} (hs : SH al ro) : ro (16 * 19 + 0) 3 = some (16 * 19 + 4) := hs.2 (16 * 19 + 0, 3, 16 * 19 + 4) (List.mem_of_getElem? (i := 94) rfl)
set_option maxRecDepth 100000 in
theorem sr_19_0_4 {al : List (Nat × Nat × Nat)} {ro : Nat → Nat → Option Nat} (hs : SH al ro) : ro (16 * 19 + 0) 4 = some (16 * 19 + 5) := hs.2 (16 * 19 + 0, 4, 16 * 19 + 5) (List.mem_of_getElem? (i := 95) rfl)
set_option maxRecDepth 100000 in
theorem sr_20_0_0 {al : List (Nat × Nat × Nat)} {ro : Nat → Nat → Option Nat} (hs : SH al ro) : ro (16 * 20 + 0) 0 = some (16 * 20 + 1) := hs.2 (16 * 20 + 0, 0, 16 * 20 + 1) (List.mem_of_getElem? (i := 96) rfl)
set_option maxRecDepth 100000 in
theorem sr_20_0_1 {al : List (Nat × Nat × Nat)} {ro : Nat → Nat → Option Nat} (hs : SH al ro) : ro (16 * 20 + 0) 1 = some (16 * 20 + 2) := hs.2 (16 * 20 + 0, 1, 16 * 20 + 2) (List.mem_of_getElem? (i := 97) rfl)
set_option maxRecDepth 100000 in
theorem sr_20_0_2 {al : List (Nat × Nat × Nat)} {ro : Nat → Nat → Option Nat} (hs : SH al ro) : ro (16 * 20 + 0) 2 = some (16 * 20 + 3) := hs.2 (16 * 20 + 0, 2, 16 * 20 + 3) (List.mem_of_getElem? (i := 98) rfl)
set_option maxRecDepth 100000 in
theorem sr_20_0_3 {al : List (Nat × Nat × Nat)} {ro : Nat → Nat → Option Nat} (hs : SH al ro) : ro (16 * 20 + 0) 3 = some (16 * 20 + 4) := hs.2 (16 * 20 + 0, 3, 16 * 20 + 4) (List.mem_of_getElem? (i := 99) rfl)
set_option maxRecDepth 100000 in
theorem sr_20_0_4 {al : List (Nat × Nat × Nat)} {ro : Nat → Nat → Option Nat} (hs : SH al ro) : ro (16 * 20 + 0) 4 = some (16 * 20 + 5) := hs.2 (16 * 20 + 0, 4, 16 * 20 + 5) (List.mem_of_getElem? (i := 100) rfl)
set_option maxRecDepth 100000 in
theorem sr_21_0_0 {al : List (Nat × Nat × Nat)} {ro : Nat → Nat → Option Nat} (hs : SH al ro) : ro (16 * 21 + 0) 0 = some (16 * 21 + 1) := hs.2 (16 * 21 + 0, 0, 16 * 21 + 1) (List.mem_of_getElem? (i := 101) rfl)
set_option maxRecDepth 100000 in
theorem sr_21_0_1 {al : List (Nat × Nat × Nat)} {ro : Nat → Nat → Option Nat} (hs : SH al ro) : ro (16 * 21 + 0) 1 = some (16 * 21 + 2) := hs.2 (16 * 21 + 0, 1, 16 * 21 + 2) (List.mem_of_getElem? (i := 102) rfl)
set_option maxRecDepth 100000 in
theorem sr_21_0_2 {al : List (Nat × Nat × Nat)} {ro : Nat → Nat → Option Nat} (hs : SH al ro) : ro (16 * 21 + 0) 2 = some (16 * 21 + 3) := hs.2 (16 * 21 + 0, 2, 16 * 21 + 3) (List.mem_of_getElem? (i := 103) rfl)
set_option maxRecDepth 100000 in
theorem sr_21_0_3 {al : List (Nat × Nat × Nat)} {ro : Nat → Nat → Option Nat} (hs : SH al ro) : ro (16 * 21 + 0) 3 = some (16 * 21 + 4) := hs.2 (16 * 21 + 0, 3, 16 * 21 + 4) (List.mem_of_getElem? (i := 104) rfl)
set_option maxRecDepth 100000 in
theorem sr_21_0_4 {al : List (Nat × Nat × Nat)} {ro : Nat → Nat → Option Nat} (hs : SH al ro) : ro (16 * 21 + 0) 4 = some (16 * 21 + 5) := hs.2 (16 * 21 + 0, 4, 16 * 21 + 5) (List.mem_of_getElem? (i := 105) rfl)
set_option maxRecDepth 100000 in
theorem sr_22_0_0 {al : List (Nat × Nat × Nat)} {ro : Nat → Nat → Option Nat} (hs : SH al ro) : ro (16 * 22 + 0) 0 = some (16 * 18 + 0) := hs.2 (16 * 22 + 0, 0, 16 * 18 + 0) (List.mem_of_getElem? (i := 106) rfl)
set_option maxRecDepth 100000 in
theorem sr_22_0_1 {al : List (Nat × Nat × Nat)} {ro : Nat → Nat → Option Nat} (hs : SH al ro) : ro (16 * 22 + 0) 1 = some (16 * 22 + 1) := hs.2 (16 * 22 + 0, 1, 16 * 22 + 1) (List.mem_of_getElem? (i := 107) rfl)
set_option maxRecDepth 100000 in
theorem sr_22_0_2 {al : List (Nat × Nat × Nat)} {ro : Nat → Nat → Option Nat} (hs : SH al ro) : ro (16 * 22 + 0) 2 = some (16 * 22 + 2) := hs.2 (16 * 22 + 0, 2, 16 * 22 + 2) (List.mem_of_getElem? (i := 108) rfl)
set_option maxRecDepth 100000 in
theorem sr_23_0_0 {al : List (Nat × Nat × Nat)} {ro : Nat → Nat → Option Nat} (hs : SH al ro) : ro (16 * 23 + 0) 0 = some (16 * 23 + 1) := hs.2 (16 * 23 + 0, 0, 16 * 23 + 1) (List.mem_of_getElem? (i := 109) rfl)
set_option maxRecDepth 100000 in
theorem sr_23_0_1 {al : List (Nat × Nat × Nat)} {ro : Nat → Nat → Option Nat} (hs : SH al ro) : ro (16 * 23 + 0) 1 = some (16 * 23 + 2) := hs.2 (16 * 23 + 0, 1, 16 * 23 + 2) (List.mem_of_getElem? (i := 110) rfl)
set_option maxRecDepth 100000 in
theorem sr_23_0_2 {al : List (Nat × Nat × Nat)} {ro : Nat → Nat → Option Nat} (hs : SH al ro) : ro (16 * 23 + 0) 2 = some (16 * 23 + 3) := hs.2 (16 * 23 + 0, 2, 16 * 23 + 3) (List.mem_of_getElem? (i := 111) rfl)
set_option maxRecDepth 100000 in
theorem sr_23_0_3 {al : List (Nat × Nat × Nat)} {ro : Nat → Nat → Option Nat} (hs : SH al ro) : ro (16 * 23 + 0) 3 = some (16 * 23 + 4) := hs.2 (16 * 23 + 0, 3, 16 * 23 + 4) (List.mem_of_getElem? (i := 112) rfl)
set_option maxRecDepth 100000 in
theorem sr_24_0_0 {al : List (Nat × Nat × Nat)} {ro : Nat → Nat → Option Nat} (hs : SH al ro) : ro (16 * 24 + 0) 0 = some (16 * 24 + 1) := hs.2 (16 * 24 + 0, 0, 16 * 24 + 1) (List.mem_of_getElem? (i := 113) rfl)
set_option maxRecDepth 100000 in
theorem sr_24_0_1 {al : List (Nat × Nat × Nat)} {ro : Nat → Nat → Option Nat} (hs : SH al ro) : ro (16 * 24 + 0) 1 = some (16 * 24 + 2) := hs.2 (16 * 24 + 0, 1, 16 * 24 + 2) (List.mem_of_getElem? (i := 114) rfl)
set_option maxRecDepth 100000 in
theorem sr_24_0_2 {al : List (Nat × Nat × Nat)} {ro : Nat → Nat → Option Nat} (hs : SH al ro) : ro (16 * 24 + 0) 2 = some (16 * 24 + 3) := hs.2 (16 * 24 + 0, 2, 16 * 24 + 3) (List.mem_of_getElem? (i := 115) rfl)
set_option maxRecDepth 100000 in
theorem sr_25_0_0 {al : List (Nat × Nat × Nat)} {ro : Nat → Nat → Option Nat} (hs : SH al ro) : ro (16 * 25 + 0) 0 = some (16 * 25 + 1) := hs.2 (16 * 25 + 0, 0, 16 * 25 + 1) (List.mem_of_getElem? (i := 116) rfl)
set_option maxRecDepth 100000 in
theorem sr_26_0_0 {al : List (Nat × Nat × Nat)} {ro : Nat → Nat → Option Nat} (hs : SH al ro) : ro (16 * 26 + 0) 0 = some (16 * 26 + 1) := hs.2 (16 * 26 + 0, 0, 16 * 26 + 1) (List.mem_of_getElem? (i := 117) rfl)
set_option maxRecDepth 100000 in
theorem sr_26_0_1 {al : List (Nat × Nat × Nat)} {ro : Nat → Nat → Option Nat} (hs : SH al ro) : ro (16 * 26 + 0) 1 = some (16 * 26 + 2) := hs.2 (16 * 26 + 0, 1, 16 * 26 + 2) (List.mem_of_getElem? (i := 118) rfl)
set_option maxRecDepth 100000 in
theorem sr_32_0_1 {al : List (Nat × Nat × Nat)} {ro : Nat → Nat → Option Nat} (hs : SH al ro) : ro (16 * 32 + 0) 1 = some (16 * 32 + 1) := hs.2 (16 * 32 + 0, 1, 16 * 32 + 1) (List.mem_of_getElem? (i := 119) rfl)
set_option maxRecDepth 100000 in
theorem sr_32_0_2 {al : List (Nat × Nat × Nat)} {ro : Nat → Nat → Option Nat} (hs : SH al ro) : ro (16 * 32 + 0) 2 = some (16 * 32 + 2) := hs.2 (16 * 32 + 0, 2, 16 * 32 + 2) (List.mem_of_getElem? (i := 120) rfl)
set_option maxRecDepth 100000 in
theorem sr_32_0_4 {al : List (Nat × Nat × Nat)} {ro : Nat → Nat → Option Nat} (hs : SH al ro) : ro (16 * 32 + 0) 4 = some (16 * 32 + 3) := hs.2 (16 * 32 + 0, 4, 16 * 32 + 3) (List.mem_of_getElem? (i := 121) rfl)
set_option maxRecDepth 100000 in
theorem sr_32_0_5 {al : List (Nat × Nat × Nat)} {ro : Nat → Nat → Option Nat} (hs : SH al ro) : ro (16 * 32 + 0) 5 = some (16 * 32 + 4) := hs.2 (16 * 32 + 0, 5, 16 * 32 + 4) (List.mem_of_getElem? (i := 122) rfl)
set_option maxRecDepth 100000 in
theorem sr_32_0_7 {al : List (Nat × Nat × Nat)} {ro : Nat → Nat → Option Nat} (hs : SH al ro) : ro (16 * 32 + 0) 7 = some (16 * 32 + 5) := hs.2 (16 * 32 + 0, 7, 16 * 32 + 5) (List.mem_of_getElem? (i := 123) rfl)
set_option maxRecDepth 100000 in
theorem sr_32_0_14 {al : List (Nat × Nat × Nat)} {ro : Nat → Nat → Option Nat} (hs : SH al ro) : ro (16 * 32 + 0) 14 = some (16 * 32 + 6) := hs.2 (16 * 32 + 0, 14, 16 * 32 + 6) (List.mem_of_getElem? (i := 124) rfl)
set_option maxRecDepth 100000 in
theorem sr_32_0_19 {al : List (Nat × Nat × Nat)} {ro : Nat → Nat → Option Nat} (hs : SH al ro) : ro (16 * 32 + 0) 19 = some (16 * 32 + 7) := hs.2 (16 * 32 + 0, 19, 16 * 32 + 7) (List.mem_of_getElem? (i := 125) rfl)
set_option maxRecDepth 100000 in
theorem sr_32_0_20 {al : List (Nat × Nat × Nat)} {ro : Nat → Nat → Option Nat} (hs : SH al ro) : ro (16 * 32 + 0) 20 = some (16 * 32 + 8) := hs.2 (16 * 32 + 0, 20, 16 * 32 + 8) (List.mem_of_getElem? (i := 126) rfl)
set_option maxRecDepth 100000 in
theorem sr_32_0_21 {al : List (Nat × Nat × Nat)} {ro : Nat → Nat → Option Nat} (hs : SH al ro) : ro (16 * 32 + 0) 21 = some (16 * 32 + 9) := hs.2 (16 * 32 + 0, 21, 16 * 32 + 9) (List.mem_of_getElem? (i := 127) rfl)
set_option maxRecDepth 100000 in
theorem sr_32_0_22 {al : List (Nat × Nat × Nat)} {ro : Nat → Nat → Option Nat} (hs : SH al ro) : ro (16 * 32 + 0) 22 = some (16 * 32 + 10) := hs.2 (16 * 32 + 0, 22, 16 * 32 + 10) (List.mem_of_getElem? (i := 128) rfl)
set_option maxRecDepth 100000 in
theorem sr_32_0_23 {al : List (Nat × Nat × Nat)} {ro : Nat → Nat → Option Nat} (hs : SH al ro) : ro (16 * 32 + 0) 23 = some (16 * 32 + 11) := hs.2 (16 * 32 + 0, 23, 16 * 32 + 11) (List.mem_of_getElem? (i := 129) rfl)
set_option maxRecDepth 100000 in
theorem sr_32_0_24 {al : List (Nat × Nat × Nat)} {ro : Nat → Nat → Option Nat} (hs : SH al ro) : ro (16 * 32 + 0) 24 = some (16 * 32 + 12) := hs.2 (16 * 32 + 0, 24, 16 * 32 + 12) (List.mem_of_getElem? (i := 130) rfl)
set_option maxRecDepth 100000 in
theorem sr_32_0_25 {al : List (Nat × Nat × Nat)} {ro : Nat → Nat → Option Nat} (hs : SH al ro) : ro (16 * 32 + 0) 25 = some (16 * 32 + 13) := hs.2 (16 * 32 + 0, 25, 16 * 32 + 13) (List.mem_of_getElem? (i := 131) rfl)
set_option maxRecDepth 100000 in
theorem sr_32_0_26 {al : List (Nat × Nat × Nat)} {ro : Nat → Nat → Option Nat} (hs : SH al ro) : ro (16 * 32 + 0) 26 = some (16 * 32 + 14) := hs.2 (16 * 32 + 0, 26, 16 * 32 + 14) (List.mem_of_getElem? (i := 132) rfl)
theorem sc_a0 {al : List (Nat × Nat × Nat)} {ro : Nat → Nat → Option Nat} (hs : SH al ro) {u : Nat} (hu : 3 ≤ u ∧ u ≤ 18) : (16 * u + 0, 1, 12) ∈ al := by
  rcases (show u = 3 ∨ u = 4 ∨ u = 5 ∨ u = 6 ∨ u = 7 ∨ u = 8 ∨ u = 9 ∨ u = 10 ∨ u = 11 ∨ u = 12 ∨ u = 13 ∨ u = 14 ∨ u = 15 ∨ u = 16 ∨ u = 17 ∨ u = 18 by omega) with rfl | rfl | rfl | rfl | rfl | rfl | rfl | rfl | rfl | rfl | rfl | rfl | rfl | rfl | rfl | rfl
  · exact sa_3_0 hs
  · exact sa_4_0 hs
  · exact sa_5_0 hs
  · exact sa_6_0 hs
  · exact sa_7_0 hs
  · exact sa_8_0 hs
  · exact sa_9_0 hs
  · exact sa_10_0 hs
  · exact sa_11_0 hs
  · exact sa_12_0 hs
  · exact sa_13_0 hs
  · exact sa_14_0 hs
  · exact sa_15_0 hs
  · exact sa_16_0 hs
  · exact sa_17_0 hs
  · exact sa_18_0 hs
theorem sc_a1 {al : List (Nat × Nat × Nat)} {ro : Nat → Nat → Option Nat} (hs : SH al ro) {u : Nat} (hu : 3 ≤ u ∧ u ≤ 18) : (16 * u + 1, 20, 56) ∈ al := by
  rcases (show u = 3 ∨ u = 4 ∨ u = 5 ∨ u = 6 ∨ u = 7 ∨ u = 8 ∨ u = 9 ∨ u = 10 ∨ u = 11 ∨ u = 12 ∨ u = 13 ∨ u = 14 ∨ u = 15 ∨ u = 16 ∨ u = 17 ∨ u = 18 by omega) with rfl | rfl | rfl | rfl | rfl | rfl | rfl | rfl | rfl | rfl | rfl | rfl | rfl | rfl | rfl | rfl
  · exact sa_3_1 hs
  · exact sa_4_1 hs
  · exact sa_5_1 hs
  · exact sa_6_1 hs
  · exact sa_7_1 hs
  · exact sa_8_1 hs
  · exact sa_9_1 hs
  · exact sa_10_1 hs
  · exact sa_11_1 hs
  · exact sa_12_1 hs
  · exact sa_13_1 hs
  · exact sa_14_1 hs
  · exact sa_15_1 hs
  · exact sa_16_1 hs
  · exact sa_17_1 hs
  · exact sa_18_1 hs
theorem sc_a2 {al : List (Nat × Nat × Nat)} {ro : Nat → Nat → Option Nat} (hs : SH al ro) {u : Nat} (hu : 3 ≤ u ∧ u ≤ 18) : (16 * u + 2, 20, 4) ∈ al := by
  rcases (show u = 3 ∨ u = 4 ∨ u = 5 ∨ u = 6 ∨ u = 7 ∨ u = 8 ∨ u = 9 ∨ u = 10 ∨ u = 11 ∨ u = 12 ∨ u = 13 ∨ u = 14 ∨ u = 15 ∨ u = 16 ∨ u = 17 ∨ u = 18 by omega) with rfl | rfl | rfl | rfl | rfl | rfl | rfl | rfl | rfl | rfl | rfl | rfl | rfl | rfl | rfl | rfl
  · exact sa_3_2 hs
  · exact sa_4_2 hs
  · exact sa_5_2 hs
  · exact sa_6_2 hs
  · exact sa_7_2 hs
  · exact sa_8_2 hs
  · exact sa_9_2 hs
  · exact sa_10_2 hs
  · exact sa_11_2 hs
  · exact sa_12_2 hs
  · exact sa_13_2 hs
  · exact sa_14_2 hs
  · exact sa_15_2 hs
  · exact sa_16_2 hs
  · exact sa_17_2 hs
  · exact sa_18_2 hs
theorem sc_a3 {al : List (Nat × Nat × Nat)} {ro : Nat → Nat → Option Nat} (hs : SH al ro) {u : Nat} (hu : 3 ≤ u ∧ u ≤ 18) : (16 * u + 3, 4, 3) ∈ al := by
  rcases (show u = 3 ∨ u = 4 ∨ u = 5 ∨ u = 6 ∨ u = 7 ∨ u = 8 ∨ u = 9 ∨ u = 10 ∨ u = 11 ∨ u = 12 ∨ u = 13 ∨ u = 14 ∨ u = 15 ∨ u = 16 ∨ u = 17 ∨ u = 18 by omega) with rfl | rfl | rfl | rfl | rfl | rfl | rfl | rfl | rfl | rfl | rfl | rfl | rfl | rfl | rfl | rfl
  · exact sa_3_3 hs
  · exact sa_4_3 hs
  · exact sa_5_3 hs
  · exact sa_6_3 hs
  · exact sa_7_3 hs
  · exact sa_8_3 hs
  · exact sa_9_3 hs
  · exact sa_10_3 hs
  · exact sa_11_3 hs
  · exact sa_12_3 hs
  · exact sa_13_3 hs
  · exact sa_14_3 hs
  · exact sa_15_3 hs
  · exact sa_16_3 hs
  · exact sa_17_3 hs
  · exact sa_18_3 hs
theorem sc_a4 {al : List (Nat × Nat × Nat)} {ro : Nat → Nat → Option Nat} (hs : SH al ro) {u : Nat} (hu : 3 ≤ u ∧ u ≤ 18) : (16 * u + 4, 20, 60) ∈ al := by
  rcases (show u = 3 ∨ u = 4 ∨ u = 5 ∨ u = 6 ∨ u = 7 ∨ u = 8 ∨ u = 9 ∨ u = 10 ∨ u = 11 ∨ u = 12 ∨ u = 13 ∨ u = 14 ∨ u = 15 ∨ u = 16 ∨ u = 17 ∨ u = 18 by omega) with rfl | rfl | rfl | rfl | rfl | rfl | rfl | rfl | rfl | rfl | rfl | rfl | rfl | rfl | rfl | rfl
  · exact sa_3_4 hs
  · exact sa_4_4 hs
  · exact sa_5_4 hs
  · exact sa_6_4 hs
  · exact sa_7_4 hs
  · exact sa_8_4 hs
  · exact sa_9_4 hs
  · exact sa_10_4 hs
  · exact sa_11_4 hs
  · exact sa_12_4 hs
  · exact sa_13_4 hs
  · exact sa_14_4 hs
  · exact sa_15_4 hs
  · exact sa_16_4 hs
  · exact sa_17_4 hs
  · exact sa_18_4 hs
theorem sc_r0_0 {al : List (Nat × Nat × Nat)} {ro : Nat → Nat → Option Nat} (hs : SH al ro) {u : Nat} (hu : 3 ≤ u ∧ u ≤ 18) : ro (16 * u + 0) 0 = some (16 * u + 1) := by
  rcases (show u = 3 ∨ u = 4 ∨ u = 5 ∨ u = 6 ∨ u = 7 ∨ u = 8 ∨ u = 9 ∨ u = 10 ∨ u = 11 ∨ u = 12 ∨ u = 13 ∨ u = 14 ∨ u = 15 ∨ u = 16 ∨ u = 17 ∨ u = 18 by omega) with rfl | rfl | rfl | rfl | rfl | rfl | rfl | rfl | rfl | rfl | rfl | rfl | rfl | rfl | rfl | rfl
  · exact sr_3_0_0 hs
  · exact sr_4_0_0 hs
  · exact sr_5_0_0 hs
  · exact sr_6_0_0 hs
  · exact sr_7_0_0 hs
  · exact sr_8_0_0 hs
  · exact sr_9_0_0 hs
  · exact sr_10_0_0 hs
  · exact sr_11_0_0 hs
  · exact sr_12_0_0 hs
  · exact sr_13_0_0 hs
  · exact sr_14_0_0 hs
  · exact sr_15_0_0 hs
  · exact sr_16_0_0 hs
  · exact sr_17_0_0 hs
  · exact sr_18_0_0 hs
theorem sc_r0_1 {al : List (Nat × Nat × Nat)} {ro : Nat → Nat → Option Nat} (hs : SH al ro) {u : Nat} (hu : 3 ≤ u ∧ u ≤ 18) : ro (16 * u + 0) 1 = some (16 * u + 2) := by
  rcases (show u = 3 ∨ u = 4 ∨ u = 5 ∨ u = 6 ∨ u = 7 ∨ u = 8 ∨ u = 9 ∨ u = 10 ∨ u = 11 ∨ u = 12 ∨ u = 13 ∨ u = 14 ∨ u = 15 ∨ u = 16 ∨ u = 17 ∨ u = 18 by omega) with rfl | rfl | rfl | rfl | rfl | rfl | rfl | rfl | rfl | rfl | rfl | rfl | rfl | rfl | rfl | rfl
  · exact sr_3_0_1 hs
  · exact sr_4_0_1 hs
  · exact sr_5_0_1 hs
  · exact sr_6_0_1 hs
  · exact sr_7_0_1 hs
  · exact sr_8_0_1 hs
  · exact sr_9_0_1 hs
  · exact sr_10_0_1 hs
  · exact sr_11_0_1 hs
  · exact sr_12_0_1 hs
  · exact sr_13_0_1 hs
  · exact sr_14_0_1 hs
  · exact sr_15_0_1 hs
  · exact sr_16_0_1 hs
  · exact sr_17_0_1 hs
  · exact sr_18_0_1 hs
theorem sc_r0_2 {al : List (Nat × Nat × Nat)} {ro : Nat → Nat → Option Nat} (hs : SH al ro) {u : Nat} (hu : 3 ≤ u ∧ u ≤ 18) : ro (16 * u + 0) 2 = some (16 * u + 3) := by
  rcases (show u = 3 ∨ u = 4 ∨ u = 5 ∨ u = 6 ∨ u = 7 ∨ u = 8 ∨ u = 9 ∨ u = 10 ∨ u = 11 ∨ u = 12 ∨ u = 13 ∨ u = 14 ∨ u = 15 ∨ u = 16 ∨ u = 17 ∨ u = 18 by omega) with rfl | rfl | rfl | rfl | rfl | rfl | rfl | rfl | rfl | rfl | rfl | rfl | rfl | rfl | rfl | rfl
  · exact sr_3_0_2 hs
  · exact sr_4_0_2 hs
  · exact sr_5_0_2 hs
  · exact sr_6_0_2 hs
  · exact sr_7_0_2 hs
  · exact sr_8_0_2 hs
  · exact sr_9_0_2 hs
  · exact sr_10_0_2 hs
  · exact sr_11_0_2 hs
  · exact sr_12_0_2 hs
  · exact sr_13_0_2 hs
  · exact sr_14_0_2 hs
  · exact sr_15_0_2 hs
  · exact sr_16_0_2 hs
  · exact sr_17_0_2 hs
  · exact sr_18_0_2 hs
theorem sc_r3_0 {al : List (Nat × Nat × Nat)} {ro : Nat → Nat → Option Nat} (hs : SH al ro) {u : Nat} (hu : 3 ≤ u ∧ u ≤ 18) : ro (16 * u + 3) 0 = some (16 * u + 4) := by
  rcases (show u = 3 ∨ u = 4 ∨ u = 5 ∨ u = 6 ∨ u = 7 ∨ u = 8 ∨ u = 9 ∨ u = 10 ∨ u = 11 ∨ u = 12 ∨ u = 13 ∨ u = 14 ∨ u = 15 ∨ u = 16 ∨ u = 17 ∨ u = 18 by omega) with rfl | rfl | rfl | rfl | rfl | rfl | rfl | rfl | rfl | rfl | rfl | rfl | rfl | rfl | rfl | rfl
  · exact sr_3_3_0 hs
  · exact sr_4_3_0 hs
  · exact sr_5_3_0 hs
  · exact sr_6_3_0 hs
  · exact sr_7_3_0 hs
  · exact sr_8_3_0 hs
  · exact sr_9_3_0 hs
  · exact sr_10_3_0 hs
  · exact sr_11_3_0 hs
  · exact sr_12_3_0 hs
  · exact sr_13_3_0 hs
  · exact sr_14_3_0 hs
  · exact sr_15_3_0 hs
  · exact sr_16_3_0 hs
  · exact sr_17_3_0 hs
  · exact sr_18_3_0 hs
theorem x_c1 {as : List xV} (h : as.all (fun v => x_cat v == 1) = true) : ∀ v ∈ as, x_cat v = 1 := fun v hv => beq_iff_eq.mp (List.all_eq_true.mp h v hv)
theorem e_drop {g : xG} {nm : MethodName} {cc : ByteArray} {nL : Nat} {rt : Option FieldType} {hh : xHH} {dd pc : Nat} {L : xK} {st : List xV} {h h' : xH} {K S : Nat} {o : xO} {i : Nat} (k : Ev g nm cc nL rt hh dd pc (L.set i none) st h K S o h') : Ev g nm cc nL rt hh dd pc L st h K S o h' := by
  intro p e R s m args below meth c Q ad H locs cells slots ls Z
  refine k p e R s m args below meth c Q ad H locs cells slots ls (Z.loc ⟨Z.2.2.2.1.1, Z.2.2.2.1.2.1, fun q hq => Z.2.2.2.1.2.2 q ?_⟩ ?_)
  · obtain ⟨k9, v, b1, b2⟩ := (x_as_mem _ _ _).mp hq
    rw [List.getElem?_set] at b1
    split at b1
    · split at b1 <;> simp at b1
    · exact (x_as_mem _ _ _).mpr ⟨k9, v, b1, b2⟩
  · intro v hv
    rcases List.mem_or_eq_of_mem_set hv with hv | hv
    · exact Z.2.2.2.2.2.1 v hv
    · cases hv
def x_oi (o : Int ⊕ Nat) : xO := match o with
  | .inl r => .inl (some (x_i r))
  | .inr E => .inr E
def x_ov (o : Option Nat) : xO := match o with
  | none => .inl none
  | some E => .inr E

