/-! WHAT STANDS OUTSIDE THE WORLD (printed by outside.py) -/
def k_nl : List Cond := [Cond.methodLinkNest RX10 9 yX6_init RX10, Cond.methodLinkNest RX10 18 yX9_init RX10, Cond.methodLinkNest RX9 35 yX3_init RX10, Cond.methodLinkNest RX9 42 yX7_init RX10, Cond.methodLinkNest RX10 32 yX4_init RX10, Cond.methodLinkNest RX4 11 yX8_init RX10, Cond.methodLinkNest RX8 11 yX2_init RX10, Cond.methodLinkNest RX10 42 yX0_init RX10, Cond.methodLinkNest RX10 53 yX1_init RX10, Cond.methodLinkNest RX10 60 yX5_init RX10, Cond.methodLinkNest RX10 67 yX2_init RX10, Cond.methodLinkNest RX9 73 yX10_has RX10, Cond.methodLinkNest RX2 70 yX10_has RX10, Cond.methodLinkNest RX0 119 yX10_has RX10, Cond.methodLinkNest RX1 69 yX10_has RX10, Cond.methodLinkNest RX6 220 yX10_has RX10, .declares (Bundle.initS "java/lang/RuntimeException"), .declares (Bundle.initS "java/lang/Exception"), .declares (Bundle.initS Bundle.tN)]
/-- the text constants: whose, at which entry, the text, its number, its bytes -/
def k_str : List (String × Nat × String × Nat × List Int32) := [(RX10, 88, "the tape has not so many bytes", 0, [116, 104, 101, 32, 116, 97, 112, 101, 32, 104, 97, 115, 32, 110, 111, 116, 32, 115, 111, 32, 109, 97, 110, 121, 32, 98, 121, 116, 101, 115]), (RX6, 79, ";()+-*/<=", 1, [59, 40, 41, 43, 45, 42, 47, 60, 61]), (RX6, 124, "plain", 2, [112, 108, 97, 105, 110]), (RX6, 130, "child", 3, [99, 104, 105, 108, 100]), (RX6, 132, "deaf", 4, [100, 101, 97, 102]), (RX6, 134, "twin", 5, [116, 119, 105, 110]), (RX6, 136, "loaf", 6, [108, 111, 97, 102]), (RX6, 138, "met", 7, [109, 101, 116]), (RX6, 140, "forget", 8, [102, 111, 114, 103, 101, 116]), (RX6, 142, "noon", 9, [110, 111, 111, 110]), (RX6, 144, "cuts", 10, [99, 117, 116, 115]), (RX6, 239, "not", 11, [110, 111, 116]), (RX6, 260, "slice", 12, [115, 108, 105, 99, 101]), (RX6, 262, "slices", 13, [115, 108, 105, 99, 101, 115]), (RX6, 264, "size", 14, [115, 105, 122, 101]), (RX6, 265, "kind", 15, [107, 105, 110, 100]), (RX6, 267, "hunger", 16, [104, 117, 110, 103, 101, 114]), (RX6, 269, "thanked", 17, [116, 104, 97, 110, 107, 101, 100]), (RX6, 237, "and", 18, [97, 110, 100]), (RX6, 227, "or", 19, [111, 114]), (RX10, 165, "no such count", 20, [110, 111, 32, 115, 117, 99, 104, 32, 99, 111, 117, 110, 116]), (RX10, 408, "no such person", 21, [110, 111, 32, 115, 117, 99, 104, 32, 112, 101, 114, 115, 111, 110]), (RX10, 189, "nothing such of a person", 22, [110, 111, 116, 104, 105, 110, 103, 32, 115, 117, 99, 104, 32, 111, 102, 32, 97, 32, 112, 101, 114, 115, 111, 110]), (RX10, 410, "no such loaf", 23, [110, 111, 32, 115, 117, 99, 104, 32, 108, 111, 97, 102]), (RX10, 218, "nothing such of a loaf", 24, [110, 111, 116, 104, 105, 110, 103, 32, 115, 117, 99, 104, 32, 111, 102, 32, 97, 32, 108, 111, 97, 102]), (RX10, 220, "both are one", 25, [98, 111, 116, 104, 32, 97, 114, 101, 32, 111, 110, 101]), (RX10, 412, "no such eater", 26, [110, 111, 32, 115, 117, 99, 104, 32, 101, 97, 116, 101, 114]), (RX10, 288, "no row is kept", 27, [110, 111, 32, 114, 111, 119, 32, 105, 115, 32, 107, 101, 112, 116]), (RX10, 344, "nothing such of couples", 28, [110, 111, 116, 104, 105, 110, 103, 32, 115, 117, 99, 104, 32, 111, 102, 32, 99, 111, 117, 112, 108, 101, 115]), (RX10, 233, "no such answer", 29, [110, 111, 32, 115, 117, 99, 104, 32, 97, 110, 115, 119, 101, 114]), (RX10, 368, "nothing such of a game", 30, [110, 111, 116, 104, 105, 110, 103, 32, 115, 117, 99, 104, 32, 111, 102, 32, 97, 32, 103, 97, 109, 101]), (RX10, 377, "nothing such of a season", 31, [110, 111, 116, 104, 105, 110, 103, 32, 115, 117, 99, 104, 32, 111, 102, 32, 97, 32, 115, 101, 97, 115, 111, 110]), (RX10, 379, "no such number of days", 32, [110, 111, 32, 115, 117, 99, 104, 32, 110, 117, 109, 98, 101, 114, 32, 111, 102, 32, 100, 97, 121, 115]), (RX11, 11, "plain", 33, [112, 108, 97, 105, 110]), (RX11, 13, "child", 34, [99, 104, 105, 108, 100]), (RX11, 15, "deaf", 35, [100, 101, 97, 102]), (RX11, 17, "twin", 36, [116, 119, 105, 110]), (RX11, 23, "slice", 37, [115, 108, 105, 99, 101]), (RX11, 25, "slices", 38, [115, 108, 105, 99, 101, 115]), (RX11, 27, "size", 39, [115, 105, 122, 101]), (RX11, 29, "kind", 40, [107, 105, 110, 100]), (RX11, 31, "hunger", 41, [104, 117, 110, 103, 101, 114]), (RX11, 33, "thanked", 42, [116, 104, 97, 110, 107, 101, 100]), (RX11, 288, "forget", 43, [102, 111, 114, 103, 101, 116]), (RX11, 290, "noon", 44, [110, 111, 111, 110]), (RX11, 292, "cuts", 45, [99, 117, 116, 115]), (RX11, 260, "not", 46, [110, 111, 116]), (RX11, 268, "and", 47, [97, 110, 100]), (RX11, 273, "or", 48, [111, 114]), (RX11, 297, "loaf", 49, [108, 111, 97, 102]), (RX11, 302, "met", 50, [109, 101, 116])]
def k_P (G : am_G) (s : State) (H : Heap) : Prop :=
  (∀ w ∈ k_nl, va_Nw w s) ∧ (∀ q ∈ k_str, vk_R q.1 q.2.1 q.2.2.1 (am_sa G q.2.2.2.1) s ∧ va_O "java/lang/String" (am_sa G q.2.2.2.1) (am_A G) s H ∧ va_OF "java/lang/String" "coder" "B" (.int 0) (am_sa G q.2.2.2.1) (am_A G) s H ∧ va_OF "java/lang/String" "value" "[B" (.ref (am_sa G (1000000 + q.2.2.2.1))) (am_sa G q.2.2.2.1) (am_A G) s H ∧ va_T .byte (am_sa G (1000000 + q.2.2.2.1)) q.2.2.2.2.length (fun j => .int (q.2.2.2.2.getD j 0)) (am_A G) s H) ∧
  va_Nw (.castable "java/lang/IllegalArgumentException" "java/lang/IllegalArgumentException") s ∧ va_Nw (.castable "java/util/NoSuchElementException" "java/util/NoSuchElementException") s ∧ vx_Zq Bundle.tN "UNASSIGNED_STACK" Bundle.steD (am_A G) s H ∧ vx_Zq Bundle.tN "SUPPRESSED_SENTINEL" Bundle.listD (am_A G) s H ∧ va_Z "java/lang/String" "COMPACT_STRINGS" "Z" (.int 1) (am_A G) s H ∧ (va_Z "jdk/internal/util/Preconditions" "SIOOBE_FORMATTER" "Ljava/util/function/BiFunction;" .null (am_A G) s H ∨ va_Z "jdk/internal/util/Preconditions" "SIOOBE_FORMATTER" "Ljava/util/function/BiFunction;" (.ref (am_sa G 2000000)) (am_A G) s H)
/-- the launch, with what stands outside -/
def k_OK (G : am_G) : Prop := k_ok G ∧ (∀ s H, am_O G s H → k_P G s H) ∧ (am_l G).stackTraces = false
theorem k_c {G : am_G} (hG : k_ok G) {w : Cond} (i : Nat) (h : lw_tbl[i]? = some w) (hg : goodWord w = true) : w ∈ am_Ts G := by rw [hG.2.1]; exact k_in i h hg
theorem k_mmax {G : am_G} (hG : k_ok G) : Cond.static Lib.Math.max.name ∈ am_Ts G ∧ Cond.initialized "java/lang/Math" ∈ am_Ts G ∧ Cond.code Lib.Math.max.name Lib.Math.max.code 2 (some .int) ∈ am_Ts G := ⟨k_c hG 578 (by decide +kernel) (by decide +kernel), k_c hG 129 (by decide +kernel) (by decide +kernel), k_c hG 579 (by decide +kernel) (by decide +kernel)⟩
theorem k_mmin {G : am_G} (hG : k_ok G) : Cond.static Lib.Math.min.name ∈ am_Ts G ∧ Cond.initialized "java/lang/Math" ∈ am_Ts G ∧ Cond.code Lib.Math.min.name Lib.Math.min.code 2 (some .int) ∈ am_Ts G := ⟨k_c hG 752 (by decide +kernel) (by decide +kernel), k_c hG 129 (by decide +kernel) (by decide +kernel), k_c hG 753 (by decide +kernel) (by decide +kernel)⟩
theorem k_mabs {G : am_G} (hG : k_ok G) : Cond.static Lib.Math.abs.name ∈ am_Ts G ∧ Cond.initialized "java/lang/Math" ∈ am_Ts G ∧ Cond.code Lib.Math.abs.name Lib.Math.abs.code 1 (some .int) ∈ am_Ts G := ⟨k_c hG 759 (by decide +kernel) (by decide +kernel), k_c hG 129 (by decide +kernel) (by decide +kernel), k_c hG 760 (by decide +kernel) (by decide +kernel)⟩
theorem k_copy {G : am_G} (hG : k_ok G) : Cond.native arraycopyName ∈ am_Ts G ∧ Cond.static arraycopyName ∈ am_Ts G ∧ Cond.initialized "java/lang/System" ∈ am_Ts G := ⟨k_c hG 586 (by decide +kernel) (by decide +kernel), k_c hG 585 (by decide +kernel) (by decide +kernel), k_c hG 130 (by decide +kernel) (by decide +kernel)⟩
theorem k_obj0 {G : am_G} (hG : k_ok G) : Cond.instanceMethod Lib.objectInit ∈ am_Ts G ∧ Cond.code Lib.objectInit ⟨#[0xb1]⟩ 1 none ∈ am_Ts G := ⟨k_c hG 149 (by decide +kernel) (by decide +kernel), k_c hG 150 (by decide +kernel) (by decide +kernel)⟩
theorem kS_X10_has {G : am_G} (hG : k_ok G) : Cond.static yX10_has ∈ am_Ts G := k_c hG 566 (by decide +kernel) (by decide +kernel)
theorem vX10_9n {G : am_G} (hK : k_OK G) : am_cN G RX10 9 mX6_init RX10 0 := ⟨kB_X6_init hK.1, fun s H h => (hK.2.1 s H h).1 _ (List.mem_of_getElem? (i := 0) rfl)⟩
theorem vX10_18n {G : am_G} (hK : k_OK G) : am_cN G RX10 18 mX9_init RX10 0 := ⟨kB_X9_init hK.1, fun s H h => (hK.2.1 s H h).1 _ (List.mem_of_getElem? (i := 1) rfl)⟩
theorem vX9_35n {G : am_G} (hK : k_OK G) : am_cN G RX9 35 mX3_init RX10 0 := ⟨kB_X3_init hK.1, fun s H h => (hK.2.1 s H h).1 _ (List.mem_of_getElem? (i := 2) rfl)⟩
theorem vX9_42n {G : am_G} (hK : k_OK G) : am_cN G RX9 42 mX7_init RX10 0 := ⟨kB_X7_init hK.1, fun s H h => (hK.2.1 s H h).1 _ (List.mem_of_getElem? (i := 3) rfl)⟩
theorem vX10_32n {G : am_G} (hK : k_OK G) : am_cN G RX10 32 mX4_init RX10 0 := ⟨kB_X4_init hK.1, fun s H h => (hK.2.1 s H h).1 _ (List.mem_of_getElem? (i := 4) rfl)⟩
theorem vX4_11n {G : am_G} (hK : k_OK G) : am_cN G RX4 11 mX8_init RX10 0 := ⟨kB_X8_init hK.1, fun s H h => (hK.2.1 s H h).1 _ (List.mem_of_getElem? (i := 5) rfl)⟩
theorem vX8_11n {G : am_G} (hK : k_OK G) : am_cN G RX8 11 mX2_init RX10 0 := ⟨kB_X2_init hK.1, fun s H h => (hK.2.1 s H h).1 _ (List.mem_of_getElem? (i := 6) rfl)⟩
theorem vX10_42n {G : am_G} (hK : k_OK G) : am_cN G RX10 42 mX0_init RX10 0 := ⟨kB_X0_init hK.1, fun s H h => (hK.2.1 s H h).1 _ (List.mem_of_getElem? (i := 7) rfl)⟩
theorem vX10_53n {G : am_G} (hK : k_OK G) : am_cN G RX10 53 mX1_init RX10 0 := ⟨kB_X1_init hK.1, fun s H h => (hK.2.1 s H h).1 _ (List.mem_of_getElem? (i := 8) rfl)⟩
theorem vX10_60n {G : am_G} (hK : k_OK G) : am_cN G RX10 60 mX5_init RX10 0 := ⟨kB_X5_init hK.1, fun s H h => (hK.2.1 s H h).1 _ (List.mem_of_getElem? (i := 9) rfl)⟩
theorem vX10_67n {G : am_G} (hK : k_OK G) : am_cN G RX10 67 mX2_init RX10 0 := ⟨kB_X2_init hK.1, fun s H h => (hK.2.1 s H h).1 _ (List.mem_of_getElem? (i := 10) rfl)⟩
theorem vX9_73n {G : am_G} (hK : k_OK G) : am_cN G RX9 73 mX10_has RX10 2 := ⟨kB_X10_has hK.1, fun s H h => (hK.2.1 s H h).1 _ (List.mem_of_getElem? (i := 11) rfl)⟩
theorem vX2_70n {G : am_G} (hK : k_OK G) : am_cN G RX2 70 mX10_has RX10 2 := ⟨kB_X10_has hK.1, fun s H h => (hK.2.1 s H h).1 _ (List.mem_of_getElem? (i := 12) rfl)⟩
theorem vX0_119n {G : am_G} (hK : k_OK G) : am_cN G RX0 119 mX10_has RX10 2 := ⟨kB_X10_has hK.1, fun s H h => (hK.2.1 s H h).1 _ (List.mem_of_getElem? (i := 13) rfl)⟩
theorem vX1_69n {G : am_G} (hK : k_OK G) : am_cN G RX1 69 mX10_has RX10 2 := ⟨kB_X10_has hK.1, fun s H h => (hK.2.1 s H h).1 _ (List.mem_of_getElem? (i := 14) rfl)⟩
theorem vX6_220n {G : am_G} (hK : k_OK G) : am_cN G RX6 220 mX10_has RX10 2 := ⟨kB_X10_has hK.1, fun s H h => (hK.2.1 s H h).1 _ (List.mem_of_getElem? (i := 15) rfl)⟩
def kS_Loaves : List (Nat ⊕ (Nat × Nat)) := [.inl 3, .inr (0, 6), .inr (0, 6), .inr (0, 6), .inr (0, 6), .inr (0, 6), .inr (0, 6), .inr (0, 36)]
def kR_Loaves : List (Nat × Nat × Nat) := [(0, 1, 1), (0, 2, 2), (0, 3, 3), (0, 4, 4), (0, 5, 5), (0, 6, 6), (0, 7, 7)]
abbrev k_Loaves (sh : List (Nat ⊕ (Nat × Nat))) (R : Nat → Nat → Option Nat) (b : Nat) : Prop := k_obj sh R b kS_Loaves kR_Loaves
def kS_Rule : List (Nat ⊕ (Nat × Nat)) := [.inl 7, .inr (0, 600), .inr (0, 64)]
def kR_Rule : List (Nat × Nat × Nat) := [(0, 0, 1), (0, 1, 2)]
abbrev k_Rule (sh : List (Nat ⊕ (Nat × Nat))) (R : Nat → Nat → Option Nat) (b : Nat) : Prop := k_obj sh R b kS_Rule kR_Rule
def kS_Town : List (Nat ⊕ (Nat × Nat)) := [.inl 9, .inr (0, 8), .inr (0, 8), .inr (0, 8), .inr (0, 8), .inr (0, 16), .inr (0, 16), .inr (0, 16), .inl 3, .inr (0, 6), .inr (0, 6), .inr (0, 6), .inr (0, 6), .inr (0, 6), .inr (0, 6), .inr (0, 36), .inl 7, .inr (0, 600), .inr (0, 64)]
def kR_Town : List (Nat × Nat × Nat) := [(0, 4, 1), (0, 5, 2), (0, 6, 3), (0, 7, 4), (0, 8, 5), (0, 9, 6), (0, 10, 7), (0, 11, 8), (8, 1, 9), (8, 2, 10), (8, 3, 11), (8, 4, 12), (8, 5, 13), (8, 6, 14), (8, 7, 15), (0, 12, 16), (16, 0, 17), (16, 1, 18)]
abbrev k_Town (sh : List (Nat ⊕ (Nat × Nat))) (R : Nat → Nat → Option Nat) (b : Nat) : Prop := k_obj sh R b kS_Town kR_Town
def kS_Days : List (Nat ⊕ (Nat × Nat)) := [.inl 2, .inr (0, 64), .inr (0, 6), .inr (0, 8)]
def kR_Days : List (Nat × Nat × Nat) := [(0, 2, 1), (0, 3, 2), (0, 4, 3)]
abbrev k_Days (sh : List (Nat ⊕ (Nat × Nat))) (R : Nat → Nat → Option Nat) (b : Nat) : Prop := k_obj sh R b kS_Days kR_Days
def kS_Story : List (Nat ⊕ (Nat × Nat)) := [.inl 8, .inl 2, .inr (0, 64), .inr (0, 6), .inr (0, 8), .inl 2, .inr (0, 64), .inr (0, 6), .inr (0, 8), .inr (0, 40), .inr (0, 40), .inr (0, 40)]
def kR_Story : List (Nat × Nat × Nat) := [(0, 0, 1), (1, 2, 2), (1, 3, 3), (1, 4, 4), (0, 1, 5), (5, 2, 6), (5, 3, 7), (5, 4, 8), (0, 2, 9), (0, 3, 10), (0, 4, 11)]
abbrev k_Story (sh : List (Nat ⊕ (Nat × Nat))) (R : Nat → Nat → Option Nat) (b : Nat) : Prop := k_obj sh R b kS_Story kR_Story
def kS_Memory : List (Nat ⊕ (Nat × Nat)) := [.inl 4, .inl 8, .inl 2, .inr (0, 64), .inr (0, 6), .inr (0, 8), .inl 2, .inr (0, 64), .inr (0, 6), .inr (0, 8), .inr (0, 40), .inr (0, 40), .inr (0, 40), .inr (0, 3), .inr (0, 6), .inr (0, 6), .inr (0, 6), .inr (0, 4), .inr (0, 4)]
def kR_Memory : List (Nat × Nat × Nat) := [(0, 0, 1), (1, 0, 2), (2, 2, 3), (2, 3, 4), (2, 4, 5), (1, 1, 6), (6, 2, 7), (6, 3, 8), (6, 4, 9), (1, 2, 10), (1, 3, 11), (1, 4, 12), (0, 1, 13), (0, 3, 14), (0, 4, 15), (0, 5, 16), (0, 7, 17), (0, 8, 18)]
abbrev k_Memory (sh : List (Nat ⊕ (Nat × Nat))) (R : Nat → Nat → Option Nat) (b : Nat) : Prop := k_obj sh R b kS_Memory kR_Memory
def kS_Reader : List (Nat ⊕ (Nat × Nat)) := [.inl 6, .inr (1, 600)]
def kR_Reader : List (Nat × Nat × Nat) := [(0, 0, 1)]
abbrev k_Reader (sh : List (Nat ⊕ (Nat × Nat))) (R : Nat → Nat → Option Nat) (b : Nat) : Prop := k_obj sh R b kS_Reader kR_Reader
def kS_Carrier : List (Nat ⊕ (Nat × Nat)) := [.inl 0, .inr (0, 6), .inr (0, 5), .inr (0, 5), .inr (0, 40), .inr (0, 40), .inr (2, 256), .inr (0, 6), .inr (0, 5), .inr (0, 8)]
def kR_Carrier : List (Nat × Nat × Nat) := [(0, 0, 1), (0, 4, 2), (0, 5, 3), (0, 6, 4), (0, 7, 5), (0, 8, 6), (0, 9, 7), (0, 10, 8), (0, 11, 9)]
abbrev k_Carrier (sh : List (Nat ⊕ (Nat × Nat))) (R : Nat → Nat → Option Nat) (b : Nat) : Prop := k_obj sh R b kS_Carrier kR_Carrier
def kS_Circle : List (Nat ⊕ (Nat × Nat)) := [.inl 1, .inr (0, 8), .inr (0, 6)]
def kR_Circle : List (Nat × Nat × Nat) := [(0, 0, 1), (0, 1, 2)]
abbrev k_Circle (sh : List (Nat ⊕ (Nat × Nat))) (R : Nat → Nat → Option Nat) (b : Nat) : Prop := k_obj sh R b kS_Circle kR_Circle
def kS_Portions : List (Nat ⊕ (Nat × Nat)) := [.inl 5, .inr (0, 6), .inr (0, 6), .inr (0, 6)]
def kR_Portions : List (Nat × Nat × Nat) := [(0, 0, 1), (0, 1, 2), (0, 2, 3)]
abbrev k_Portions (sh : List (Nat ⊕ (Nat × Nat))) (R : Nat → Nat → Option Nat) (b : Nat) : Prop := k_obj sh R b kS_Portions kR_Portions
def lfold {α : Type} (f : Nat → α → α) (a : α) : Nat → α
  | 0 => a
  | k + 1 => f k (lfold f a k)
def lall (P : Nat → Bool) : Nat → Bool
  | 0 => true
  | k + 1 => lall P k && P k
theorem lall_iff {P : Nat → Bool} {n : Nat} : lall P n = true ↔ ∀ k, k < n → P k = true := by
  induction n with
  | zero => exact ⟨fun _ k h => absurd h (Nat.not_lt_zero k), fun _ => rfl⟩
  | succ n ih =>
    simp only [lall, Bool.and_eq_true, ih]
    exact ⟨fun h k hk => (Nat.lt_succ_iff_lt_or_eq.mp hk).elim (h.1 k) (fun e => e ▸ h.2), fun h => ⟨fun k hk => h k (Nat.lt_succ_of_lt hk), h n (Nat.lt_succ_self n)⟩⟩
theorem lall_no {P : Nat → Bool} {n k : Nat} (hk : k < n) (h : P k = false) : lall P n = false := by
  cases e : lall P n with
  | false => rfl
  | true => exact absurd (lall_iff.mp e k hk) (by rw [h]; decide)
/-- a truth value as an int -/
def kb (b : Bool) : Int32 := if b then 1 else 0
theorem kb_t {b : Bool} (h : b = true) : kb b = 1 := by rw [h]; rfl
theorem kb_f {b : Bool} (h : b = false) : kb b = 0 := by rw [h]; rfl
theorem kb_0 {b : Bool} : kb b = 0 ↔ b = false := by cases b <;> decide
theorem kb_1 {b : Bool} : ¬ kb b = 0 ↔ b = true := by cases b <;> decide
theorem kb_nar (b : Bool) : narrow .boolean (.int (kb b)) = .int (kb b) := by cases b <;> decide
/-- what a counting loop's test says -/
theorem k_ge {x y : Int32} {k n : Nat} (h : y ≤ x) (hx : x = nI k) (hy : y = nI n) (hk : k ≤ n) (hn : n < 2 ^ 30) : k = n := by
  subst hx; subst hy
  have := (nI_leI (by omega) (by omega)).mp h
  omega
theorem k_lt {x y : Int32} {k n : Nat} (h : ¬ y ≤ x) (hx : x = nI k) (hy : y = nI n) (hk : k ≤ n) (hn : n < 2 ^ 30) : k < n := by
  subst hx; subst hy
  have h1 : ¬ n ≤ k := fun q => h ((nI_leI (by omega) (by omega)).mpr q)
  omega
theorem k_inc {x v : Int32} {k : Nat} (hv : v = x + Int32.ofInt 1) (hx : x = nI k) : v = nI (k + 1) := by rw [hv, hx]; exact nI_1 k
def f_has (b i : Int32) : Bool := decide (¬ (b >>> (i &&& 31)) &&& 1 = 0)
