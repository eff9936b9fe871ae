/-! THE MAIN OBJECT -/
def kS_Main : List (Nat ⊕ (Nat × Nat)) := [.inl 10, .inl 6, .inr (1, 600), .inl 9, .inr (0, 8), .inr (0, 8), .inr (0, 8), .inr (0, 8), .inr (0, 16), .inr (0, 16), .inr (0, 16), .inl 3, .inr (0, 6), .inr (0, 6), .inr (0, 6), .inr (0, 6), .inr (0, 6), .inr (0, 6), .inr (0, 36), .inl 7, .inr (0, 600), .inr (0, 64), .inl 9, .inr (0, 8), .inr (0, 8), .inr (0, 8), .inr (0, 8), .inr (0, 16), .inr (0, 16), .inr (0, 16), .inl 3, .inr (0, 6), .inr (0, 6), .inr (0, 6), .inr (0, 6), .inr (0, 6), .inr (0, 6), .inr (0, 36), .inl 7, .inr (0, 600), .inr (0, 64), .inl 4, .inl 8, .inl 2, .inr (0, 64), .inr (0, 6), .inr (0, 8), .inl 2, .inr (0, 64), .inr (0, 6), .inr (0, 8), .inr (0, 40), .inr (0, 40), .inr (0, 40), .inr (0, 3), .inr (0, 6), .inr (0, 6), .inr (0, 6), .inr (0, 4), .inr (0, 4), .inl 4, .inl 8, .inl 2, .inr (0, 64), .inr (0, 6), .inr (0, 8), .inl 2, .inr (0, 64), .inr (0, 6), .inr (0, 8), .inr (0, 40), .inr (0, 40), .inr (0, 40), .inr (0, 3), .inr (0, 6), .inr (0, 6), .inr (0, 6), .inr (0, 4), .inr (0, 4), .inl 0, .inr (0, 6), .inr (0, 5), .inr (0, 5), .inr (0, 40), .inr (0, 40), .inr (2, 256), .inr (0, 6), .inr (0, 5), .inr (0, 8), .inr (0, 6), .inl 1, .inr (0, 8), .inr (0, 6), .inl 5, .inr (0, 6), .inr (0, 6), .inr (0, 6), .inl 2, .inr (0, 64), .inr (0, 6), .inr (0, 8)]
def kR_Main : List (Nat × Nat × Nat) := [(0, 0, 1), (1, 0, 2), (3, 4, 4), (3, 5, 5), (3, 6, 6), (3, 7, 7), (3, 8, 8), (3, 9, 9), (3, 10, 10), (3, 11, 11), (11, 1, 12), (11, 2, 13), (11, 3, 14), (11, 4, 15), (11, 5, 16), (11, 6, 17), (11, 7, 18), (3, 12, 19), (19, 0, 20), (19, 1, 21), (22, 4, 23), (22, 5, 24), (22, 6, 25), (22, 7, 26), (22, 8, 27), (22, 9, 28), (22, 10, 29), (22, 11, 30), (30, 1, 31), (30, 2, 32), (30, 3, 33), (30, 4, 34), (30, 5, 35), (30, 6, 36), (30, 7, 37), (22, 12, 38), (38, 0, 39), (38, 1, 40), (0, 4, 41), (41, 0, 42), (42, 0, 43), (43, 2, 44), (43, 3, 45), (43, 4, 46), (42, 1, 47), (47, 2, 48), (47, 3, 49), (47, 4, 50), (42, 2, 51), (42, 3, 52), (42, 4, 53), (41, 1, 54), (41, 3, 55), (41, 4, 56), (41, 5, 57), (41, 7, 58), (41, 8, 59), (0, 5, 60), (60, 0, 61), (61, 0, 62), (62, 2, 63), (62, 3, 64), (62, 4, 65), (61, 1, 66), (66, 2, 67), (66, 3, 68), (66, 4, 69), (61, 2, 70), (61, 3, 71), (61, 4, 72), (60, 1, 73), (60, 3, 74), (60, 4, 75), (60, 5, 76), (60, 7, 77), (60, 8, 78), (0, 7, 79), (79, 0, 80), (79, 4, 81), (79, 5, 82), (79, 6, 83), (79, 7, 84), (79, 8, 85), (79, 9, 86), (79, 10, 87), (79, 11, 88), (0, 8, 89), (0, 10, 90), (90, 0, 91), (90, 1, 92), (0, 11, 93), (93, 0, 94), (93, 1, 95), (93, 2, 96), (0, 12, 97), (97, 2, 98), (97, 3, 99), (97, 4, 100)]
/-- the class's object is cell 0, with all that is nested in it; its two towns are cells 3 and 22 -/
abbrev k_Main (sh : List (Nat ⊕ (Nat × Nat))) (R : Nat → Nat → Option Nat) : Prop := k_obj sh R 0 kS_Main kR_Main
theorem k_subM {sh : List (Nat ⊕ (Nat × Nat))} {R : Nat → Nat → Option Nat} {S' : List (Nat ⊕ (Nat × Nat))} {Rs' : List (Nat × Nat × Nat)} (off : Nat) (h : k_Main sh R) (hS : (kS_Main.drop off).take S'.length = S') (hR : ∀ q ∈ Rs', (off + q.1, q.2.1, off + q.2.2) ∈ kR_Main) : k_obj sh R off S' Rs' := by have := k_sub off h hS hR; rwa [Nat.zero_add] at this
theorem kM_1 {sh : List (Nat ⊕ (Nat × Nat))} {R : Nat → Nat → Option Nat} (h : k_Main sh R) : k_Reader sh R 1 := k_subM 1 h (by decide) (by decide)
theorem kM_3 {sh : List (Nat ⊕ (Nat × Nat))} {R : Nat → Nat → Option Nat} (h : k_Main sh R) : k_Town sh R 3 := k_subM 3 h (by decide) (by decide)
theorem kM_22 {sh : List (Nat ⊕ (Nat × Nat))} {R : Nat → Nat → Option Nat} (h : k_Main sh R) : k_Town sh R 22 := k_subM 22 h (by decide) (by decide)
theorem kM_41 {sh : List (Nat ⊕ (Nat × Nat))} {R : Nat → Nat → Option Nat} (h : k_Main sh R) : k_Memory sh R 41 := k_subM 41 h (by decide) (by decide)
theorem kM_42 {sh : List (Nat ⊕ (Nat × Nat))} {R : Nat → Nat → Option Nat} (h : k_Main sh R) : k_Story sh R 42 := k_subM 42 h (by decide) (by decide)
theorem kM_43 {sh : List (Nat ⊕ (Nat × Nat))} {R : Nat → Nat → Option Nat} (h : k_Main sh R) : k_Days sh R 43 := k_subM 43 h (by decide) (by decide)
theorem kM_47 {sh : List (Nat ⊕ (Nat × Nat))} {R : Nat → Nat → Option Nat} (h : k_Main sh R) : k_Days sh R 47 := k_subM 47 h (by decide) (by decide)
theorem kM_60 {sh : List (Nat ⊕ (Nat × Nat))} {R : Nat → Nat → Option Nat} (h : k_Main sh R) : k_Memory sh R 60 := k_subM 60 h (by decide) (by decide)
theorem kM_61 {sh : List (Nat ⊕ (Nat × Nat))} {R : Nat → Nat → Option Nat} (h : k_Main sh R) : k_Story sh R 61 := k_subM 61 h (by decide) (by decide)
theorem kM_62 {sh : List (Nat ⊕ (Nat × Nat))} {R : Nat → Nat → Option Nat} (h : k_Main sh R) : k_Days sh R 62 := k_subM 62 h (by decide) (by decide)
theorem kM_66 {sh : List (Nat ⊕ (Nat × Nat))} {R : Nat → Nat → Option Nat} (h : k_Main sh R) : k_Days sh R 66 := k_subM 66 h (by decide) (by decide)
theorem kM_79 {sh : List (Nat ⊕ (Nat × Nat))} {R : Nat → Nat → Option Nat} (h : k_Main sh R) : k_Carrier sh R 79 := k_subM 79 h (by decide) (by decide)
theorem kM_90 {sh : List (Nat ⊕ (Nat × Nat))} {R : Nat → Nat → Option Nat} (h : k_Main sh R) : k_Circle sh R 90 := k_subM 90 h (by decide) (by decide)
theorem kM_93 {sh : List (Nat ⊕ (Nat × Nat))} {R : Nat → Nat → Option Nat} (h : k_Main sh R) : k_Portions sh R 93 := k_subM 93 h (by decide) (by decide)
theorem kM_97 {sh : List (Nat ⊕ (Nat × Nat))} {R : Nat → Nat → Option Nat} (h : k_Main sh R) : k_Days sh R 97 := k_subM 97 h (by decide) (by decide)
/-- the class's own throws can be made -/
def k_XS (G : am_G) : Prop := (∀ x ∈ ([165, 189, 218, 233, 288, 344, 368, 377, 408, 410, 412] : List Nat), am_xN G RX10 163 x 167) ∧ ∀ x ∈ ([88, 220, 379] : List Nat), am_xS G RX10 86 x 90 "java/lang/IllegalArgumentException"
def k_nw : List Cond := [.declares (Bundle.initS "java/lang/RuntimeException"), .declares (Bundle.initS "java/lang/Exception"), .declares (Bundle.initS Bundle.tN), .castable "java/lang/IllegalArgumentException" "java/lang/IllegalArgumentException"]
theorem k_tabW {G : am_G} (hK : k_OK G) {args : Array Value} {s : State} (hT : ∀ w ∈ am_Ts G, w.before args s = true) (hO : am_O G s s.heap) {L : List Cond} (ix : List Nat) (h1 : ix.map (fun i => lw_tbl[i]?) = (L.filter goodWord).map some) (h2 : ∀ w ∈ L.filter (fun w => !goodWord w), w ∈ k_nw) : ∀ w ∈ L, w.before args s = true := by
  intro w hw
  have hP := hK.2.1 s s.heap hO
  by_cases hg : goodWord w = true
  · have h3 : some w ∈ (L.filter goodWord).map some := List.mem_map.mpr ⟨w, List.mem_filter.mpr ⟨hw, hg⟩, rfl⟩
    rw [← h1] at h3
    obtain ⟨i, -, hi⟩ := List.mem_map.mp h3
    exact hT w (k_c hK.1 i hi hg)
  · have h3 := h2 w (List.mem_filter.mpr ⟨hw, by cases h : goodWord w; rfl; exact absurd h hg⟩)
    have h4 : w.onTables = true := (by decide : ∀ w ∈ k_nw, w.onTables = true) w h3
    refine va_tabs h4 rfl (show w.before #[] s = true from ?_)
    have h5 : w ∈ k_nl ∨ w = .castable "java/lang/IllegalArgumentException" "java/lang/IllegalArgumentException" := (by decide : ∀ w ∈ k_nw, w ∈ k_nl ∨ w = .castable "java/lang/IllegalArgumentException" "java/lang/IllegalArgumentException") w h3
    rcases h5 with h5 | h5
    · exact hP.1 w h5
    · rw [h5]; exact hP.2.2.1
theorem k_XS_ok {G : am_G} (hK : k_OK G) : k_XS G := by
  refine ⟨fun x hx => ⟨hK.2.2, k_c hK.1 1198 (by decide +kernel) (by decide +kernel), k_c hK.1 142 (by decide +kernel) (by decide +kernel), by decide +kernel, fun args s hT hO => ?_⟩, fun x hx => ⟨hK.2.2, k_c hK.1 858 (by decide +kernel) (by decide +kernel), k_c hK.1 135 (by decide +kernel) (by decide +kernel), ["java/lang/RuntimeException", "java/lang/Exception"], by decide, by decide +kernel, by decide +kernel, by decide +kernel, fun args s hT hO => ?_⟩⟩
  · have hP := hK.2.1 s s.heap hO
    refine ⟨k_tabW hK hT hO [132, 880, 889, 892, 895, 897, 881, 882, 149, 150, 883, 888, 893, 913, 870, 914, 872, 915, 874, 884, 886, 876, 909, 910, 912, 876, 1209, 1210, 1211, 903, 903, 904, 905, 906, 906, 907, 908, 909, 1208, 1199, 1201, 891, 1202, 1203, 1204, 1205, 1206, 879, 878] (by decide +kernel) (by decide +kernel), ?_, hP.2.2.2.2.1, hP.2.2.2.2.2.1⟩
    obtain ⟨q, hq, e1, e2⟩ := (by decide +kernel : ∀ x ∈ ([165, 189, 218, 233, 288, 344, 368, 377, 408, 410, 412] : List Nat), ∃ q ∈ k_str, q.1 = RX10 ∧ q.2.1 = x) x hx
    have h9 := (hP.2.1 q hq).1
    rw [e1, e2] at h9
    exact ⟨_, _, h9⟩
  · have hP := hK.2.1 s s.heap hO
    refine ⟨k_tabW hK hT hO [132, 880, 889, 892, 895, 897, 881, 882, 149, 150, 883, 888, 893, 913, 870, 914, 872, 915, 874, 884, 886, 876, 909, 910, 912, 876, 900, 901, 902, 903, 903, 904, 905, 906, 906, 907, 908, 909, 899, 859, 867, 868, 869, 871, 873, 875, 879, 878, 877] (by decide +kernel) (by decide +kernel), ?_, hP.2.2.2.2.1, hP.2.2.2.2.2.1⟩
    obtain ⟨q, hq, e1, e2⟩ := (by decide +kernel : ∀ x ∈ ([88, 220, 379] : List Nat), ∃ q ∈ k_str, q.1 = RX10 ∧ q.2.1 = x) x hx
    have h9 := (hP.2.1 q hq).1
    rw [e1, e2] at h9
    exact ⟨_, _, h9⟩
def k_is (x : Int32) (n : Nat) : Prop := ∃ j, j < n ∧ x = nI j
theorem k_is_in {x : Int32} {n N : Nat} (h : k_is x n) (hn : n ≤ N) (hN : N < 2 ^ 31) : vp_in x N := by
  obtain ⟨j, hj, rfl⟩ := h
  exact vp_in_nI (by omega) hN
theorem k_is_no {x : Int32} {n : Nat} (h : x < 0 ∨ nI n ≤ x) (hn : n < 2 ^ 31) : ¬ k_is x n := by
  rintro ⟨j, hj, rfl⟩
  rcases h with h | h
  · exact nI_pos (by omega) h
  · exact absurd ((nI_leI hn (by omega)).mp h) (by omega)
theorem k_is_of {x : Int32} {n : Nat} (h0 : ¬ x < 0) (h : x < nI n) (hn : n < 2 ^ 31) : k_is x n := by
  rcases pk_ix x hn with h1 | h1 | h1
  · exact absurd h1 h0
  · exact absurd h (Int32.not_lt.mpr h1)
  · exact h1
theorem dX10_requirePerson_0 : decode cX10_requirePerson 0 = .ok (.iload_n 1, 1) := by decide +kernel
theorem dX10_requirePerson_1 : decode cX10_requirePerson 1 = .ok (.ifCond .lt 14, 3) := by decide +kernel
theorem dX10_requirePerson_4 : decode cX10_requirePerson 4 = .ok (.iload_n 1, 1) := by decide +kernel
theorem dX10_requirePerson_5 : decode cX10_requirePerson 5 = .ok (.aload_n 0, 1) := by decide +kernel
theorem dX10_requirePerson_6 : decode cX10_requirePerson 6 = .ok (.getfield 19, 3) := by decide +kernel
theorem dX10_requirePerson_9 : decode cX10_requirePerson 9 = .ok (.getfield 119, 3) := by decide +kernel
theorem dX10_requirePerson_12 : decode cX10_requirePerson 12 = .ok (.if_icmp .lt 14, 3) := by decide +kernel
theorem dX10_requirePerson_15 : decode cX10_requirePerson 15 = .ok (.new 163, 3) := by decide +kernel
theorem dX10_requirePerson_18 : decode cX10_requirePerson 18 = .ok (.dup, 1) := by decide +kernel
theorem dX10_requirePerson_19 : decode cX10_requirePerson 19 = .ok (.ldc_w 408, 3) := by decide +kernel
theorem dX10_requirePerson_22 : decode cX10_requirePerson 22 = .ok (.invokespecial 167, 3) := by decide +kernel
theorem dX10_requirePerson_25 : decode cX10_requirePerson 25 = .ok (.athrow, 1) := by decide +kernel
theorem dX10_requirePerson_26 : decode cX10_requirePerson 26 = .ok (.return_, 1) := by decide +kernel
set_option maxRecDepth 100000 in
set_option maxHeartbeats 4000000 in
theorem k_X10_requirePerson {G : am_G} (hK : k_OK G) {d : Nat} (hd : 7 ≤ d) {sh : List (Nat ⊕ (Nat × Nat))} {I : Nat → Nat → Int32} {R : Nat → Nat → Option Nat} {L : Nat → Nat → Int64} {g : Nat} (hXS : k_XS G) {t : Nat} (hM : k_Main sh R) (hRt : R 0 1 = some t) (ht3 : t = 3 ∨ t = 22) (hg : g ≠ 0) {n : Nat} (hn : I t 0 = nI n) (hn8 : n ≤ 8) (p : Int32) : AM G mX10_requirePerson d [.ref 0, .int p] (sh, I, R, L, g) (fun v w => v = none ∧ w = (sh, I, R, L, g) ∧ k_is p n) (fun E w => E = "java/util/NoSuchElementException" ∧ w = (sh, I, R, L, g) ∧ ¬ k_is p n) := by
  have hG := hK.1
  have ht : k_Town sh R t := by rcases ht3 with rfl | rfl; exact kM_3 hM; exact kM_22 hM
  have o41 := kM_41 hM
  have o42 := kM_42 hM
  have o43 := kM_43 hM
  have o47 := kM_47 hM
  have o60 := kM_60 hM
  have o90 := kM_90 hM
  have o93 := kM_93 hM
  have o97 := kM_97 hM
  have o79 := kM_79 hM
  have o1 := kM_1 hM
  refine AM.of (n := 0) (by decide +kernel) (Nat.le_of_ble_eq_true rfl) ?_
  show AW G mX10_requirePerson d (fun v w => v = none ∧ w = (sh, I, R, L, g) ∧ k_is p n) (fun E w => E = "java/util/NoSuchElementException" ∧ w = (sh, I, R, L, g) ∧ ¬ k_is p n) 0 [some (.ref 0), some (.int p)] [] (sh, I, R, L, g) 0 0
  refine AW.iload_n dX10_requirePerson_0 rfl ?_
  refine AW.if_lt 15 dX10_requirePerson_1 (by decide) (fun h1 => ?_) (fun h1 => ?_)
  · exact AW.throwNW (hXS.1 408 (by decide)) dX10_requirePerson_15 dX10_requirePerson_18 dX10_requirePerson_19 dX10_requirePerson_22 dX10_requirePerson_25 (by omega) (Nat.le_of_ble_eq_true rfl) (by decide) (by decide) hg (⟨rfl, rfl, k_is_no (Or.inl h1) (by omega)⟩)
  · refine AW.iload_n dX10_requirePerson_4 rfl ?_
    refine AW.aload_n dX10_requirePerson_5 rfl ?_
    refine AW.getR (fX10_19 hG).r rfl (hM.1 0 _ rfl) hRt dX10_requirePerson_6 ?_
    refine AW.getI (fX10_119 hG).r rfl (ht.1 0 _ rfl) dX10_requirePerson_9 ?_
    refine AW.icmp_lt 26 dX10_requirePerson_12 (by decide) (fun h12 => ?_) (fun h12 => ?_)
    · exact AW.vret dX10_requirePerson_26 rfl (by decide) (by decide) (⟨rfl, rfl, k_is_of h1 (by rw [← hn]; exact h12) (by omega)⟩)
    · exact AW.throwNW (hXS.1 408 (by decide)) dX10_requirePerson_15 dX10_requirePerson_18 dX10_requirePerson_19 dX10_requirePerson_22 dX10_requirePerson_25 (by omega) (Nat.le_of_ble_eq_true rfl) (by decide) (by decide) hg (⟨rfl, rfl, k_is_no (Or.inr (by rw [← hn]; exact Int32.not_lt.mp h12)) (by omega)⟩)
theorem dX10_requireLoaf_0 : decode cX10_requireLoaf 0 = .ok (.iload_n 1, 1) := by decide +kernel
theorem dX10_requireLoaf_1 : decode cX10_requireLoaf 1 = .ok (.ifCond .lt 17, 3) := by decide +kernel
theorem dX10_requireLoaf_4 : decode cX10_requireLoaf 4 = .ok (.iload_n 1, 1) := by decide +kernel
theorem dX10_requireLoaf_5 : decode cX10_requireLoaf 5 = .ok (.aload_n 0, 1) := by decide +kernel
theorem dX10_requireLoaf_6 : decode cX10_requireLoaf 6 = .ok (.getfield 19, 3) := by decide +kernel
theorem dX10_requireLoaf_9 : decode cX10_requireLoaf 9 = .ok (.getfield 122, 3) := by decide +kernel
theorem dX10_requireLoaf_12 : decode cX10_requireLoaf 12 = .ok (.getfield 126, 3) := by decide +kernel
theorem dX10_requireLoaf_15 : decode cX10_requireLoaf 15 = .ok (.if_icmp .lt 14, 3) := by decide +kernel
theorem dX10_requireLoaf_18 : decode cX10_requireLoaf 18 = .ok (.new 163, 3) := by decide +kernel
theorem dX10_requireLoaf_21 : decode cX10_requireLoaf 21 = .ok (.dup, 1) := by decide +kernel
theorem dX10_requireLoaf_22 : decode cX10_requireLoaf 22 = .ok (.ldc_w 410, 3) := by decide +kernel
theorem dX10_requireLoaf_25 : decode cX10_requireLoaf 25 = .ok (.invokespecial 167, 3) := by decide +kernel
theorem dX10_requireLoaf_28 : decode cX10_requireLoaf 28 = .ok (.athrow, 1) := by decide +kernel
theorem dX10_requireLoaf_29 : decode cX10_requireLoaf 29 = .ok (.return_, 1) := by decide +kernel
set_option maxRecDepth 100000 in
set_option maxHeartbeats 4000000 in
theorem k_X10_requireLoaf {G : am_G} (hK : k_OK G) {d : Nat} (hd : 7 ≤ d) {sh : List (Nat ⊕ (Nat × Nat))} {I : Nat → Nat → Int32} {R : Nat → Nat → Option Nat} {L : Nat → Nat → Int64} {g : Nat} (hXS : k_XS G) {t : Nat} (hM : k_Main sh R) (hRt : R 0 1 = some t) (ht3 : t = 3 ∨ t = 22) (hg : g ≠ 0) {m : Nat} (hm : I (t + 8) 0 = nI m) (hm6 : m ≤ 6) (l : Int32) : AM G mX10_requireLoaf d [.ref 0, .int l] (sh, I, R, L, g) (fun v w => v = none ∧ w = (sh, I, R, L, g) ∧ k_is l m) (fun E w => E = "java/util/NoSuchElementException" ∧ w = (sh, I, R, L, g) ∧ ¬ k_is l m) := by
  have hG := hK.1
  have ht : k_Town sh R t := by rcases ht3 with rfl | rfl; exact kM_3 hM; exact kM_22 hM
  have o41 := kM_41 hM
  have o42 := kM_42 hM
  have o43 := kM_43 hM
  have o47 := kM_47 hM
  have o60 := kM_60 hM
  have o90 := kM_90 hM
  have o93 := kM_93 hM
  have o97 := kM_97 hM
  have o79 := kM_79 hM
  have o1 := kM_1 hM
  refine AM.of (n := 0) (by decide +kernel) (Nat.le_of_ble_eq_true rfl) ?_
  show AW G mX10_requireLoaf d (fun v w => v = none ∧ w = (sh, I, R, L, g) ∧ k_is l m) (fun E w => E = "java/util/NoSuchElementException" ∧ w = (sh, I, R, L, g) ∧ ¬ k_is l m) 0 [some (.ref 0), some (.int l)] [] (sh, I, R, L, g) 0 0
  refine AW.iload_n dX10_requireLoaf_0 rfl ?_
  refine AW.if_lt 18 dX10_requireLoaf_1 (by decide) (fun h1 => ?_) (fun h1 => ?_)
  · exact AW.throwNW (hXS.1 410 (by decide)) dX10_requireLoaf_18 dX10_requireLoaf_21 dX10_requireLoaf_22 dX10_requireLoaf_25 dX10_requireLoaf_28 (by omega) (Nat.le_of_ble_eq_true rfl) (by decide) (by decide) hg (⟨rfl, rfl, k_is_no (Or.inl h1) (by omega)⟩)
  · refine AW.iload_n dX10_requireLoaf_4 rfl ?_
    refine AW.aload_n dX10_requireLoaf_5 rfl ?_
    refine AW.getR (fX10_19 hG).r rfl (hM.1 0 _ rfl) hRt dX10_requireLoaf_6 ?_
    refine AW.getR (c' := (t + 8)) (fX10_122 hG) rfl (ht.1 0 _ rfl) (ht.2 (0, 11, 8) (by decide)) dX10_requireLoaf_9 ?_
    refine AW.getI (fX10_126 hG).r rfl (ht.1 8 _ rfl) dX10_requireLoaf_12 ?_
    refine AW.icmp_lt 29 dX10_requireLoaf_15 (by decide) (fun h15 => ?_) (fun h15 => ?_)
    · exact AW.vret dX10_requireLoaf_29 rfl (by decide) (by decide) (⟨rfl, rfl, k_is_of h1 (by rw [← hm]; exact h15) (by omega)⟩)
    · exact AW.throwNW (hXS.1 410 (by decide)) dX10_requireLoaf_18 dX10_requireLoaf_21 dX10_requireLoaf_22 dX10_requireLoaf_25 dX10_requireLoaf_28 (by omega) (Nat.le_of_ble_eq_true rfl) (by decide) (by decide) hg (⟨rfl, rfl, k_is_no (Or.inr (by rw [← hm]; exact Int32.not_lt.mp h15)) (by omega)⟩)
theorem dX10_lookAround_0 : decode cX10_lookAround 0 = .ok (.aload_n 0, 1) := by decide +kernel
theorem dX10_lookAround_1 : decode cX10_lookAround 1 = .ok (.getfield 54, 3) := by decide +kernel
theorem dX10_lookAround_4 : decode cX10_lookAround 4 = .ok (.aload_n 0, 1) := by decide +kernel
theorem dX10_lookAround_5 : decode cX10_lookAround 5 = .ok (.getfield 19, 3) := by decide +kernel
theorem dX10_lookAround_8 : decode cX10_lookAround 8 = .ok (.aload_n 0, 1) := by decide +kernel
theorem dX10_lookAround_9 : decode cX10_lookAround 9 = .ok (.getfield 33, 3) := by decide +kernel
theorem dX10_lookAround_12 : decode cX10_lookAround 12 = .ok (.getfield 110, 3) := by decide +kernel
theorem dX10_lookAround_15 : decode cX10_lookAround 15 = .ok (.getfield 114, 3) := by decide +kernel
theorem dX10_lookAround_18 : decode cX10_lookAround 18 = .ok (.invokevirtual 393, 3) := by decide +kernel
theorem dX10_lookAround_21 : decode cX10_lookAround 21 = .ok (.return_, 1) := by decide +kernel
set_option maxRecDepth 100000 in
set_option maxHeartbeats 4000000 in
theorem k_X10_lookAround {G : am_G} (hK : k_OK G) {d : Nat} (hd : 3 ≤ d) {sh : List (Nat ⊕ (Nat × Nat))} {I : Nat → Nat → Int32} {R : Nat → Nat → Option Nat} {L : Nat → Nat → Int64} {g : Nat} (hXS : k_XS G) {t : Nat} (hM : k_Main sh R) (hRt : R 0 1 = some t) (ht3 : t = 3 ∨ t = 22) {n m : Nat} (hn : I t 0 = nI n) (hn8 : n ≤ 8) (hm : I (t + 8) 0 = nI m) (hm6 : m ≤ 6) : AM G mX10_lookAround d [.ref 0] (sh, I, R, L, g) (fun v w => v = none ∧ w = (sh, f_look I 90 t 47 n m, R, L, g)) (fun _ _ => False) := by
  have hG := hK.1
  have ht : k_Town sh R t := by rcases ht3 with rfl | rfl; exact kM_3 hM; exact kM_22 hM
  have o41 := kM_41 hM
  have o42 := kM_42 hM
  have o43 := kM_43 hM
  have o47 := kM_47 hM
  have o60 := kM_60 hM
  have o90 := kM_90 hM
  have o93 := kM_93 hM
  have o97 := kM_97 hM
  have o79 := kM_79 hM
  have o1 := kM_1 hM
  refine AM.of (n := 0) (by decide +kernel) (Nat.le_of_ble_eq_true rfl) ?_
  show AW G mX10_lookAround d (fun v w => v = none ∧ w = (sh, f_look I 90 t 47 n m, R, L, g)) (fun _ _ => False) 0 [some (.ref 0)] [] (sh, I, R, L, g) 0 0
  refine AW.aload_n dX10_lookAround_0 rfl ?_
  refine AW.getR (c' := 90) (fX10_54 hG).r rfl (hM.1 0 _ rfl) (hM.2 (0, 10, 90) (by decide)) dX10_lookAround_1 ?_
  refine AW.aload_n dX10_lookAround_4 rfl ?_
  refine AW.getR (fX10_19 hG).r rfl (hM.1 0 _ rfl) hRt dX10_lookAround_5 ?_
  refine AW.aload_n dX10_lookAround_8 rfl ?_
  refine AW.getR (c' := 41) (fX10_33 hG).r rfl (hM.1 0 _ rfl) (hM.2 (0, 4, 41) (by decide)) dX10_lookAround_9 ?_
  refine AW.getR (c' := 42) (fX10_110 hG) rfl (o41.1 0 _ rfl) (o41.2 (0, 0, 1) (by decide)) dX10_lookAround_12 ?_
  refine AW.getR (c' := 47) (fX10_114 hG) rfl (o42.1 0 _ rfl) (o42.2 (0, 1, 5) (by decide)) dX10_lookAround_15 ?_
  refine AW.callV (b := 90) (As := [.ref t, .ref 47]) hG.2.2 (vX10_393 hG) (o90.1 0 _ rfl) (k_X1_look hK (d := 2) (Nat.le_refl _) o90 ht o47 (by omega) (by omega) (by assumption) (by assumption) (by assumption) (by assumption)) (by omega) dX10_lookAround_18 rfl rfl (Nat.le_of_ble_eq_true rfl) (fun v w9 hq9 h09 => by obtain ⟨rfl, rfl⟩ := hq9; exact ⟨h09, rfl⟩) (by decide) (by decide) (fun _ _ hx => hx) (fun v18 w18 hq18 => ?_)
  obtain ⟨rfl, rfl⟩ := hq18
  refine AW.namI (fun I18 eI18 => ?_)
  show AW G mX10_lookAround d (fun v w => v = none ∧ w = (sh, f_look I 90 t 47 n m, R, L, g)) (fun _ _ => False) 21 [some (.ref 0)] [] (sh, I18, R, L, g) 0 0
  exact AW.vret dX10_lookAround_21 rfl (by decide) (by decide) (⟨rfl, by rw [eI18]⟩)
def f_hin (I : Nat → Nat → Int32) (t n p l : Nat) : Int32 :=
  if ¬ f_pair (I (t + 4)) (nI p) &&& I (t + 14) l = 0 then 1
  else if ¬ f_dw (I (t + 2)) ((1 : Int32) <<< (I (t + 2) p &&& 31)) n &&& I (t + 14) l = 0 then 2
  else if ¬ I 91 p &&& I (t + 14) l = 0 then 3
  else if I 47 0 = 0 ∧ I 47 1 < I (t + 11) l then 4
  else if 0 < I 47 0 ∨ I (t + 11) l + I (t + 12) l < I 47 1 then 5
  else if I 49 l = -1 then 0 else 6
theorem dX10_hindrance_0 : decode cX10_hindrance 0 = .ok (.aload_n 0, 1) := by decide +kernel
theorem dX10_hindrance_1 : decode cX10_hindrance 1 = .ok (.getfield 19, 3) := by decide +kernel
theorem dX10_hindrance_4 : decode cX10_hindrance 4 = .ok (.getfield 122, 3) := by decide +kernel
theorem dX10_hindrance_7 : decode cX10_hindrance 7 = .ok (.astore_n 3, 1) := by decide +kernel
theorem dX10_hindrance_8 : decode cX10_hindrance 8 = .ok (.aload_n 0, 1) := by decide +kernel
theorem dX10_hindrance_9 : decode cX10_hindrance 9 = .ok (.getfield 33, 3) := by decide +kernel
theorem dX10_hindrance_12 : decode cX10_hindrance 12 = .ok (.getfield 110, 3) := by decide +kernel
theorem dX10_hindrance_15 : decode cX10_hindrance 15 = .ok (.getfield 114, 3) := by decide +kernel
theorem dX10_hindrance_18 : decode cX10_hindrance 18 = .ok (.astore 4, 2) := by decide +kernel
theorem dX10_hindrance_20 : decode cX10_hindrance 20 = .ok (.aload_n 0, 1) := by decide +kernel
theorem dX10_hindrance_21 : decode cX10_hindrance 21 = .ok (.getfield 19, 3) := by decide +kernel
theorem dX10_hindrance_24 : decode cX10_hindrance 24 = .ok (.iload_n 1, 1) := by decide +kernel
theorem dX10_hindrance_25 : decode cX10_hindrance 25 = .ok (.iload_n 2, 1) := by decide +kernel
theorem dX10_hindrance_26 : decode cX10_hindrance 26 = .ok (.invokevirtual 334, 3) := by decide +kernel
theorem dX10_hindrance_29 : decode cX10_hindrance 29 = .ok (.ifCond .eq 5, 3) := by decide +kernel
theorem dX10_hindrance_32 : decode cX10_hindrance 32 = .ok (.iconst 1, 1) := by decide +kernel
theorem dX10_hindrance_33 : decode cX10_hindrance 33 = .ok (.ireturn, 1) := by decide +kernel
theorem dX10_hindrance_34 : decode cX10_hindrance 34 = .ok (.aload_n 0, 1) := by decide +kernel
theorem dX10_hindrance_35 : decode cX10_hindrance 35 = .ok (.getfield 19, 3) := by decide +kernel
theorem dX10_hindrance_38 : decode cX10_hindrance 38 = .ok (.iconst 1, 1) := by decide +kernel
theorem dX10_hindrance_39 : decode cX10_hindrance 39 = .ok (.aload_n 0, 1) := by decide +kernel
theorem dX10_hindrance_40 : decode cX10_hindrance 40 = .ok (.getfield 19, 3) := by decide +kernel
theorem dX10_hindrance_43 : decode cX10_hindrance 43 = .ok (.getfield 174, 3) := by decide +kernel
theorem dX10_hindrance_46 : decode cX10_hindrance 46 = .ok (.iload_n 1, 1) := by decide +kernel
theorem dX10_hindrance_47 : decode cX10_hindrance 47 = .ok (.iaload, 1) := by decide +kernel
theorem dX10_hindrance_48 : decode cX10_hindrance 48 = .ok (.ishl, 1) := by decide +kernel
theorem dX10_hindrance_49 : decode cX10_hindrance 49 = .ok (.invokevirtual 324, 3) := by decide +kernel
theorem dX10_hindrance_52 : decode cX10_hindrance 52 = .ok (.aload_n 3, 1) := by decide +kernel
theorem dX10_hindrance_53 : decode cX10_hindrance 53 = .ok (.getfield 204, 3) := by decide +kernel
theorem dX10_hindrance_56 : decode cX10_hindrance 56 = .ok (.iload_n 2, 1) := by decide +kernel
theorem dX10_hindrance_57 : decode cX10_hindrance 57 = .ok (.iaload, 1) := by decide +kernel
theorem dX10_hindrance_58 : decode cX10_hindrance 58 = .ok (.iand, 1) := by decide +kernel
theorem dX10_hindrance_59 : decode cX10_hindrance 59 = .ok (.ifCond .eq 5, 3) := by decide +kernel
theorem dX10_hindrance_62 : decode cX10_hindrance 62 = .ok (.iconst 2, 1) := by decide +kernel
theorem dX10_hindrance_63 : decode cX10_hindrance 63 = .ok (.ireturn, 1) := by decide +kernel
theorem dX10_hindrance_64 : decode cX10_hindrance 64 = .ok (.aload_n 0, 1) := by decide +kernel
theorem dX10_hindrance_65 : decode cX10_hindrance 65 = .ok (.getfield 54, 3) := by decide +kernel
theorem dX10_hindrance_68 : decode cX10_hindrance 68 = .ok (.getfield 186, 3) := by decide +kernel
theorem dX10_hindrance_71 : decode cX10_hindrance 71 = .ok (.iload_n 1, 1) := by decide +kernel
theorem dX10_hindrance_72 : decode cX10_hindrance 72 = .ok (.iaload, 1) := by decide +kernel
theorem dX10_hindrance_73 : decode cX10_hindrance 73 = .ok (.aload_n 3, 1) := by decide +kernel
theorem dX10_hindrance_74 : decode cX10_hindrance 74 = .ok (.getfield 204, 3) := by decide +kernel
theorem dX10_hindrance_77 : decode cX10_hindrance 77 = .ok (.iload_n 2, 1) := by decide +kernel
theorem dX10_hindrance_78 : decode cX10_hindrance 78 = .ok (.iaload, 1) := by decide +kernel
theorem dX10_hindrance_79 : decode cX10_hindrance 79 = .ok (.iand, 1) := by decide +kernel
theorem dX10_hindrance_80 : decode cX10_hindrance 80 = .ok (.ifCond .eq 5, 3) := by decide +kernel
theorem dX10_hindrance_83 : decode cX10_hindrance 83 = .ok (.iconst 3, 1) := by decide +kernel
theorem dX10_hindrance_84 : decode cX10_hindrance 84 = .ok (.ireturn, 1) := by decide +kernel
theorem dX10_hindrance_85 : decode cX10_hindrance 85 = .ok (.aload 4, 2) := by decide +kernel
theorem dX10_hindrance_87 : decode cX10_hindrance 87 = .ok (.getfield 137, 3) := by decide +kernel
theorem dX10_hindrance_90 : decode cX10_hindrance 90 = .ok (.ifCond .ne 19, 3) := by decide +kernel
theorem dX10_hindrance_93 : decode cX10_hindrance 93 = .ok (.aload 4, 2) := by decide +kernel
theorem dX10_hindrance_95 : decode cX10_hindrance 95 = .ok (.getfield 140, 3) := by decide +kernel
theorem dX10_hindrance_98 : decode cX10_hindrance 98 = .ok (.aload_n 3, 1) := by decide +kernel
theorem dX10_hindrance_99 : decode cX10_hindrance 99 = .ok (.getfield 198, 3) := by decide +kernel
theorem dX10_hindrance_102 : decode cX10_hindrance 102 = .ok (.iload_n 2, 1) := by decide +kernel
theorem dX10_hindrance_103 : decode cX10_hindrance 103 = .ok (.iaload, 1) := by decide +kernel
theorem dX10_hindrance_104 : decode cX10_hindrance 104 = .ok (.if_icmp .ge 5, 3) := by decide +kernel
theorem dX10_hindrance_107 : decode cX10_hindrance 107 = .ok (.iconst 4, 1) := by decide +kernel
theorem dX10_hindrance_108 : decode cX10_hindrance 108 = .ok (.ireturn, 1) := by decide +kernel
theorem dX10_hindrance_109 : decode cX10_hindrance 109 = .ok (.aload 4, 2) := by decide +kernel
theorem dX10_hindrance_111 : decode cX10_hindrance 111 = .ok (.getfield 137, 3) := by decide +kernel
theorem dX10_hindrance_114 : decode cX10_hindrance 114 = .ok (.ifCond .gt 24, 3) := by decide +kernel
theorem dX10_hindrance_117 : decode cX10_hindrance 117 = .ok (.aload 4, 2) := by decide +kernel
theorem dX10_hindrance_119 : decode cX10_hindrance 119 = .ok (.getfield 140, 3) := by decide +kernel
theorem dX10_hindrance_122 : decode cX10_hindrance 122 = .ok (.aload_n 3, 1) := by decide +kernel
theorem dX10_hindrance_123 : decode cX10_hindrance 123 = .ok (.getfield 198, 3) := by decide +kernel
theorem dX10_hindrance_126 : decode cX10_hindrance 126 = .ok (.iload_n 2, 1) := by decide +kernel
theorem dX10_hindrance_127 : decode cX10_hindrance 127 = .ok (.iaload, 1) := by decide +kernel
theorem dX10_hindrance_128 : decode cX10_hindrance 128 = .ok (.aload_n 3, 1) := by decide +kernel
theorem dX10_hindrance_129 : decode cX10_hindrance 129 = .ok (.getfield 201, 3) := by decide +kernel
theorem dX10_hindrance_132 : decode cX10_hindrance 132 = .ok (.iload_n 2, 1) := by decide +kernel
theorem dX10_hindrance_133 : decode cX10_hindrance 133 = .ok (.iaload, 1) := by decide +kernel
theorem dX10_hindrance_134 : decode cX10_hindrance 134 = .ok (.iadd, 1) := by decide +kernel
theorem dX10_hindrance_135 : decode cX10_hindrance 135 = .ok (.if_icmp .le 5, 3) := by decide +kernel
theorem dX10_hindrance_138 : decode cX10_hindrance 138 = .ok (.iconst 5, 1) := by decide +kernel
theorem dX10_hindrance_139 : decode cX10_hindrance 139 = .ok (.ireturn, 1) := by decide +kernel
theorem dX10_hindrance_140 : decode cX10_hindrance 140 = .ok (.aload 4, 2) := by decide +kernel
theorem dX10_hindrance_142 : decode cX10_hindrance 142 = .ok (.getfield 211, 3) := by decide +kernel
theorem dX10_hindrance_145 : decode cX10_hindrance 145 = .ok (.iload_n 2, 1) := by decide +kernel
theorem dX10_hindrance_146 : decode cX10_hindrance 146 = .ok (.iaload, 1) := by decide +kernel
theorem dX10_hindrance_147 : decode cX10_hindrance 147 = .ok (.iconst (-1), 1) := by decide +kernel
theorem dX10_hindrance_148 : decode cX10_hindrance 148 = .ok (.if_icmp .ne 7, 3) := by decide +kernel
theorem dX10_hindrance_151 : decode cX10_hindrance 151 = .ok (.iconst 0, 1) := by decide +kernel
theorem dX10_hindrance_152 : decode cX10_hindrance 152 = .ok (.goto 5, 3) := by decide +kernel
theorem dX10_hindrance_155 : decode cX10_hindrance 155 = .ok (.bipush 6, 2) := by decide +kernel
theorem dX10_hindrance_157 : decode cX10_hindrance 157 = .ok (.ireturn, 1) := by decide +kernel
set_option maxRecDepth 100000 in
set_option maxHeartbeats 4000000 in
theorem k_X10_hindrance {G : am_G} (hK : k_OK G) {d : Nat} (hd : 2 ≤ d) {sh : List (Nat ⊕ (Nat × Nat))} {I : Nat → Nat → Int32} {R : Nat → Nat → Option Nat} {L : Nat → Nat → Int64} {g : Nat} (hXS : k_XS G) {t : Nat} (hM : k_Main sh R) (hRt : R 0 1 = some t) (ht3 : t = 3 ∨ t = 22) {n pj lf : Nat} (hn : I t 0 = nI n) (hn8 : n ≤ 8) (p l : Int32) (hp : p = nI pj) (hpj : pj < 8) (hl : l = nI lf) (hlf : lf < 6) : AM G mX10_hindrance d [.ref 0, .int p, .int l] (sh, I, R, L, g) (fun v w => v = some (.int (f_hin I t n pj lf)) ∧ w = (sh, I, R, L, g)) (fun _ _ => False) := by
  have hG := hK.1
  have ht : k_Town sh R t := by rcases ht3 with rfl | rfl; exact kM_3 hM; exact kM_22 hM
  have o41 := kM_41 hM
  have o42 := kM_42 hM
  have o43 := kM_43 hM
  have o47 := kM_47 hM
  have o60 := kM_60 hM
  have o90 := kM_90 hM
  have o93 := kM_93 hM
  have o97 := kM_97 hM
  have o79 := kM_79 hM
  have o1 := kM_1 hM
  have hcp : p.toNatClampNeg = pj := k_lit hp (by omega)
  have hbp : vp_in p 8 := by rw [hp]; exact vp_in_nI hpj (by decide)
  have hcl : l.toNatClampNeg = lf := k_lit hl (by omega)
  have hbl : vp_in l 6 := by rw [hl]; exact vp_in_nI hlf (by decide)
  refine AM.of (n := 2) (by decide +kernel) (Nat.le_of_ble_eq_true rfl) ?_
  show AW G mX10_hindrance d (fun v w => v = some (.int (f_hin I t n pj lf)) ∧ w = (sh, I, R, L, g)) (fun _ _ => False) 0 [some (.ref 0), some (.int p), some (.int l), none, none] [] (sh, I, R, L, g) 0 0
  refine AW.aload_n dX10_hindrance_0 rfl ?_
  refine AW.getR (fX10_19 hG).r rfl (hM.1 0 _ rfl) hRt dX10_hindrance_1 ?_
  refine AW.getR (c' := (t + 8)) (fX10_122 hG) rfl (ht.1 0 _ rfl) (ht.2 (0, 11, 8) (by decide)) dX10_hindrance_4 ?_
  refine AW.as_n [some (.ref 0), some (.int p), some (.int l), some (.ref (t + 8)), none] dX10_hindrance_7 (by decide) rfl rfl ?_
  refine AW.aload_n dX10_hindrance_8 rfl ?_
  refine AW.getR (c' := 41) (fX10_33 hG).r rfl (hM.1 0 _ rfl) (hM.2 (0, 4, 41) (by decide)) dX10_hindrance_9 ?_
  refine AW.getR (c' := 42) (fX10_110 hG) rfl (o41.1 0 _ rfl) (o41.2 (0, 0, 1) (by decide)) dX10_hindrance_12 ?_
  refine AW.getR (c' := 47) (fX10_114 hG) rfl (o42.1 0 _ rfl) (o42.2 (0, 1, 5) (by decide)) dX10_hindrance_15 ?_
  refine AW.as [some (.ref 0), some (.int p), some (.int l), some (.ref (t + 8)), some (.ref 47)] dX10_hindrance_18 (by decide) rfl rfl ?_
  refine AW.aload_n dX10_hindrance_20 rfl ?_
  refine AW.getR (fX10_19 hG).r rfl (hM.1 0 _ rfl) hRt dX10_hindrance_21 ?_
  refine AW.iload_n dX10_hindrance_24 rfl ?_
  refine AW.iload_n dX10_hindrance_25 rfl ?_
  refine AW.callV (b := t) (As := [.int p, .int l]) hG.2.2 (vX10_334 hG) (ht.1 0 _ rfl) (k_X9_eats hK (d := 1) (Nat.le_refl _) ht p l (by first | assumption | exact vp_in_nI (by omega) (by decide)) (by first | assumption | exact vp_in_nI (by omega) (by decide))) (by omega) dX10_hindrance_26 rfl rfl (Nat.le_of_ble_eq_true rfl) (fun v w9 hq9 h09 => by obtain ⟨rfl, rfl⟩ := hq9; exact ⟨h09, rfl⟩) (by decide) (by decide) (fun _ _ hx => hx) (fun v26 w26 hq26 => ?_)
  obtain ⟨rfl, rfl⟩ := hq26
  refine AW.nam (fun x26 ex26 => ?_)
  refine AW.if_eq 34 dX10_hindrance_29 (by decide) (fun h29 => ?_) (fun h29 => ?_)
  · rw [ex26, hcl, hp] at h29
    have h29 : ¬ ¬ f_pair (I (t + 4)) (nI pj) &&& I (t + 14) lf = 0 := by simpa using kb_0.mp h29
    refine AW.aload_n dX10_hindrance_34 rfl ?_
    refine AW.getR (fX10_19 hG).r rfl (hM.1 0 _ rfl) hRt dX10_hindrance_35 ?_
    refine AW.iconst 1 dX10_hindrance_38 (by decide) ?_
    refine AW.aload_n dX10_hindrance_39 rfl ?_
    refine AW.getR (fX10_19 hG).r rfl (hM.1 0 _ rfl) hRt dX10_hindrance_40 ?_
    refine AW.getR (c' := (t + 2)) (fX10_174 hG) rfl (ht.1 0 _ rfl) (ht.2 (0, 5, 2) (by decide)) dX10_hindrance_43 ?_
    refine AW.iload_n dX10_hindrance_46 rfl ?_
    refine AW.iald (ht.1 2 _ rfl) (by first | assumption | (unfold vp_in; decide) | exact vp_in_nI (by omega) (by decide)) dX10_hindrance_47 ?_
    refine AW.ishl dX10_hindrance_48 ?_
    refine AW.callV (b := t) (As := [.int (1 <<< ((I (t + 2) p.toNatClampNeg) &&& 31))]) hG.2.2 (vX10_324 hG) (ht.1 0 _ rfl) (k_X9_dwellers hK (d := 1) (Nat.le_refl _) ht (by assumption) (by assumption) (1 <<< ((I (t + 2) p.toNatClampNeg) &&& 31))) (by omega) dX10_hindrance_49 rfl rfl (Nat.le_of_ble_eq_true rfl) (fun v w9 hq9 h09 => by obtain ⟨rfl, rfl⟩ := hq9; exact ⟨h09, rfl⟩) (by decide) (by decide) (fun _ _ hx => hx) (fun v49 w49 hq49 => ?_)
    obtain ⟨rfl, rfl⟩ := hq49
    refine AW.nam (fun x49 ex49 => ?_)
    refine AW.aload_n dX10_hindrance_52 rfl ?_
    refine AW.getR (c' := (t + 14)) (fX10_204 hG) rfl (ht.1 8 _ rfl) (ht.2 (8, 6, 14) (by decide)) dX10_hindrance_53 ?_
    refine AW.iload_n dX10_hindrance_56 rfl ?_
    refine AW.iald (ht.1 14 _ rfl) (by first | assumption | (unfold vp_in; decide) | exact vp_in_nI (by omega) (by decide)) dX10_hindrance_57 ?_
    refine AW.iand dX10_hindrance_58 ?_
    refine AW.if_eq 64 dX10_hindrance_59 (by decide) (fun h59 => ?_) (fun h59 => ?_)
    · rw [ex49, hcp, hcl] at h59
      refine AW.aload_n dX10_hindrance_64 rfl ?_
      refine AW.getR (c' := 90) (fX10_54 hG).r rfl (hM.1 0 _ rfl) (hM.2 (0, 10, 90) (by decide)) dX10_hindrance_65 ?_
      refine AW.getR (c' := 91) (fX10_186 hG) rfl (o90.1 0 _ rfl) (o90.2 (0, 0, 1) (by decide)) dX10_hindrance_68 ?_
      refine AW.iload_n dX10_hindrance_71 rfl ?_
      refine AW.iald (o90.1 1 _ rfl) (by first | assumption | (unfold vp_in; decide) | exact vp_in_nI (by omega) (by decide)) dX10_hindrance_72 ?_
      refine AW.aload_n dX10_hindrance_73 rfl ?_
      refine AW.getR (c' := (t + 14)) (fX10_204 hG) rfl (ht.1 8 _ rfl) (ht.2 (8, 6, 14) (by decide)) dX10_hindrance_74 ?_
      refine AW.iload_n dX10_hindrance_77 rfl ?_
      refine AW.iald (ht.1 14 _ rfl) (by first | assumption | (unfold vp_in; decide) | exact vp_in_nI (by omega) (by decide)) dX10_hindrance_78 ?_
      refine AW.iand dX10_hindrance_79 ?_
      refine AW.if_eq 85 dX10_hindrance_80 (by decide) (fun h80 => ?_) (fun h80 => ?_)
      · rw [hcp, hcl] at h80
        refine AW.aload dX10_hindrance_85 rfl ?_
        refine AW.getI (fX10_137 hG).r rfl (o47.1 0 _ rfl) dX10_hindrance_87 ?_
        refine AW.if_ne 109 dX10_hindrance_90 (by decide) (fun h90 => ?_) (fun h90 => ?_)
        · refine AW.aload dX10_hindrance_109 rfl ?_
          refine AW.getI (fX10_137 hG).r rfl (o47.1 0 _ rfl) dX10_hindrance_111 ?_
          refine AW.if_gt 138 dX10_hindrance_114 (by decide) (fun h114 => ?_) (fun h114 => ?_)
          · refine AW.iconst 5 dX10_hindrance_138 (by decide) ?_
            exact AW.iret dX10_hindrance_139 rfl (by decide) (by decide) (⟨by rw [f_hin, if_neg h29, if_neg (fun h => h h59), if_neg (fun h => h h80), if_neg (fun h => h90 h.1), if_pos (Or.inl h114)], rfl⟩)
          · refine AW.aload dX10_hindrance_117 rfl ?_
            refine AW.getI (fX10_140 hG).r rfl (o47.1 0 _ rfl) dX10_hindrance_119 ?_
            refine AW.aload_n dX10_hindrance_122 rfl ?_
            refine AW.getR (c' := (t + 11)) (fX10_198 hG) rfl (ht.1 8 _ rfl) (ht.2 (8, 3, 11) (by decide)) dX10_hindrance_123 ?_
            refine AW.iload_n dX10_hindrance_126 rfl ?_
            refine AW.iald (ht.1 11 _ rfl) (by first | assumption | (unfold vp_in; decide) | exact vp_in_nI (by omega) (by decide)) dX10_hindrance_127 ?_
            refine AW.aload_n dX10_hindrance_128 rfl ?_
            refine AW.getR (c' := (t + 12)) (fX10_201 hG) rfl (ht.1 8 _ rfl) (ht.2 (8, 4, 12) (by decide)) dX10_hindrance_129 ?_
            refine AW.iload_n dX10_hindrance_132 rfl ?_
            refine AW.iald (ht.1 12 _ rfl) (by first | assumption | (unfold vp_in; decide) | exact vp_in_nI (by omega) (by decide)) dX10_hindrance_133 ?_
            refine AW.iadd dX10_hindrance_134 ?_
            refine AW.icmp_le 140 dX10_hindrance_135 (by decide) (fun h135 => ?_) (fun h135 => ?_)
            · rw [hcl] at h135
              refine AW.aload dX10_hindrance_140 rfl ?_
              refine AW.getR (c' := 49) (fX10_211 hG) rfl (o47.1 0 _ rfl) (o47.2 (0, 3, 2) (by decide)) dX10_hindrance_142 ?_
              refine AW.iload_n dX10_hindrance_145 rfl ?_
              refine AW.iald (o47.1 2 _ rfl) (by first | assumption | (unfold vp_in; decide) | exact vp_in_nI (by omega) (by decide)) dX10_hindrance_146 ?_
              refine AW.iconst (-1) dX10_hindrance_147 (by decide) ?_
              refine AW.icmp_ne 155 dX10_hindrance_148 (by decide) (fun h148 => ?_) (fun h148 => ?_)
              · rw [hcl] at h148
                refine AW.bipush 6 dX10_hindrance_155 (by decide) ?_
                exact AW.iret dX10_hindrance_157 rfl (by decide) (by decide) (⟨by rw [f_hin, if_neg h29, if_neg (fun h => h h59), if_neg (fun h => h h80), if_neg (fun h => h90 h.1), if_neg (by rintro (h | h); exact h114 h; exact absurd h (Int32.not_lt.mpr h135)), if_neg h148], rfl⟩)
              · rw [hcl] at h148
                refine AW.iconst 0 dX10_hindrance_151 (by decide) ?_
                refine AW.goto 157 dX10_hindrance_152 (by decide) ?_
                exact AW.iret dX10_hindrance_157 rfl (by decide) (by decide) (⟨by rw [f_hin, if_neg h29, if_neg (fun h => h h59), if_neg (fun h => h h80), if_neg (fun h => h90 h.1), if_neg (by rintro (h | h); exact h114 h; exact absurd h (Int32.not_lt.mpr h135)), if_pos h148], rfl⟩)
            · rw [hcl] at h135
              refine AW.iconst 5 dX10_hindrance_138 (by decide) ?_
              exact AW.iret dX10_hindrance_139 rfl (by decide) (by decide) (⟨by rw [f_hin, if_neg h29, if_neg (fun h => h h59), if_neg (fun h => h h80), if_neg (fun h => h90 h.1), if_pos (Or.inr (Int32.not_le.mp h135))], rfl⟩)
        · refine AW.aload dX10_hindrance_93 rfl ?_
          refine AW.getI (fX10_140 hG).r rfl (o47.1 0 _ rfl) dX10_hindrance_95 ?_
          refine AW.aload_n dX10_hindrance_98 rfl ?_
          refine AW.getR (c' := (t + 11)) (fX10_198 hG) rfl (ht.1 8 _ rfl) (ht.2 (8, 3, 11) (by decide)) dX10_hindrance_99 ?_
          refine AW.iload_n dX10_hindrance_102 rfl ?_
          refine AW.iald (ht.1 11 _ rfl) (by first | assumption | (unfold vp_in; decide) | exact vp_in_nI (by omega) (by decide)) dX10_hindrance_103 ?_
          refine AW.icmp_ge 109 dX10_hindrance_104 (by decide) (fun h104 => ?_) (fun h104 => ?_)
          · rw [hcl] at h104
            refine AW.aload dX10_hindrance_109 rfl ?_
            refine AW.getI (fX10_137 hG).r rfl (o47.1 0 _ rfl) dX10_hindrance_111 ?_
            refine AW.if_gt 138 dX10_hindrance_114 (by decide) (fun h114 => ?_) (fun h114 => ?_)
            · refine AW.iconst 5 dX10_hindrance_138 (by decide) ?_
              exact AW.iret dX10_hindrance_139 rfl (by decide) (by decide) (⟨by rw [f_hin, if_neg h29, if_neg (fun h => h h59), if_neg (fun h => h h80), if_neg (fun h => absurd h.2 (Int32.not_lt.mpr h104)), if_pos (Or.inl h114)], rfl⟩)
            · refine AW.aload dX10_hindrance_117 rfl ?_
              refine AW.getI (fX10_140 hG).r rfl (o47.1 0 _ rfl) dX10_hindrance_119 ?_
              refine AW.aload_n dX10_hindrance_122 rfl ?_
              refine AW.getR (c' := (t + 11)) (fX10_198 hG) rfl (ht.1 8 _ rfl) (ht.2 (8, 3, 11) (by decide)) dX10_hindrance_123 ?_
              refine AW.iload_n dX10_hindrance_126 rfl ?_
              refine AW.iald (ht.1 11 _ rfl) (by first | assumption | (unfold vp_in; decide) | exact vp_in_nI (by omega) (by decide)) dX10_hindrance_127 ?_
              refine AW.aload_n dX10_hindrance_128 rfl ?_
              refine AW.getR (c' := (t + 12)) (fX10_201 hG) rfl (ht.1 8 _ rfl) (ht.2 (8, 4, 12) (by decide)) dX10_hindrance_129 ?_
              refine AW.iload_n dX10_hindrance_132 rfl ?_
              refine AW.iald (ht.1 12 _ rfl) (by first | assumption | (unfold vp_in; decide) | exact vp_in_nI (by omega) (by decide)) dX10_hindrance_133 ?_
              refine AW.iadd dX10_hindrance_134 ?_
              refine AW.icmp_le 140 dX10_hindrance_135 (by decide) (fun h135 => ?_) (fun h135 => ?_)
              · rw [hcl] at h135
                refine AW.aload dX10_hindrance_140 rfl ?_
                refine AW.getR (c' := 49) (fX10_211 hG) rfl (o47.1 0 _ rfl) (o47.2 (0, 3, 2) (by decide)) dX10_hindrance_142 ?_
                refine AW.iload_n dX10_hindrance_145 rfl ?_
                refine AW.iald (o47.1 2 _ rfl) (by first | assumption | (unfold vp_in; decide) | exact vp_in_nI (by omega) (by decide)) dX10_hindrance_146 ?_
                refine AW.iconst (-1) dX10_hindrance_147 (by decide) ?_
                refine AW.icmp_ne 155 dX10_hindrance_148 (by decide) (fun h148 => ?_) (fun h148 => ?_)
                · rw [hcl] at h148
                  refine AW.bipush 6 dX10_hindrance_155 (by decide) ?_
                  exact AW.iret dX10_hindrance_157 rfl (by decide) (by decide) (⟨by rw [f_hin, if_neg h29, if_neg (fun h => h h59), if_neg (fun h => h h80), if_neg (fun h => absurd h.2 (Int32.not_lt.mpr h104)), if_neg (by rintro (h | h); exact h114 h; exact absurd h (Int32.not_lt.mpr h135)), if_neg h148], rfl⟩)
                · rw [hcl] at h148
                  refine AW.iconst 0 dX10_hindrance_151 (by decide) ?_
                  refine AW.goto 157 dX10_hindrance_152 (by decide) ?_
                  exact AW.iret dX10_hindrance_157 rfl (by decide) (by decide) (⟨by rw [f_hin, if_neg h29, if_neg (fun h => h h59), if_neg (fun h => h h80), if_neg (fun h => absurd h.2 (Int32.not_lt.mpr h104)), if_neg (by rintro (h | h); exact h114 h; exact absurd h (Int32.not_lt.mpr h135)), if_pos h148], rfl⟩)
              · rw [hcl] at h135
                refine AW.iconst 5 dX10_hindrance_138 (by decide) ?_
                exact AW.iret dX10_hindrance_139 rfl (by decide) (by decide) (⟨by rw [f_hin, if_neg h29, if_neg (fun h => h h59), if_neg (fun h => h h80), if_neg (fun h => absurd h.2 (Int32.not_lt.mpr h104)), if_pos (Or.inr (Int32.not_le.mp h135))], rfl⟩)
          · rw [hcl] at h104
            refine AW.iconst 4 dX10_hindrance_107 (by decide) ?_
            exact AW.iret dX10_hindrance_108 rfl (by decide) (by decide) (⟨by rw [f_hin, if_neg h29, if_neg (fun h => h h59), if_neg (fun h => h h80), if_pos ⟨h90, Int32.not_le.mp h104⟩], rfl⟩)
      · rw [hcp, hcl] at h80
        refine AW.iconst 3 dX10_hindrance_83 (by decide) ?_
        exact AW.iret dX10_hindrance_84 rfl (by decide) (by decide) (⟨by rw [f_hin, if_neg h29, if_neg (fun h => h h59), if_pos h80], rfl⟩)
    · rw [ex49, hcp, hcl] at h59
      refine AW.iconst 2 dX10_hindrance_62 (by decide) ?_
      exact AW.iret dX10_hindrance_63 rfl (by decide) (by decide) (⟨by rw [f_hin, if_neg h29, if_pos h59], rfl⟩)
  · rw [ex26, hcl, hp] at h29
    have h29 : ¬ f_pair (I (t + 4)) (nI pj) &&& I (t + 14) lf = 0 := by simpa using kb_1.mp h29
    refine AW.iconst 1 dX10_hindrance_32 (by decide) ?_
    exact AW.iret dX10_hindrance_33 rfl (by decide) (by decide) (⟨by rw [f_hin, if_pos h29], rfl⟩)
def f_pw (I : Nat → Nat → Int32) (t n lf : Nat) (an : Int32) (k : Nat) : Int32 := lfold (fun p a => if f_hin I t n p lf = an then a ||| ((1 : Int32) <<< (nI p &&& 31)) else a) 0 k
theorem dX10_peopleWith_0 : decode cX10_peopleWith 0 = .ok (.aload_n 0, 1) := by decide +kernel
theorem dX10_peopleWith_1 : decode cX10_peopleWith 1 = .ok (.invokevirtual 147, 3) := by decide +kernel
theorem dX10_peopleWith_4 : decode cX10_peopleWith 4 = .ok (.iconst 0, 1) := by decide +kernel
theorem dX10_peopleWith_5 : decode cX10_peopleWith 5 = .ok (.istore_n 3, 1) := by decide +kernel
theorem dX10_peopleWith_6 : decode cX10_peopleWith 6 = .ok (.iconst 0, 1) := by decide +kernel
theorem dX10_peopleWith_7 : decode cX10_peopleWith 7 = .ok (.istore 4, 2) := by decide +kernel
theorem dX10_peopleWith_9 : decode cX10_peopleWith 9 = .ok (.iload 4, 2) := by decide +kernel
theorem dX10_peopleWith_11 : decode cX10_peopleWith 11 = .ok (.aload_n 0, 1) := by decide +kernel
theorem dX10_peopleWith_12 : decode cX10_peopleWith 12 = .ok (.getfield 19, 3) := by decide +kernel
theorem dX10_peopleWith_15 : decode cX10_peopleWith 15 = .ok (.getfield 119, 3) := by decide +kernel
theorem dX10_peopleWith_18 : decode cX10_peopleWith 18 = .ok (.if_icmp .ge 27, 3) := by decide +kernel
theorem dX10_peopleWith_21 : decode cX10_peopleWith 21 = .ok (.aload_n 0, 1) := by decide +kernel
theorem dX10_peopleWith_22 : decode cX10_peopleWith 22 = .ok (.iload 4, 2) := by decide +kernel
theorem dX10_peopleWith_24 : decode cX10_peopleWith 24 = .ok (.iload_n 1, 1) := by decide +kernel
theorem dX10_peopleWith_25 : decode cX10_peopleWith 25 = .ok (.invokevirtual 230, 3) := by decide +kernel
theorem dX10_peopleWith_28 : decode cX10_peopleWith 28 = .ok (.iload_n 2, 1) := by decide +kernel
theorem dX10_peopleWith_29 : decode cX10_peopleWith 29 = .ok (.if_icmp .ne 10, 3) := by decide +kernel
theorem dX10_peopleWith_32 : decode cX10_peopleWith 32 = .ok (.iload_n 3, 1) := by decide +kernel
theorem dX10_peopleWith_33 : decode cX10_peopleWith 33 = .ok (.iconst 1, 1) := by decide +kernel
theorem dX10_peopleWith_34 : decode cX10_peopleWith 34 = .ok (.iload 4, 2) := by decide +kernel
theorem dX10_peopleWith_36 : decode cX10_peopleWith 36 = .ok (.ishl, 1) := by decide +kernel
theorem dX10_peopleWith_37 : decode cX10_peopleWith 37 = .ok (.ior, 1) := by decide +kernel
theorem dX10_peopleWith_38 : decode cX10_peopleWith 38 = .ok (.istore_n 3, 1) := by decide +kernel
theorem dX10_peopleWith_39 : decode cX10_peopleWith 39 = .ok (.iinc 4 1, 3) := by decide +kernel
theorem dX10_peopleWith_42 : decode cX10_peopleWith 42 = .ok (.goto (-33), 3) := by decide +kernel
theorem dX10_peopleWith_45 : decode cX10_peopleWith 45 = .ok (.iload_n 3, 1) := by decide +kernel
theorem dX10_peopleWith_46 : decode cX10_peopleWith 46 = .ok (.ireturn, 1) := by decide +kernel
set_option maxRecDepth 100000 in
set_option maxHeartbeats 4000000 in
theorem k_X10_peopleWith {G : am_G} (hK : k_OK G) {d : Nat} (hd : 4 ≤ d) {sh : List (Nat ⊕ (Nat × Nat))} {I : Nat → Nat → Int32} {R : Nat → Nat → Option Nat} {L : Nat → Nat → Int64} {g : Nat} (hXS : k_XS G) {t : Nat} (hM : k_Main sh R) (hRt : R 0 1 = some t) (ht3 : t = 3 ∨ t = 22) {n m lf : Nat} (hn : I t 0 = nI n) (hn8 : n ≤ 8) (hm : I (t + 8) 0 = nI m) (hm6 : m ≤ 6) (l an : Int32) (hl : l = nI lf) (hlf : lf < 6) : AM G mX10_peopleWith d [.ref 0, .int l, .int an] (sh, I, R, L, g) (fun v w => v = some (.int (f_pw (f_look I 90 t 47 n m) t n lf an n)) ∧ w = (sh, f_look I 90 t 47 n m, R, L, g)) (fun _ _ => False) := by
  have hG := hK.1
  have ht : k_Town sh R t := by rcases ht3 with rfl | rfl; exact kM_3 hM; exact kM_22 hM
  have o41 := kM_41 hM
  have o42 := kM_42 hM
  have o43 := kM_43 hM
  have o47 := kM_47 hM
  have o60 := kM_60 hM
  have o90 := kM_90 hM
  have o93 := kM_93 hM
  have o97 := kM_97 hM
  have o79 := kM_79 hM
  have o1 := kM_1 hM
  refine AM.of (n := 2) (by decide +kernel) (Nat.le_of_ble_eq_true rfl) ?_
  show AW G mX10_peopleWith d (fun v w => v = some (.int (f_pw (f_look I 90 t 47 n m) t n lf an n)) ∧ w = (sh, f_look I 90 t 47 n m, R, L, g)) (fun _ _ => False) 0 [some (.ref 0), some (.int l), some (.int an), none, none] [] (sh, I, R, L, g) 0 0
  refine AW.aload_n dX10_peopleWith_0 rfl ?_
  refine AW.callV (b := 0) (As := []) hG.2.2 (vX10_147 hG) (hM.1 0 _ rfl) (k_X10_lookAround hK (d := 3) (Nat.le_refl _) hXS hM hRt ht3 (by assumption) (by assumption) (by assumption) (by assumption)) (by omega) dX10_peopleWith_1 rfl rfl (Nat.le_of_ble_eq_true rfl) (fun v w9 hq9 h09 => by obtain ⟨rfl, rfl⟩ := hq9; exact ⟨h09, rfl⟩) (by decide) (by decide) (fun _ _ hx => hx) (fun v1 w1 hq1 => ?_)
  obtain ⟨rfl, rfl⟩ := hq1
  refine AW.namI (fun I1 eI1 => ?_)
  show AW G mX10_peopleWith d (fun v w => v = some (.int (f_pw (f_look I 90 t 47 n m) t n lf an n)) ∧ w = (sh, f_look I 90 t 47 n m, R, L, g)) (fun _ _ => False) 4 [some (.ref 0), some (.int l), some (.int an), none, none] [] (sh, I1, R, L, g) 0 0
  have hJn : I1 t 0 = nI n := by rw [eI1, f_look_o _ _ _ _ _ _ (by omega)]; exact hn
  refine AW.iconst 0 dX10_peopleWith_4 (by decide) ?_
  refine AW.is_n [some (.ref 0), some (.int l), some (.int an), some (.int 0), none] dX10_peopleWith_5 (by decide) rfl rfl ?_
  refine AW.iconst 0 dX10_peopleWith_6 (by decide) ?_
  refine AW.is [some (.ref 0), some (.int l), some (.int an), some (.int 0), some (.int 0)] dX10_peopleWith_7 (by decide) rfl rfl ?_
  have L9 : ∀ k9, k9 ≤ n → ∀ (a x : Int32), (x = nI k9 ∧ a = f_pw I1 t n lf an k9) → AW G mX10_peopleWith d (fun v w => v = some (.int (f_pw (f_look I 90 t 47 n m) t n lf an n)) ∧ w = (sh, f_look I 90 t 47 n m, R, L, g)) (fun _ _ => False) 9 [some (.ref 0), some (.int l), some (.int an), some (.int a), some (.int x)] [] (sh, I1, R, L, g) 0 0 := by
    refine am_rec n (fun k9 hk9 ih9 => ?_)
    intro a x hi9
    obtain ⟨hx, ha⟩ := hi9
    refine AW.iload dX10_peopleWith_9 rfl ?_
    refine AW.aload_n dX10_peopleWith_11 rfl ?_
    refine AW.getR (fX10_19 hG).r rfl (hM.1 0 _ rfl) hRt dX10_peopleWith_12 ?_
    refine AW.getI (fX10_119 hG).r rfl (ht.1 0 _ rfl) dX10_peopleWith_15 ?_
    refine AW.icmp_ge 45 dX10_peopleWith_18 (by decide) (fun h18 => ?_) (fun h18 => ?_)
    · have hke := k_ge h18 hx hJn hk9 (by omega)
      subst hke
      refine AW.iload_n dX10_peopleWith_45 rfl ?_
      exact AW.iret dX10_peopleWith_46 rfl (by decide) (by decide) (⟨by rw [ha, eI1], by rw [eI1]⟩)
    · have hlt := k_lt h18 hx hJn hk9 (by omega)
      refine AW.aload_n dX10_peopleWith_21 rfl ?_
      refine AW.iload dX10_peopleWith_22 rfl ?_
      refine AW.iload_n dX10_peopleWith_24 rfl ?_
      refine AW.callV (b := 0) (As := [.int x, .int l]) hG.2.2 (vX10_230 hG) (hM.1 0 _ rfl) (k_X10_hindrance hK (d := 2) (Nat.le_refl _) hXS hM hRt ht3 (by assumption) (by assumption) x l (by assumption) (by omega) (by assumption) (by assumption)) (by omega) dX10_peopleWith_25 rfl rfl (Nat.le_of_ble_eq_true rfl) (fun v w9 hq9 h09 => by obtain ⟨rfl, rfl⟩ := hq9; exact ⟨h09, rfl⟩) (by decide) (by decide) (fun _ _ hx => hx) (fun v25 w25 hq25 => ?_)
      obtain ⟨rfl, rfl⟩ := hq25
      refine AW.nam (fun x25 ex25 => ?_)
      refine AW.iload_n dX10_peopleWith_28 rfl ?_
      refine AW.icmp_ne 39 dX10_peopleWith_29 (by decide) (fun h29 => ?_) (fun h29 => ?_)
      · rw [ex25] at h29
        refine AW.inc (fun x39 => [some (.ref 0), some (.int l), some (.int an), some (.int a), some (.int x39)]) dX10_peopleWith_39 rfl (by decide) rfl (fun _ => rfl) (fun x39 ex39 => ?_)
        refine AW.goto 9 dX10_peopleWith_42 (by decide) ?_
        exact ih9 (k9 + 1) (by omega) (by omega) _ _ (⟨k_inc (by assumption) hx, (show a = (if f_hin I1 t n k9 lf = an then _ else _) by rw [if_neg h29]; exact ha)⟩)
      · rw [ex25] at h29
        refine AW.iload_n dX10_peopleWith_32 rfl ?_
        refine AW.iconst 1 dX10_peopleWith_33 (by decide) ?_
        refine AW.iload dX10_peopleWith_34 rfl ?_
        refine AW.ishl dX10_peopleWith_36 ?_
        refine AW.ior dX10_peopleWith_37 ?_
        refine AW.nam (fun x38 ex38 => ?_)
        refine AW.is_n [some (.ref 0), some (.int l), some (.int an), some (.int x38), some (.int x)] dX10_peopleWith_38 (by decide) rfl rfl ?_
        refine AW.inc (fun x39 => [some (.ref 0), some (.int l), some (.int an), some (.int x38), some (.int x39)]) dX10_peopleWith_39 rfl (by decide) rfl (fun _ => rfl) (fun x39 ex39 => ?_)
        refine AW.goto 9 dX10_peopleWith_42 (by decide) ?_
        exact ih9 (k9 + 1) (by omega) (by omega) _ _ (⟨k_inc (by assumption) hx, (show x38 = (if f_hin I1 t n k9 lf = an then _ else _) by rw [if_pos h29, ex38, hx, ha]; try rfl)⟩)
  exact L9 0 (by omega) _ _ (⟨nI_0.symm, rfl⟩)
