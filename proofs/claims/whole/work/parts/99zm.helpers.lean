/-! THE LAW'S HELPERS -/
/-- the words of a call of a static method with handlers -/
def am_cH (G : am_G) (own : String) (idx : Nat) (M' : am_M) (hh : List (Nat × Nat × Nat × Nat)) (n : Nat) : Prop := Cond.initialized (am_y M').cls ∈ am_Ts G ∧ Cond.codeWith (am_y M') (am_b M') (am_n M') (am_t M') hh ∈ am_Ts G ∧ ((am_y M').cls ≠ "java/lang/invoke/MethodHandle" ∧ (am_y M').cls ≠ "java/lang/invoke/VarHandle" ∧ (parseMethodDescriptor (am_y M').desc).map (fun d => d.parameters.length) = some n) ∧ am_n M' ≤ 40 ∧ Cond.methodLink own idx (am_y M') ∈ am_Ts G ∧ Cond.static (am_y M') ∈ am_Ts G
theorem AW.callSH {G : am_G} {M M' : am_M} {hh : List (Nat × Nat × Nat × Nat)} {d d' idx n pc uc us : Nat} {ls : List (Option Value)} {st As st0 : List Value} {w : am_w} {Rt Rt' : Option Value → am_w → Prop} {Th Th' : String → am_w → Prop} (hG : am_ok G) (hc : am_cH G (am_y M).cls idx M' hh n) (hM : AMH G M' hh d' As w Rt' Th') (hdd : d' + 1 ≤ d)
    (hd : decode (am_b M) pc = .ok (.invokestatic idx, 3)) (hst : st0 = As.reverse ++ st) (hn : As.length = n) (h8 : (st.map fun v => v.category).sum ≤ 8) (hg : ∀ v w', Rt' v w' → w'.2.2.2.2 = 0 → w.2.2.2.2 = 0 ∧ w'.1.length = w.1.length + am_mc M') (hu : uc + am_mc M' ≤ am_mc M) (hv : us + am_ms M' ≤ am_ms M)
    (hx : ∀ E w', Th' E w' → Th E w') (kk : ∀ v w', Rt' v w' → AW G M d Rt Th (pc + 3) ls (v.toList ++ st) w' (uc + am_mc M') (us + am_ms M')) : AW G M d Rt Th pc ls st0 w uc us := by
  intro p e s m args below meth c hC H locs la hH hL
  refine am_sized fun hz => ?_
  obtain ⟨c1, c2, c3, c4, c5, c6⟩ := hc
  have hgood : GoodIn (am_Ts G) (va_wsS (am_y M).cls idx (am_y M') (am_wordsH G M' hh)) := by
    intro w9 hw9
    unfold va_wsS at hw9
    rcases List.mem_append.mp hw9 with h | h
    · simp only [List.mem_cons, List.not_mem_nil, or_false] at h
      rcases h with rfl | rfl | rfl
      · exact ⟨c5, hG.2 _ c5⟩
      · exact ⟨c6, hG.2 _ c6⟩
      · exact ⟨c1, hG.2 _ c1⟩
    · rcases List.mem_cons.mp h with rfl | h
      · exact ⟨c2, hG.2 _ c2⟩
      · exact ⟨h, hG.2 _ h⟩
  have hcw : vx_CSW (am_rm M d) s args (am_y M).cls idx (am_y M') (am_b M') (am_n M') (am_t M') hh (am_wordsH G M' hh) (am_rm M' d') (am_mc M') (am_ms M') n := vx_cwSW (Ts := am_Ts G) n hC.2.2.2.2.1 hgood rfl rfl rfl c3 ⟨hdd, by show 8 + (am_n M' + 11) + 64 * d' ≤ 64 * d; omega⟩
  refine am_back (M' := M') (a := (As.map (am_v G)).toArray) hC hH hL (vx_runSX (g := F0 m pc la (st0.map (am_v G))) (As := As.map (am_v G)) (rest := st.map (am_v G)) (Ts := am_Ts G) (hh := hh) ⟨hC.1, hC.2.1, hC.2.2.1, hC.2.2.2.1, hC.2.2.2.2.1⟩ hM hcw ⟨am_Pc_blind hG _, fun U hU hW => am_Pc_at hG (vs := As) hC hH hz hU hW⟩ rfl (by rw [List.length_map]; exact hn) hL.1 ?_ (lv_room (by rw [am_catS]; exact h8)) hd ⟨hu, hv⟩) hg hu hv hx kk
  show st0.map (am_v G) = (As.map (am_v G)).reverse ++ st.map (am_v G)
  rw [hst, List.map_append, List.map_reverse]
theorem am_cV.re {G : am_G} {own : String} {idx n ci : Nat} {M1 M2 : am_M} (h : am_cV G own idx M1 n ci) (hy : am_y M1 = am_y M2) (hb : am_b M1 = am_b M2) (hn : am_n M1 = am_n M2) (ht : am_t M1 = am_t M2) : am_cV G own idx M2 n ci := by
  unfold am_cV am_cB at h ⊢
  rw [hy, hb, hn, ht] at h
  exact h
abbrev nmS : String := "java/util/NoSuchElementException"
abbrev nmI : String := "java/lang/IllegalArgumentException"
theorem dL_town_0 : decode cL_town 0 = .ok (.aload_n 2, 1) := by decide +kernel
theorem dL_town_1 : decode cL_town 1 = .ok (.iconst 0, 1) := by decide +kernel
theorem dL_town_2 : decode cL_town 2 = .ok (.aload_n 0, 1) := by decide +kernel
theorem dL_town_3 : decode cL_town 3 = .ok (.iload_n 1, 1) := by decide +kernel
theorem dL_town_4 : decode cL_town 4 = .ok (.invokevirtual 7, 3) := by decide +kernel
theorem dL_town_7 : decode cL_town 7 = .ok (.i2l, 1) := by decide +kernel
theorem dL_town_8 : decode cL_town 8 = .ok (.lastore, 1) := by decide +kernel
theorem dL_town_9 : decode cL_town 9 = .ok (.goto 6, 3) := by decide +kernel
theorem dL_town_12 : decode cL_town 12 = .ok (.astore_n 3, 1) := by decide +kernel
theorem dL_town_13 : decode cL_town 13 = .ok (.iconst 1, 1) := by decide +kernel
theorem dL_town_14 : decode cL_town 14 = .ok (.ireturn, 1) := by decide +kernel
theorem dL_town_15 : decode cL_town 15 = .ok (.iconst 0, 1) := by decide +kernel
theorem dL_town_16 : decode cL_town 16 = .ok (.ireturn, 1) := by decide +kernel
abbrev nL_town : am_M := (yL_town, cL_town, 4, some .int, am_mc pX10_town, am_ms pX10_town)
theorem kH_town {G : am_G} (hG : k_ok G) : am_cH G RL 83 nL_town [(0, 9, 12, 13)] 3 := ⟨k_c hG 116 (by decide +kernel) (by decide +kernel), k_c hG 852 (by decide +kernel) (by decide +kernel), by decide +kernel, by decide, k_c hG 850 (by decide +kernel) (by decide +kernel), k_c hG 851 (by decide +kernel) (by decide +kernel)⟩
set_option maxRecDepth 100000 in
set_option maxHeartbeats 4000000 in
theorem h_town {G : am_G} (hK : k_OK G) {d d' : Nat} (hdd : d' + 1 ≤ d) {sh : List (Nat ⊕ (Nat × Nat))} {I : Nat → Nat → Int32} {R : Nat → Nat → Option Nat} {L : Nat → Nat → Int64} (hs0 : sh[0]? = some (.inl 10)) (hs4 : sh[144]? = some (.inr (4, 1))) {a1 : Int32} {Rt Rt' : Option Value → am_w → Prop} {Th Th' : String → am_w → Prop} (hM : AM G pX10_town d' [.ref 0, .int a1] (sh, I, R, L, 1) Rt' Th')
    (h1 : ∀ v w', Rt' v w' → ∃ (r : Int32) (I' : Nat → Nat → Int32) (R' : Nat → Nat → Option Nat), v = some (.int r) ∧ w' = (sh, I', R', L, 1) ∧ Rt (some (.int 0)) (sh, I', R', am_uL L 144 0 r.toInt64, 1)) (h2 : ∀ E w', Th' E w' → w'.2.2.2.2 ≠ 0 ∧ ((E = nmI ∧ Rt (some (.int 1)) w'))) : AMH G nL_town [(0, 9, 12, 13)] d [.ref 0, .int a1, .ref 144] (sh, I, R, L, 1) Rt Th := by
  have hG := hK.1
  refine AMH.of (n := 1) (by decide +kernel) (Nat.le_of_ble_eq_true rfl) ?_
  show AH G nL_town [(0, 9, 12, 13)] d Rt Th 0 [some (.ref 0), some (.int a1), some (.ref 144), none] [] (sh, I, R, L, 1) 0 0
  refine AH.aload_n dL_town_0 rfl ?_
  refine AH.iconst 0 dL_town_1 (by decide) ?_
  refine AH.aload_n dL_town_2 rfl ?_
  refine AH.iload_n dL_town_3 rfl ?_
  refine AH.callV (M' := pX10_town) (b := 0) (As := [.int a1]) hG.2.2 (am_cV.re (vL_7 hG) rfl rfl rfl rfl) hs0 hM (by omega) dL_town_4 rfl rfl (Nat.le_of_ble_eq_true rfl) (fun v w9 hq => by obtain ⟨r, I9, R9, -, rfl, -⟩ := h1 v w9 hq; exact Nat.one_ne_zero) (Nat.le_of_eq (Nat.zero_add _)) (Nat.le_of_eq (Nat.zero_add _)) rfl (fun E w9 hq => ?_) (fun v w9 hq => ?_)
  · obtain ⟨hg, hq2⟩ := h2 E w9 hq
    refine ⟨hg, ?_⟩
    obtain ⟨rfl, hq3⟩ := hq2
    exact ⟨12, 1, Or.inl ⟨0, 9, 13, _, nmI, rfl, by decide, by decide, by decide, k_c hG 853 (by decide +kernel) (by decide +kernel), fun s H hO => (hK.2.1 s H hO).2.2.1⟩, Or.inl ⟨3, 1, dL_town_12, by decide, dL_town_13, by decide, dL_town_14⟩, hq3⟩
  · obtain ⟨r, I9, R9, rfl, rfl, hq2⟩ := h1 v w9 hq
    refine AH.i2l dL_town_7 (AH.last hs4 (by unfold vp_in; decide) dL_town_8 (AH.goto 15 dL_town_9 (by decide) (AH.iconst 0 dL_town_15 (by decide) (AH.iret dL_town_16 rfl (Nat.le_of_eq (Nat.zero_add _)) (Nat.le_of_eq (Nat.zero_add _)) ?_))))
    exact hq2
theorem dL_count_0 : decode cL_count 0 = .ok (.aload_n 2, 1) := by decide +kernel
theorem dL_count_1 : decode cL_count 1 = .ok (.iconst 0, 1) := by decide +kernel
theorem dL_count_2 : decode cL_count 2 = .ok (.aload_n 0, 1) := by decide +kernel
theorem dL_count_3 : decode cL_count 3 = .ok (.iload_n 1, 1) := by decide +kernel
theorem dL_count_4 : decode cL_count 4 = .ok (.invokevirtual 15, 3) := by decide +kernel
theorem dL_count_7 : decode cL_count 7 = .ok (.i2l, 1) := by decide +kernel
theorem dL_count_8 : decode cL_count 8 = .ok (.lastore, 1) := by decide +kernel
theorem dL_count_9 : decode cL_count 9 = .ok (.goto 6, 3) := by decide +kernel
theorem dL_count_12 : decode cL_count 12 = .ok (.astore_n 3, 1) := by decide +kernel
theorem dL_count_13 : decode cL_count 13 = .ok (.iconst 1, 1) := by decide +kernel
theorem dL_count_14 : decode cL_count 14 = .ok (.ireturn, 1) := by decide +kernel
theorem dL_count_15 : decode cL_count 15 = .ok (.iconst 0, 1) := by decide +kernel
theorem dL_count_16 : decode cL_count 16 = .ok (.ireturn, 1) := by decide +kernel
abbrev nL_count : am_M := (yL_count, cL_count, 4, some .int, am_mc pX10_count, am_ms pX10_count)
theorem kH_count {G : am_G} (hG : k_ok G) : am_cH G RL 97 nL_count [(0, 9, 12, 18)] 3 := ⟨k_c hG 116 (by decide +kernel) (by decide +kernel), k_c hG 1184 (by decide +kernel) (by decide +kernel), by decide +kernel, by decide, k_c hG 1182 (by decide +kernel) (by decide +kernel), k_c hG 1183 (by decide +kernel) (by decide +kernel)⟩
set_option maxRecDepth 100000 in
set_option maxHeartbeats 4000000 in
theorem h_count {G : am_G} (hK : k_OK G) {d d' : Nat} (hdd : d' + 1 ≤ d) {sh : List (Nat ⊕ (Nat × Nat))} {I : Nat → Nat → Int32} {R : Nat → Nat → Option Nat} {L : Nat → Nat → Int64} (hs0 : sh[0]? = some (.inl 10)) (hs4 : sh[144]? = some (.inr (4, 1))) {a1 : Int32} {Rt Rt' : Option Value → am_w → Prop} {Th Th' : String → am_w → Prop} (hM : AM G pX10_count d' [.ref 0, .int a1] (sh, I, R, L, 1) Rt' Th')
    (h1 : ∀ v w', Rt' v w' → ∃ (r : Int32) (I' : Nat → Nat → Int32) (R' : Nat → Nat → Option Nat), v = some (.int r) ∧ w' = (sh, I', R', L, 1) ∧ Rt (some (.int 0)) (sh, I', R', am_uL L 144 0 r.toInt64, 1)) (h2 : ∀ E w', Th' E w' → w'.2.2.2.2 ≠ 0 ∧ ((E = nmS ∧ Rt (some (.int 1)) w'))) : AMH G nL_count [(0, 9, 12, 18)] d [.ref 0, .int a1, .ref 144] (sh, I, R, L, 1) Rt Th := by
  have hG := hK.1
  refine AMH.of (n := 1) (by decide +kernel) (Nat.le_of_ble_eq_true rfl) ?_
  show AH G nL_count [(0, 9, 12, 18)] d Rt Th 0 [some (.ref 0), some (.int a1), some (.ref 144), none] [] (sh, I, R, L, 1) 0 0
  refine AH.aload_n dL_count_0 rfl ?_
  refine AH.iconst 0 dL_count_1 (by decide) ?_
  refine AH.aload_n dL_count_2 rfl ?_
  refine AH.iload_n dL_count_3 rfl ?_
  refine AH.callV (M' := pX10_count) (b := 0) (As := [.int a1]) hG.2.2 (am_cV.re (vL_15 hG) rfl rfl rfl rfl) hs0 hM (by omega) dL_count_4 rfl rfl (Nat.le_of_ble_eq_true rfl) (fun v w9 hq => by obtain ⟨r, I9, R9, -, rfl, -⟩ := h1 v w9 hq; exact Nat.one_ne_zero) (Nat.le_of_eq (Nat.zero_add _)) (Nat.le_of_eq (Nat.zero_add _)) rfl (fun E w9 hq => ?_) (fun v w9 hq => ?_)
  · obtain ⟨hg, hq2⟩ := h2 E w9 hq
    refine ⟨hg, ?_⟩
    obtain ⟨rfl, hq3⟩ := hq2
    exact ⟨12, 1, Or.inl ⟨0, 9, 18, _, nmS, rfl, by decide, by decide, by decide, k_c hG 1185 (by decide +kernel) (by decide +kernel), fun s H hO => (hK.2.1 s H hO).2.2.2.1⟩, Or.inl ⟨3, 1, dL_count_12, by decide, dL_count_13, by decide, dL_count_14⟩, hq3⟩
  · obtain ⟨r, I9, R9, rfl, rfl, hq2⟩ := h1 v w9 hq
    refine AH.i2l dL_count_7 (AH.last hs4 (by unfold vp_in; decide) dL_count_8 (AH.goto 15 dL_count_9 (by decide) (AH.iconst 0 dL_count_15 (by decide) (AH.iret dL_count_16 rfl (Nat.le_of_eq (Nat.zero_add _)) (Nat.le_of_eq (Nat.zero_add _)) ?_))))
    exact hq2
theorem dL_person_0 : decode cL_person 0 = .ok (.aload_n 3, 1) := by decide +kernel
theorem dL_person_1 : decode cL_person 1 = .ok (.iconst 0, 1) := by decide +kernel
theorem dL_person_2 : decode cL_person 2 = .ok (.aload_n 0, 1) := by decide +kernel
theorem dL_person_3 : decode cL_person 3 = .ok (.iload_n 1, 1) := by decide +kernel
theorem dL_person_4 : decode cL_person 4 = .ok (.iload_n 2, 1) := by decide +kernel
theorem dL_person_5 : decode cL_person 5 = .ok (.invokevirtual 20, 3) := by decide +kernel
theorem dL_person_8 : decode cL_person 8 = .ok (.i2l, 1) := by decide +kernel
theorem dL_person_9 : decode cL_person 9 = .ok (.lastore, 1) := by decide +kernel
theorem dL_person_10 : decode cL_person 10 = .ok (.goto 7, 3) := by decide +kernel
theorem dL_person_13 : decode cL_person 13 = .ok (.astore 4, 2) := by decide +kernel
theorem dL_person_15 : decode cL_person 15 = .ok (.iconst 1, 1) := by decide +kernel
theorem dL_person_16 : decode cL_person 16 = .ok (.ireturn, 1) := by decide +kernel
theorem dL_person_17 : decode cL_person 17 = .ok (.iconst 0, 1) := by decide +kernel
theorem dL_person_18 : decode cL_person 18 = .ok (.ireturn, 1) := by decide +kernel
abbrev nL_person : am_M := (yL_person, cL_person, 5, some .int, am_mc pX10_person, am_ms pX10_person)
theorem kH_person {G : am_G} (hG : k_ok G) : am_cH G RL 100 nL_person [(0, 10, 13, 18)] 4 := ⟨k_c hG 116 (by decide +kernel) (by decide +kernel), k_c hG 1216 (by decide +kernel) (by decide +kernel), by decide +kernel, by decide, k_c hG 1214 (by decide +kernel) (by decide +kernel), k_c hG 1215 (by decide +kernel) (by decide +kernel)⟩
set_option maxRecDepth 100000 in
set_option maxHeartbeats 4000000 in
theorem h_person {G : am_G} (hK : k_OK G) {d d' : Nat} (hdd : d' + 1 ≤ d) {sh : List (Nat ⊕ (Nat × Nat))} {I : Nat → Nat → Int32} {R : Nat → Nat → Option Nat} {L : Nat → Nat → Int64} (hs0 : sh[0]? = some (.inl 10)) (hs4 : sh[144]? = some (.inr (4, 1))) {a1 a2 : Int32} {Rt Rt' : Option Value → am_w → Prop} {Th Th' : String → am_w → Prop} (hM : AM G pX10_person d' [.ref 0, .int a1, .int a2] (sh, I, R, L, 1) Rt' Th')
    (h1 : ∀ v w', Rt' v w' → ∃ (r : Int32) (I' : Nat → Nat → Int32) (R' : Nat → Nat → Option Nat), v = some (.int r) ∧ w' = (sh, I', R', L, 1) ∧ Rt (some (.int 0)) (sh, I', R', am_uL L 144 0 r.toInt64, 1)) (h2 : ∀ E w', Th' E w' → w'.2.2.2.2 ≠ 0 ∧ ((E = nmS ∧ Rt (some (.int 1)) w'))) : AMH G nL_person [(0, 10, 13, 18)] d [.ref 0, .int a1, .int a2, .ref 144] (sh, I, R, L, 1) Rt Th := by
  have hG := hK.1
  refine AMH.of (n := 1) (by decide +kernel) (Nat.le_of_ble_eq_true rfl) ?_
  show AH G nL_person [(0, 10, 13, 18)] d Rt Th 0 [some (.ref 0), some (.int a1), some (.int a2), some (.ref 144), none] [] (sh, I, R, L, 1) 0 0
  refine AH.aload_n dL_person_0 rfl ?_
  refine AH.iconst 0 dL_person_1 (by decide) ?_
  refine AH.aload_n dL_person_2 rfl ?_
  refine AH.iload_n dL_person_3 rfl ?_
  refine AH.iload_n dL_person_4 rfl ?_
  refine AH.callV (M' := pX10_person) (b := 0) (As := [.int a1, .int a2]) hG.2.2 (am_cV.re (vL_20 hG) rfl rfl rfl rfl) hs0 hM (by omega) dL_person_5 rfl rfl (Nat.le_of_ble_eq_true rfl) (fun v w9 hq => by obtain ⟨r, I9, R9, -, rfl, -⟩ := h1 v w9 hq; exact Nat.one_ne_zero) (Nat.le_of_eq (Nat.zero_add _)) (Nat.le_of_eq (Nat.zero_add _)) rfl (fun E w9 hq => ?_) (fun v w9 hq => ?_)
  · obtain ⟨hg, hq2⟩ := h2 E w9 hq
    refine ⟨hg, ?_⟩
    obtain ⟨rfl, hq3⟩ := hq2
    exact ⟨13, 1, Or.inl ⟨0, 10, 18, _, nmS, rfl, by decide, by decide, by decide, k_c hG 1185 (by decide +kernel) (by decide +kernel), fun s H hO => (hK.2.1 s H hO).2.2.2.1⟩, Or.inr ⟨4, 1, dL_person_13, by decide, dL_person_15, by decide, dL_person_16⟩, hq3⟩
  · obtain ⟨r, I9, R9, rfl, rfl, hq2⟩ := h1 v w9 hq
    refine AH.i2l dL_person_8 (AH.last hs4 (by unfold vp_in; decide) dL_person_9 (AH.goto 17 dL_person_10 (by decide) (AH.iconst 0 dL_person_17 (by decide) (AH.iret dL_person_18 rfl (Nat.le_of_eq (Nat.zero_add _)) (Nat.le_of_eq (Nat.zero_add _)) ?_))))
    exact hq2
theorem dL_loaf_0 : decode cL_loaf 0 = .ok (.aload_n 3, 1) := by decide +kernel
theorem dL_loaf_1 : decode cL_loaf 1 = .ok (.iconst 0, 1) := by decide +kernel
theorem dL_loaf_2 : decode cL_loaf 2 = .ok (.aload_n 0, 1) := by decide +kernel
theorem dL_loaf_3 : decode cL_loaf 3 = .ok (.iload_n 1, 1) := by decide +kernel
theorem dL_loaf_4 : decode cL_loaf 4 = .ok (.iload_n 2, 1) := by decide +kernel
theorem dL_loaf_5 : decode cL_loaf 5 = .ok (.invokevirtual 24, 3) := by decide +kernel
theorem dL_loaf_8 : decode cL_loaf 8 = .ok (.i2l, 1) := by decide +kernel
theorem dL_loaf_9 : decode cL_loaf 9 = .ok (.lastore, 1) := by decide +kernel
theorem dL_loaf_10 : decode cL_loaf 10 = .ok (.goto 7, 3) := by decide +kernel
theorem dL_loaf_13 : decode cL_loaf 13 = .ok (.astore 4, 2) := by decide +kernel
theorem dL_loaf_15 : decode cL_loaf 15 = .ok (.iconst 1, 1) := by decide +kernel
theorem dL_loaf_16 : decode cL_loaf 16 = .ok (.ireturn, 1) := by decide +kernel
theorem dL_loaf_17 : decode cL_loaf 17 = .ok (.iconst 0, 1) := by decide +kernel
theorem dL_loaf_18 : decode cL_loaf 18 = .ok (.ireturn, 1) := by decide +kernel
abbrev nL_loaf : am_M := (yL_loaf, cL_loaf, 5, some .int, am_mc pX10_loaf, am_ms pX10_loaf)
theorem kH_loaf {G : am_G} (hG : k_ok G) : am_cH G RL 104 nL_loaf [(0, 10, 13, 18)] 4 := ⟨k_c hG 116 (by decide +kernel) (by decide +kernel), k_c hG 1229 (by decide +kernel) (by decide +kernel), by decide +kernel, by decide, k_c hG 1227 (by decide +kernel) (by decide +kernel), k_c hG 1228 (by decide +kernel) (by decide +kernel)⟩
set_option maxRecDepth 100000 in
set_option maxHeartbeats 4000000 in
theorem h_loaf {G : am_G} (hK : k_OK G) {d d' : Nat} (hdd : d' + 1 ≤ d) {sh : List (Nat ⊕ (Nat × Nat))} {I : Nat → Nat → Int32} {R : Nat → Nat → Option Nat} {L : Nat → Nat → Int64} (hs0 : sh[0]? = some (.inl 10)) (hs4 : sh[144]? = some (.inr (4, 1))) {a1 a2 : Int32} {Rt Rt' : Option Value → am_w → Prop} {Th Th' : String → am_w → Prop} (hM : AM G pX10_loaf d' [.ref 0, .int a1, .int a2] (sh, I, R, L, 1) Rt' Th')
    (h1 : ∀ v w', Rt' v w' → ∃ (r : Int32) (I' : Nat → Nat → Int32) (R' : Nat → Nat → Option Nat), v = some (.int r) ∧ w' = (sh, I', R', L, 1) ∧ Rt (some (.int 0)) (sh, I', R', am_uL L 144 0 r.toInt64, 1)) (h2 : ∀ E w', Th' E w' → w'.2.2.2.2 ≠ 0 ∧ ((E = nmS ∧ Rt (some (.int 1)) w'))) : AMH G nL_loaf [(0, 10, 13, 18)] d [.ref 0, .int a1, .int a2, .ref 144] (sh, I, R, L, 1) Rt Th := by
  have hG := hK.1
  refine AMH.of (n := 1) (by decide +kernel) (Nat.le_of_ble_eq_true rfl) ?_
  show AH G nL_loaf [(0, 10, 13, 18)] d Rt Th 0 [some (.ref 0), some (.int a1), some (.int a2), some (.ref 144), none] [] (sh, I, R, L, 1) 0 0
  refine AH.aload_n dL_loaf_0 rfl ?_
  refine AH.iconst 0 dL_loaf_1 (by decide) ?_
  refine AH.aload_n dL_loaf_2 rfl ?_
  refine AH.iload_n dL_loaf_3 rfl ?_
  refine AH.iload_n dL_loaf_4 rfl ?_
  refine AH.callV (M' := pX10_loaf) (b := 0) (As := [.int a1, .int a2]) hG.2.2 (am_cV.re (vL_24 hG) rfl rfl rfl rfl) hs0 hM (by omega) dL_loaf_5 rfl rfl (Nat.le_of_ble_eq_true rfl) (fun v w9 hq => by obtain ⟨r, I9, R9, -, rfl, -⟩ := h1 v w9 hq; exact Nat.one_ne_zero) (Nat.le_of_eq (Nat.zero_add _)) (Nat.le_of_eq (Nat.zero_add _)) rfl (fun E w9 hq => ?_) (fun v w9 hq => ?_)
  · obtain ⟨hg, hq2⟩ := h2 E w9 hq
    refine ⟨hg, ?_⟩
    obtain ⟨rfl, hq3⟩ := hq2
    exact ⟨13, 1, Or.inl ⟨0, 10, 18, _, nmS, rfl, by decide, by decide, by decide, k_c hG 1185 (by decide +kernel) (by decide +kernel), fun s H hO => (hK.2.1 s H hO).2.2.2.1⟩, Or.inr ⟨4, 1, dL_loaf_13, by decide, dL_loaf_15, by decide, dL_loaf_16⟩, hq3⟩
  · obtain ⟨r, I9, R9, rfl, rfl, hq2⟩ := h1 v w9 hq
    refine AH.i2l dL_loaf_8 (AH.last hs4 (by unfold vp_in; decide) dL_loaf_9 (AH.goto 17 dL_loaf_10 (by decide) (AH.iconst 0 dL_loaf_17 (by decide) (AH.iret dL_loaf_18 rfl (Nat.le_of_eq (Nat.zero_add _)) (Nat.le_of_eq (Nat.zero_add _)) ?_))))
    exact hq2
theorem dL_met_0 : decode cL_met 0 = .ok (.aload_n 3, 1) := by decide +kernel
theorem dL_met_1 : decode cL_met 1 = .ok (.iconst 0, 1) := by decide +kernel
theorem dL_met_2 : decode cL_met 2 = .ok (.aload_n 0, 1) := by decide +kernel
theorem dL_met_3 : decode cL_met 3 = .ok (.iload_n 1, 1) := by decide +kernel
theorem dL_met_4 : decode cL_met 4 = .ok (.iload_n 2, 1) := by decide +kernel
theorem dL_met_5 : decode cL_met 5 = .ok (.invokevirtual 27, 3) := by decide +kernel
theorem dL_met_8 : decode cL_met 8 = .ok (.i2l, 1) := by decide +kernel
theorem dL_met_9 : decode cL_met 9 = .ok (.lastore, 1) := by decide +kernel
theorem dL_met_10 : decode cL_met 10 = .ok (.goto 11, 3) := by decide +kernel
theorem dL_met_13 : decode cL_met 13 = .ok (.astore 4, 2) := by decide +kernel
theorem dL_met_15 : decode cL_met 15 = .ok (.iconst 1, 1) := by decide +kernel
theorem dL_met_16 : decode cL_met 16 = .ok (.ireturn, 1) := by decide +kernel
theorem dL_met_17 : decode cL_met 17 = .ok (.astore 4, 2) := by decide +kernel
theorem dL_met_19 : decode cL_met 19 = .ok (.iconst 2, 1) := by decide +kernel
theorem dL_met_20 : decode cL_met 20 = .ok (.ireturn, 1) := by decide +kernel
theorem dL_met_21 : decode cL_met 21 = .ok (.iconst 0, 1) := by decide +kernel
theorem dL_met_22 : decode cL_met 22 = .ok (.ireturn, 1) := by decide +kernel
abbrev nL_met : am_M := (yL_met, cL_met, 5, some .int, am_mc pX10_met, am_ms pX10_met)
theorem kH_met {G : am_G} (hG : k_ok G) : am_cH G RL 107 nL_met [(0, 10, 13, 18), (0, 10, 17, 13)] 4 := ⟨k_c hG 116 (by decide +kernel) (by decide +kernel), k_c hG 1258 (by decide +kernel) (by decide +kernel), by decide +kernel, by decide, k_c hG 1256 (by decide +kernel) (by decide +kernel), k_c hG 1257 (by decide +kernel) (by decide +kernel)⟩
set_option maxRecDepth 100000 in
set_option maxHeartbeats 4000000 in
theorem h_met {G : am_G} (hK : k_OK G) (hN : ∀ s H, am_O G s H → va_Nc nmI nmS s) {d d' : Nat} (hdd : d' + 1 ≤ d) {sh : List (Nat ⊕ (Nat × Nat))} {I : Nat → Nat → Int32} {R : Nat → Nat → Option Nat} {L : Nat → Nat → Int64} (hs0 : sh[0]? = some (.inl 10)) (hs4 : sh[144]? = some (.inr (4, 1))) {a1 a2 : Int32} {Rt Rt' : Option Value → am_w → Prop} {Th Th' : String → am_w → Prop} (hM : AM G pX10_met d' [.ref 0, .int a1, .int a2] (sh, I, R, L, 1) Rt' Th')
    (h1 : ∀ v w', Rt' v w' → ∃ (r : Int32) (I' : Nat → Nat → Int32) (R' : Nat → Nat → Option Nat), v = some (.int r) ∧ w' = (sh, I', R', L, 1) ∧ Rt (some (.int 0)) (sh, I', R', am_uL L 144 0 r.toInt64, 1)) (h2 : ∀ E w', Th' E w' → w'.2.2.2.2 ≠ 0 ∧ ((E = nmS ∧ Rt (some (.int 1)) w') ∨ (E = nmI ∧ Rt (some (.int 2)) w'))) : AMH G nL_met [(0, 10, 13, 18), (0, 10, 17, 13)] d [.ref 0, .int a1, .int a2, .ref 144] (sh, I, R, L, 1) Rt Th := by
  have hG := hK.1
  refine AMH.of (n := 1) (by decide +kernel) (Nat.le_of_ble_eq_true rfl) ?_
  show AH G nL_met [(0, 10, 13, 18), (0, 10, 17, 13)] d Rt Th 0 [some (.ref 0), some (.int a1), some (.int a2), some (.ref 144), none] [] (sh, I, R, L, 1) 0 0
  refine AH.aload_n dL_met_0 rfl ?_
  refine AH.iconst 0 dL_met_1 (by decide) ?_
  refine AH.aload_n dL_met_2 rfl ?_
  refine AH.iload_n dL_met_3 rfl ?_
  refine AH.iload_n dL_met_4 rfl ?_
  refine AH.callV (M' := pX10_met) (b := 0) (As := [.int a1, .int a2]) hG.2.2 (am_cV.re (vL_27 hG) rfl rfl rfl rfl) hs0 hM (by omega) dL_met_5 rfl rfl (Nat.le_of_ble_eq_true rfl) (fun v w9 hq => by obtain ⟨r, I9, R9, -, rfl, -⟩ := h1 v w9 hq; exact Nat.one_ne_zero) (Nat.le_of_eq (Nat.zero_add _)) (Nat.le_of_eq (Nat.zero_add _)) rfl (fun E w9 hq => ?_) (fun v w9 hq => ?_)
  · obtain ⟨hg, hq2⟩ := h2 E w9 hq
    refine ⟨hg, ?_⟩
    rcases hq2 with ⟨rfl, hq3⟩ | ⟨rfl, hq3⟩
    · exact ⟨13, 1, Or.inl ⟨0, 10, 18, _, nmS, rfl, by decide, by decide, by decide, k_c hG 1185 (by decide +kernel) (by decide +kernel), fun s H hO => (hK.2.1 s H hO).2.2.2.1⟩, Or.inr ⟨4, 1, dL_met_13, by decide, dL_met_15, by decide, dL_met_16⟩, hq3⟩
    · exact ⟨17, 2, Or.inr ⟨(0, 10, 13, 18), 0, 10, 13, [], nmI, nmS, rfl, by decide, k_c hG 1185 (by decide +kernel) (by decide +kernel), hN, by decide, by decide, by decide, k_c hG 853 (by decide +kernel) (by decide +kernel), fun s H hO => (hK.2.1 s H hO).2.2.1⟩, Or.inr ⟨4, 2, dL_met_17, by decide, dL_met_19, by decide, dL_met_20⟩, hq3⟩
  · obtain ⟨r, I9, R9, rfl, rfl, hq2⟩ := h1 v w9 hq
    refine AH.i2l dL_met_8 (AH.last hs4 (by unfold vp_in; decide) dL_met_9 (AH.goto 21 dL_met_10 (by decide) (AH.iconst 0 dL_met_21 (by decide) (AH.iret dL_met_22 rfl (Nat.le_of_eq (Nat.zero_add _)) (Nat.le_of_eq (Nat.zero_add _)) ?_))))
    exact hq2
theorem dL_knows_0 : decode cL_knows 0 = .ok (.aload_n 3, 1) := by decide +kernel
theorem dL_knows_1 : decode cL_knows 1 = .ok (.iconst 0, 1) := by decide +kernel
theorem dL_knows_2 : decode cL_knows 2 = .ok (.aload_n 0, 1) := by decide +kernel
theorem dL_knows_3 : decode cL_knows 3 = .ok (.iload_n 1, 1) := by decide +kernel
theorem dL_knows_4 : decode cL_knows 4 = .ok (.iload_n 2, 1) := by decide +kernel
theorem dL_knows_5 : decode cL_knows 5 = .ok (.invokevirtual 30, 3) := by decide +kernel
theorem dL_knows_8 : decode cL_knows 8 = .ok (.ifCond .eq 7, 3) := by decide +kernel
theorem dL_knows_11 : decode cL_knows 11 = .ok (.lconst 1, 1) := by decide +kernel
theorem dL_knows_12 : decode cL_knows 12 = .ok (.goto 4, 3) := by decide +kernel
theorem dL_knows_15 : decode cL_knows 15 = .ok (.lconst 0, 1) := by decide +kernel
theorem dL_knows_16 : decode cL_knows 16 = .ok (.lastore, 1) := by decide +kernel
theorem dL_knows_17 : decode cL_knows 17 = .ok (.goto 7, 3) := by decide +kernel
theorem dL_knows_20 : decode cL_knows 20 = .ok (.astore 4, 2) := by decide +kernel
theorem dL_knows_22 : decode cL_knows 22 = .ok (.iconst 1, 1) := by decide +kernel
theorem dL_knows_23 : decode cL_knows 23 = .ok (.ireturn, 1) := by decide +kernel
theorem dL_knows_24 : decode cL_knows 24 = .ok (.iconst 0, 1) := by decide +kernel
theorem dL_knows_25 : decode cL_knows 25 = .ok (.ireturn, 1) := by decide +kernel
abbrev nL_knows : am_M := (yL_knows, cL_knows, 5, some .int, am_mc pX10_knows, am_ms pX10_knows)
theorem kH_knows {G : am_G} (hG : k_ok G) : am_cH G RL 110 nL_knows [(0, 17, 20, 18)] 4 := ⟨k_c hG 116 (by decide +kernel) (by decide +kernel), k_c hG 1267 (by decide +kernel) (by decide +kernel), by decide +kernel, by decide, k_c hG 1265 (by decide +kernel) (by decide +kernel), k_c hG 1266 (by decide +kernel) (by decide +kernel)⟩
set_option maxRecDepth 100000 in
set_option maxHeartbeats 4000000 in
theorem h_knows {G : am_G} (hK : k_OK G) {d d' : Nat} (hdd : d' + 1 ≤ d) {sh : List (Nat ⊕ (Nat × Nat))} {I : Nat → Nat → Int32} {R : Nat → Nat → Option Nat} {L : Nat → Nat → Int64} (hs0 : sh[0]? = some (.inl 10)) (hs4 : sh[144]? = some (.inr (4, 1))) {a1 a2 : Int32} {Rt Rt' : Option Value → am_w → Prop} {Th Th' : String → am_w → Prop} (hM : AM G pX10_knows d' [.ref 0, .int a1, .int a2] (sh, I, R, L, 1) Rt' Th')
    (h1 : ∀ v w', Rt' v w' → ∃ (r : Int32) (I' : Nat → Nat → Int32) (R' : Nat → Nat → Option Nat), v = some (.int r) ∧ w' = (sh, I', R', L, 1) ∧ Rt (some (.int 0)) (sh, I', R', am_uL L 144 0 (if r = 0 then 0 else 1), 1)) (h2 : ∀ E w', Th' E w' → w'.2.2.2.2 ≠ 0 ∧ ((E = nmS ∧ Rt (some (.int 1)) w'))) : AMH G nL_knows [(0, 17, 20, 18)] d [.ref 0, .int a1, .int a2, .ref 144] (sh, I, R, L, 1) Rt Th := by
  have hG := hK.1
  refine AMH.of (n := 1) (by decide +kernel) (Nat.le_of_ble_eq_true rfl) ?_
  show AH G nL_knows [(0, 17, 20, 18)] d Rt Th 0 [some (.ref 0), some (.int a1), some (.int a2), some (.ref 144), none] [] (sh, I, R, L, 1) 0 0
  refine AH.aload_n dL_knows_0 rfl ?_
  refine AH.iconst 0 dL_knows_1 (by decide) ?_
  refine AH.aload_n dL_knows_2 rfl ?_
  refine AH.iload_n dL_knows_3 rfl ?_
  refine AH.iload_n dL_knows_4 rfl ?_
  refine AH.callV (M' := pX10_knows) (b := 0) (As := [.int a1, .int a2]) hG.2.2 (am_cV.re (vL_30 hG) rfl rfl rfl rfl) hs0 hM (by omega) dL_knows_5 rfl rfl (Nat.le_of_ble_eq_true rfl) (fun v w9 hq => by obtain ⟨r, I9, R9, -, rfl, -⟩ := h1 v w9 hq; exact Nat.one_ne_zero) (Nat.le_of_eq (Nat.zero_add _)) (Nat.le_of_eq (Nat.zero_add _)) rfl (fun E w9 hq => ?_) (fun v w9 hq => ?_)
  · obtain ⟨hg, hq2⟩ := h2 E w9 hq
    refine ⟨hg, ?_⟩
    obtain ⟨rfl, hq3⟩ := hq2
    exact ⟨20, 1, Or.inl ⟨0, 17, 18, _, nmS, rfl, by decide, by decide, by decide, k_c hG 1185 (by decide +kernel) (by decide +kernel), fun s H hO => (hK.2.1 s H hO).2.2.2.1⟩, Or.inr ⟨4, 1, dL_knows_20, by decide, dL_knows_22, by decide, dL_knows_23⟩, hq3⟩
  · obtain ⟨r, I9, R9, rfl, rfl, hq2⟩ := h1 v w9 hq
    refine AH.if_eq 15 dL_knows_8 (by decide) (fun hz => ?_) (fun hz => ?_)
    · refine AH.lconst 0 dL_knows_15 rfl (AH.last hs4 (by unfold vp_in; decide) dL_knows_16 (AH.goto 24 dL_knows_17 (by decide) (AH.iconst 0 dL_knows_24 (by decide) (AH.iret dL_knows_25 rfl (Nat.le_of_eq (Nat.zero_add _)) (Nat.le_of_eq (Nat.zero_add _)) ?_))))
      rw [if_pos hz] at hq2
      exact hq2
    · refine AH.lconst 1 dL_knows_11 rfl (AH.goto 16 dL_knows_12 (by decide) (AH.last hs4 (by unfold vp_in; decide) dL_knows_16 (AH.goto 24 dL_knows_17 (by decide) (AH.iconst 0 dL_knows_24 (by decide) (AH.iret dL_knows_25 rfl (Nat.le_of_eq (Nat.zero_add _)) (Nat.le_of_eq (Nat.zero_add _)) ?_)))))
      rw [if_neg hz] at hq2
      exact hq2
theorem dL_may_0 : decode cL_may 0 = .ok (.aload_n 3, 1) := by decide +kernel
theorem dL_may_1 : decode cL_may 1 = .ok (.iconst 0, 1) := by decide +kernel
theorem dL_may_2 : decode cL_may 2 = .ok (.aload_n 0, 1) := by decide +kernel
theorem dL_may_3 : decode cL_may 3 = .ok (.iload_n 1, 1) := by decide +kernel
theorem dL_may_4 : decode cL_may 4 = .ok (.iload_n 2, 1) := by decide +kernel
theorem dL_may_5 : decode cL_may 5 = .ok (.invokevirtual 34, 3) := by decide +kernel
theorem dL_may_8 : decode cL_may 8 = .ok (.i2l, 1) := by decide +kernel
theorem dL_may_9 : decode cL_may 9 = .ok (.lastore, 1) := by decide +kernel
theorem dL_may_10 : decode cL_may 10 = .ok (.goto 7, 3) := by decide +kernel
theorem dL_may_13 : decode cL_may 13 = .ok (.astore 4, 2) := by decide +kernel
theorem dL_may_15 : decode cL_may 15 = .ok (.iconst 1, 1) := by decide +kernel
theorem dL_may_16 : decode cL_may 16 = .ok (.ireturn, 1) := by decide +kernel
theorem dL_may_17 : decode cL_may 17 = .ok (.iconst 0, 1) := by decide +kernel
theorem dL_may_18 : decode cL_may 18 = .ok (.ireturn, 1) := by decide +kernel
abbrev nL_may : am_M := (yL_may, cL_may, 5, some .int, am_mc pX10_may, am_ms pX10_may)
theorem kH_may {G : am_G} (hG : k_ok G) : am_cH G RL 113 nL_may [(0, 10, 13, 18)] 4 := ⟨k_c hG 116 (by decide +kernel) (by decide +kernel), k_c hG 1274 (by decide +kernel) (by decide +kernel), by decide +kernel, by decide, k_c hG 1272 (by decide +kernel) (by decide +kernel), k_c hG 1273 (by decide +kernel) (by decide +kernel)⟩
set_option maxRecDepth 100000 in
set_option maxHeartbeats 4000000 in
theorem h_may {G : am_G} (hK : k_OK G) {d d' : Nat} (hdd : d' + 1 ≤ d) {sh : List (Nat ⊕ (Nat × Nat))} {I : Nat → Nat → Int32} {R : Nat → Nat → Option Nat} {L : Nat → Nat → Int64} (hs0 : sh[0]? = some (.inl 10)) (hs4 : sh[144]? = some (.inr (4, 1))) {a1 a2 : Int32} {Rt Rt' : Option Value → am_w → Prop} {Th Th' : String → am_w → Prop} (hM : AM G pX10_may d' [.ref 0, .int a1, .int a2] (sh, I, R, L, 1) Rt' Th')
    (h1 : ∀ v w', Rt' v w' → ∃ (r : Int32) (I' : Nat → Nat → Int32) (R' : Nat → Nat → Option Nat), v = some (.int r) ∧ w' = (sh, I', R', L, 1) ∧ Rt (some (.int 0)) (sh, I', R', am_uL L 144 0 r.toInt64, 1)) (h2 : ∀ E w', Th' E w' → w'.2.2.2.2 ≠ 0 ∧ ((E = nmS ∧ Rt (some (.int 1)) w'))) : AMH G nL_may [(0, 10, 13, 18)] d [.ref 0, .int a1, .int a2, .ref 144] (sh, I, R, L, 1) Rt Th := by
  have hG := hK.1
  refine AMH.of (n := 1) (by decide +kernel) (Nat.le_of_ble_eq_true rfl) ?_
  show AH G nL_may [(0, 10, 13, 18)] d Rt Th 0 [some (.ref 0), some (.int a1), some (.int a2), some (.ref 144), none] [] (sh, I, R, L, 1) 0 0
  refine AH.aload_n dL_may_0 rfl ?_
  refine AH.iconst 0 dL_may_1 (by decide) ?_
  refine AH.aload_n dL_may_2 rfl ?_
  refine AH.iload_n dL_may_3 rfl ?_
  refine AH.iload_n dL_may_4 rfl ?_
  refine AH.callV (M' := pX10_may) (b := 0) (As := [.int a1, .int a2]) hG.2.2 (am_cV.re (vL_34 hG) rfl rfl rfl rfl) hs0 hM (by omega) dL_may_5 rfl rfl (Nat.le_of_ble_eq_true rfl) (fun v w9 hq => by obtain ⟨r, I9, R9, -, rfl, -⟩ := h1 v w9 hq; exact Nat.one_ne_zero) (Nat.le_of_eq (Nat.zero_add _)) (Nat.le_of_eq (Nat.zero_add _)) rfl (fun E w9 hq => ?_) (fun v w9 hq => ?_)
  · obtain ⟨hg, hq2⟩ := h2 E w9 hq
    refine ⟨hg, ?_⟩
    obtain ⟨rfl, hq3⟩ := hq2
    exact ⟨13, 1, Or.inl ⟨0, 10, 18, _, nmS, rfl, by decide, by decide, by decide, k_c hG 1185 (by decide +kernel) (by decide +kernel), fun s H hO => (hK.2.1 s H hO).2.2.2.1⟩, Or.inr ⟨4, 1, dL_may_13, by decide, dL_may_15, by decide, dL_may_16⟩, hq3⟩
  · obtain ⟨r, I9, R9, rfl, rfl, hq2⟩ := h1 v w9 hq
    refine AH.i2l dL_may_8 (AH.last hs4 (by unfold vp_in; decide) dL_may_9 (AH.goto 17 dL_may_10 (by decide) (AH.iconst 0 dL_may_17 (by decide) (AH.iret dL_may_18 rfl (Nat.le_of_eq (Nat.zero_add _)) (Nat.le_of_eq (Nat.zero_add _)) ?_))))
    exact hq2
theorem dL_slice_0 : decode cL_slice 0 = .ok (.aload 4, 2) := by decide +kernel
theorem dL_slice_2 : decode cL_slice 2 = .ok (.iconst 0, 1) := by decide +kernel
theorem dL_slice_3 : decode cL_slice 3 = .ok (.aload_n 0, 1) := by decide +kernel
theorem dL_slice_4 : decode cL_slice 4 = .ok (.iload_n 1, 1) := by decide +kernel
theorem dL_slice_5 : decode cL_slice 5 = .ok (.iload_n 2, 1) := by decide +kernel
theorem dL_slice_6 : decode cL_slice 6 = .ok (.iload_n 3, 1) := by decide +kernel
theorem dL_slice_7 : decode cL_slice 7 = .ok (.invokevirtual 37, 3) := by decide +kernel
theorem dL_slice_10 : decode cL_slice 10 = .ok (.i2l, 1) := by decide +kernel
theorem dL_slice_11 : decode cL_slice 11 = .ok (.lastore, 1) := by decide +kernel
theorem dL_slice_12 : decode cL_slice 12 = .ok (.goto 7, 3) := by decide +kernel
theorem dL_slice_15 : decode cL_slice 15 = .ok (.astore 5, 2) := by decide +kernel
theorem dL_slice_17 : decode cL_slice 17 = .ok (.iconst 1, 1) := by decide +kernel
theorem dL_slice_18 : decode cL_slice 18 = .ok (.ireturn, 1) := by decide +kernel
theorem dL_slice_19 : decode cL_slice 19 = .ok (.iconst 0, 1) := by decide +kernel
theorem dL_slice_20 : decode cL_slice 20 = .ok (.ireturn, 1) := by decide +kernel
abbrev nL_slice : am_M := (yL_slice, cL_slice, 6, some .int, am_mc pX10_slice, am_ms pX10_slice)
theorem kH_slice {G : am_G} (hG : k_ok G) : am_cH G RL 116 nL_slice [(0, 12, 15, 18)] 5 := ⟨k_c hG 116 (by decide +kernel) (by decide +kernel), k_c hG 1281 (by decide +kernel) (by decide +kernel), by decide +kernel, by decide, k_c hG 1279 (by decide +kernel) (by decide +kernel), k_c hG 1280 (by decide +kernel) (by decide +kernel)⟩
set_option maxRecDepth 100000 in
set_option maxHeartbeats 4000000 in
theorem h_slice {G : am_G} (hK : k_OK G) {d d' : Nat} (hdd : d' + 1 ≤ d) {sh : List (Nat ⊕ (Nat × Nat))} {I : Nat → Nat → Int32} {R : Nat → Nat → Option Nat} {L : Nat → Nat → Int64} (hs0 : sh[0]? = some (.inl 10)) (hs4 : sh[144]? = some (.inr (4, 1))) {a1 a2 a3 : Int32} {Rt Rt' : Option Value → am_w → Prop} {Th Th' : String → am_w → Prop} (hM : AM G pX10_slice d' [.ref 0, .int a1, .int a2, .int a3] (sh, I, R, L, 1) Rt' Th')
    (h1 : ∀ v w', Rt' v w' → ∃ (r : Int32) (I' : Nat → Nat → Int32) (R' : Nat → Nat → Option Nat), v = some (.int r) ∧ w' = (sh, I', R', L, 1) ∧ Rt (some (.int 0)) (sh, I', R', am_uL L 144 0 r.toInt64, 1)) (h2 : ∀ E w', Th' E w' → w'.2.2.2.2 ≠ 0 ∧ ((E = nmS ∧ Rt (some (.int 1)) w'))) : AMH G nL_slice [(0, 12, 15, 18)] d [.ref 0, .int a1, .int a2, .int a3, .ref 144] (sh, I, R, L, 1) Rt Th := by
  have hG := hK.1
  refine AMH.of (n := 1) (by decide +kernel) (Nat.le_of_ble_eq_true rfl) ?_
  show AH G nL_slice [(0, 12, 15, 18)] d Rt Th 0 [some (.ref 0), some (.int a1), some (.int a2), some (.int a3), some (.ref 144), none] [] (sh, I, R, L, 1) 0 0
  refine AH.aload dL_slice_0 rfl ?_
  refine AH.iconst 0 dL_slice_2 (by decide) ?_
  refine AH.aload_n dL_slice_3 rfl ?_
  refine AH.iload_n dL_slice_4 rfl ?_
  refine AH.iload_n dL_slice_5 rfl ?_
  refine AH.iload_n dL_slice_6 rfl ?_
  refine AH.callV (M' := pX10_slice) (b := 0) (As := [.int a1, .int a2, .int a3]) hG.2.2 (am_cV.re (vL_37 hG) rfl rfl rfl rfl) hs0 hM (by omega) dL_slice_7 rfl rfl (Nat.le_of_ble_eq_true rfl) (fun v w9 hq => by obtain ⟨r, I9, R9, -, rfl, -⟩ := h1 v w9 hq; exact Nat.one_ne_zero) (Nat.le_of_eq (Nat.zero_add _)) (Nat.le_of_eq (Nat.zero_add _)) rfl (fun E w9 hq => ?_) (fun v w9 hq => ?_)
  · obtain ⟨hg, hq2⟩ := h2 E w9 hq
    refine ⟨hg, ?_⟩
    obtain ⟨rfl, hq3⟩ := hq2
    exact ⟨15, 1, Or.inl ⟨0, 12, 18, _, nmS, rfl, by decide, by decide, by decide, k_c hG 1185 (by decide +kernel) (by decide +kernel), fun s H hO => (hK.2.1 s H hO).2.2.2.1⟩, Or.inr ⟨5, 1, dL_slice_15, by decide, dL_slice_17, by decide, dL_slice_18⟩, hq3⟩
  · obtain ⟨r, I9, R9, rfl, rfl, hq2⟩ := h1 v w9 hq
    refine AH.i2l dL_slice_10 (AH.last hs4 (by unfold vp_in; decide) dL_slice_11 (AH.goto 19 dL_slice_12 (by decide) (AH.iconst 0 dL_slice_19 (by decide) (AH.iret dL_slice_20 rfl (Nat.le_of_eq (Nat.zero_add _)) (Nat.le_of_eq (Nat.zero_add _)) ?_))))
    exact hq2
theorem dL_cut_0 : decode cL_cut 0 = .ok (.aload_n 3, 1) := by decide +kernel
theorem dL_cut_1 : decode cL_cut 1 = .ok (.iconst 0, 1) := by decide +kernel
theorem dL_cut_2 : decode cL_cut 2 = .ok (.aload_n 0, 1) := by decide +kernel
theorem dL_cut_3 : decode cL_cut 3 = .ok (.iload_n 1, 1) := by decide +kernel
theorem dL_cut_4 : decode cL_cut 4 = .ok (.iload_n 2, 1) := by decide +kernel
theorem dL_cut_5 : decode cL_cut 5 = .ok (.invokevirtual 41, 3) := by decide +kernel
theorem dL_cut_8 : decode cL_cut 8 = .ok (.ifCond .eq 7, 3) := by decide +kernel
theorem dL_cut_11 : decode cL_cut 11 = .ok (.lconst 1, 1) := by decide +kernel
theorem dL_cut_12 : decode cL_cut 12 = .ok (.goto 4, 3) := by decide +kernel
theorem dL_cut_15 : decode cL_cut 15 = .ok (.lconst 0, 1) := by decide +kernel
theorem dL_cut_16 : decode cL_cut 16 = .ok (.lastore, 1) := by decide +kernel
theorem dL_cut_17 : decode cL_cut 17 = .ok (.goto 7, 3) := by decide +kernel
theorem dL_cut_20 : decode cL_cut 20 = .ok (.astore 4, 2) := by decide +kernel
theorem dL_cut_22 : decode cL_cut 22 = .ok (.iconst 1, 1) := by decide +kernel
theorem dL_cut_23 : decode cL_cut 23 = .ok (.ireturn, 1) := by decide +kernel
theorem dL_cut_24 : decode cL_cut 24 = .ok (.iconst 0, 1) := by decide +kernel
theorem dL_cut_25 : decode cL_cut 25 = .ok (.ireturn, 1) := by decide +kernel
abbrev nL_cut : am_M := (yL_cut, cL_cut, 5, some .int, am_mc pX10_cut, am_ms pX10_cut)
theorem kH_cut {G : am_G} (hG : k_ok G) : am_cH G RL 120 nL_cut [(0, 17, 20, 18)] 4 := ⟨k_c hG 116 (by decide +kernel) (by decide +kernel), k_c hG 1329 (by decide +kernel) (by decide +kernel), by decide +kernel, by decide, k_c hG 1327 (by decide +kernel) (by decide +kernel), k_c hG 1328 (by decide +kernel) (by decide +kernel)⟩
set_option maxRecDepth 100000 in
set_option maxHeartbeats 4000000 in
theorem h_cut {G : am_G} (hK : k_OK G) {d d' : Nat} (hdd : d' + 1 ≤ d) {sh : List (Nat ⊕ (Nat × Nat))} {I : Nat → Nat → Int32} {R : Nat → Nat → Option Nat} {L : Nat → Nat → Int64} (hs0 : sh[0]? = some (.inl 10)) (hs4 : sh[144]? = some (.inr (4, 1))) {a1 a2 : Int32} {Rt Rt' : Option Value → am_w → Prop} {Th Th' : String → am_w → Prop} (hM : AM G pX10_cut d' [.ref 0, .int a1, .int a2] (sh, I, R, L, 1) Rt' Th')
    (h1 : ∀ v w', Rt' v w' → ∃ (r : Int32) (I' : Nat → Nat → Int32) (R' : Nat → Nat → Option Nat), v = some (.int r) ∧ w' = (sh, I', R', L, 1) ∧ Rt (some (.int 0)) (sh, I', R', am_uL L 144 0 (if r = 0 then 0 else 1), 1)) (h2 : ∀ E w', Th' E w' → w'.2.2.2.2 ≠ 0 ∧ ((E = nmS ∧ Rt (some (.int 1)) w'))) : AMH G nL_cut [(0, 17, 20, 18)] d [.ref 0, .int a1, .int a2, .ref 144] (sh, I, R, L, 1) Rt Th := by
  have hG := hK.1
  refine AMH.of (n := 1) (by decide +kernel) (Nat.le_of_ble_eq_true rfl) ?_
  show AH G nL_cut [(0, 17, 20, 18)] d Rt Th 0 [some (.ref 0), some (.int a1), some (.int a2), some (.ref 144), none] [] (sh, I, R, L, 1) 0 0
  refine AH.aload_n dL_cut_0 rfl ?_
  refine AH.iconst 0 dL_cut_1 (by decide) ?_
  refine AH.aload_n dL_cut_2 rfl ?_
  refine AH.iload_n dL_cut_3 rfl ?_
  refine AH.iload_n dL_cut_4 rfl ?_
  refine AH.callV (M' := pX10_cut) (b := 0) (As := [.int a1, .int a2]) hG.2.2 (am_cV.re (vL_41 hG) rfl rfl rfl rfl) hs0 hM (by omega) dL_cut_5 rfl rfl (Nat.le_of_ble_eq_true rfl) (fun v w9 hq => by obtain ⟨r, I9, R9, -, rfl, -⟩ := h1 v w9 hq; exact Nat.one_ne_zero) (Nat.le_of_eq (Nat.zero_add _)) (Nat.le_of_eq (Nat.zero_add _)) rfl (fun E w9 hq => ?_) (fun v w9 hq => ?_)
  · obtain ⟨hg, hq2⟩ := h2 E w9 hq
    refine ⟨hg, ?_⟩
    obtain ⟨rfl, hq3⟩ := hq2
    exact ⟨20, 1, Or.inl ⟨0, 17, 18, _, nmS, rfl, by decide, by decide, by decide, k_c hG 1185 (by decide +kernel) (by decide +kernel), fun s H hO => (hK.2.1 s H hO).2.2.2.1⟩, Or.inr ⟨4, 1, dL_cut_20, by decide, dL_cut_22, by decide, dL_cut_23⟩, hq3⟩
  · obtain ⟨r, I9, R9, rfl, rfl, hq2⟩ := h1 v w9 hq
    refine AH.if_eq 15 dL_cut_8 (by decide) (fun hz => ?_) (fun hz => ?_)
    · refine AH.lconst 0 dL_cut_15 rfl (AH.last hs4 (by unfold vp_in; decide) dL_cut_16 (AH.goto 24 dL_cut_17 (by decide) (AH.iconst 0 dL_cut_24 (by decide) (AH.iret dL_cut_25 rfl (Nat.le_of_eq (Nat.zero_add _)) (Nat.le_of_eq (Nat.zero_add _)) ?_))))
      rw [if_pos hz] at hq2
      exact hq2
    · refine AH.lconst 1 dL_cut_11 rfl (AH.goto 16 dL_cut_12 (by decide) (AH.last hs4 (by unfold vp_in; decide) dL_cut_16 (AH.goto 24 dL_cut_17 (by decide) (AH.iconst 0 dL_cut_24 (by decide) (AH.iret dL_cut_25 rfl (Nat.le_of_eq (Nat.zero_add _)) (Nat.le_of_eq (Nat.zero_add _)) ?_)))))
      rw [if_neg hz] at hq2
      exact hq2
theorem dL_thank_0 : decode cL_thank 0 = .ok (.aload_n 3, 1) := by decide +kernel
theorem dL_thank_1 : decode cL_thank 1 = .ok (.iconst 0, 1) := by decide +kernel
theorem dL_thank_2 : decode cL_thank 2 = .ok (.aload_n 0, 1) := by decide +kernel
theorem dL_thank_3 : decode cL_thank 3 = .ok (.iload_n 1, 1) := by decide +kernel
theorem dL_thank_4 : decode cL_thank 4 = .ok (.iload_n 2, 1) := by decide +kernel
theorem dL_thank_5 : decode cL_thank 5 = .ok (.invokevirtual 44, 3) := by decide +kernel
theorem dL_thank_8 : decode cL_thank 8 = .ok (.i2l, 1) := by decide +kernel
theorem dL_thank_9 : decode cL_thank 9 = .ok (.lastore, 1) := by decide +kernel
theorem dL_thank_10 : decode cL_thank 10 = .ok (.goto 7, 3) := by decide +kernel
theorem dL_thank_13 : decode cL_thank 13 = .ok (.astore 4, 2) := by decide +kernel
theorem dL_thank_15 : decode cL_thank 15 = .ok (.iconst 1, 1) := by decide +kernel
theorem dL_thank_16 : decode cL_thank 16 = .ok (.ireturn, 1) := by decide +kernel
theorem dL_thank_17 : decode cL_thank 17 = .ok (.iconst 0, 1) := by decide +kernel
theorem dL_thank_18 : decode cL_thank 18 = .ok (.ireturn, 1) := by decide +kernel
abbrev nL_thank : am_M := (yL_thank, cL_thank, 5, some .int, am_mc pX10_thank, am_ms pX10_thank)
theorem kH_thank {G : am_G} (hG : k_ok G) : am_cH G RL 123 nL_thank [(0, 10, 13, 18)] 4 := ⟨k_c hG 116 (by decide +kernel) (by decide +kernel), k_c hG 1336 (by decide +kernel) (by decide +kernel), by decide +kernel, by decide, k_c hG 1334 (by decide +kernel) (by decide +kernel), k_c hG 1335 (by decide +kernel) (by decide +kernel)⟩
set_option maxRecDepth 100000 in
set_option maxHeartbeats 4000000 in
theorem h_thank {G : am_G} (hK : k_OK G) {d d' : Nat} (hdd : d' + 1 ≤ d) {sh : List (Nat ⊕ (Nat × Nat))} {I : Nat → Nat → Int32} {R : Nat → Nat → Option Nat} {L : Nat → Nat → Int64} (hs0 : sh[0]? = some (.inl 10)) (hs4 : sh[144]? = some (.inr (4, 1))) {a1 a2 : Int32} {Rt Rt' : Option Value → am_w → Prop} {Th Th' : String → am_w → Prop} (hM : AM G pX10_thank d' [.ref 0, .int a1, .int a2] (sh, I, R, L, 1) Rt' Th')
    (h1 : ∀ v w', Rt' v w' → ∃ (r : Int32) (I' : Nat → Nat → Int32) (R' : Nat → Nat → Option Nat), v = some (.int r) ∧ w' = (sh, I', R', L, 1) ∧ Rt (some (.int 0)) (sh, I', R', am_uL L 144 0 r.toInt64, 1)) (h2 : ∀ E w', Th' E w' → w'.2.2.2.2 ≠ 0 ∧ ((E = nmS ∧ Rt (some (.int 1)) w'))) : AMH G nL_thank [(0, 10, 13, 18)] d [.ref 0, .int a1, .int a2, .ref 144] (sh, I, R, L, 1) Rt Th := by
  have hG := hK.1
  refine AMH.of (n := 1) (by decide +kernel) (Nat.le_of_ble_eq_true rfl) ?_
  show AH G nL_thank [(0, 10, 13, 18)] d Rt Th 0 [some (.ref 0), some (.int a1), some (.int a2), some (.ref 144), none] [] (sh, I, R, L, 1) 0 0
  refine AH.aload_n dL_thank_0 rfl ?_
  refine AH.iconst 0 dL_thank_1 (by decide) ?_
  refine AH.aload_n dL_thank_2 rfl ?_
  refine AH.iload_n dL_thank_3 rfl ?_
  refine AH.iload_n dL_thank_4 rfl ?_
  refine AH.callV (M' := pX10_thank) (b := 0) (As := [.int a1, .int a2]) hG.2.2 (am_cV.re (vL_44 hG) rfl rfl rfl rfl) hs0 hM (by omega) dL_thank_5 rfl rfl (Nat.le_of_ble_eq_true rfl) (fun v w9 hq => by obtain ⟨r, I9, R9, -, rfl, -⟩ := h1 v w9 hq; exact Nat.one_ne_zero) (Nat.le_of_eq (Nat.zero_add _)) (Nat.le_of_eq (Nat.zero_add _)) rfl (fun E w9 hq => ?_) (fun v w9 hq => ?_)
  · obtain ⟨hg, hq2⟩ := h2 E w9 hq
    refine ⟨hg, ?_⟩
    obtain ⟨rfl, hq3⟩ := hq2
    exact ⟨13, 1, Or.inl ⟨0, 10, 18, _, nmS, rfl, by decide, by decide, by decide, k_c hG 1185 (by decide +kernel) (by decide +kernel), fun s H hO => (hK.2.1 s H hO).2.2.2.1⟩, Or.inr ⟨4, 1, dL_thank_13, by decide, dL_thank_15, by decide, dL_thank_16⟩, hq3⟩
  · obtain ⟨r, I9, R9, rfl, rfl, hq2⟩ := h1 v w9 hq
    refine AH.i2l dL_thank_8 (AH.last hs4 (by unfold vp_in; decide) dL_thank_9 (AH.goto 17 dL_thank_10 (by decide) (AH.iconst 0 dL_thank_17 (by decide) (AH.iret dL_thank_18 rfl (Nat.le_of_eq (Nat.zero_add _)) (Nat.le_of_eq (Nat.zero_add _)) ?_))))
    exact hq2
theorem dL_carried_0 : decode cL_carried 0 = .ok (.aload_n 2, 1) := by decide +kernel
theorem dL_carried_1 : decode cL_carried 1 = .ok (.iconst 0, 1) := by decide +kernel
theorem dL_carried_2 : decode cL_carried 2 = .ok (.aload_n 0, 1) := by decide +kernel
theorem dL_carried_3 : decode cL_carried 3 = .ok (.iload_n 1, 1) := by decide +kernel
theorem dL_carried_4 : decode cL_carried 4 = .ok (.invokevirtual 47, 3) := by decide +kernel
theorem dL_carried_7 : decode cL_carried 7 = .ok (.i2l, 1) := by decide +kernel
theorem dL_carried_8 : decode cL_carried 8 = .ok (.lastore, 1) := by decide +kernel
theorem dL_carried_9 : decode cL_carried 9 = .ok (.goto 6, 3) := by decide +kernel
theorem dL_carried_12 : decode cL_carried 12 = .ok (.astore_n 3, 1) := by decide +kernel
theorem dL_carried_13 : decode cL_carried 13 = .ok (.iconst 1, 1) := by decide +kernel
theorem dL_carried_14 : decode cL_carried 14 = .ok (.ireturn, 1) := by decide +kernel
theorem dL_carried_15 : decode cL_carried 15 = .ok (.iconst 0, 1) := by decide +kernel
theorem dL_carried_16 : decode cL_carried 16 = .ok (.ireturn, 1) := by decide +kernel
abbrev nL_carried : am_M := (yL_carried, cL_carried, 4, some .int, am_mc pX10_carried, am_ms pX10_carried)
theorem kH_carried {G : am_G} (hG : k_ok G) : am_cH G RL 142 nL_carried [(0, 9, 12, 18)] 3 := ⟨k_c hG 116 (by decide +kernel) (by decide +kernel), k_c hG 1343 (by decide +kernel) (by decide +kernel), by decide +kernel, by decide, k_c hG 1341 (by decide +kernel) (by decide +kernel), k_c hG 1342 (by decide +kernel) (by decide +kernel)⟩
set_option maxRecDepth 100000 in
set_option maxHeartbeats 4000000 in
theorem h_carried {G : am_G} (hK : k_OK G) {d d' : Nat} (hdd : d' + 1 ≤ d) {sh : List (Nat ⊕ (Nat × Nat))} {I : Nat → Nat → Int32} {R : Nat → Nat → Option Nat} {L : Nat → Nat → Int64} (hs0 : sh[0]? = some (.inl 10)) (hs4 : sh[144]? = some (.inr (4, 1))) {a1 : Int32} {Rt Rt' : Option Value → am_w → Prop} {Th Th' : String → am_w → Prop} (hM : AM G pX10_carried d' [.ref 0, .int a1] (sh, I, R, L, 1) Rt' Th')
    (h1 : ∀ v w', Rt' v w' → ∃ (r : Int32) (I' : Nat → Nat → Int32) (R' : Nat → Nat → Option Nat), v = some (.int r) ∧ w' = (sh, I', R', L, 1) ∧ Rt (some (.int 0)) (sh, I', R', am_uL L 144 0 r.toInt64, 1)) (h2 : ∀ E w', Th' E w' → w'.2.2.2.2 ≠ 0 ∧ ((E = nmS ∧ Rt (some (.int 1)) w'))) : AMH G nL_carried [(0, 9, 12, 18)] d [.ref 0, .int a1, .ref 144] (sh, I, R, L, 1) Rt Th := by
  have hG := hK.1
  refine AMH.of (n := 1) (by decide +kernel) (Nat.le_of_ble_eq_true rfl) ?_
  show AH G nL_carried [(0, 9, 12, 18)] d Rt Th 0 [some (.ref 0), some (.int a1), some (.ref 144), none] [] (sh, I, R, L, 1) 0 0
  refine AH.aload_n dL_carried_0 rfl ?_
  refine AH.iconst 0 dL_carried_1 (by decide) ?_
  refine AH.aload_n dL_carried_2 rfl ?_
  refine AH.iload_n dL_carried_3 rfl ?_
  refine AH.callV (M' := pX10_carried) (b := 0) (As := [.int a1]) hG.2.2 (am_cV.re (vL_47 hG) rfl rfl rfl rfl) hs0 hM (by omega) dL_carried_4 rfl rfl (Nat.le_of_ble_eq_true rfl) (fun v w9 hq => by obtain ⟨r, I9, R9, -, rfl, -⟩ := h1 v w9 hq; exact Nat.one_ne_zero) (Nat.le_of_eq (Nat.zero_add _)) (Nat.le_of_eq (Nat.zero_add _)) rfl (fun E w9 hq => ?_) (fun v w9 hq => ?_)
  · obtain ⟨hg, hq2⟩ := h2 E w9 hq
    refine ⟨hg, ?_⟩
    obtain ⟨rfl, hq3⟩ := hq2
    exact ⟨12, 1, Or.inl ⟨0, 9, 18, _, nmS, rfl, by decide, by decide, by decide, k_c hG 1185 (by decide +kernel) (by decide +kernel), fun s H hO => (hK.2.1 s H hO).2.2.2.1⟩, Or.inl ⟨3, 1, dL_carried_12, by decide, dL_carried_13, by decide, dL_carried_14⟩, hq3⟩
  · obtain ⟨r, I9, R9, rfl, rfl, hq2⟩ := h1 v w9 hq
    refine AH.i2l dL_carried_7 (AH.last hs4 (by unfold vp_in; decide) dL_carried_8 (AH.goto 15 dL_carried_9 (by decide) (AH.iconst 0 dL_carried_15 (by decide) (AH.iret dL_carried_16 rfl (Nat.le_of_eq (Nat.zero_add _)) (Nat.le_of_eq (Nat.zero_add _)) ?_))))
    exact hq2
theorem dL_see_0 : decode cL_see 0 = .ok (.aload 4, 2) := by decide +kernel
theorem dL_see_2 : decode cL_see 2 = .ok (.iconst 0, 1) := by decide +kernel
theorem dL_see_3 : decode cL_see 3 = .ok (.aload_n 0, 1) := by decide +kernel
theorem dL_see_4 : decode cL_see 4 = .ok (.iload_n 1, 1) := by decide +kernel
theorem dL_see_5 : decode cL_see 5 = .ok (.iload_n 2, 1) := by decide +kernel
theorem dL_see_6 : decode cL_see 6 = .ok (.iload_n 3, 1) := by decide +kernel
theorem dL_see_7 : decode cL_see 7 = .ok (.invokevirtual 50, 3) := by decide +kernel
theorem dL_see_10 : decode cL_see 10 = .ok (.i2l, 1) := by decide +kernel
theorem dL_see_11 : decode cL_see 11 = .ok (.lastore, 1) := by decide +kernel
theorem dL_see_12 : decode cL_see 12 = .ok (.goto 7, 3) := by decide +kernel
theorem dL_see_15 : decode cL_see 15 = .ok (.astore 5, 2) := by decide +kernel
theorem dL_see_17 : decode cL_see 17 = .ok (.iconst 1, 1) := by decide +kernel
theorem dL_see_18 : decode cL_see 18 = .ok (.ireturn, 1) := by decide +kernel
theorem dL_see_19 : decode cL_see 19 = .ok (.iconst 0, 1) := by decide +kernel
theorem dL_see_20 : decode cL_see 20 = .ok (.ireturn, 1) := by decide +kernel
abbrev nL_see : am_M := (yL_see, cL_see, 6, some .int, am_mc pX10_see, am_ms pX10_see)
theorem kH_see {G : am_G} (hG : k_ok G) : am_cH G RL 165 nL_see [(0, 12, 15, 18)] 5 := ⟨k_c hG 116 (by decide +kernel) (by decide +kernel), k_c hG 1351 (by decide +kernel) (by decide +kernel), by decide +kernel, by decide, k_c hG 1349 (by decide +kernel) (by decide +kernel), k_c hG 1350 (by decide +kernel) (by decide +kernel)⟩
set_option maxRecDepth 100000 in
set_option maxHeartbeats 4000000 in
theorem h_see {G : am_G} (hK : k_OK G) {d d' : Nat} (hdd : d' + 1 ≤ d) {sh : List (Nat ⊕ (Nat × Nat))} {I : Nat → Nat → Int32} {R : Nat → Nat → Option Nat} {L : Nat → Nat → Int64} (hs0 : sh[0]? = some (.inl 10)) (hs4 : sh[144]? = some (.inr (4, 1))) {a1 a2 a3 : Int32} {Rt Rt' : Option Value → am_w → Prop} {Th Th' : String → am_w → Prop} (hM : AM G pX10_see d' [.ref 0, .int a1, .int a2, .int a3] (sh, I, R, L, 1) Rt' Th')
    (h1 : ∀ v w', Rt' v w' → ∃ (r : Int32) (I' : Nat → Nat → Int32) (R' : Nat → Nat → Option Nat), v = some (.int r) ∧ w' = (sh, I', R', L, 1) ∧ Rt (some (.int 0)) (sh, I', R', am_uL L 144 0 r.toInt64, 1)) (h2 : ∀ E w', Th' E w' → w'.2.2.2.2 ≠ 0 ∧ ((E = nmS ∧ Rt (some (.int 1)) w'))) : AMH G nL_see [(0, 12, 15, 18)] d [.ref 0, .int a1, .int a2, .int a3, .ref 144] (sh, I, R, L, 1) Rt Th := by
  have hG := hK.1
  refine AMH.of (n := 1) (by decide +kernel) (Nat.le_of_ble_eq_true rfl) ?_
  show AH G nL_see [(0, 12, 15, 18)] d Rt Th 0 [some (.ref 0), some (.int a1), some (.int a2), some (.int a3), some (.ref 144), none] [] (sh, I, R, L, 1) 0 0
  refine AH.aload dL_see_0 rfl ?_
  refine AH.iconst 0 dL_see_2 (by decide) ?_
  refine AH.aload_n dL_see_3 rfl ?_
  refine AH.iload_n dL_see_4 rfl ?_
  refine AH.iload_n dL_see_5 rfl ?_
  refine AH.iload_n dL_see_6 rfl ?_
  refine AH.callV (M' := pX10_see) (b := 0) (As := [.int a1, .int a2, .int a3]) hG.2.2 (am_cV.re (vL_50 hG) rfl rfl rfl rfl) hs0 hM (by omega) dL_see_7 rfl rfl (Nat.le_of_ble_eq_true rfl) (fun v w9 hq => by obtain ⟨r, I9, R9, -, rfl, -⟩ := h1 v w9 hq; exact Nat.one_ne_zero) (Nat.le_of_eq (Nat.zero_add _)) (Nat.le_of_eq (Nat.zero_add _)) rfl (fun E w9 hq => ?_) (fun v w9 hq => ?_)
  · obtain ⟨hg, hq2⟩ := h2 E w9 hq
    refine ⟨hg, ?_⟩
    obtain ⟨rfl, hq3⟩ := hq2
    exact ⟨15, 1, Or.inl ⟨0, 12, 18, _, nmS, rfl, by decide, by decide, by decide, k_c hG 1185 (by decide +kernel) (by decide +kernel), fun s H hO => (hK.2.1 s H hO).2.2.2.1⟩, Or.inr ⟨5, 1, dL_see_15, by decide, dL_see_17, by decide, dL_see_18⟩, hq3⟩
  · obtain ⟨r, I9, R9, rfl, rfl, hq2⟩ := h1 v w9 hq
    refine AH.i2l dL_see_10 (AH.last hs4 (by unfold vp_in; decide) dL_see_11 (AH.goto 19 dL_see_12 (by decide) (AH.iconst 0 dL_see_19 (by decide) (AH.iret dL_see_20 rfl (Nat.le_of_eq (Nat.zero_add _)) (Nat.le_of_eq (Nat.zero_add _)) ?_))))
    exact hq2
theorem dL_who_0 : decode cL_who 0 = .ok (.aload_n 2, 1) := by decide +kernel
theorem dL_who_1 : decode cL_who 1 = .ok (.iconst 0, 1) := by decide +kernel
theorem dL_who_2 : decode cL_who 2 = .ok (.aload_n 0, 1) := by decide +kernel
theorem dL_who_3 : decode cL_who 3 = .ok (.iload_n 1, 1) := by decide +kernel
theorem dL_who_4 : decode cL_who 4 = .ok (.invokevirtual 53, 3) := by decide +kernel
theorem dL_who_7 : decode cL_who 7 = .ok (.i2l, 1) := by decide +kernel
theorem dL_who_8 : decode cL_who 8 = .ok (.lastore, 1) := by decide +kernel
theorem dL_who_9 : decode cL_who 9 = .ok (.goto 6, 3) := by decide +kernel
theorem dL_who_12 : decode cL_who 12 = .ok (.astore_n 3, 1) := by decide +kernel
theorem dL_who_13 : decode cL_who 13 = .ok (.iconst 1, 1) := by decide +kernel
theorem dL_who_14 : decode cL_who 14 = .ok (.ireturn, 1) := by decide +kernel
theorem dL_who_15 : decode cL_who 15 = .ok (.iconst 0, 1) := by decide +kernel
theorem dL_who_16 : decode cL_who 16 = .ok (.ireturn, 1) := by decide +kernel
abbrev nL_who : am_M := (yL_who, cL_who, 4, some .int, am_mc pX10_who, am_ms pX10_who)
theorem kH_who {G : am_G} (hG : k_ok G) : am_cH G RL 168 nL_who [(0, 9, 12, 18)] 3 := ⟨k_c hG 116 (by decide +kernel) (by decide +kernel), k_c hG 1362 (by decide +kernel) (by decide +kernel), by decide +kernel, by decide, k_c hG 1360 (by decide +kernel) (by decide +kernel), k_c hG 1361 (by decide +kernel) (by decide +kernel)⟩
set_option maxRecDepth 100000 in
set_option maxHeartbeats 4000000 in
theorem h_who {G : am_G} (hK : k_OK G) {d d' : Nat} (hdd : d' + 1 ≤ d) {sh : List (Nat ⊕ (Nat × Nat))} {I : Nat → Nat → Int32} {R : Nat → Nat → Option Nat} {L : Nat → Nat → Int64} (hs0 : sh[0]? = some (.inl 10)) (hs4 : sh[144]? = some (.inr (4, 1))) {a1 : Int32} {Rt Rt' : Option Value → am_w → Prop} {Th Th' : String → am_w → Prop} (hM : AM G pX10_who d' [.ref 0, .int a1] (sh, I, R, L, 1) Rt' Th')
    (h1 : ∀ v w', Rt' v w' → ∃ (r : Int32) (I' : Nat → Nat → Int32) (R' : Nat → Nat → Option Nat), v = some (.int r) ∧ w' = (sh, I', R', L, 1) ∧ Rt (some (.int 0)) (sh, I', R', am_uL L 144 0 r.toInt64, 1)) (h2 : ∀ E w', Th' E w' → w'.2.2.2.2 ≠ 0 ∧ ((E = nmS ∧ Rt (some (.int 1)) w'))) : AMH G nL_who [(0, 9, 12, 18)] d [.ref 0, .int a1, .ref 144] (sh, I, R, L, 1) Rt Th := by
  have hG := hK.1
  refine AMH.of (n := 1) (by decide +kernel) (Nat.le_of_ble_eq_true rfl) ?_
  show AH G nL_who [(0, 9, 12, 18)] d Rt Th 0 [some (.ref 0), some (.int a1), some (.ref 144), none] [] (sh, I, R, L, 1) 0 0
  refine AH.aload_n dL_who_0 rfl ?_
  refine AH.iconst 0 dL_who_1 (by decide) ?_
  refine AH.aload_n dL_who_2 rfl ?_
  refine AH.iload_n dL_who_3 rfl ?_
  refine AH.callV (M' := pX10_who) (b := 0) (As := [.int a1]) hG.2.2 (am_cV.re (vL_53 hG) rfl rfl rfl rfl) hs0 hM (by omega) dL_who_4 rfl rfl (Nat.le_of_ble_eq_true rfl) (fun v w9 hq => by obtain ⟨r, I9, R9, -, rfl, -⟩ := h1 v w9 hq; exact Nat.one_ne_zero) (Nat.le_of_eq (Nat.zero_add _)) (Nat.le_of_eq (Nat.zero_add _)) rfl (fun E w9 hq => ?_) (fun v w9 hq => ?_)
  · obtain ⟨hg, hq2⟩ := h2 E w9 hq
    refine ⟨hg, ?_⟩
    obtain ⟨rfl, hq3⟩ := hq2
    exact ⟨12, 1, Or.inl ⟨0, 9, 18, _, nmS, rfl, by decide, by decide, by decide, k_c hG 1185 (by decide +kernel) (by decide +kernel), fun s H hO => (hK.2.1 s H hO).2.2.2.1⟩, Or.inl ⟨3, 1, dL_who_12, by decide, dL_who_13, by decide, dL_who_14⟩, hq3⟩
  · obtain ⟨r, I9, R9, rfl, rfl, hq2⟩ := h1 v w9 hq
    refine AH.i2l dL_who_7 (AH.last hs4 (by unfold vp_in; decide) dL_who_8 (AH.goto 15 dL_who_9 (by decide) (AH.iconst 0 dL_who_15 (by decide) (AH.iret dL_who_16 rfl (Nat.le_of_eq (Nat.zero_add _)) (Nat.le_of_eq (Nat.zero_add _)) ?_))))
    exact hq2
theorem dL_balk_0 : decode cL_balk 0 = .ok (.aload_n 3, 1) := by decide +kernel
theorem dL_balk_1 : decode cL_balk 1 = .ok (.iconst 0, 1) := by decide +kernel
theorem dL_balk_2 : decode cL_balk 2 = .ok (.aload_n 0, 1) := by decide +kernel
theorem dL_balk_3 : decode cL_balk 3 = .ok (.iload_n 1, 1) := by decide +kernel
theorem dL_balk_4 : decode cL_balk 4 = .ok (.iload_n 2, 1) := by decide +kernel
theorem dL_balk_5 : decode cL_balk 5 = .ok (.invokevirtual 56, 3) := by decide +kernel
theorem dL_balk_8 : decode cL_balk 8 = .ok (.i2l, 1) := by decide +kernel
theorem dL_balk_9 : decode cL_balk 9 = .ok (.lastore, 1) := by decide +kernel
theorem dL_balk_10 : decode cL_balk 10 = .ok (.goto 7, 3) := by decide +kernel
theorem dL_balk_13 : decode cL_balk 13 = .ok (.astore 4, 2) := by decide +kernel
theorem dL_balk_15 : decode cL_balk 15 = .ok (.iconst 1, 1) := by decide +kernel
theorem dL_balk_16 : decode cL_balk 16 = .ok (.ireturn, 1) := by decide +kernel
theorem dL_balk_17 : decode cL_balk 17 = .ok (.iconst 0, 1) := by decide +kernel
theorem dL_balk_18 : decode cL_balk 18 = .ok (.ireturn, 1) := by decide +kernel
abbrev nL_balk : am_M := (yL_balk, cL_balk, 5, some .int, am_mc pX10_balk, am_ms pX10_balk)
theorem kH_balk {G : am_G} (hG : k_ok G) : am_cH G RL 171 nL_balk [(0, 10, 13, 18)] 4 := ⟨k_c hG 116 (by decide +kernel) (by decide +kernel), k_c hG 1373 (by decide +kernel) (by decide +kernel), by decide +kernel, by decide, k_c hG 1371 (by decide +kernel) (by decide +kernel), k_c hG 1372 (by decide +kernel) (by decide +kernel)⟩
set_option maxRecDepth 100000 in
set_option maxHeartbeats 4000000 in
theorem h_balk {G : am_G} (hK : k_OK G) {d d' : Nat} (hdd : d' + 1 ≤ d) {sh : List (Nat ⊕ (Nat × Nat))} {I : Nat → Nat → Int32} {R : Nat → Nat → Option Nat} {L : Nat → Nat → Int64} (hs0 : sh[0]? = some (.inl 10)) (hs4 : sh[144]? = some (.inr (4, 1))) {a1 a2 : Int32} {Rt Rt' : Option Value → am_w → Prop} {Th Th' : String → am_w → Prop} (hM : AM G pX10_balk d' [.ref 0, .int a1, .int a2] (sh, I, R, L, 1) Rt' Th')
    (h1 : ∀ v w', Rt' v w' → ∃ (r : Int32) (I' : Nat → Nat → Int32) (R' : Nat → Nat → Option Nat), v = some (.int r) ∧ w' = (sh, I', R', L, 1) ∧ Rt (some (.int 0)) (sh, I', R', am_uL L 144 0 r.toInt64, 1)) (h2 : ∀ E w', Th' E w' → w'.2.2.2.2 ≠ 0 ∧ ((E = nmS ∧ Rt (some (.int 1)) w'))) : AMH G nL_balk [(0, 10, 13, 18)] d [.ref 0, .int a1, .int a2, .ref 144] (sh, I, R, L, 1) Rt Th := by
  have hG := hK.1
  refine AMH.of (n := 1) (by decide +kernel) (Nat.le_of_ble_eq_true rfl) ?_
  show AH G nL_balk [(0, 10, 13, 18)] d Rt Th 0 [some (.ref 0), some (.int a1), some (.int a2), some (.ref 144), none] [] (sh, I, R, L, 1) 0 0
  refine AH.aload_n dL_balk_0 rfl ?_
  refine AH.iconst 0 dL_balk_1 (by decide) ?_
  refine AH.aload_n dL_balk_2 rfl ?_
  refine AH.iload_n dL_balk_3 rfl ?_
  refine AH.iload_n dL_balk_4 rfl ?_
  refine AH.callV (M' := pX10_balk) (b := 0) (As := [.int a1, .int a2]) hG.2.2 (am_cV.re (vL_56 hG) rfl rfl rfl rfl) hs0 hM (by omega) dL_balk_5 rfl rfl (Nat.le_of_ble_eq_true rfl) (fun v w9 hq => by obtain ⟨r, I9, R9, -, rfl, -⟩ := h1 v w9 hq; exact Nat.one_ne_zero) (Nat.le_of_eq (Nat.zero_add _)) (Nat.le_of_eq (Nat.zero_add _)) rfl (fun E w9 hq => ?_) (fun v w9 hq => ?_)
  · obtain ⟨hg, hq2⟩ := h2 E w9 hq
    refine ⟨hg, ?_⟩
    obtain ⟨rfl, hq3⟩ := hq2
    exact ⟨13, 1, Or.inl ⟨0, 10, 18, _, nmS, rfl, by decide, by decide, by decide, k_c hG 1185 (by decide +kernel) (by decide +kernel), fun s H hO => (hK.2.1 s H hO).2.2.2.1⟩, Or.inr ⟨4, 1, dL_balk_13, by decide, dL_balk_15, by decide, dL_balk_16⟩, hq3⟩
  · obtain ⟨r, I9, R9, rfl, rfl, hq2⟩ := h1 v w9 hq
    refine AH.i2l dL_balk_8 (AH.last hs4 (by unfold vp_in; decide) dL_balk_9 (AH.goto 17 dL_balk_10 (by decide) (AH.iconst 0 dL_balk_17 (by decide) (AH.iret dL_balk_18 rfl (Nat.le_of_eq (Nat.zero_add _)) (Nat.le_of_eq (Nat.zero_add _)) ?_))))
    exact hq2
theorem dL_whom_0 : decode cL_whom 0 = .ok (.aload_n 2, 1) := by decide +kernel
theorem dL_whom_1 : decode cL_whom 1 = .ok (.iconst 0, 1) := by decide +kernel
theorem dL_whom_2 : decode cL_whom 2 = .ok (.aload_n 0, 1) := by decide +kernel
theorem dL_whom_3 : decode cL_whom 3 = .ok (.iload_n 1, 1) := by decide +kernel
theorem dL_whom_4 : decode cL_whom 4 = .ok (.invokevirtual 59, 3) := by decide +kernel
theorem dL_whom_7 : decode cL_whom 7 = .ok (.i2l, 1) := by decide +kernel
theorem dL_whom_8 : decode cL_whom 8 = .ok (.lastore, 1) := by decide +kernel
theorem dL_whom_9 : decode cL_whom 9 = .ok (.goto 6, 3) := by decide +kernel
theorem dL_whom_12 : decode cL_whom 12 = .ok (.astore_n 3, 1) := by decide +kernel
theorem dL_whom_13 : decode cL_whom 13 = .ok (.iconst 1, 1) := by decide +kernel
theorem dL_whom_14 : decode cL_whom 14 = .ok (.ireturn, 1) := by decide +kernel
theorem dL_whom_15 : decode cL_whom 15 = .ok (.iconst 0, 1) := by decide +kernel
theorem dL_whom_16 : decode cL_whom 16 = .ok (.ireturn, 1) := by decide +kernel
abbrev nL_whom : am_M := (yL_whom, cL_whom, 4, some .int, am_mc pX10_whom, am_ms pX10_whom)
theorem kH_whom {G : am_G} (hG : k_ok G) : am_cH G RL 174 nL_whom [(0, 9, 12, 18)] 3 := ⟨k_c hG 116 (by decide +kernel) (by decide +kernel), k_c hG 1384 (by decide +kernel) (by decide +kernel), by decide +kernel, by decide, k_c hG 1382 (by decide +kernel) (by decide +kernel), k_c hG 1383 (by decide +kernel) (by decide +kernel)⟩
set_option maxRecDepth 100000 in
set_option maxHeartbeats 4000000 in
theorem h_whom {G : am_G} (hK : k_OK G) {d d' : Nat} (hdd : d' + 1 ≤ d) {sh : List (Nat ⊕ (Nat × Nat))} {I : Nat → Nat → Int32} {R : Nat → Nat → Option Nat} {L : Nat → Nat → Int64} (hs0 : sh[0]? = some (.inl 10)) (hs4 : sh[144]? = some (.inr (4, 1))) {a1 : Int32} {Rt Rt' : Option Value → am_w → Prop} {Th Th' : String → am_w → Prop} (hM : AM G pX10_whom d' [.ref 0, .int a1] (sh, I, R, L, 1) Rt' Th')
    (h1 : ∀ v w', Rt' v w' → ∃ (r : Int32) (I' : Nat → Nat → Int32) (R' : Nat → Nat → Option Nat), v = some (.int r) ∧ w' = (sh, I', R', L, 1) ∧ Rt (some (.int 0)) (sh, I', R', am_uL L 144 0 r.toInt64, 1)) (h2 : ∀ E w', Th' E w' → w'.2.2.2.2 ≠ 0 ∧ ((E = nmS ∧ Rt (some (.int 1)) w'))) : AMH G nL_whom [(0, 9, 12, 18)] d [.ref 0, .int a1, .ref 144] (sh, I, R, L, 1) Rt Th := by
  have hG := hK.1
  refine AMH.of (n := 1) (by decide +kernel) (Nat.le_of_ble_eq_true rfl) ?_
  show AH G nL_whom [(0, 9, 12, 18)] d Rt Th 0 [some (.ref 0), some (.int a1), some (.ref 144), none] [] (sh, I, R, L, 1) 0 0
  refine AH.aload_n dL_whom_0 rfl ?_
  refine AH.iconst 0 dL_whom_1 (by decide) ?_
  refine AH.aload_n dL_whom_2 rfl ?_
  refine AH.iload_n dL_whom_3 rfl ?_
  refine AH.callV (M' := pX10_whom) (b := 0) (As := [.int a1]) hG.2.2 (am_cV.re (vL_59 hG) rfl rfl rfl rfl) hs0 hM (by omega) dL_whom_4 rfl rfl (Nat.le_of_ble_eq_true rfl) (fun v w9 hq => by obtain ⟨r, I9, R9, -, rfl, -⟩ := h1 v w9 hq; exact Nat.one_ne_zero) (Nat.le_of_eq (Nat.zero_add _)) (Nat.le_of_eq (Nat.zero_add _)) rfl (fun E w9 hq => ?_) (fun v w9 hq => ?_)
  · obtain ⟨hg, hq2⟩ := h2 E w9 hq
    refine ⟨hg, ?_⟩
    obtain ⟨rfl, hq3⟩ := hq2
    exact ⟨12, 1, Or.inl ⟨0, 9, 18, _, nmS, rfl, by decide, by decide, by decide, k_c hG 1185 (by decide +kernel) (by decide +kernel), fun s H hO => (hK.2.1 s H hO).2.2.2.1⟩, Or.inl ⟨3, 1, dL_whom_12, by decide, dL_whom_13, by decide, dL_whom_14⟩, hq3⟩
  · obtain ⟨r, I9, R9, rfl, rfl, hq2⟩ := h1 v w9 hq
    refine AH.i2l dL_whom_7 (AH.last hs4 (by unfold vp_in; decide) dL_whom_8 (AH.goto 15 dL_whom_9 (by decide) (AH.iconst 0 dL_whom_15 (by decide) (AH.iret dL_whom_16 rfl (Nat.le_of_eq (Nat.zero_add _)) (Nat.le_of_eq (Nat.zero_add _)) ?_))))
    exact hq2
theorem dL_why_0 : decode cL_why 0 = .ok (.aload_n 3, 1) := by decide +kernel
theorem dL_why_1 : decode cL_why 1 = .ok (.iconst 0, 1) := by decide +kernel
theorem dL_why_2 : decode cL_why 2 = .ok (.aload_n 0, 1) := by decide +kernel
theorem dL_why_3 : decode cL_why 3 = .ok (.iload_n 1, 1) := by decide +kernel
theorem dL_why_4 : decode cL_why 4 = .ok (.iload_n 2, 1) := by decide +kernel
theorem dL_why_5 : decode cL_why 5 = .ok (.invokevirtual 62, 3) := by decide +kernel
theorem dL_why_8 : decode cL_why 8 = .ok (.i2l, 1) := by decide +kernel
theorem dL_why_9 : decode cL_why 9 = .ok (.lastore, 1) := by decide +kernel
theorem dL_why_10 : decode cL_why 10 = .ok (.goto 7, 3) := by decide +kernel
theorem dL_why_13 : decode cL_why 13 = .ok (.astore 4, 2) := by decide +kernel
theorem dL_why_15 : decode cL_why 15 = .ok (.iconst 1, 1) := by decide +kernel
theorem dL_why_16 : decode cL_why 16 = .ok (.ireturn, 1) := by decide +kernel
theorem dL_why_17 : decode cL_why 17 = .ok (.iconst 0, 1) := by decide +kernel
theorem dL_why_18 : decode cL_why 18 = .ok (.ireturn, 1) := by decide +kernel
abbrev nL_why : am_M := (yL_why, cL_why, 5, some .int, am_mc pX10_why, am_ms pX10_why)
theorem kH_why {G : am_G} (hG : k_ok G) : am_cH G RL 177 nL_why [(0, 10, 13, 18)] 4 := ⟨k_c hG 116 (by decide +kernel) (by decide +kernel), k_c hG 1398 (by decide +kernel) (by decide +kernel), by decide +kernel, by decide, k_c hG 1396 (by decide +kernel) (by decide +kernel), k_c hG 1397 (by decide +kernel) (by decide +kernel)⟩
set_option maxRecDepth 100000 in
set_option maxHeartbeats 4000000 in
theorem h_why {G : am_G} (hK : k_OK G) {d d' : Nat} (hdd : d' + 1 ≤ d) {sh : List (Nat ⊕ (Nat × Nat))} {I : Nat → Nat → Int32} {R : Nat → Nat → Option Nat} {L : Nat → Nat → Int64} (hs0 : sh[0]? = some (.inl 10)) (hs4 : sh[144]? = some (.inr (4, 1))) {a1 a2 : Int32} {Rt Rt' : Option Value → am_w → Prop} {Th Th' : String → am_w → Prop} (hM : AM G pX10_why d' [.ref 0, .int a1, .int a2] (sh, I, R, L, 1) Rt' Th')
    (h1 : ∀ v w', Rt' v w' → ∃ (r : Int32) (I' : Nat → Nat → Int32) (R' : Nat → Nat → Option Nat), v = some (.int r) ∧ w' = (sh, I', R', L, 1) ∧ Rt (some (.int 0)) (sh, I', R', am_uL L 144 0 r.toInt64, 1)) (h2 : ∀ E w', Th' E w' → w'.2.2.2.2 ≠ 0 ∧ ((E = nmS ∧ Rt (some (.int 1)) w'))) : AMH G nL_why [(0, 10, 13, 18)] d [.ref 0, .int a1, .int a2, .ref 144] (sh, I, R, L, 1) Rt Th := by
  have hG := hK.1
  refine AMH.of (n := 1) (by decide +kernel) (Nat.le_of_ble_eq_true rfl) ?_
  show AH G nL_why [(0, 10, 13, 18)] d Rt Th 0 [some (.ref 0), some (.int a1), some (.int a2), some (.ref 144), none] [] (sh, I, R, L, 1) 0 0
  refine AH.aload_n dL_why_0 rfl ?_
  refine AH.iconst 0 dL_why_1 (by decide) ?_
  refine AH.aload_n dL_why_2 rfl ?_
  refine AH.iload_n dL_why_3 rfl ?_
  refine AH.iload_n dL_why_4 rfl ?_
  refine AH.callV (M' := pX10_why) (b := 0) (As := [.int a1, .int a2]) hG.2.2 (am_cV.re (vL_62 hG) rfl rfl rfl rfl) hs0 hM (by omega) dL_why_5 rfl rfl (Nat.le_of_ble_eq_true rfl) (fun v w9 hq => by obtain ⟨r, I9, R9, -, rfl, -⟩ := h1 v w9 hq; exact Nat.one_ne_zero) (Nat.le_of_eq (Nat.zero_add _)) (Nat.le_of_eq (Nat.zero_add _)) rfl (fun E w9 hq => ?_) (fun v w9 hq => ?_)
  · obtain ⟨hg, hq2⟩ := h2 E w9 hq
    refine ⟨hg, ?_⟩
    obtain ⟨rfl, hq3⟩ := hq2
    exact ⟨13, 1, Or.inl ⟨0, 10, 18, _, nmS, rfl, by decide, by decide, by decide, k_c hG 1185 (by decide +kernel) (by decide +kernel), fun s H hO => (hK.2.1 s H hO).2.2.2.1⟩, Or.inr ⟨4, 1, dL_why_13, by decide, dL_why_15, by decide, dL_why_16⟩, hq3⟩
  · obtain ⟨r, I9, R9, rfl, rfl, hq2⟩ := h1 v w9 hq
    refine AH.i2l dL_why_8 (AH.last hs4 (by unfold vp_in; decide) dL_why_9 (AH.goto 17 dL_why_10 (by decide) (AH.iconst 0 dL_why_17 (by decide) (AH.iret dL_why_18 rfl (Nat.le_of_eq (Nat.zero_add _)) (Nat.le_of_eq (Nat.zero_add _)) ?_))))
    exact hq2
theorem dL_fairest_0 : decode cL_fairest 0 = .ok (.aload_n 3, 1) := by decide +kernel
theorem dL_fairest_1 : decode cL_fairest 1 = .ok (.iconst 0, 1) := by decide +kernel
theorem dL_fairest_2 : decode cL_fairest 2 = .ok (.aload_n 0, 1) := by decide +kernel
theorem dL_fairest_3 : decode cL_fairest 3 = .ok (.iload_n 1, 1) := by decide +kernel
theorem dL_fairest_4 : decode cL_fairest 4 = .ok (.iload_n 2, 1) := by decide +kernel
theorem dL_fairest_5 : decode cL_fairest 5 = .ok (.invokevirtual 65, 3) := by decide +kernel
theorem dL_fairest_8 : decode cL_fairest 8 = .ok (.i2l, 1) := by decide +kernel
theorem dL_fairest_9 : decode cL_fairest 9 = .ok (.lastore, 1) := by decide +kernel
theorem dL_fairest_10 : decode cL_fairest 10 = .ok (.goto 7, 3) := by decide +kernel
theorem dL_fairest_13 : decode cL_fairest 13 = .ok (.astore 4, 2) := by decide +kernel
theorem dL_fairest_15 : decode cL_fairest 15 = .ok (.iconst 1, 1) := by decide +kernel
theorem dL_fairest_16 : decode cL_fairest 16 = .ok (.ireturn, 1) := by decide +kernel
theorem dL_fairest_17 : decode cL_fairest 17 = .ok (.iconst 0, 1) := by decide +kernel
theorem dL_fairest_18 : decode cL_fairest 18 = .ok (.ireturn, 1) := by decide +kernel
abbrev nL_fairest : am_M := (yL_fairest, cL_fairest, 5, some .int, am_mc pX10_fairest, am_ms pX10_fairest)
theorem kH_fairest {G : am_G} (hG : k_ok G) : am_cH G RL 180 nL_fairest [(0, 10, 13, 18)] 4 := ⟨k_c hG 116 (by decide +kernel) (by decide +kernel), k_c hG 1406 (by decide +kernel) (by decide +kernel), by decide +kernel, by decide, k_c hG 1404 (by decide +kernel) (by decide +kernel), k_c hG 1405 (by decide +kernel) (by decide +kernel)⟩
set_option maxRecDepth 100000 in
set_option maxHeartbeats 4000000 in
theorem h_fairest {G : am_G} (hK : k_OK G) {d d' : Nat} (hdd : d' + 1 ≤ d) {sh : List (Nat ⊕ (Nat × Nat))} {I : Nat → Nat → Int32} {R : Nat → Nat → Option Nat} {L : Nat → Nat → Int64} (hs0 : sh[0]? = some (.inl 10)) (hs4 : sh[144]? = some (.inr (4, 1))) {a1 a2 : Int32} {Rt Rt' : Option Value → am_w → Prop} {Th Th' : String → am_w → Prop} (hM : AM G pX10_fairest d' [.ref 0, .int a1, .int a2] (sh, I, R, L, 1) Rt' Th')
    (h1 : ∀ v w', Rt' v w' → ∃ (r : Int32) (I' : Nat → Nat → Int32) (R' : Nat → Nat → Option Nat), v = some (.int r) ∧ w' = (sh, I', R', L, 1) ∧ Rt (some (.int 0)) (sh, I', R', am_uL L 144 0 r.toInt64, 1)) (h2 : ∀ E w', Th' E w' → w'.2.2.2.2 ≠ 0 ∧ ((E = nmS ∧ Rt (some (.int 1)) w'))) : AMH G nL_fairest [(0, 10, 13, 18)] d [.ref 0, .int a1, .int a2, .ref 144] (sh, I, R, L, 1) Rt Th := by
  have hG := hK.1
  refine AMH.of (n := 1) (by decide +kernel) (Nat.le_of_ble_eq_true rfl) ?_
  show AH G nL_fairest [(0, 10, 13, 18)] d Rt Th 0 [some (.ref 0), some (.int a1), some (.int a2), some (.ref 144), none] [] (sh, I, R, L, 1) 0 0
  refine AH.aload_n dL_fairest_0 rfl ?_
  refine AH.iconst 0 dL_fairest_1 (by decide) ?_
  refine AH.aload_n dL_fairest_2 rfl ?_
  refine AH.iload_n dL_fairest_3 rfl ?_
  refine AH.iload_n dL_fairest_4 rfl ?_
  refine AH.callV (M' := pX10_fairest) (b := 0) (As := [.int a1, .int a2]) hG.2.2 (am_cV.re (vL_65 hG) rfl rfl rfl rfl) hs0 hM (by omega) dL_fairest_5 rfl rfl (Nat.le_of_ble_eq_true rfl) (fun v w9 hq => by obtain ⟨r, I9, R9, -, rfl, -⟩ := h1 v w9 hq; exact Nat.one_ne_zero) (Nat.le_of_eq (Nat.zero_add _)) (Nat.le_of_eq (Nat.zero_add _)) rfl (fun E w9 hq => ?_) (fun v w9 hq => ?_)
  · obtain ⟨hg, hq2⟩ := h2 E w9 hq
    refine ⟨hg, ?_⟩
    obtain ⟨rfl, hq3⟩ := hq2
    exact ⟨13, 1, Or.inl ⟨0, 10, 18, _, nmS, rfl, by decide, by decide, by decide, k_c hG 1185 (by decide +kernel) (by decide +kernel), fun s H hO => (hK.2.1 s H hO).2.2.2.1⟩, Or.inr ⟨4, 1, dL_fairest_13, by decide, dL_fairest_15, by decide, dL_fairest_16⟩, hq3⟩
  · obtain ⟨r, I9, R9, rfl, rfl, hq2⟩ := h1 v w9 hq
    refine AH.i2l dL_fairest_8 (AH.last hs4 (by unfold vp_in; decide) dL_fairest_9 (AH.goto 17 dL_fairest_10 (by decide) (AH.iconst 0 dL_fairest_17 (by decide) (AH.iret dL_fairest_18 rfl (Nat.le_of_eq (Nat.zero_add _)) (Nat.le_of_eq (Nat.zero_add _)) ?_))))
    exact hq2
theorem dL_game_0 : decode cL_game 0 = .ok (.aload 4, 2) := by decide +kernel
theorem dL_game_2 : decode cL_game 2 = .ok (.iconst 0, 1) := by decide +kernel
theorem dL_game_3 : decode cL_game 3 = .ok (.aload_n 0, 1) := by decide +kernel
theorem dL_game_4 : decode cL_game 4 = .ok (.iload_n 1, 1) := by decide +kernel
theorem dL_game_5 : decode cL_game 5 = .ok (.iload_n 2, 1) := by decide +kernel
theorem dL_game_6 : decode cL_game 6 = .ok (.iload_n 3, 1) := by decide +kernel
theorem dL_game_7 : decode cL_game 7 = .ok (.invokevirtual 68, 3) := by decide +kernel
theorem dL_game_10 : decode cL_game 10 = .ok (.i2l, 1) := by decide +kernel
theorem dL_game_11 : decode cL_game 11 = .ok (.lastore, 1) := by decide +kernel
theorem dL_game_12 : decode cL_game 12 = .ok (.goto 11, 3) := by decide +kernel
theorem dL_game_15 : decode cL_game 15 = .ok (.astore 5, 2) := by decide +kernel
theorem dL_game_17 : decode cL_game 17 = .ok (.iconst 1, 1) := by decide +kernel
theorem dL_game_18 : decode cL_game 18 = .ok (.ireturn, 1) := by decide +kernel
theorem dL_game_19 : decode cL_game 19 = .ok (.astore 5, 2) := by decide +kernel
theorem dL_game_21 : decode cL_game 21 = .ok (.iconst 2, 1) := by decide +kernel
theorem dL_game_22 : decode cL_game 22 = .ok (.ireturn, 1) := by decide +kernel
theorem dL_game_23 : decode cL_game 23 = .ok (.iconst 0, 1) := by decide +kernel
theorem dL_game_24 : decode cL_game 24 = .ok (.ireturn, 1) := by decide +kernel
abbrev nL_game : am_M := (yL_game, cL_game, 6, some .int, am_mc pX10_game, am_ms pX10_game)
theorem kH_game {G : am_G} (hG : k_ok G) : am_cH G RL 187 nL_game [(0, 12, 15, 18), (0, 12, 19, 13)] 5 := ⟨k_c hG 116 (by decide +kernel) (by decide +kernel), k_c hG 1417 (by decide +kernel) (by decide +kernel), by decide +kernel, by decide, k_c hG 1415 (by decide +kernel) (by decide +kernel), k_c hG 1416 (by decide +kernel) (by decide +kernel)⟩
set_option maxRecDepth 100000 in
set_option maxHeartbeats 4000000 in
theorem h_game {G : am_G} (hK : k_OK G) (hN : ∀ s H, am_O G s H → va_Nc nmI nmS s) {d d' : Nat} (hdd : d' + 1 ≤ d) {sh : List (Nat ⊕ (Nat × Nat))} {I : Nat → Nat → Int32} {R : Nat → Nat → Option Nat} {L : Nat → Nat → Int64} (hs0 : sh[0]? = some (.inl 10)) (hs4 : sh[144]? = some (.inr (4, 1))) {a1 a2 a3 : Int32} {Rt Rt' : Option Value → am_w → Prop} {Th Th' : String → am_w → Prop} (hM : AM G pX10_game d' [.ref 0, .int a1, .int a2, .int a3] (sh, I, R, L, 1) Rt' Th')
    (h1 : ∀ v w', Rt' v w' → ∃ (r : Int32) (I' : Nat → Nat → Int32) (R' : Nat → Nat → Option Nat), v = some (.int r) ∧ w' = (sh, I', R', L, 1) ∧ Rt (some (.int 0)) (sh, I', R', am_uL L 144 0 r.toInt64, 1)) (h2 : ∀ E w', Th' E w' → w'.2.2.2.2 ≠ 0 ∧ ((E = nmS ∧ Rt (some (.int 1)) w') ∨ (E = nmI ∧ Rt (some (.int 2)) w'))) : AMH G nL_game [(0, 12, 15, 18), (0, 12, 19, 13)] d [.ref 0, .int a1, .int a2, .int a3, .ref 144] (sh, I, R, L, 1) Rt Th := by
  have hG := hK.1
  refine AMH.of (n := 1) (by decide +kernel) (Nat.le_of_ble_eq_true rfl) ?_
  show AH G nL_game [(0, 12, 15, 18), (0, 12, 19, 13)] d Rt Th 0 [some (.ref 0), some (.int a1), some (.int a2), some (.int a3), some (.ref 144), none] [] (sh, I, R, L, 1) 0 0
  refine AH.aload dL_game_0 rfl ?_
  refine AH.iconst 0 dL_game_2 (by decide) ?_
  refine AH.aload_n dL_game_3 rfl ?_
  refine AH.iload_n dL_game_4 rfl ?_
  refine AH.iload_n dL_game_5 rfl ?_
  refine AH.iload_n dL_game_6 rfl ?_
  refine AH.callV (M' := pX10_game) (b := 0) (As := [.int a1, .int a2, .int a3]) hG.2.2 (am_cV.re (vL_68 hG) rfl rfl rfl rfl) hs0 hM (by omega) dL_game_7 rfl rfl (Nat.le_of_ble_eq_true rfl) (fun v w9 hq => by obtain ⟨r, I9, R9, -, rfl, -⟩ := h1 v w9 hq; exact Nat.one_ne_zero) (Nat.le_of_eq (Nat.zero_add _)) (Nat.le_of_eq (Nat.zero_add _)) rfl (fun E w9 hq => ?_) (fun v w9 hq => ?_)
  · obtain ⟨hg, hq2⟩ := h2 E w9 hq
    refine ⟨hg, ?_⟩
    rcases hq2 with ⟨rfl, hq3⟩ | ⟨rfl, hq3⟩
    · exact ⟨15, 1, Or.inl ⟨0, 12, 18, _, nmS, rfl, by decide, by decide, by decide, k_c hG 1185 (by decide +kernel) (by decide +kernel), fun s H hO => (hK.2.1 s H hO).2.2.2.1⟩, Or.inr ⟨5, 1, dL_game_15, by decide, dL_game_17, by decide, dL_game_18⟩, hq3⟩
    · exact ⟨19, 2, Or.inr ⟨(0, 12, 15, 18), 0, 12, 13, [], nmI, nmS, rfl, by decide, k_c hG 1185 (by decide +kernel) (by decide +kernel), hN, by decide, by decide, by decide, k_c hG 853 (by decide +kernel) (by decide +kernel), fun s H hO => (hK.2.1 s H hO).2.2.1⟩, Or.inr ⟨5, 2, dL_game_19, by decide, dL_game_21, by decide, dL_game_22⟩, hq3⟩
  · obtain ⟨r, I9, R9, rfl, rfl, hq2⟩ := h1 v w9 hq
    refine AH.i2l dL_game_10 (AH.last hs4 (by unfold vp_in; decide) dL_game_11 (AH.goto 23 dL_game_12 (by decide) (AH.iconst 0 dL_game_23 (by decide) (AH.iret dL_game_24 rfl (Nat.le_of_eq (Nat.zero_add _)) (Nat.le_of_eq (Nat.zero_add _)) ?_))))
    exact hq2
theorem dL_season_0 : decode cL_season 0 = .ok (.aload 4, 2) := by decide +kernel
theorem dL_season_2 : decode cL_season 2 = .ok (.iconst 0, 1) := by decide +kernel
theorem dL_season_3 : decode cL_season 3 = .ok (.aload_n 0, 1) := by decide +kernel
theorem dL_season_4 : decode cL_season 4 = .ok (.iload_n 1, 1) := by decide +kernel
theorem dL_season_5 : decode cL_season 5 = .ok (.iload_n 2, 1) := by decide +kernel
theorem dL_season_6 : decode cL_season 6 = .ok (.iload_n 3, 1) := by decide +kernel
theorem dL_season_7 : decode cL_season 7 = .ok (.invokevirtual 71, 3) := by decide +kernel
theorem dL_season_10 : decode cL_season 10 = .ok (.i2l, 1) := by decide +kernel
theorem dL_season_11 : decode cL_season 11 = .ok (.lastore, 1) := by decide +kernel
theorem dL_season_12 : decode cL_season 12 = .ok (.goto 11, 3) := by decide +kernel
theorem dL_season_15 : decode cL_season 15 = .ok (.astore 5, 2) := by decide +kernel
theorem dL_season_17 : decode cL_season 17 = .ok (.iconst 1, 1) := by decide +kernel
theorem dL_season_18 : decode cL_season 18 = .ok (.ireturn, 1) := by decide +kernel
theorem dL_season_19 : decode cL_season 19 = .ok (.astore 5, 2) := by decide +kernel
theorem dL_season_21 : decode cL_season 21 = .ok (.iconst 2, 1) := by decide +kernel
theorem dL_season_22 : decode cL_season 22 = .ok (.ireturn, 1) := by decide +kernel
theorem dL_season_23 : decode cL_season 23 = .ok (.iconst 0, 1) := by decide +kernel
theorem dL_season_24 : decode cL_season 24 = .ok (.ireturn, 1) := by decide +kernel
abbrev nL_season : am_M := (yL_season, cL_season, 6, some .int, am_mc pX10_season, am_ms pX10_season)
theorem kH_season {G : am_G} (hG : k_ok G) : am_cH G RL 190 nL_season [(0, 12, 15, 18), (0, 12, 19, 13)] 5 := ⟨k_c hG 116 (by decide +kernel) (by decide +kernel), k_c hG 1433 (by decide +kernel) (by decide +kernel), by decide +kernel, by decide, k_c hG 1431 (by decide +kernel) (by decide +kernel), k_c hG 1432 (by decide +kernel) (by decide +kernel)⟩
set_option maxRecDepth 100000 in
set_option maxHeartbeats 4000000 in
theorem h_season {G : am_G} (hK : k_OK G) (hN : ∀ s H, am_O G s H → va_Nc nmI nmS s) {d d' : Nat} (hdd : d' + 1 ≤ d) {sh : List (Nat ⊕ (Nat × Nat))} {I : Nat → Nat → Int32} {R : Nat → Nat → Option Nat} {L : Nat → Nat → Int64} (hs0 : sh[0]? = some (.inl 10)) (hs4 : sh[144]? = some (.inr (4, 1))) {a1 a2 a3 : Int32} {Rt Rt' : Option Value → am_w → Prop} {Th Th' : String → am_w → Prop} (hM : AM G pX10_season d' [.ref 0, .int a1, .int a2, .int a3] (sh, I, R, L, 1) Rt' Th')
    (h1 : ∀ v w', Rt' v w' → ∃ (r : Int32) (I' : Nat → Nat → Int32) (R' : Nat → Nat → Option Nat), v = some (.int r) ∧ w' = (sh, I', R', L, 1) ∧ Rt (some (.int 0)) (sh, I', R', am_uL L 144 0 r.toInt64, 1)) (h2 : ∀ E w', Th' E w' → w'.2.2.2.2 ≠ 0 ∧ ((E = nmS ∧ Rt (some (.int 1)) w') ∨ (E = nmI ∧ Rt (some (.int 2)) w'))) : AMH G nL_season [(0, 12, 15, 18), (0, 12, 19, 13)] d [.ref 0, .int a1, .int a2, .int a3, .ref 144] (sh, I, R, L, 1) Rt Th := by
  have hG := hK.1
  refine AMH.of (n := 1) (by decide +kernel) (Nat.le_of_ble_eq_true rfl) ?_
  show AH G nL_season [(0, 12, 15, 18), (0, 12, 19, 13)] d Rt Th 0 [some (.ref 0), some (.int a1), some (.int a2), some (.int a3), some (.ref 144), none] [] (sh, I, R, L, 1) 0 0
  refine AH.aload dL_season_0 rfl ?_
  refine AH.iconst 0 dL_season_2 (by decide) ?_
  refine AH.aload_n dL_season_3 rfl ?_
  refine AH.iload_n dL_season_4 rfl ?_
  refine AH.iload_n dL_season_5 rfl ?_
  refine AH.iload_n dL_season_6 rfl ?_
  refine AH.callV (M' := pX10_season) (b := 0) (As := [.int a1, .int a2, .int a3]) hG.2.2 (am_cV.re (vL_71 hG) rfl rfl rfl rfl) hs0 hM (by omega) dL_season_7 rfl rfl (Nat.le_of_ble_eq_true rfl) (fun v w9 hq => by obtain ⟨r, I9, R9, -, rfl, -⟩ := h1 v w9 hq; exact Nat.one_ne_zero) (Nat.le_of_eq (Nat.zero_add _)) (Nat.le_of_eq (Nat.zero_add _)) rfl (fun E w9 hq => ?_) (fun v w9 hq => ?_)
  · obtain ⟨hg, hq2⟩ := h2 E w9 hq
    refine ⟨hg, ?_⟩
    rcases hq2 with ⟨rfl, hq3⟩ | ⟨rfl, hq3⟩
    · exact ⟨15, 1, Or.inl ⟨0, 12, 18, _, nmS, rfl, by decide, by decide, by decide, k_c hG 1185 (by decide +kernel) (by decide +kernel), fun s H hO => (hK.2.1 s H hO).2.2.2.1⟩, Or.inr ⟨5, 1, dL_season_15, by decide, dL_season_17, by decide, dL_season_18⟩, hq3⟩
    · exact ⟨19, 2, Or.inr ⟨(0, 12, 15, 18), 0, 12, 13, [], nmI, nmS, rfl, by decide, k_c hG 1185 (by decide +kernel) (by decide +kernel), hN, by decide, by decide, by decide, k_c hG 853 (by decide +kernel) (by decide +kernel), fun s H hO => (hK.2.1 s H hO).2.2.1⟩, Or.inr ⟨5, 2, dL_season_19, by decide, dL_season_21, by decide, dL_season_22⟩, hq3⟩
  · obtain ⟨r, I9, R9, rfl, rfl, hq2⟩ := h1 v w9 hq
    refine AH.i2l dL_season_10 (AH.last hs4 (by unfold vp_in; decide) dL_season_11 (AH.goto 23 dL_season_12 (by decide) (AH.iconst 0 dL_season_23 (by decide) (AH.iret dL_season_24 rfl (Nat.le_of_eq (Nat.zero_add _)) (Nat.le_of_eq (Nat.zero_add _)) ?_))))
    exact hq2
