/-! TEXT CONSTANTS: rules -/
section
variable {G : am_G} {M : am_M} {d : Nat} {Rt : Option Value → am_w → Prop} {Th : String → am_w → Prop} {pc : Nat} {ls : List (Option Value)} {st : List Value} {w : am_w} {uc us : Nat}
/-- the text j lies outside, with these bytes -/
def k_tx (G : am_G) (j : Nat) (bs : List Int32) : Prop := (∀ b ∈ bs, 0 ≤ b ∧ b < 128) ∧ bs.length < 2 ^ 30 ∧ ∀ s H, am_O G s H → va_O "java/lang/String" (am_sa G j) (am_A G) s H ∧ va_OF "java/lang/String" "coder" "B" (.int 0) (am_sa G j) (am_A G) s H ∧ va_OF "java/lang/String" "value" "[B" (.ref (am_sa G (1000000 + j))) (am_sa G j) (am_A G) s H ∧ va_T .byte (am_sa G (1000000 + j)) bs.length (fun i => .int (bs.getD i 0)) (am_A G) s H
theorem k_txs : ∀ q ∈ k_str, (∀ b ∈ q.2.2.2.2, 0 ≤ b ∧ b < 128) ∧ q.2.2.2.2.length < 2 ^ 30 := by decide +kernel
theorem k_txi (hK : k_OK G) {q : String × Nat × String × Nat × List Int32} (hq : q ∈ k_str) : k_tx G q.2.2.2.1 q.2.2.2.2 := ⟨(k_txs q hq).1, (k_txs q hq).2, fun s H h => ((hK.2.1 s H h).2.1 q hq).2⟩
theorem am_adx (G : am_G) (j : Nat) : am_ad G (1000000 + j) = am_sa G j := by unfold am_ad; rw [if_neg (by omega), Nat.add_sub_cancel_left]
theorem AW.ldcS {j : Nat} (hK : k_OK G) (q : String × Nat × String × Nat × List Int32) (hq : q ∈ k_str) (h1 : q.1 = (am_y M).cls) (hj : q.2.2.2.1 = j) (hd : decode (am_b M) pc = .ok (.ldc q.2.1, 2))
    (kk : AW G M d Rt Th (pc + 2) ls (.ref (1000000 + j) :: st) w uc us) : AW G M d Rt Th pc ls st w uc us := by
  intro p e s m args below meth c hC H locs la hH hL
  have hR := ((hK.2.1 s s.heap hC.2.2.2.2.2.2.2.2.2.2.1).2.1 q hq).1
  rw [h1, hj] at hR
  have := kk p e s m args below meth c hC H locs la hH hL
  rw [show (Value.ref (1000000 + j) :: st).map (am_v G) = .ref (am_sa G j) :: st.map (am_v G) by rw [← am_adx G j]; rfl] at this
  exact va_ldcS hC.1 hC.2.1 hC.2.2.2.1 hR hd this
theorem AW.ldcSW {j : Nat} (hK : k_OK G) (q : String × Nat × String × Nat × List Int32) (hq : q ∈ k_str) (h1 : q.1 = (am_y M).cls) (hj : q.2.2.2.1 = j) (hd : decode (am_b M) pc = .ok (.ldc_w q.2.1, 3))
    (kk : AW G M d Rt Th (pc + 3) ls (.ref (1000000 + j) :: st) w uc us) : AW G M d Rt Th pc ls st w uc us := by
  intro p e s m args below meth c hC H locs la hH hL
  have hR := ((hK.2.1 s s.heap hC.2.2.2.2.2.2.2.2.2.2.1).2.1 q hq).1
  rw [h1, hj] at hR
  have key := kk p e s m args below meth c hC H locs la hH hL
  rw [show (Value.ref (1000000 + j) :: st).map (am_v G) = .ref (am_sa G j) :: st.map (am_v G) by rw [← am_adx G j]; rfl] at key
  intro T hT X
  obtain ⟨t, a1, b1⟩ := key T hT X
  exact ⟨t, X.ldcStringW hC.1 hC.2.2.2.1 (text := q.2.2.1) (a := am_sa G j) hR.1 hR.2 (g := F0 m pc la (st.map (am_v G))) rfl (by rw [hC.2.1]; exact hd) t a1, b1⟩
theorem AW.xgV {j : Nat} {bs : List Int32} (hG : k_ok G) (ht : k_tx G j bs) (ho : (am_y M).cls = RJ0) (hd : decode (am_b M) pc = .ok (.getfield 9, 3))
    (kk : AW G M d Rt Th (pc + 3) ls (.ref (1000000 + (1000000 + j)) :: st) w uc us) : AW G M d Rt Th pc ls (.ref (1000000 + j) :: st) w uc us := by
  intro p e s m args below meth c hC H locs la hH hL
  have h := ht.2.2 s s.heap hC.2.2.2.2.2.2.2.2.2.2.1
  have hl : (Cond.fieldLink (am_y M).cls 9 "java/lang/String" "value" "[B").before args s = true := by rw [ho]; exact hC.2.2.2.2.1 _ (k_c hG 2127 (by decide +kernel) (by decide +kernel))
  have key := kk p e s m args below meth c hC H locs la hH hL
  rw [show (Value.ref (1000000 + (1000000 + j)) :: st).map (am_v G) = .ref (am_sa G (1000000 + j)) :: st.map (am_v G) by rw [← am_adx G]; rfl] at key
  rw [show (Value.ref (1000000 + j) :: st).map (am_v G) = .ref (am_sa G j) :: st.map (am_v G) by rw [← am_adx G]; rfl]
  exact vk_getf hC.1 hC.2.1 h.2.2.1 hH.2.1 hC.2.2.2.1 hl (fun _ h => h) hd key
theorem AW.xgC {j : Nat} {bs : List Int32} (hG : k_ok G) (ht : k_tx G j bs) (ho : (am_y M).cls = RJ0) (hd : decode (am_b M) pc = .ok (.getfield 15, 3))
    (kk : AW G M d Rt Th (pc + 3) ls (.int 0 :: st) w uc us) : AW G M d Rt Th pc ls (.ref (1000000 + j) :: st) w uc us := by
  intro p e s m args below meth c hC H locs la hH hL
  have h := ht.2.2 s s.heap hC.2.2.2.2.2.2.2.2.2.2.1
  have hl : (Cond.fieldLink (am_y M).cls 15 "java/lang/String" "coder" "B").before args s = true := by rw [ho]; exact hC.2.2.2.2.1 _ (k_c hG 2126 (by decide +kernel) (by decide +kernel))
  have key := kk p e s m args below meth c hC H locs la hH hL
  rw [show (Value.ref (1000000 + j) :: st).map (am_v G) = .ref (am_sa G j) :: st.map (am_v G) by rw [← am_adx G]; rfl]
  exact vk_getf hC.1 hC.2.1 h.2.1 hH.2.1 hC.2.2.2.1 hl (fun _ h => h) hd key
theorem AW.xlen {j : Nat} {bs : List Int32} (ht : k_tx G j bs) (hd : decode (am_b M) pc = .ok (.arraylength, 1))
    (kk : AW G M d Rt Th (pc + 1) ls (.int (nI bs.length) :: st) w uc us) : AW G M d Rt Th pc ls (.ref (1000000 + (1000000 + j)) :: st) w uc us := by
  intro p e s m args below meth c hC H locs la hH hL
  have h := ht.2.2 s s.heap hC.2.2.2.2.2.2.2.2.2.2.1
  have key := kk p e s m args below meth c hC H locs la hH hL
  rw [show (Value.ref (1000000 + (1000000 + j)) :: st).map (am_v G) = .ref (am_sa G (1000000 + j)) :: st.map (am_v G) by rw [← am_adx G]; rfl]
  exact va_tlen hC.1 hC.2.1 h.2.2.2 hH.2.1 rfl hd key
theorem AW.xbl {j : Nat} {bs : List Int32} {i : Int32} (ht : k_tx G j bs) (hi : vp_in i bs.length) (hd : decode (am_b M) pc = .ok (.baload, 1))
    (kk : AW G M d Rt Th (pc + 1) ls (.int (bs.getD i.toNatClampNeg 0) :: st) w uc us) : AW G M d Rt Th pc ls (.int i :: .ref (1000000 + (1000000 + j)) :: st) w uc us := by
  intro p e s m args below meth c hC H locs la hH hL
  have h := ht.2.2 s s.heap hC.2.2.2.2.2.2.2.2.2.2.1
  have key := kk p e s m args below meth c hC H locs la hH hL
  rw [show (Value.int i :: Value.ref (1000000 + (1000000 + j)) :: st).map (am_v G) = .int i :: .ref (am_sa G (1000000 + j)) :: st.map (am_v G) by rw [← am_adx G]; rfl]
  exact va_tb hC.1 hC.2.1 h.2.2.2 hH.2.1 hi rfl hd key
theorem AW.gCS (hK : k_OK G) (ho : (am_y M).cls = RJ0) (hd : decode (am_b M) pc = .ok (.getstatic 38, 3))
    (kk : AW G M d Rt Th (pc + 3) ls (.int 1 :: st) w uc us) : AW G M d Rt Th pc ls st w uc us := by
  intro p e s m args below meth c hC H locs la hH hL
  have h := (hK.2.1 s s.heap hC.2.2.2.2.2.2.2.2.2.2.1).2.2.2.2.2.2.1
  have hl : (Cond.fieldLink (am_y M).cls 38 "java/lang/String" "COMPACT_STRINGS" "Z").before args s = true := by rw [ho]; exact hC.2.2.2.2.1 _ (k_c hK.1 960 (by decide +kernel) (by decide +kernel))
  exact va_gets hC.1 hC.2.1 h hH.2.1 hC.2.2.2.1 hl (fun _ h => h) hd (kk p e s m args below meth c hC H locs la hH hL)
theorem AW.gSI (hK : k_OK G) (ho : (am_y M).cls = RJ0) (hd : decode (am_b M) pc = .ok (.getstatic 1053, 3))
    (k0 : AW G M d Rt Th (pc + 3) ls (.null :: st) w uc us) (kk : AW G M d Rt Th (pc + 3) ls (.ref (1000000 + 2000000) :: st) w uc us) : AW G M d Rt Th pc ls st w uc us := by
  intro p e s m args below meth c hC H locs la hH hL
  have h := (hK.2.1 s s.heap hC.2.2.2.2.2.2.2.2.2.2.1).2.2.2.2.2.2.2
  have hl : (Cond.fieldLink (am_y M).cls 1053 "jdk/internal/util/Preconditions" "SIOOBE_FORMATTER" "Ljava/util/function/BiFunction;").before args s = true := by rw [ho]; exact hC.2.2.2.2.1 _ (k_c hK.1 999 (by decide +kernel) (by decide +kernel))
  rcases h with h | h
  · exact va_gets hC.1 hC.2.1 h hH.2.1 hC.2.2.2.1 hl (fun _ h => h) hd (k0 p e s m args below meth c hC H locs la hH hL)
  · have key := kk p e s m args below meth c hC H locs la hH hL
    rw [show (Value.ref (1000000 + 2000000) :: st).map (am_v G) = .ref (am_sa G 2000000) :: st.map (am_v G) by rw [← am_adx G]; rfl] at key
    exact va_gets hC.1 hC.2.1 h hH.2.1 hC.2.2.2.1 hl (fun _ h => h) hd key
/-- a call on a text -/
def am_cX (G : am_G) (own : String) (idx : Nat) (M' : am_M) (n : Nat) : Prop := am_cB G M' n ∧ Cond.methodLink own idx (am_y M') ∈ am_Ts G ∧ Cond.instanceMethod (am_y M') ∈ am_Ts G ∧ Cond.selects (am_y M').cls (am_y M') (am_y M') ∈ am_Ts G ∧ (am_y M').cls = "java/lang/String"
theorem AW.callX {M' : am_M} {d' idx n j : Nat} {bs : List Int32} {As st0 : List Value} {Rt' : Option Value → am_w → Prop} {Th' : String → am_w → Prop} (hG : am_ok G) (hc : am_cX G (am_y M).cls idx M' n) (ht : k_tx G j bs) (hM : AM G M' d' (.ref (1000000 + j) :: As) w Rt' Th') (hdd : d' + 1 ≤ d)
    (hd : decode (am_b M) pc = .ok (.invokevirtual idx, 3)) (hst : st0 = As.reverse ++ .ref (1000000 + j) :: st) (hn : As.length = n) (h8 : (st.map fun v => v.category).sum ≤ 8) (hg : ∀ v w', Rt' v w' → w'.2.2.2.2 = 0 → w.2.2.2.2 = 0 ∧ w'.1.length = w.1.length + am_mc M') (hu : uc + am_mc M' ≤ am_mc M) (hv : us + am_ms M' ≤ am_ms M)
    (hx : ∀ E w', Th' E w' → Th E w') (kk : ∀ v w', Rt' v w' → AW G M d Rt Th (pc + 3) ls (v.toList ++ st) w' (uc + am_mc M') (us + am_ms M')) : AW G M d Rt Th pc ls st0 w uc us := by
  intro p e s m args below meth c hC H locs la hH hL
  refine am_sized fun hz => ?_
  obtain ⟨hB, hl, hi, hse, hcl⟩ := hc
  have h := ht.2.2 s s.heap hC.2.2.2.2.2.2.2.2.2.2.1
  obtain ⟨cell, g1, g2, g3, -⟩ := h.1.kept hH.2.1.2.1
  have hrecv : ∃ cell : Cell, H[am_ad G (1000000 + j)]? = some cell ∧ cell.vm.isStatics = false ∧ s.vm.findClass (am_y M').cls = some cell.cls := ⟨cell, by rw [am_adx]; exact g1, g2, by rw [hcl]; exact g3⟩
  have hcw : CallW (am_rm M d) s args (am_y M).cls (am_y M').cls idx (am_y M') (am_b M') (am_n M') (am_t M') (am_words G M') (am_rm M' d') (am_mc M') (am_ms M') n := ⟨am_CB hG hC hB hl hdd, hC.2.2.2.2.1 _ hi, hC.2.2.2.2.1 _ hse⟩
  refine am_back (M' := M') (a := (Value.ref (am_ad G (1000000 + j)) :: As.map (am_v G)).toArray) hC hH hL (vx_runV (g := F0 m pc la (st0.map (am_v G))) (As := As.map (am_v G)) (rest := st.map (am_v G)) (b := am_ad G (1000000 + j)) (Ts := am_Ts G) (C := (am_y M').cls) ⟨hC.1, hC.2.1, hC.2.2.1, hC.2.2.2.1, hC.2.2.2.2.1⟩ hM hcw ⟨am_Pc_blind hG _, hrecv, fun U hU hW => am_Pc_at hG (vs := .ref (1000000 + j) :: As) hC hH hz hU hW⟩ rfl (by rw [List.length_map]; exact hn) hL.1 ?_ (lv_room (by rw [am_catS]; exact h8)) hd ⟨hu, hv⟩) hg hu hv hx kk
  show st0.map (am_v G) = (As.map (am_v G)).reverse ++ Value.ref (am_ad G (1000000 + j)) :: st.map (am_v G)
  rw [hst, List.map_append, List.map_reverse]
  rfl
end
abbrev q_0 : String × Nat × String × Nat × List Int32 := (RX10, 88, "the tape has not so many bytes", 0, [116, 104, 101, 32, 116, 97, 112, 101, 32, 104, 97, 115, 32, 110, 111, 116, 32, 115, 111, 32, 109, 97, 110, 121, 32, 98, 121, 116, 101, 115])
theorem k_s_0 : q_0 ∈ k_str := List.mem_of_getElem? (i := 0) rfl
abbrev q_1 : String × Nat × String × Nat × List Int32 := (RX6, 79, ";()+-*/<=", 1, [59, 40, 41, 43, 45, 42, 47, 60, 61])
theorem k_s_1 : q_1 ∈ k_str := List.mem_of_getElem? (i := 1) rfl
abbrev q_2 : String × Nat × String × Nat × List Int32 := (RX6, 124, "plain", 2, [112, 108, 97, 105, 110])
theorem k_s_2 : q_2 ∈ k_str := List.mem_of_getElem? (i := 2) rfl
abbrev q_3 : String × Nat × String × Nat × List Int32 := (RX6, 130, "child", 3, [99, 104, 105, 108, 100])
theorem k_s_3 : q_3 ∈ k_str := List.mem_of_getElem? (i := 3) rfl
abbrev q_4 : String × Nat × String × Nat × List Int32 := (RX6, 132, "deaf", 4, [100, 101, 97, 102])
theorem k_s_4 : q_4 ∈ k_str := List.mem_of_getElem? (i := 4) rfl
abbrev q_5 : String × Nat × String × Nat × List Int32 := (RX6, 134, "twin", 5, [116, 119, 105, 110])
theorem k_s_5 : q_5 ∈ k_str := List.mem_of_getElem? (i := 5) rfl
abbrev q_6 : String × Nat × String × Nat × List Int32 := (RX6, 136, "loaf", 6, [108, 111, 97, 102])
theorem k_s_6 : q_6 ∈ k_str := List.mem_of_getElem? (i := 6) rfl
abbrev q_7 : String × Nat × String × Nat × List Int32 := (RX6, 138, "met", 7, [109, 101, 116])
theorem k_s_7 : q_7 ∈ k_str := List.mem_of_getElem? (i := 7) rfl
abbrev q_8 : String × Nat × String × Nat × List Int32 := (RX6, 140, "forget", 8, [102, 111, 114, 103, 101, 116])
theorem k_s_8 : q_8 ∈ k_str := List.mem_of_getElem? (i := 8) rfl
abbrev q_9 : String × Nat × String × Nat × List Int32 := (RX6, 142, "noon", 9, [110, 111, 111, 110])
theorem k_s_9 : q_9 ∈ k_str := List.mem_of_getElem? (i := 9) rfl
abbrev q_10 : String × Nat × String × Nat × List Int32 := (RX6, 144, "cuts", 10, [99, 117, 116, 115])
theorem k_s_10 : q_10 ∈ k_str := List.mem_of_getElem? (i := 10) rfl
abbrev q_11 : String × Nat × String × Nat × List Int32 := (RX6, 239, "not", 11, [110, 111, 116])
theorem k_s_11 : q_11 ∈ k_str := List.mem_of_getElem? (i := 11) rfl
abbrev q_12 : String × Nat × String × Nat × List Int32 := (RX6, 260, "slice", 12, [115, 108, 105, 99, 101])
theorem k_s_12 : q_12 ∈ k_str := List.mem_of_getElem? (i := 12) rfl
abbrev q_13 : String × Nat × String × Nat × List Int32 := (RX6, 262, "slices", 13, [115, 108, 105, 99, 101, 115])
theorem k_s_13 : q_13 ∈ k_str := List.mem_of_getElem? (i := 13) rfl
abbrev q_14 : String × Nat × String × Nat × List Int32 := (RX6, 264, "size", 14, [115, 105, 122, 101])
theorem k_s_14 : q_14 ∈ k_str := List.mem_of_getElem? (i := 14) rfl
abbrev q_15 : String × Nat × String × Nat × List Int32 := (RX6, 265, "kind", 15, [107, 105, 110, 100])
theorem k_s_15 : q_15 ∈ k_str := List.mem_of_getElem? (i := 15) rfl
abbrev q_16 : String × Nat × String × Nat × List Int32 := (RX6, 267, "hunger", 16, [104, 117, 110, 103, 101, 114])
theorem k_s_16 : q_16 ∈ k_str := List.mem_of_getElem? (i := 16) rfl
abbrev q_17 : String × Nat × String × Nat × List Int32 := (RX6, 269, "thanked", 17, [116, 104, 97, 110, 107, 101, 100])
theorem k_s_17 : q_17 ∈ k_str := List.mem_of_getElem? (i := 17) rfl
abbrev q_18 : String × Nat × String × Nat × List Int32 := (RX6, 237, "and", 18, [97, 110, 100])
theorem k_s_18 : q_18 ∈ k_str := List.mem_of_getElem? (i := 18) rfl
abbrev q_19 : String × Nat × String × Nat × List Int32 := (RX6, 227, "or", 19, [111, 114])
theorem k_s_19 : q_19 ∈ k_str := List.mem_of_getElem? (i := 19) rfl
abbrev q_20 : String × Nat × String × Nat × List Int32 := (RX10, 165, "no such count", 20, [110, 111, 32, 115, 117, 99, 104, 32, 99, 111, 117, 110, 116])
theorem k_s_20 : q_20 ∈ k_str := List.mem_of_getElem? (i := 20) rfl
abbrev q_21 : String × Nat × String × Nat × List Int32 := (RX10, 408, "no such person", 21, [110, 111, 32, 115, 117, 99, 104, 32, 112, 101, 114, 115, 111, 110])
theorem k_s_21 : q_21 ∈ k_str := List.mem_of_getElem? (i := 21) rfl
abbrev q_22 : String × Nat × String × Nat × List Int32 := (RX10, 189, "nothing such of a person", 22, [110, 111, 116, 104, 105, 110, 103, 32, 115, 117, 99, 104, 32, 111, 102, 32, 97, 32, 112, 101, 114, 115, 111, 110])
theorem k_s_22 : q_22 ∈ k_str := List.mem_of_getElem? (i := 22) rfl
abbrev q_23 : String × Nat × String × Nat × List Int32 := (RX10, 410, "no such loaf", 23, [110, 111, 32, 115, 117, 99, 104, 32, 108, 111, 97, 102])
theorem k_s_23 : q_23 ∈ k_str := List.mem_of_getElem? (i := 23) rfl
abbrev q_24 : String × Nat × String × Nat × List Int32 := (RX10, 218, "nothing such of a loaf", 24, [110, 111, 116, 104, 105, 110, 103, 32, 115, 117, 99, 104, 32, 111, 102, 32, 97, 32, 108, 111, 97, 102])
theorem k_s_24 : q_24 ∈ k_str := List.mem_of_getElem? (i := 24) rfl
abbrev q_25 : String × Nat × String × Nat × List Int32 := (RX10, 220, "both are one", 25, [98, 111, 116, 104, 32, 97, 114, 101, 32, 111, 110, 101])
theorem k_s_25 : q_25 ∈ k_str := List.mem_of_getElem? (i := 25) rfl
abbrev q_26 : String × Nat × String × Nat × List Int32 := (RX10, 412, "no such eater", 26, [110, 111, 32, 115, 117, 99, 104, 32, 101, 97, 116, 101, 114])
theorem k_s_26 : q_26 ∈ k_str := List.mem_of_getElem? (i := 26) rfl
abbrev q_27 : String × Nat × String × Nat × List Int32 := (RX10, 288, "no row is kept", 27, [110, 111, 32, 114, 111, 119, 32, 105, 115, 32, 107, 101, 112, 116])
theorem k_s_27 : q_27 ∈ k_str := List.mem_of_getElem? (i := 27) rfl
abbrev q_28 : String × Nat × String × Nat × List Int32 := (RX10, 344, "nothing such of couples", 28, [110, 111, 116, 104, 105, 110, 103, 32, 115, 117, 99, 104, 32, 111, 102, 32, 99, 111, 117, 112, 108, 101, 115])
theorem k_s_28 : q_28 ∈ k_str := List.mem_of_getElem? (i := 28) rfl
abbrev q_29 : String × Nat × String × Nat × List Int32 := (RX10, 233, "no such answer", 29, [110, 111, 32, 115, 117, 99, 104, 32, 97, 110, 115, 119, 101, 114])
theorem k_s_29 : q_29 ∈ k_str := List.mem_of_getElem? (i := 29) rfl
abbrev q_30 : String × Nat × String × Nat × List Int32 := (RX10, 368, "nothing such of a game", 30, [110, 111, 116, 104, 105, 110, 103, 32, 115, 117, 99, 104, 32, 111, 102, 32, 97, 32, 103, 97, 109, 101])
theorem k_s_30 : q_30 ∈ k_str := List.mem_of_getElem? (i := 30) rfl
abbrev q_31 : String × Nat × String × Nat × List Int32 := (RX10, 377, "nothing such of a season", 31, [110, 111, 116, 104, 105, 110, 103, 32, 115, 117, 99, 104, 32, 111, 102, 32, 97, 32, 115, 101, 97, 115, 111, 110])
theorem k_s_31 : q_31 ∈ k_str := List.mem_of_getElem? (i := 31) rfl
abbrev q_32 : String × Nat × String × Nat × List Int32 := (RX10, 379, "no such number of days", 32, [110, 111, 32, 115, 117, 99, 104, 32, 110, 117, 109, 98, 101, 114, 32, 111, 102, 32, 100, 97, 121, 115])
theorem k_s_32 : q_32 ∈ k_str := List.mem_of_getElem? (i := 32) rfl
abbrev q_33 : String × Nat × String × Nat × List Int32 := (RX11, 11, "plain", 33, [112, 108, 97, 105, 110])
theorem k_s_33 : q_33 ∈ k_str := List.mem_of_getElem? (i := 33) rfl
abbrev q_34 : String × Nat × String × Nat × List Int32 := (RX11, 13, "child", 34, [99, 104, 105, 108, 100])
theorem k_s_34 : q_34 ∈ k_str := List.mem_of_getElem? (i := 34) rfl
abbrev q_35 : String × Nat × String × Nat × List Int32 := (RX11, 15, "deaf", 35, [100, 101, 97, 102])
theorem k_s_35 : q_35 ∈ k_str := List.mem_of_getElem? (i := 35) rfl
abbrev q_36 : String × Nat × String × Nat × List Int32 := (RX11, 17, "twin", 36, [116, 119, 105, 110])
theorem k_s_36 : q_36 ∈ k_str := List.mem_of_getElem? (i := 36) rfl
abbrev q_37 : String × Nat × String × Nat × List Int32 := (RX11, 23, "slice", 37, [115, 108, 105, 99, 101])
theorem k_s_37 : q_37 ∈ k_str := List.mem_of_getElem? (i := 37) rfl
abbrev q_38 : String × Nat × String × Nat × List Int32 := (RX11, 25, "slices", 38, [115, 108, 105, 99, 101, 115])
theorem k_s_38 : q_38 ∈ k_str := List.mem_of_getElem? (i := 38) rfl
abbrev q_39 : String × Nat × String × Nat × List Int32 := (RX11, 27, "size", 39, [115, 105, 122, 101])
theorem k_s_39 : q_39 ∈ k_str := List.mem_of_getElem? (i := 39) rfl
abbrev q_40 : String × Nat × String × Nat × List Int32 := (RX11, 29, "kind", 40, [107, 105, 110, 100])
theorem k_s_40 : q_40 ∈ k_str := List.mem_of_getElem? (i := 40) rfl
abbrev q_41 : String × Nat × String × Nat × List Int32 := (RX11, 31, "hunger", 41, [104, 117, 110, 103, 101, 114])
theorem k_s_41 : q_41 ∈ k_str := List.mem_of_getElem? (i := 41) rfl
abbrev q_42 : String × Nat × String × Nat × List Int32 := (RX11, 33, "thanked", 42, [116, 104, 97, 110, 107, 101, 100])
theorem k_s_42 : q_42 ∈ k_str := List.mem_of_getElem? (i := 42) rfl
abbrev q_43 : String × Nat × String × Nat × List Int32 := (RX11, 288, "forget", 43, [102, 111, 114, 103, 101, 116])
theorem k_s_43 : q_43 ∈ k_str := List.mem_of_getElem? (i := 43) rfl
abbrev q_44 : String × Nat × String × Nat × List Int32 := (RX11, 290, "noon", 44, [110, 111, 111, 110])
theorem k_s_44 : q_44 ∈ k_str := List.mem_of_getElem? (i := 44) rfl
abbrev q_45 : String × Nat × String × Nat × List Int32 := (RX11, 292, "cuts", 45, [99, 117, 116, 115])
theorem k_s_45 : q_45 ∈ k_str := List.mem_of_getElem? (i := 45) rfl
abbrev q_46 : String × Nat × String × Nat × List Int32 := (RX11, 260, "not", 46, [110, 111, 116])
theorem k_s_46 : q_46 ∈ k_str := List.mem_of_getElem? (i := 46) rfl
abbrev q_47 : String × Nat × String × Nat × List Int32 := (RX11, 268, "and", 47, [97, 110, 100])
theorem k_s_47 : q_47 ∈ k_str := List.mem_of_getElem? (i := 47) rfl
abbrev q_48 : String × Nat × String × Nat × List Int32 := (RX11, 273, "or", 48, [111, 114])
theorem k_s_48 : q_48 ∈ k_str := List.mem_of_getElem? (i := 48) rfl
abbrev q_49 : String × Nat × String × Nat × List Int32 := (RX11, 297, "loaf", 49, [108, 111, 97, 102])
theorem k_s_49 : q_49 ∈ k_str := List.mem_of_getElem? (i := 49) rfl
abbrev q_50 : String × Nat × String × Nat × List Int32 := (RX11, 302, "met", 50, [109, 101, 116])
theorem k_s_50 : q_50 ∈ k_str := List.mem_of_getElem? (i := 50) rfl
abbrev mJ0_length_8abf5 : am_M := (yJ0_length_8abf5, cJ0_length_8abf5, 1, (some .int), 0, 0)
theorem kB_J0_length_8abf5 {G : am_G} (hG : k_ok G) : am_cB G mJ0_length_8abf5 0 := by
  obtain ⟨hc, ht, -⟩ := hG
  unfold am_cB
  rw [ht]
  exact ⟨(k_in 136 (by decide +kernel) (by decide +kernel)), (k_in 965 (by decide +kernel) (by decide +kernel)), by decide +kernel, by decide⟩
abbrev mJ0_charAt_5068e : am_M := (yJ0_charAt_5068e, cJ0_charAt_5068e, 2, (some .char), 0, 0)
theorem kB_J0_charAt_5068e {G : am_G} (hG : k_ok G) : am_cB G mJ0_charAt_5068e 1 := by
  obtain ⟨hc, ht, -⟩ := hG
  unfold am_cB
  rw [ht]
  exact ⟨(k_in 136 (by decide +kernel) (by decide +kernel)), (k_in 1047 (by decide +kernel) (by decide +kernel)), by decide +kernel, by decide⟩
abbrev mJ0_indexOf_0f7a4 : am_M := (yJ0_indexOf_0f7a4, cJ0_indexOf_0f7a4, 2, (some .int), 0, 0)
theorem kB_J0_indexOf_0f7a4 {G : am_G} (hG : k_ok G) : am_cB G mJ0_indexOf_0f7a4 1 := by
  obtain ⟨hc, ht, -⟩ := hG
  unfold am_cB
  rw [ht]
  exact ⟨(k_in 136 (by decide +kernel) (by decide +kernel)), (k_in 951 (by decide +kernel) (by decide +kernel)), by decide +kernel, by decide⟩
abbrev mJ0_indexOf_7cf53 : am_M := (yJ0_indexOf_7cf53, cJ0_indexOf_7cf53, 3, (some .int), 0, 0)
theorem kB_J0_indexOf_7cf53 {G : am_G} (hG : k_ok G) : am_cB G mJ0_indexOf_7cf53 2 := by
  obtain ⟨hc, ht, -⟩ := hG
  unfold am_cB
  rw [ht]
  exact ⟨(k_in 136 (by decide +kernel) (by decide +kernel)), (k_in 955 (by decide +kernel) (by decide +kernel)), by decide +kernel, by decide⟩
abbrev mJ0_coder_7d493 : am_M := (yJ0_coder_7d493, cJ0_coder_7d493, 1, (some .byte), 0, 0)
theorem kB_J0_coder_7d493 {G : am_G} (hG : k_ok G) : am_cB G mJ0_coder_7d493 0 := by
  obtain ⟨hc, ht, -⟩ := hG
  unfold am_cB
  rw [ht]
  exact ⟨(k_in 136 (by decide +kernel) (by decide +kernel)), (k_in 969 (by decide +kernel) (by decide +kernel)), by decide +kernel, by decide⟩
abbrev mJ0_isLatin1_aae02 : am_M := (yJ0_isLatin1_aae02, cJ0_isLatin1_aae02, 1, (some .boolean), 0, 0)
theorem kB_J0_isLatin1_aae02 {G : am_G} (hG : k_ok G) : am_cB G mJ0_isLatin1_aae02 0 := by
  obtain ⟨hc, ht, -⟩ := hG
  unfold am_cB
  rw [ht]
  exact ⟨(k_in 136 (by decide +kernel) (by decide +kernel)), (k_in 959 (by decide +kernel) (by decide +kernel)), by decide +kernel, by decide⟩
abbrev mJ0_checkIndex_df160 : am_M := (yJ0_checkIndex_df160, cJ0_checkIndex_df160, 2, none, 0, 0)
theorem kB_J0_checkIndex_df160 {G : am_G} (hG : k_ok G) : am_cB G mJ0_checkIndex_df160 2 := by
  obtain ⟨hc, ht, -⟩ := hG
  unfold am_cB
  rw [ht]
  exact ⟨(k_in 136 (by decide +kernel) (by decide +kernel)), (k_in 1053 (by decide +kernel) (by decide +kernel)), by decide +kernel, by decide⟩
abbrev mJ1_charAt_3b067 : am_M := (yJ1_charAt_3b067, cJ1_charAt_3b067, 2, (some .char), 0, 0)
theorem kB_J1_charAt_3b067 {G : am_G} (hG : k_ok G) : am_cB G mJ1_charAt_3b067 2 := by
  obtain ⟨hc, ht, -⟩ := hG
  unfold am_cB
  rw [ht]
  exact ⟨(k_in 137 (by decide +kernel) (by decide +kernel)), (k_in 1050 (by decide +kernel) (by decide +kernel)), by decide +kernel, by decide⟩
abbrev mJ1_canEncode_9a6ad : am_M := (yJ1_canEncode_9a6ad, cJ1_canEncode_9a6ad, 1, (some .boolean), 0, 0)
theorem kB_J1_canEncode_9a6ad {G : am_G} (hG : k_ok G) : am_cB G mJ1_canEncode_9a6ad 1 := by
  obtain ⟨hc, ht, -⟩ := hG
  unfold am_cB
  rw [ht]
  exact ⟨(k_in 137 (by decide +kernel) (by decide +kernel)), (k_in 975 (by decide +kernel) (by decide +kernel)), by decide +kernel, by decide⟩
abbrev mJ1_indexOf_4cfef : am_M := (yJ1_indexOf_4cfef, cJ1_indexOf_4cfef, 4, (some .int), 0, 0)
theorem kB_J1_indexOf_4cfef {G : am_G} (hG : k_ok G) : am_cB G mJ1_indexOf_4cfef 4 := by
  obtain ⟨hc, ht, -⟩ := hG
  unfold am_cB
  rw [ht]
  exact ⟨(k_in 137 (by decide +kernel) (by decide +kernel)), (k_in 972 (by decide +kernel) (by decide +kernel)), by decide +kernel, by decide⟩
abbrev mJ1_indexOfChar_4cfef : am_M := (yJ1_indexOfChar_4cfef, cJ1_indexOfChar_4cfef, 6, (some .int), 0, 0)
theorem kB_J1_indexOfChar_4cfef {G : am_G} (hG : k_ok G) : am_cB G mJ1_indexOfChar_4cfef 4 := by
  obtain ⟨hc, ht, -⟩ := hG
  unfold am_cB
  rw [ht]
  exact ⟨(k_in 137 (by decide +kernel) (by decide +kernel)), (k_in 980 (by decide +kernel) (by decide +kernel)), by decide +kernel, by decide⟩
abbrev mJ3_checkIndex_8e157 : am_M := (yJ3_checkIndex_8e157, cJ3_checkIndex_8e157, 3, (some .int), 0, 0)
theorem kB_J3_checkIndex_8e157 {G : am_G} (hG : k_ok G) : am_cB G mJ3_checkIndex_8e157 3 := by
  obtain ⟨hc, ht, -⟩ := hG
  unfold am_cB
  rw [ht]
  exact ⟨(k_in 139 (by decide +kernel) (by decide +kernel)), (k_in 1056 (by decide +kernel) (by decide +kernel)), by decide +kernel, by decide⟩
theorem vX6_81 {G : am_G} (hG : k_ok G) : am_cX G RX6 81 mJ0_indexOf_0f7a4 1 := by
  refine ⟨kB_J0_indexOf_0f7a4 hG, ?_⟩
  obtain ⟨hc, ht, -⟩ := hG
  rw [ht]
  exact ⟨(k_in 948 (by decide +kernel) (by decide +kernel)), (k_in 949 (by decide +kernel) (by decide +kernel)), (k_in 950 (by decide +kernel) (by decide +kernel)), rfl⟩
theorem vX6_86 {G : am_G} (hG : k_ok G) : am_cX G RX6 86 mJ0_length_8abf5 0 := by
  refine ⟨kB_J0_length_8abf5 hG, ?_⟩
  obtain ⟨hc, ht, -⟩ := hG
  rw [ht]
  exact ⟨(k_in 1043 (by decide +kernel) (by decide +kernel)), (k_in 963 (by decide +kernel) (by decide +kernel)), (k_in 964 (by decide +kernel) (by decide +kernel)), rfl⟩
theorem vX6_90 {G : am_G} (hG : k_ok G) : am_cX G RX6 90 mJ0_charAt_5068e 1 := by
  refine ⟨kB_J0_charAt_5068e hG, ?_⟩
  obtain ⟨hc, ht, -⟩ := hG
  rw [ht]
  exact ⟨(k_in 1044 (by decide +kernel) (by decide +kernel)), (k_in 1045 (by decide +kernel) (by decide +kernel)), (k_in 1046 (by decide +kernel) (by decide +kernel)), rfl⟩
theorem vX11_213 {G : am_G} (hG : k_ok G) : am_cX G RX11 213 mJ0_length_8abf5 0 := by
  refine ⟨kB_J0_length_8abf5 hG, ?_⟩
  obtain ⟨hc, ht, -⟩ := hG
  rw [ht]
  exact ⟨(k_in 1729 (by decide +kernel) (by decide +kernel)), (k_in 963 (by decide +kernel) (by decide +kernel)), (k_in 964 (by decide +kernel) (by decide +kernel)), rfl⟩
theorem vX11_217 {G : am_G} (hG : k_ok G) : am_cX G RX11 217 mJ0_charAt_5068e 1 := by
  refine ⟨kB_J0_charAt_5068e hG, ?_⟩
  obtain ⟨hc, ht, -⟩ := hG
  rw [ht]
  exact ⟨(k_in 1730 (by decide +kernel) (by decide +kernel)), (k_in 1045 (by decide +kernel) (by decide +kernel)), (k_in 1046 (by decide +kernel) (by decide +kernel)), rfl⟩
theorem vJ0_335 {G : am_G} (hG : k_ok G) : am_cX G RJ0 335 mJ0_coder_7d493 0 := by
  refine ⟨kB_J0_coder_7d493 hG, ?_⟩
  obtain ⟨hc, ht, -⟩ := hG
  rw [ht]
  exact ⟨(k_in 966 (by decide +kernel) (by decide +kernel)), (k_in 967 (by decide +kernel) (by decide +kernel)), (k_in 968 (by decide +kernel) (by decide +kernel)), rfl⟩
theorem vJ0_492 {G : am_G} (hG : k_ok G) : am_cX G RJ0 492 mJ0_isLatin1_aae02 0 := by
  refine ⟨kB_J0_isLatin1_aae02 hG, ?_⟩
  obtain ⟨hc, ht, -⟩ := hG
  rw [ht]
  exact ⟨(k_in 956 (by decide +kernel) (by decide +kernel)), (k_in 957 (by decide +kernel) (by decide +kernel)), (k_in 958 (by decide +kernel) (by decide +kernel)), rfl⟩
theorem vJ0_495 {G : am_G} (hG : k_ok G) : am_cS G RJ0 495 mJ1_charAt_3b067 2 := by
  refine ⟨kB_J1_charAt_3b067 hG, ?_⟩
  obtain ⟨hc, ht, -⟩ := hG
  rw [ht]
  exact ⟨(k_in 1048 (by decide +kernel) (by decide +kernel)), (k_in 1049 (by decide +kernel) (by decide +kernel))⟩
theorem vJ0_505 {G : am_G} (hG : k_ok G) : am_cX G RJ0 505 mJ0_length_8abf5 0 := by
  refine ⟨kB_J0_length_8abf5 hG, ?_⟩
  obtain ⟨hc, ht, -⟩ := hG
  rw [ht]
  exact ⟨(k_in 962 (by decide +kernel) (by decide +kernel)), (k_in 963 (by decide +kernel) (by decide +kernel)), (k_in 964 (by decide +kernel) (by decide +kernel)), rfl⟩
theorem vJ0_633 {G : am_G} (hG : k_ok G) : am_cX G RJ0 633 mJ0_indexOf_7cf53 2 := by
  refine ⟨kB_J0_indexOf_7cf53 hG, ?_⟩
  obtain ⟨hc, ht, -⟩ := hG
  rw [ht]
  exact ⟨(k_in 952 (by decide +kernel) (by decide +kernel)), (k_in 953 (by decide +kernel) (by decide +kernel)), (k_in 954 (by decide +kernel) (by decide +kernel)), rfl⟩
theorem vJ0_637 {G : am_G} (hG : k_ok G) : am_cS G RJ0 637 mJ1_indexOf_4cfef 4 := by
  refine ⟨kB_J1_indexOf_4cfef hG, ?_⟩
  obtain ⟨hc, ht, -⟩ := hG
  rw [ht]
  exact ⟨(k_in 970 (by decide +kernel) (by decide +kernel)), (k_in 971 (by decide +kernel) (by decide +kernel))⟩
theorem vJ0_1059 {G : am_G} (hG : k_ok G) : am_cS G RJ0 1059 mJ3_checkIndex_8e157 3 := by
  refine ⟨kB_J3_checkIndex_8e157 hG, ?_⟩
  obtain ⟨hc, ht, -⟩ := hG
  rw [ht]
  exact ⟨(k_in 1054 (by decide +kernel) (by decide +kernel)), (k_in 1055 (by decide +kernel) (by decide +kernel))⟩
theorem vJ1_9 {G : am_G} (hG : k_ok G) : am_cS G RJ1 9 mJ0_checkIndex_df160 2 := by
  refine ⟨kB_J0_checkIndex_df160 hG, ?_⟩
  obtain ⟨hc, ht, -⟩ := hG
  rw [ht]
  exact ⟨(k_in 1051 (by decide +kernel) (by decide +kernel)), (k_in 1052 (by decide +kernel) (by decide +kernel))⟩
theorem vJ1_88 {G : am_G} (hG : k_ok G) : am_cS G RJ1 88 mJ1_canEncode_9a6ad 1 := by
  refine ⟨kB_J1_canEncode_9a6ad hG, ?_⟩
  obtain ⟨hc, ht, -⟩ := hG
  rw [ht]
  exact ⟨(k_in 973 (by decide +kernel) (by decide +kernel)), (k_in 974 (by decide +kernel) (by decide +kernel))⟩
theorem vJ1_95 {G : am_G} (hG : k_ok G) : am_cS G RJ1 95 mJ1_indexOfChar_4cfef 4 := by
  refine ⟨kB_J1_indexOfChar_4cfef hG, ?_⟩
  obtain ⟨hc, ht, -⟩ := hG
  rw [ht]
  exact ⟨(k_in 978 (by decide +kernel) (by decide +kernel)), (k_in 979 (by decide +kernel) (by decide +kernel))⟩
theorem k_sh0 (x : Int32) : x >>> ((0 : Int32) &&& 31) = x := by simp
theorem k_asc {b : Int32} (h : 0 ≤ b ∧ b < 128) : ((b &&& 255).toUInt32 % 65536).toInt32 = b ∧ narrow .char (.int b) = .int b ∧ b.toInt8.toInt32 = b := by
  obtain ⟨j, hj, rfl⟩ := k_is_of (n := 128) (Int32.not_lt.mpr h.1) h.2 (by decide)
  exact (by decide +kernel : ∀ j, j < 128 → ((nI j &&& 255).toUInt32 % 65536).toInt32 = nI j ∧ narrow .char (.int (nI j)) = .int (nI j) ∧ (nI j).toInt8.toInt32 = nI j) j hj
theorem k_getD {bs : List Int32} {P : Int32 → Prop} (h : ∀ b ∈ bs, P b) {k : Nat} (hk : k < bs.length) : P (bs.getD k 0) := by
  rw [List.getD_eq_getElem?_getD, List.getElem?_eq_getElem hk]; exact h _ (List.getElem_mem hk)
/-- where a byte first stands in a text -/
def f_ix (bs : List Int32) (c : Int32) : Int32 := match lfst (fun k => decide (bs.getD k 0 = c)) bs.length with
  | none => -1
  | some k => nI k
theorem dJ0_coder_7d493_0 : decode cJ0_coder_7d493 0 = .ok (.getstatic 38, 3) := by decide +kernel
theorem dJ0_coder_7d493_3 : decode cJ0_coder_7d493 3 = .ok (.ifCond .eq 10, 3) := by decide +kernel
theorem dJ0_coder_7d493_6 : decode cJ0_coder_7d493 6 = .ok (.aload_n 0, 1) := by decide +kernel
theorem dJ0_coder_7d493_7 : decode cJ0_coder_7d493 7 = .ok (.getfield 15, 3) := by decide +kernel
theorem dJ0_coder_7d493_10 : decode cJ0_coder_7d493 10 = .ok (.goto 4, 3) := by decide +kernel
theorem dJ0_coder_7d493_13 : decode cJ0_coder_7d493 13 = .ok (.iconst 1, 1) := by decide +kernel
theorem dJ0_coder_7d493_14 : decode cJ0_coder_7d493 14 = .ok (.ireturn, 1) := by decide +kernel
set_option maxRecDepth 100000 in
set_option maxHeartbeats 4000000 in
theorem k_coder {G : am_G} (hK : k_OK G) {d : Nat} (hd : 0 ≤ d) {sh : List (Nat ⊕ (Nat × Nat))} {I : Nat → Nat → Int32} {R : Nat → Nat → Option Nat} {L : Nat → Nat → Int64} {g : Nat} {j : Nat} {bs : List Int32} (ht : k_tx G j bs) : AM G mJ0_coder_7d493 d [.ref (1000000 + j)] (sh, I, R, L, g) (fun v w => v = some (.int (0)) ∧ w = (sh, I, R, L, g)) (fun _ _ => False) := by
  have hG := hK.1
  refine AM.of (n := 0) (by decide +kernel) (Nat.le_of_ble_eq_true rfl) ?_
  show AW G mJ0_coder_7d493 d (fun v w => v = some (.int (0)) ∧ w = (sh, I, R, L, g)) (fun _ _ => False) 0 [some (.ref (1000000 + j))] [] (sh, I, R, L, g) 0 0
  refine AW.gCS hK rfl dJ0_coder_7d493_0 ?_
  refine AW.if_eq 13 dJ0_coder_7d493_3 (by decide) (fun h3 => ?_) (fun h3 => ?_)
  · exact absurd h3 (by decide)
  · refine AW.aload_n dJ0_coder_7d493_6 rfl ?_
    refine AW.xgC hG ht rfl dJ0_coder_7d493_7 ?_
    refine AW.goto 14 dJ0_coder_7d493_10 (by decide) ?_
    exact AW.zret dJ0_coder_7d493_14 rfl (by decide) (by decide) (by decide) (⟨rfl, rfl⟩)
theorem dJ0_isLatin1_aae02_0 : decode cJ0_isLatin1_aae02 0 = .ok (.getstatic 38, 3) := by decide +kernel
theorem dJ0_isLatin1_aae02_3 : decode cJ0_isLatin1_aae02 3 = .ok (.ifCond .eq 14, 3) := by decide +kernel
theorem dJ0_isLatin1_aae02_6 : decode cJ0_isLatin1_aae02 6 = .ok (.aload_n 0, 1) := by decide +kernel
theorem dJ0_isLatin1_aae02_7 : decode cJ0_isLatin1_aae02 7 = .ok (.getfield 15, 3) := by decide +kernel
theorem dJ0_isLatin1_aae02_10 : decode cJ0_isLatin1_aae02 10 = .ok (.ifCond .ne 7, 3) := by decide +kernel
theorem dJ0_isLatin1_aae02_13 : decode cJ0_isLatin1_aae02 13 = .ok (.iconst 1, 1) := by decide +kernel
theorem dJ0_isLatin1_aae02_14 : decode cJ0_isLatin1_aae02 14 = .ok (.goto 4, 3) := by decide +kernel
theorem dJ0_isLatin1_aae02_17 : decode cJ0_isLatin1_aae02 17 = .ok (.iconst 0, 1) := by decide +kernel
theorem dJ0_isLatin1_aae02_18 : decode cJ0_isLatin1_aae02 18 = .ok (.ireturn, 1) := by decide +kernel
set_option maxRecDepth 100000 in
set_option maxHeartbeats 4000000 in
theorem k_isLatin1 {G : am_G} (hK : k_OK G) {d : Nat} (hd : 0 ≤ d) {sh : List (Nat ⊕ (Nat × Nat))} {I : Nat → Nat → Int32} {R : Nat → Nat → Option Nat} {L : Nat → Nat → Int64} {g : Nat} {j : Nat} {bs : List Int32} (ht : k_tx G j bs) : AM G mJ0_isLatin1_aae02 d [.ref (1000000 + j)] (sh, I, R, L, g) (fun v w => v = some (.int (1)) ∧ w = (sh, I, R, L, g)) (fun _ _ => False) := by
  have hG := hK.1
  refine AM.of (n := 0) (by decide +kernel) (Nat.le_of_ble_eq_true rfl) ?_
  show AW G mJ0_isLatin1_aae02 d (fun v w => v = some (.int (1)) ∧ w = (sh, I, R, L, g)) (fun _ _ => False) 0 [some (.ref (1000000 + j))] [] (sh, I, R, L, g) 0 0
  refine AW.gCS hK rfl dJ0_isLatin1_aae02_0 ?_
  refine AW.if_eq 17 dJ0_isLatin1_aae02_3 (by decide) (fun h3 => ?_) (fun h3 => ?_)
  · exact absurd h3 (by decide)
  · refine AW.aload_n dJ0_isLatin1_aae02_6 rfl ?_
    refine AW.xgC hG ht rfl dJ0_isLatin1_aae02_7 ?_
    refine AW.if_ne 17 dJ0_isLatin1_aae02_10 (by decide) (fun h10 => ?_) (fun h10 => ?_)
    · exact absurd rfl h10
    · refine AW.iconst 1 dJ0_isLatin1_aae02_13 (by decide) ?_
      refine AW.goto 18 dJ0_isLatin1_aae02_14 (by decide) ?_
      exact AW.zret dJ0_isLatin1_aae02_18 rfl (by decide) (by decide) (by decide) (⟨rfl, rfl⟩)
theorem dJ0_length_8abf5_0 : decode cJ0_length_8abf5 0 = .ok (.aload_n 0, 1) := by decide +kernel
theorem dJ0_length_8abf5_1 : decode cJ0_length_8abf5 1 = .ok (.getfield 9, 3) := by decide +kernel
theorem dJ0_length_8abf5_4 : decode cJ0_length_8abf5 4 = .ok (.arraylength, 1) := by decide +kernel
theorem dJ0_length_8abf5_5 : decode cJ0_length_8abf5 5 = .ok (.aload_n 0, 1) := by decide +kernel
theorem dJ0_length_8abf5_6 : decode cJ0_length_8abf5 6 = .ok (.invokevirtual 335, 3) := by decide +kernel
theorem dJ0_length_8abf5_9 : decode cJ0_length_8abf5 9 = .ok (.ishr, 1) := by decide +kernel
theorem dJ0_length_8abf5_10 : decode cJ0_length_8abf5 10 = .ok (.ireturn, 1) := by decide +kernel
set_option maxRecDepth 100000 in
set_option maxHeartbeats 4000000 in
theorem k_length {G : am_G} (hK : k_OK G) {d : Nat} (hd : 1 ≤ d) {sh : List (Nat ⊕ (Nat × Nat))} {I : Nat → Nat → Int32} {R : Nat → Nat → Option Nat} {L : Nat → Nat → Int64} {g : Nat} {j : Nat} {bs : List Int32} (ht : k_tx G j bs) : AM G mJ0_length_8abf5 d [.ref (1000000 + j)] (sh, I, R, L, g) (fun v w => v = some (.int (nI bs.length)) ∧ w = (sh, I, R, L, g)) (fun _ _ => False) := by
  have hG := hK.1
  refine AM.of (n := 0) (by decide +kernel) (Nat.le_of_ble_eq_true rfl) ?_
  show AW G mJ0_length_8abf5 d (fun v w => v = some (.int (nI bs.length)) ∧ w = (sh, I, R, L, g)) (fun _ _ => False) 0 [some (.ref (1000000 + j))] [] (sh, I, R, L, g) 0 0
  refine AW.aload_n dJ0_length_8abf5_0 rfl ?_
  refine AW.xgV hG ht rfl dJ0_length_8abf5_1 ?_
  refine AW.xlen ht dJ0_length_8abf5_4 ?_
  refine AW.aload_n dJ0_length_8abf5_5 rfl ?_
  refine AW.callX (As := []) hG.2.2 (vJ0_335 hG) ht (k_coder hK (d := 0) (Nat.le_refl _) ht) (by omega) dJ0_length_8abf5_6 rfl rfl (Nat.le_of_ble_eq_true rfl) (fun v w9 hq9 h09 => by obtain ⟨rfl, rfl⟩ := hq9; exact ⟨h09, rfl⟩) (by decide) (by decide) (fun _ _ hx => hx) (fun v6 w6 hq6 => ?_)
  obtain ⟨rfl, rfl⟩ := hq6
  refine AW.nam (fun x6 ex6 => ?_)
  refine AW.ishr dJ0_length_8abf5_9 ?_
  exact AW.iret dJ0_length_8abf5_10 rfl (by decide) (by decide) (⟨by rw [ex6, k_sh0], rfl⟩)
theorem dJ3_checkIndex_8e157_0 : decode cJ3_checkIndex_8e157 0 = .ok (.iload_n 0, 1) := by decide +kernel
theorem dJ3_checkIndex_8e157_1 : decode cJ3_checkIndex_8e157 1 = .ok (.ifCond .lt 8, 3) := by decide +kernel
theorem dJ3_checkIndex_8e157_4 : decode cJ3_checkIndex_8e157 4 = .ok (.iload_n 0, 1) := by decide +kernel
theorem dJ3_checkIndex_8e157_5 : decode cJ3_checkIndex_8e157 5 = .ok (.iload_n 1, 1) := by decide +kernel
theorem dJ3_checkIndex_8e157_6 : decode cJ3_checkIndex_8e157 6 = .ok (.if_icmp .lt 10, 3) := by decide +kernel
theorem dJ3_checkIndex_8e157_9 : decode cJ3_checkIndex_8e157 9 = .ok (.aload_n 2, 1) := by decide +kernel
theorem dJ3_checkIndex_8e157_10 : decode cJ3_checkIndex_8e157 10 = .ok (.iload_n 0, 1) := by decide +kernel
theorem dJ3_checkIndex_8e157_11 : decode cJ3_checkIndex_8e157 11 = .ok (.iload_n 1, 1) := by decide +kernel
theorem dJ3_checkIndex_8e157_12 : decode cJ3_checkIndex_8e157 12 = .ok (.invokestatic 95, 3) := by decide +kernel
theorem dJ3_checkIndex_8e157_15 : decode cJ3_checkIndex_8e157 15 = .ok (.athrow, 1) := by decide +kernel
theorem dJ3_checkIndex_8e157_16 : decode cJ3_checkIndex_8e157 16 = .ok (.iload_n 0, 1) := by decide +kernel
theorem dJ3_checkIndex_8e157_17 : decode cJ3_checkIndex_8e157 17 = .ok (.ireturn, 1) := by decide +kernel
set_option maxRecDepth 100000 in
set_option maxHeartbeats 4000000 in
theorem k_chk3 {G : am_G} (hK : k_OK G) {d : Nat} (hd : 0 ≤ d) {sh : List (Nat ⊕ (Nat × Nat))} {I : Nat → Nat → Int32} {R : Nat → Nat → Option Nat} {L : Nat → Nat → Int64} {g : Nat} (x n : Int32) (h0 : ¬ x < 0) (hn : x < n) : AM G mJ3_checkIndex_8e157 d [.int x, .int n, .ref (1000000 + 2000000)] (sh, I, R, L, g) (fun v w => v = some (.int (x)) ∧ w = (sh, I, R, L, g)) (fun _ _ => False) := by
  have hG := hK.1
  refine AM.of (n := 0) (by decide +kernel) (Nat.le_of_ble_eq_true rfl) ?_
  show AW G mJ3_checkIndex_8e157 d (fun v w => v = some (.int (x)) ∧ w = (sh, I, R, L, g)) (fun _ _ => False) 0 [some (.int x), some (.int n), some (.ref (1000000 + 2000000))] [] (sh, I, R, L, g) 0 0
  refine AW.iload_n dJ3_checkIndex_8e157_0 rfl ?_
  refine AW.if_lt 9 dJ3_checkIndex_8e157_1 (by decide) (fun h1 => ?_) (fun h1 => ?_)
  · exact absurd h1 h0
  · refine AW.iload_n dJ3_checkIndex_8e157_4 rfl ?_
    refine AW.iload_n dJ3_checkIndex_8e157_5 rfl ?_
    refine AW.icmp_lt 16 dJ3_checkIndex_8e157_6 (by decide) (fun h6 => ?_) (fun h6 => ?_)
    · refine AW.iload_n dJ3_checkIndex_8e157_16 rfl ?_
      exact AW.iret dJ3_checkIndex_8e157_17 rfl (by decide) (by decide) (⟨rfl, rfl⟩)
    · exact absurd hn h6
set_option maxRecDepth 100000 in
set_option maxHeartbeats 4000000 in
theorem k_chk3n {G : am_G} (hK : k_OK G) {d : Nat} (hd : 0 ≤ d) {sh : List (Nat ⊕ (Nat × Nat))} {I : Nat → Nat → Int32} {R : Nat → Nat → Option Nat} {L : Nat → Nat → Int64} {g : Nat} (x n : Int32) (h0 : ¬ x < 0) (hn : x < n) : AM G mJ3_checkIndex_8e157 d [.int x, .int n, .null] (sh, I, R, L, g) (fun v w => v = some (.int (x)) ∧ w = (sh, I, R, L, g)) (fun _ _ => False) := by
  have hG := hK.1
  refine AM.of (n := 0) (by decide +kernel) (Nat.le_of_ble_eq_true rfl) ?_
  show AW G mJ3_checkIndex_8e157 d (fun v w => v = some (.int (x)) ∧ w = (sh, I, R, L, g)) (fun _ _ => False) 0 [some (.int x), some (.int n), some (.null)] [] (sh, I, R, L, g) 0 0
  refine AW.iload_n dJ3_checkIndex_8e157_0 rfl ?_
  refine AW.if_lt 9 dJ3_checkIndex_8e157_1 (by decide) (fun h1 => ?_) (fun h1 => ?_)
  · exact absurd h1 h0
  · refine AW.iload_n dJ3_checkIndex_8e157_4 rfl ?_
    refine AW.iload_n dJ3_checkIndex_8e157_5 rfl ?_
    refine AW.icmp_lt 16 dJ3_checkIndex_8e157_6 (by decide) (fun h6 => ?_) (fun h6 => ?_)
    · refine AW.iload_n dJ3_checkIndex_8e157_16 rfl ?_
      exact AW.iret dJ3_checkIndex_8e157_17 rfl (by decide) (by decide) (⟨rfl, rfl⟩)
    · exact absurd hn h6
theorem dJ0_checkIndex_df160_0 : decode cJ0_checkIndex_df160 0 = .ok (.iload_n 0, 1) := by decide +kernel
theorem dJ0_checkIndex_df160_1 : decode cJ0_checkIndex_df160 1 = .ok (.iload_n 1, 1) := by decide +kernel
theorem dJ0_checkIndex_df160_2 : decode cJ0_checkIndex_df160 2 = .ok (.getstatic 1053, 3) := by decide +kernel
theorem dJ0_checkIndex_df160_5 : decode cJ0_checkIndex_df160 5 = .ok (.invokestatic 1059, 3) := by decide +kernel
theorem dJ0_checkIndex_df160_8 : decode cJ0_checkIndex_df160 8 = .ok (.pop, 1) := by decide +kernel
theorem dJ0_checkIndex_df160_9 : decode cJ0_checkIndex_df160 9 = .ok (.return_, 1) := by decide +kernel
set_option maxRecDepth 100000 in
set_option maxHeartbeats 4000000 in
theorem k_chk {G : am_G} (hK : k_OK G) {d : Nat} (hd : 1 ≤ d) {sh : List (Nat ⊕ (Nat × Nat))} {I : Nat → Nat → Int32} {R : Nat → Nat → Option Nat} {L : Nat → Nat → Int64} {g : Nat} (x n : Int32) (h0 : ¬ x < 0) (hn : x < n) : AM G mJ0_checkIndex_df160 d [.int x, .int n] (sh, I, R, L, g) (fun v w => v = none ∧ w = (sh, I, R, L, g)) (fun _ _ => False) := by
  have hG := hK.1
  refine AM.of (n := 0) (by decide +kernel) (Nat.le_of_ble_eq_true rfl) ?_
  show AW G mJ0_checkIndex_df160 d (fun v w => v = none ∧ w = (sh, I, R, L, g)) (fun _ _ => False) 0 [some (.int x), some (.int n)] [] (sh, I, R, L, g) 0 0
  refine AW.iload_n dJ0_checkIndex_df160_0 rfl ?_
  refine AW.iload_n dJ0_checkIndex_df160_1 rfl ?_
  refine AW.gSI hK rfl dJ0_checkIndex_df160_2 ?_ ?_
  · refine AW.callS (As := [.int x, .int n, .null]) hG.2.2 (vJ0_1059 hG) (k_chk3n hK (d := 0) (Nat.le_refl _) x n (by assumption) (by assumption)) (by omega) dJ0_checkIndex_df160_5 rfl rfl (Nat.le_of_ble_eq_true rfl) (fun v w9 hq9 h09 => by obtain ⟨rfl, rfl⟩ := hq9; exact ⟨h09, rfl⟩) (by decide) (by decide) (fun _ _ hx => hx) (fun v5 w5 hq5 => ?_)
    obtain ⟨rfl, rfl⟩ := hq5
    refine AW.nam (fun x5 ex5 => ?_)
    refine AW.pop dJ0_checkIndex_df160_8 rfl ?_
    exact AW.vret dJ0_checkIndex_df160_9 rfl (by decide) (by decide) (⟨rfl, rfl⟩)
  · refine AW.callS (As := [.int x, .int n, .ref (1000000 + 2000000)]) hG.2.2 (vJ0_1059 hG) (k_chk3 hK (d := 0) (Nat.le_refl _) x n (by assumption) (by assumption)) (by omega) dJ0_checkIndex_df160_5 rfl rfl (Nat.le_of_ble_eq_true rfl) (fun v w9 hq9 h09 => by obtain ⟨rfl, rfl⟩ := hq9; exact ⟨h09, rfl⟩) (by decide) (by decide) (fun _ _ hx => hx) (fun v5 w5 hq5 => ?_)
    obtain ⟨rfl, rfl⟩ := hq5
    refine AW.nam (fun x5 ex5 => ?_)
    refine AW.pop dJ0_checkIndex_df160_8 rfl ?_
    exact AW.vret dJ0_checkIndex_df160_9 rfl (by decide) (by decide) (⟨rfl, rfl⟩)
theorem dJ1_charAt_3b067_0 : decode cJ1_charAt_3b067 0 = .ok (.iload_n 1, 1) := by decide +kernel
theorem dJ1_charAt_3b067_1 : decode cJ1_charAt_3b067 1 = .ok (.aload_n 0, 1) := by decide +kernel
theorem dJ1_charAt_3b067_2 : decode cJ1_charAt_3b067 2 = .ok (.arraylength, 1) := by decide +kernel
theorem dJ1_charAt_3b067_3 : decode cJ1_charAt_3b067 3 = .ok (.invokestatic 9, 3) := by decide +kernel
theorem dJ1_charAt_3b067_6 : decode cJ1_charAt_3b067 6 = .ok (.aload_n 0, 1) := by decide +kernel
theorem dJ1_charAt_3b067_7 : decode cJ1_charAt_3b067 7 = .ok (.iload_n 1, 1) := by decide +kernel
theorem dJ1_charAt_3b067_8 : decode cJ1_charAt_3b067 8 = .ok (.baload, 1) := by decide +kernel
theorem dJ1_charAt_3b067_9 : decode cJ1_charAt_3b067 9 = .ok (.sipush 255, 3) := by decide +kernel
theorem dJ1_charAt_3b067_12 : decode cJ1_charAt_3b067 12 = .ok (.iand, 1) := by decide +kernel
theorem dJ1_charAt_3b067_13 : decode cJ1_charAt_3b067 13 = .ok (.i2c, 1) := by decide +kernel
theorem dJ1_charAt_3b067_14 : decode cJ1_charAt_3b067 14 = .ok (.ireturn, 1) := by decide +kernel
set_option maxRecDepth 100000 in
set_option maxHeartbeats 4000000 in
theorem k_charAt1 {G : am_G} (hK : k_OK G) {d : Nat} (hd : 2 ≤ d) {sh : List (Nat ⊕ (Nat × Nat))} {I : Nat → Nat → Int32} {R : Nat → Nat → Option Nat} {L : Nat → Nat → Int64} {g : Nat} {j : Nat} {bs : List Int32} (ht : k_tx G j bs) (x : Int32) (hx : vp_in x bs.length) : AM G mJ1_charAt_3b067 d [.ref (1000000 + (1000000 + j)), .int x] (sh, I, R, L, g) (fun v w => v = some (.int (bs.getD x.toNatClampNeg 0)) ∧ w = (sh, I, R, L, g)) (fun _ _ => False) := by
  have hG := hK.1
  obtain ⟨k, hk, hxk⟩ := vp_in_of hx (by have := ht.2.1; omega)
  have h0 : ¬ x < 0 := by rw [hxk]; exact nI_pos (by have := ht.2.1; omega)
  have hn : x < nI bs.length := by rw [hxk]; exact (nI_ltI (by have := ht.2.1; omega) (by have := ht.2.1; omega)).mpr hk
  have hcx : x.toNatClampNeg = k := k_lit hxk (by have := ht.2.1; omega)
  have ha := k_asc (k_getD ht.1 hk)
  refine AM.of (n := 0) (by decide +kernel) (Nat.le_of_ble_eq_true rfl) ?_
  show AW G mJ1_charAt_3b067 d (fun v w => v = some (.int (bs.getD x.toNatClampNeg 0)) ∧ w = (sh, I, R, L, g)) (fun _ _ => False) 0 [some (.ref (1000000 + (1000000 + j))), some (.int x)] [] (sh, I, R, L, g) 0 0
  refine AW.iload_n dJ1_charAt_3b067_0 rfl ?_
  refine AW.aload_n dJ1_charAt_3b067_1 rfl ?_
  refine AW.xlen ht dJ1_charAt_3b067_2 ?_
  refine AW.callS (As := [.int x, .int (nI bs.length)]) hG.2.2 (vJ1_9 hG) (k_chk hK (d := 1) (Nat.le_refl _) x (nI bs.length) (by assumption) (by assumption)) (by omega) dJ1_charAt_3b067_3 rfl rfl (Nat.le_of_ble_eq_true rfl) (fun v w9 hq9 h09 => by obtain ⟨rfl, rfl⟩ := hq9; exact ⟨h09, rfl⟩) (by decide) (by decide) (fun _ _ hx => hx) (fun v3 w3 hq3 => ?_)
  obtain ⟨rfl, rfl⟩ := hq3
  show AW G mJ1_charAt_3b067 d (fun v w => v = some (.int (bs.getD x.toNatClampNeg 0)) ∧ w = (sh, I, R, L, g)) (fun _ _ => False) 6 [some (.ref (1000000 + (1000000 + j))), some (.int x)] [] (sh, I, R, L, g) 0 0
  refine AW.aload_n dJ1_charAt_3b067_6 rfl ?_
  refine AW.iload_n dJ1_charAt_3b067_7 rfl ?_
  refine AW.xbl ht (by first | assumption | (unfold vp_in; decide) | exact vp_in_nI (by omega) (by decide)) dJ1_charAt_3b067_8 ?_
  refine AW.sipush 255 dJ1_charAt_3b067_9 (by decide) ?_
  refine AW.iand dJ1_charAt_3b067_12 ?_
  refine AW.i2c dJ1_charAt_3b067_13 ?_
  exact AW.zret dJ1_charAt_3b067_14 rfl (by rw [hcx, ha.1]; exact ha.2.1) (by decide) (by decide) (⟨by rw [hcx, ha.1], rfl⟩)
theorem dJ0_charAt_5068e_0 : decode cJ0_charAt_5068e 0 = .ok (.aload_n 0, 1) := by decide +kernel
theorem dJ0_charAt_5068e_1 : decode cJ0_charAt_5068e 1 = .ok (.invokevirtual 492, 3) := by decide +kernel
theorem dJ0_charAt_5068e_4 : decode cJ0_charAt_5068e 4 = .ok (.ifCond .eq 12, 3) := by decide +kernel
theorem dJ0_charAt_5068e_7 : decode cJ0_charAt_5068e 7 = .ok (.aload_n 0, 1) := by decide +kernel
theorem dJ0_charAt_5068e_8 : decode cJ0_charAt_5068e 8 = .ok (.getfield 9, 3) := by decide +kernel
theorem dJ0_charAt_5068e_11 : decode cJ0_charAt_5068e 11 = .ok (.iload_n 1, 1) := by decide +kernel
theorem dJ0_charAt_5068e_12 : decode cJ0_charAt_5068e 12 = .ok (.invokestatic 495, 3) := by decide +kernel
theorem dJ0_charAt_5068e_15 : decode cJ0_charAt_5068e 15 = .ok (.ireturn, 1) := by decide +kernel
theorem dJ0_charAt_5068e_16 : decode cJ0_charAt_5068e 16 = .ok (.aload_n 0, 1) := by decide +kernel
theorem dJ0_charAt_5068e_17 : decode cJ0_charAt_5068e 17 = .ok (.getfield 9, 3) := by decide +kernel
theorem dJ0_charAt_5068e_20 : decode cJ0_charAt_5068e 20 = .ok (.iload_n 1, 1) := by decide +kernel
theorem dJ0_charAt_5068e_21 : decode cJ0_charAt_5068e 21 = .ok (.invokestatic 498, 3) := by decide +kernel
theorem dJ0_charAt_5068e_24 : decode cJ0_charAt_5068e 24 = .ok (.ireturn, 1) := by decide +kernel
set_option maxRecDepth 100000 in
set_option maxHeartbeats 4000000 in
theorem k_charAt {G : am_G} (hK : k_OK G) {d : Nat} (hd : 3 ≤ d) {sh : List (Nat ⊕ (Nat × Nat))} {I : Nat → Nat → Int32} {R : Nat → Nat → Option Nat} {L : Nat → Nat → Int64} {g : Nat} {j : Nat} {bs : List Int32} (ht : k_tx G j bs) (x : Int32) (hx : vp_in x bs.length) : AM G mJ0_charAt_5068e d [.ref (1000000 + j), .int x] (sh, I, R, L, g) (fun v w => v = some (.int (bs.getD x.toNatClampNeg 0)) ∧ w = (sh, I, R, L, g)) (fun _ _ => False) := by
  have hG := hK.1
  obtain ⟨k, hk, hxk⟩ := vp_in_of hx (by have := ht.2.1; omega)
  have hcx : x.toNatClampNeg = k := k_lit hxk (by have := ht.2.1; omega)
  have ha := k_asc (k_getD ht.1 hk)
  refine AM.of (n := 0) (by decide +kernel) (Nat.le_of_ble_eq_true rfl) ?_
  show AW G mJ0_charAt_5068e d (fun v w => v = some (.int (bs.getD x.toNatClampNeg 0)) ∧ w = (sh, I, R, L, g)) (fun _ _ => False) 0 [some (.ref (1000000 + j)), some (.int x)] [] (sh, I, R, L, g) 0 0
  refine AW.aload_n dJ0_charAt_5068e_0 rfl ?_
  refine AW.callX (As := []) hG.2.2 (vJ0_492 hG) ht (k_isLatin1 hK (d := 0) (Nat.le_refl _) ht) (by omega) dJ0_charAt_5068e_1 rfl rfl (Nat.le_of_ble_eq_true rfl) (fun v w9 hq9 h09 => by obtain ⟨rfl, rfl⟩ := hq9; exact ⟨h09, rfl⟩) (by decide) (by decide) (fun _ _ hx => hx) (fun v1 w1 hq1 => ?_)
  obtain ⟨rfl, rfl⟩ := hq1
  refine AW.nam (fun x1 ex1 => ?_)
  refine AW.if_eq 16 dJ0_charAt_5068e_4 (by decide) (fun h4 => ?_) (fun h4 => ?_)
  · exact absurd (ex1.symm.trans h4) (by decide)
  · refine AW.aload_n dJ0_charAt_5068e_7 rfl ?_
    refine AW.xgV hG ht rfl dJ0_charAt_5068e_8 ?_
    refine AW.iload_n dJ0_charAt_5068e_11 rfl ?_
    refine AW.callS (As := [.ref (1000000 + (1000000 + j)), .int x]) hG.2.2 (vJ0_495 hG) (k_charAt1 hK (d := 2) (Nat.le_refl _) ht x (by assumption)) (by omega) dJ0_charAt_5068e_12 rfl rfl (Nat.le_of_ble_eq_true rfl) (fun v w9 hq9 h09 => by obtain ⟨rfl, rfl⟩ := hq9; exact ⟨h09, rfl⟩) (by decide) (by decide) (fun _ _ hx => hx) (fun v12 w12 hq12 => ?_)
    obtain ⟨rfl, rfl⟩ := hq12
    refine AW.nam (fun x12 ex12 => ?_)
    exact AW.zret dJ0_charAt_5068e_15 rfl (by rw [ex12, hcx]; exact ha.2.1) (by decide) (by decide) (⟨by rw [ex12], rfl⟩)
theorem dJ1_canEncode_9a6ad_0 : decode cJ1_canEncode_9a6ad 0 = .ok (.iload_n 0, 1) := by decide +kernel
theorem dJ1_canEncode_9a6ad_1 : decode cJ1_canEncode_9a6ad 1 = .ok (.ifCond .lt 14, 3) := by decide +kernel
theorem dJ1_canEncode_9a6ad_4 : decode cJ1_canEncode_9a6ad 4 = .ok (.iload_n 0, 1) := by decide +kernel
theorem dJ1_canEncode_9a6ad_5 : decode cJ1_canEncode_9a6ad 5 = .ok (.sipush 255, 3) := by decide +kernel
theorem dJ1_canEncode_9a6ad_8 : decode cJ1_canEncode_9a6ad 8 = .ok (.if_icmp .gt 7, 3) := by decide +kernel
theorem dJ1_canEncode_9a6ad_11 : decode cJ1_canEncode_9a6ad 11 = .ok (.iconst 1, 1) := by decide +kernel
theorem dJ1_canEncode_9a6ad_12 : decode cJ1_canEncode_9a6ad 12 = .ok (.goto 4, 3) := by decide +kernel
theorem dJ1_canEncode_9a6ad_15 : decode cJ1_canEncode_9a6ad 15 = .ok (.iconst 0, 1) := by decide +kernel
theorem dJ1_canEncode_9a6ad_16 : decode cJ1_canEncode_9a6ad 16 = .ok (.ireturn, 1) := by decide +kernel
set_option maxRecDepth 100000 in
set_option maxHeartbeats 4000000 in
theorem k_canEncode {G : am_G} (hK : k_OK G) {d : Nat} (hd : 0 ≤ d) {sh : List (Nat ⊕ (Nat × Nat))} {I : Nat → Nat → Int32} {R : Nat → Nat → Option Nat} {L : Nat → Nat → Int64} {g : Nat} (c : Int32) (hc : 0 ≤ c ∧ c < 128) : AM G mJ1_canEncode_9a6ad d [.int c] (sh, I, R, L, g) (fun v w => v = some (.int (1)) ∧ w = (sh, I, R, L, g)) (fun _ _ => False) := by
  have hG := hK.1
  refine AM.of (n := 0) (by decide +kernel) (Nat.le_of_ble_eq_true rfl) ?_
  show AW G mJ1_canEncode_9a6ad d (fun v w => v = some (.int (1)) ∧ w = (sh, I, R, L, g)) (fun _ _ => False) 0 [some (.int c)] [] (sh, I, R, L, g) 0 0
  refine AW.iload_n dJ1_canEncode_9a6ad_0 rfl ?_
  refine AW.if_lt 15 dJ1_canEncode_9a6ad_1 (by decide) (fun h1 => ?_) (fun h1 => ?_)
  · exact absurd h1 (Int32.not_lt.mpr hc.1)
  · refine AW.iload_n dJ1_canEncode_9a6ad_4 rfl ?_
    refine AW.sipush 255 dJ1_canEncode_9a6ad_5 (by decide) ?_
    refine AW.icmp_gt 15 dJ1_canEncode_9a6ad_8 (by decide) (fun h8 => ?_) (fun h8 => ?_)
    · exact absurd (Int32.lt_trans h8 hc.2) (by decide)
    · refine AW.iconst 1 dJ1_canEncode_9a6ad_11 (by decide) ?_
      refine AW.goto 16 dJ1_canEncode_9a6ad_12 (by decide) ?_
      exact AW.zret dJ1_canEncode_9a6ad_16 rfl (by decide) (by decide) (by decide) (⟨rfl, rfl⟩)
theorem dJ1_indexOfChar_4cfef_0 : decode cJ1_indexOfChar_4cfef 0 = .ok (.iload_n 1, 1) := by decide +kernel
theorem dJ1_indexOfChar_4cfef_1 : decode cJ1_indexOfChar_4cfef 1 = .ok (.i2b, 1) := by decide +kernel
theorem dJ1_indexOfChar_4cfef_2 : decode cJ1_indexOfChar_4cfef 2 = .ok (.istore 4, 2) := by decide +kernel
theorem dJ1_indexOfChar_4cfef_4 : decode cJ1_indexOfChar_4cfef 4 = .ok (.iload_n 2, 1) := by decide +kernel
theorem dJ1_indexOfChar_4cfef_5 : decode cJ1_indexOfChar_4cfef 5 = .ok (.istore 5, 2) := by decide +kernel
theorem dJ1_indexOfChar_4cfef_7 : decode cJ1_indexOfChar_4cfef 7 = .ok (.iload 5, 2) := by decide +kernel
theorem dJ1_indexOfChar_4cfef_9 : decode cJ1_indexOfChar_4cfef 9 = .ok (.iload_n 3, 1) := by decide +kernel
theorem dJ1_indexOfChar_4cfef_10 : decode cJ1_indexOfChar_4cfef 10 = .ok (.if_icmp .ge 21, 3) := by decide +kernel
theorem dJ1_indexOfChar_4cfef_13 : decode cJ1_indexOfChar_4cfef 13 = .ok (.aload_n 0, 1) := by decide +kernel
theorem dJ1_indexOfChar_4cfef_14 : decode cJ1_indexOfChar_4cfef 14 = .ok (.iload 5, 2) := by decide +kernel
theorem dJ1_indexOfChar_4cfef_16 : decode cJ1_indexOfChar_4cfef 16 = .ok (.baload, 1) := by decide +kernel
theorem dJ1_indexOfChar_4cfef_17 : decode cJ1_indexOfChar_4cfef 17 = .ok (.iload 4, 2) := by decide +kernel
theorem dJ1_indexOfChar_4cfef_19 : decode cJ1_indexOfChar_4cfef 19 = .ok (.if_icmp .ne 6, 3) := by decide +kernel
theorem dJ1_indexOfChar_4cfef_22 : decode cJ1_indexOfChar_4cfef 22 = .ok (.iload 5, 2) := by decide +kernel
theorem dJ1_indexOfChar_4cfef_24 : decode cJ1_indexOfChar_4cfef 24 = .ok (.ireturn, 1) := by decide +kernel
theorem dJ1_indexOfChar_4cfef_25 : decode cJ1_indexOfChar_4cfef 25 = .ok (.iinc 5 1, 3) := by decide +kernel
theorem dJ1_indexOfChar_4cfef_28 : decode cJ1_indexOfChar_4cfef 28 = .ok (.goto (-21), 3) := by decide +kernel
theorem dJ1_indexOfChar_4cfef_31 : decode cJ1_indexOfChar_4cfef 31 = .ok (.iconst (-1), 1) := by decide +kernel
theorem dJ1_indexOfChar_4cfef_32 : decode cJ1_indexOfChar_4cfef 32 = .ok (.ireturn, 1) := by decide +kernel
set_option maxRecDepth 100000 in
set_option maxHeartbeats 4000000 in
theorem k_indexOfChar {G : am_G} (hK : k_OK G) {d : Nat} (hd : 0 ≤ d) {sh : List (Nat ⊕ (Nat × Nat))} {I : Nat → Nat → Int32} {R : Nat → Nat → Option Nat} {L : Nat → Nat → Int64} {g : Nat} {j : Nat} {bs : List Int32} (ht : k_tx G j bs) (c x y : Int32) (hc : 0 ≤ c ∧ c < 128) (hx0 : x = 0) (hy0 : y = nI bs.length) : AM G mJ1_indexOfChar_4cfef d [.ref (1000000 + (1000000 + j)), .int c, .int x, .int y] (sh, I, R, L, g) (fun v w => v = some (.int (f_ix bs c)) ∧ w = (sh, I, R, L, g)) (fun _ _ => False) := by
  have hG := hK.1
  have hL := ht.2.1
  refine AM.of (n := 2) (by decide +kernel) (Nat.le_of_ble_eq_true rfl) ?_
  show AW G mJ1_indexOfChar_4cfef d (fun v w => v = some (.int (f_ix bs c)) ∧ w = (sh, I, R, L, g)) (fun _ _ => False) 0 [some (.ref (1000000 + (1000000 + j))), some (.int c), some (.int x), some (.int y), none, none] [] (sh, I, R, L, g) 0 0
  refine AW.iload_n dJ1_indexOfChar_4cfef_0 rfl ?_
  refine AW.i2b dJ1_indexOfChar_4cfef_1 ?_
  refine AW.nam (fun x2 ex2 => ?_)
  refine AW.is [some (.ref (1000000 + (1000000 + j))), some (.int c), some (.int x), some (.int y), some (.int x2), none] dJ1_indexOfChar_4cfef_2 (by decide) rfl rfl ?_
  refine AW.iload_n dJ1_indexOfChar_4cfef_4 rfl ?_
  refine AW.is [some (.ref (1000000 + (1000000 + j))), some (.int c), some (.int x), some (.int y), some (.int x2), some (.int x)] dJ1_indexOfChar_4cfef_5 (by decide) rfl rfl ?_
  have L7 : ∀ k7, k7 ≤ bs.length → ∀ (z : Int32), (z = nI k7 ∧ lfst (fun k => decide (bs.getD k 0 = c)) k7 = none) → AW G mJ1_indexOfChar_4cfef d (fun v w => v = some (.int (f_ix bs c)) ∧ w = (sh, I, R, L, g)) (fun _ _ => False) 7 [some (.ref (1000000 + (1000000 + j))), some (.int c), some (.int x), some (.int y), some (.int x2), some (.int z)] [] (sh, I, R, L, g) 0 0 := by
    refine am_rec (bs.length) (fun k7 hk7 ih7 => ?_)
    intro z hi7
    obtain ⟨hz, ha⟩ := hi7
    refine AW.iload dJ1_indexOfChar_4cfef_7 rfl ?_
    refine AW.iload_n dJ1_indexOfChar_4cfef_9 rfl ?_
    refine AW.icmp_ge 31 dJ1_indexOfChar_4cfef_10 (by decide) (fun h10 => ?_) (fun h10 => ?_)
    · have hke := k_ge h10 hz hy0 hk7 (by omega)
      rw [hke] at ha
      refine AW.iconst (-1) dJ1_indexOfChar_4cfef_31 (by decide) ?_
      exact AW.iret dJ1_indexOfChar_4cfef_32 rfl (by decide) (by decide) (⟨by unfold f_ix; rw [ha], rfl⟩)
    · have hlt := k_lt h10 hz hy0 hk7 (by omega)
      have hbz : vp_in z bs.length := by rw [hz]; exact vp_in_nI hlt (by omega)
      have hcz : z.toNatClampNeg = k7 := k_lit hz (by omega)
      refine AW.aload_n dJ1_indexOfChar_4cfef_13 rfl ?_
      refine AW.iload dJ1_indexOfChar_4cfef_14 rfl ?_
      refine AW.xbl ht (by first | assumption | (unfold vp_in; decide) | exact vp_in_nI (by omega) (by decide)) dJ1_indexOfChar_4cfef_16 ?_
      refine AW.iload dJ1_indexOfChar_4cfef_17 rfl ?_
      refine AW.icmp_ne 25 dJ1_indexOfChar_4cfef_19 (by decide) (fun h19 => ?_) (fun h19 => ?_)
      · rw [hcz, ex2, (k_asc hc).2.2] at h19
        refine AW.inc (fun x25 => [some (.ref (1000000 + (1000000 + j))), some (.int c), some (.int x), some (.int y), some (.int x2), some (.int x25)]) dJ1_indexOfChar_4cfef_25 rfl (by decide) rfl (fun _ => rfl) (fun x25 ex25 => ?_)
        refine AW.goto 7 dJ1_indexOfChar_4cfef_28 (by decide) ?_
        exact ih7 (k7 + 1) (by omega) (by omega) _ (⟨k_inc (by assumption) hz, lfst_0 ha (decide_eq_false h19)⟩)
      · rw [hcz, ex2, (k_asc hc).2.2] at h19
        refine AW.iload dJ1_indexOfChar_4cfef_22 rfl ?_
        exact AW.iret dJ1_indexOfChar_4cfef_24 rfl (by decide) (by decide) (⟨by unfold f_ix; rw [lfst_s (lfst_1 ha (decide_eq_true h19)) hlt, hz], rfl⟩)
  exact L7 0 (by omega) _ (⟨hx0, rfl⟩)
theorem dJ1_indexOf_4cfef_0 : decode cJ1_indexOf_4cfef 0 = .ok (.iload_n 1, 1) := by decide +kernel
theorem dJ1_indexOf_4cfef_1 : decode cJ1_indexOf_4cfef 1 = .ok (.invokestatic 88, 3) := by decide +kernel
theorem dJ1_indexOf_4cfef_4 : decode cJ1_indexOf_4cfef 4 = .ok (.ifCond .ne 5, 3) := by decide +kernel
theorem dJ1_indexOf_4cfef_7 : decode cJ1_indexOf_4cfef 7 = .ok (.iconst (-1), 1) := by decide +kernel
theorem dJ1_indexOf_4cfef_8 : decode cJ1_indexOf_4cfef 8 = .ok (.ireturn, 1) := by decide +kernel
theorem dJ1_indexOf_4cfef_9 : decode cJ1_indexOf_4cfef 9 = .ok (.iload_n 2, 1) := by decide +kernel
theorem dJ1_indexOf_4cfef_10 : decode cJ1_indexOf_4cfef 10 = .ok (.iconst 0, 1) := by decide +kernel
theorem dJ1_indexOf_4cfef_11 : decode cJ1_indexOf_4cfef 11 = .ok (.invokestatic 92, 3) := by decide +kernel
theorem dJ1_indexOf_4cfef_14 : decode cJ1_indexOf_4cfef 14 = .ok (.istore_n 2, 1) := by decide +kernel
theorem dJ1_indexOf_4cfef_15 : decode cJ1_indexOf_4cfef 15 = .ok (.iload_n 3, 1) := by decide +kernel
theorem dJ1_indexOf_4cfef_16 : decode cJ1_indexOf_4cfef 16 = .ok (.aload_n 0, 1) := by decide +kernel
theorem dJ1_indexOf_4cfef_17 : decode cJ1_indexOf_4cfef 17 = .ok (.arraylength, 1) := by decide +kernel
theorem dJ1_indexOf_4cfef_18 : decode cJ1_indexOf_4cfef 18 = .ok (.invokestatic 38, 3) := by decide +kernel
theorem dJ1_indexOf_4cfef_21 : decode cJ1_indexOf_4cfef 21 = .ok (.istore_n 3, 1) := by decide +kernel
theorem dJ1_indexOf_4cfef_22 : decode cJ1_indexOf_4cfef 22 = .ok (.iload_n 2, 1) := by decide +kernel
theorem dJ1_indexOf_4cfef_23 : decode cJ1_indexOf_4cfef 23 = .ok (.iload_n 3, 1) := by decide +kernel
theorem dJ1_indexOf_4cfef_24 : decode cJ1_indexOf_4cfef 24 = .ok (.if_icmp .lt 5, 3) := by decide +kernel
theorem dJ1_indexOf_4cfef_27 : decode cJ1_indexOf_4cfef 27 = .ok (.iconst (-1), 1) := by decide +kernel
theorem dJ1_indexOf_4cfef_28 : decode cJ1_indexOf_4cfef 28 = .ok (.ireturn, 1) := by decide +kernel
theorem dJ1_indexOf_4cfef_29 : decode cJ1_indexOf_4cfef 29 = .ok (.aload_n 0, 1) := by decide +kernel
theorem dJ1_indexOf_4cfef_30 : decode cJ1_indexOf_4cfef 30 = .ok (.iload_n 1, 1) := by decide +kernel
theorem dJ1_indexOf_4cfef_31 : decode cJ1_indexOf_4cfef 31 = .ok (.iload_n 2, 1) := by decide +kernel
theorem dJ1_indexOf_4cfef_32 : decode cJ1_indexOf_4cfef 32 = .ok (.iload_n 3, 1) := by decide +kernel
theorem dJ1_indexOf_4cfef_33 : decode cJ1_indexOf_4cfef 33 = .ok (.invokestatic 95, 3) := by decide +kernel
theorem dJ1_indexOf_4cfef_36 : decode cJ1_indexOf_4cfef 36 = .ok (.ireturn, 1) := by decide +kernel
set_option maxRecDepth 100000 in
set_option maxHeartbeats 4000000 in
theorem k_indexOf1 {G : am_G} (hK : k_OK G) {d : Nat} (hd : 2 ≤ d) {sh : List (Nat ⊕ (Nat × Nat))} {I : Nat → Nat → Int32} {R : Nat → Nat → Option Nat} {L : Nat → Nat → Int64} {g : Nat} {j : Nat} {bs : List Int32} (ht : k_tx G j bs) (c x y : Int32) (hc : 0 ≤ c ∧ c < 128) (hx0 : x = 0) (hy0 : y = nI bs.length) (h1b : 1 ≤ bs.length) : AM G mJ1_indexOf_4cfef d [.ref (1000000 + (1000000 + j)), .int c, .int x, .int y] (sh, I, R, L, g) (fun v w => v = some (.int (f_ix bs c)) ∧ w = (sh, I, R, L, g)) (fun _ _ => False) := by
  have hG := hK.1
  have hL := ht.2.1
  refine AM.of (n := 0) (by decide +kernel) (Nat.le_of_ble_eq_true rfl) ?_
  show AW G mJ1_indexOf_4cfef d (fun v w => v = some (.int (f_ix bs c)) ∧ w = (sh, I, R, L, g)) (fun _ _ => False) 0 [some (.ref (1000000 + (1000000 + j))), some (.int c), some (.int x), some (.int y)] [] (sh, I, R, L, g) 0 0
  refine AW.iload_n dJ1_indexOf_4cfef_0 rfl ?_
  refine AW.callS (As := [.int c]) hG.2.2 (vJ1_88 hG) (k_canEncode hK (d := 0) (Nat.le_refl _) c hc) (by omega) dJ1_indexOf_4cfef_1 rfl rfl (Nat.le_of_ble_eq_true rfl) (fun v w9 hq9 h09 => by obtain ⟨rfl, rfl⟩ := hq9; exact ⟨h09, rfl⟩) (by decide) (by decide) (fun _ _ hx => hx) (fun v1 w1 hq1 => ?_)
  obtain ⟨rfl, rfl⟩ := hq1
  refine AW.nam (fun x1 ex1 => ?_)
  refine AW.if_ne 9 dJ1_indexOf_4cfef_4 (by decide) (fun h4 => ?_) (fun h4 => ?_)
  · refine AW.iload_n dJ1_indexOf_4cfef_9 rfl ?_
    refine AW.iconst 0 dJ1_indexOf_4cfef_10 (by decide) ?_
    refine AW.mmax (k_c hG 976 (by decide +kernel) (by decide +kernel)) (k_mmax hG) dJ1_indexOf_4cfef_11 (by omega) (Nat.le_of_ble_eq_true rfl) (by decide) (by decide) ?_
    refine AW.nam (fun x14 ex14 => ?_)
    refine AW.is_n [some (.ref (1000000 + (1000000 + j))), some (.int c), some (.int x14), some (.int y)] dJ1_indexOf_4cfef_14 (by decide) rfl rfl ?_
    have hx14 : x14 = 0 := by rw [ex14, hx0]; rfl
    refine AW.iload_n dJ1_indexOf_4cfef_15 rfl ?_
    refine AW.aload_n dJ1_indexOf_4cfef_16 rfl ?_
    refine AW.xlen ht dJ1_indexOf_4cfef_17 ?_
    refine AW.mmin (k_c hG 977 (by decide +kernel) (by decide +kernel)) (k_mmin hG) dJ1_indexOf_4cfef_18 (by omega) (Nat.le_of_ble_eq_true rfl) (by decide) (by decide) ?_
    refine AW.nam (fun x21 ex21 => ?_)
    refine AW.is_n [some (.ref (1000000 + (1000000 + j))), some (.int c), some (.int x14), some (.int x21)] dJ1_indexOf_4cfef_21 (by decide) rfl rfl ?_
    have hx21 : x21 = nI bs.length := by rw [ex21, hy0]; split <;> rfl
    refine AW.iload_n dJ1_indexOf_4cfef_22 rfl ?_
    refine AW.iload_n dJ1_indexOf_4cfef_23 rfl ?_
    refine AW.icmp_lt 29 dJ1_indexOf_4cfef_24 (by decide) (fun h24 => ?_) (fun h24 => ?_)
    · refine AW.aload_n dJ1_indexOf_4cfef_29 rfl ?_
      refine AW.iload_n dJ1_indexOf_4cfef_30 rfl ?_
      refine AW.iload_n dJ1_indexOf_4cfef_31 rfl ?_
      refine AW.iload_n dJ1_indexOf_4cfef_32 rfl ?_
      refine AW.callS (As := [.ref (1000000 + (1000000 + j)), .int c, .int x14, .int x21]) hG.2.2 (vJ1_95 hG) (k_indexOfChar hK (d := 0) (Nat.le_refl _) ht c x14 x21 hc (by assumption) (by assumption)) (by omega) dJ1_indexOf_4cfef_33 rfl rfl (Nat.le_of_ble_eq_true rfl) (fun v w9 hq9 h09 => by obtain ⟨rfl, rfl⟩ := hq9; exact ⟨h09, rfl⟩) (by decide) (by decide) (fun _ _ hx => hx) (fun v33 w33 hq33 => ?_)
      obtain ⟨rfl, rfl⟩ := hq33
      refine AW.nam (fun x33 ex33 => ?_)
      exact AW.iret dJ1_indexOf_4cfef_36 rfl (by decide) (by decide) (⟨by rw [ex33], rfl⟩)
    · exact absurd (by rw [hx14, hx21]; exact (nI_ltI (a := 0) (b := bs.length) (by decide) (by omega)).mpr h1b) h24
  · exact absurd (ex1.symm.trans h4) (by decide)
theorem dJ0_indexOf_7cf53_0 : decode cJ0_indexOf_7cf53 0 = .ok (.aload_n 0, 1) := by decide +kernel
theorem dJ0_indexOf_7cf53_1 : decode cJ0_indexOf_7cf53 1 = .ok (.invokevirtual 492, 3) := by decide +kernel
theorem dJ0_indexOf_7cf53_4 : decode cJ0_indexOf_7cf53 4 = .ok (.ifCond .eq 19, 3) := by decide +kernel
theorem dJ0_indexOf_7cf53_7 : decode cJ0_indexOf_7cf53 7 = .ok (.aload_n 0, 1) := by decide +kernel
theorem dJ0_indexOf_7cf53_8 : decode cJ0_indexOf_7cf53 8 = .ok (.getfield 9, 3) := by decide +kernel
theorem dJ0_indexOf_7cf53_11 : decode cJ0_indexOf_7cf53 11 = .ok (.iload_n 1, 1) := by decide +kernel
theorem dJ0_indexOf_7cf53_12 : decode cJ0_indexOf_7cf53 12 = .ok (.iload_n 2, 1) := by decide +kernel
theorem dJ0_indexOf_7cf53_13 : decode cJ0_indexOf_7cf53 13 = .ok (.aload_n 0, 1) := by decide +kernel
theorem dJ0_indexOf_7cf53_14 : decode cJ0_indexOf_7cf53 14 = .ok (.invokevirtual 505, 3) := by decide +kernel
theorem dJ0_indexOf_7cf53_17 : decode cJ0_indexOf_7cf53 17 = .ok (.invokestatic 637, 3) := by decide +kernel
theorem dJ0_indexOf_7cf53_20 : decode cJ0_indexOf_7cf53 20 = .ok (.goto 16, 3) := by decide +kernel
theorem dJ0_indexOf_7cf53_23 : decode cJ0_indexOf_7cf53 23 = .ok (.aload_n 0, 1) := by decide +kernel
theorem dJ0_indexOf_7cf53_24 : decode cJ0_indexOf_7cf53 24 = .ok (.getfield 9, 3) := by decide +kernel
theorem dJ0_indexOf_7cf53_27 : decode cJ0_indexOf_7cf53 27 = .ok (.iload_n 1, 1) := by decide +kernel
theorem dJ0_indexOf_7cf53_28 : decode cJ0_indexOf_7cf53 28 = .ok (.iload_n 2, 1) := by decide +kernel
theorem dJ0_indexOf_7cf53_29 : decode cJ0_indexOf_7cf53 29 = .ok (.aload_n 0, 1) := by decide +kernel
theorem dJ0_indexOf_7cf53_30 : decode cJ0_indexOf_7cf53 30 = .ok (.invokevirtual 505, 3) := by decide +kernel
theorem dJ0_indexOf_7cf53_33 : decode cJ0_indexOf_7cf53 33 = .ok (.invokestatic 640, 3) := by decide +kernel
theorem dJ0_indexOf_7cf53_36 : decode cJ0_indexOf_7cf53 36 = .ok (.ireturn, 1) := by decide +kernel
set_option maxRecDepth 100000 in
set_option maxHeartbeats 4000000 in
theorem k_indexOf2 {G : am_G} (hK : k_OK G) {d : Nat} (hd : 3 ≤ d) {sh : List (Nat ⊕ (Nat × Nat))} {I : Nat → Nat → Int32} {R : Nat → Nat → Option Nat} {L : Nat → Nat → Int64} {g : Nat} {j : Nat} {bs : List Int32} (ht : k_tx G j bs) (c : Int32) (hc : 0 ≤ c ∧ c < 128) (h1b : 1 ≤ bs.length) : AM G mJ0_indexOf_7cf53 d [.ref (1000000 + j), .int c, .int 0] (sh, I, R, L, g) (fun v w => v = some (.int (f_ix bs c)) ∧ w = (sh, I, R, L, g)) (fun _ _ => False) := by
  have hG := hK.1
  refine AM.of (n := 0) (by decide +kernel) (Nat.le_of_ble_eq_true rfl) ?_
  show AW G mJ0_indexOf_7cf53 d (fun v w => v = some (.int (f_ix bs c)) ∧ w = (sh, I, R, L, g)) (fun _ _ => False) 0 [some (.ref (1000000 + j)), some (.int c), some (.int 0)] [] (sh, I, R, L, g) 0 0
  refine AW.aload_n dJ0_indexOf_7cf53_0 rfl ?_
  refine AW.callX (As := []) hG.2.2 (vJ0_492 hG) ht (k_isLatin1 hK (d := 0) (Nat.le_refl _) ht) (by omega) dJ0_indexOf_7cf53_1 rfl rfl (Nat.le_of_ble_eq_true rfl) (fun v w9 hq9 h09 => by obtain ⟨rfl, rfl⟩ := hq9; exact ⟨h09, rfl⟩) (by decide) (by decide) (fun _ _ hx => hx) (fun v1 w1 hq1 => ?_)
  obtain ⟨rfl, rfl⟩ := hq1
  refine AW.nam (fun x1 ex1 => ?_)
  refine AW.if_eq 23 dJ0_indexOf_7cf53_4 (by decide) (fun h4 => ?_) (fun h4 => ?_)
  · exact absurd (ex1.symm.trans h4) (by decide)
  · refine AW.aload_n dJ0_indexOf_7cf53_7 rfl ?_
    refine AW.xgV hG ht rfl dJ0_indexOf_7cf53_8 ?_
    refine AW.iload_n dJ0_indexOf_7cf53_11 rfl ?_
    refine AW.iload_n dJ0_indexOf_7cf53_12 rfl ?_
    refine AW.aload_n dJ0_indexOf_7cf53_13 rfl ?_
    refine AW.callX (As := []) hG.2.2 (vJ0_505 hG) ht (k_length hK (d := 1) (Nat.le_refl _) ht) (by omega) dJ0_indexOf_7cf53_14 rfl rfl (Nat.le_of_ble_eq_true rfl) (fun v w9 hq9 h09 => by obtain ⟨rfl, rfl⟩ := hq9; exact ⟨h09, rfl⟩) (by decide) (by decide) (fun _ _ hx => hx) (fun v14 w14 hq14 => ?_)
    obtain ⟨rfl, rfl⟩ := hq14
    refine AW.nam (fun x14 ex14 => ?_)
    refine AW.callS (As := [.ref (1000000 + (1000000 + j)), .int c, .int 0, .int x14]) hG.2.2 (vJ0_637 hG) (k_indexOf1 hK (d := 2) (Nat.le_refl _) ht c 0 x14 hc rfl (by assumption) h1b) (by omega) dJ0_indexOf_7cf53_17 rfl rfl (Nat.le_of_ble_eq_true rfl) (fun v w9 hq9 h09 => by obtain ⟨rfl, rfl⟩ := hq9; exact ⟨h09, rfl⟩) (by decide) (by decide) (fun _ _ hx => hx) (fun v17 w17 hq17 => ?_)
    obtain ⟨rfl, rfl⟩ := hq17
    refine AW.nam (fun x17 ex17 => ?_)
    refine AW.goto 36 dJ0_indexOf_7cf53_20 (by decide) ?_
    exact AW.iret dJ0_indexOf_7cf53_36 rfl (by decide) (by decide) (⟨by rw [ex17], rfl⟩)
theorem dJ0_indexOf_0f7a4_0 : decode cJ0_indexOf_0f7a4 0 = .ok (.aload_n 0, 1) := by decide +kernel
theorem dJ0_indexOf_0f7a4_1 : decode cJ0_indexOf_0f7a4 1 = .ok (.iload_n 1, 1) := by decide +kernel
theorem dJ0_indexOf_0f7a4_2 : decode cJ0_indexOf_0f7a4 2 = .ok (.iconst 0, 1) := by decide +kernel
theorem dJ0_indexOf_0f7a4_3 : decode cJ0_indexOf_0f7a4 3 = .ok (.invokevirtual 633, 3) := by decide +kernel
theorem dJ0_indexOf_0f7a4_6 : decode cJ0_indexOf_0f7a4 6 = .ok (.ireturn, 1) := by decide +kernel
set_option maxRecDepth 100000 in
set_option maxHeartbeats 4000000 in
theorem k_indexOf0 {G : am_G} (hK : k_OK G) {d : Nat} (hd : 4 ≤ d) {sh : List (Nat ⊕ (Nat × Nat))} {I : Nat → Nat → Int32} {R : Nat → Nat → Option Nat} {L : Nat → Nat → Int64} {g : Nat} {j : Nat} {bs : List Int32} (ht : k_tx G j bs) (c : Int32) (hc : 0 ≤ c ∧ c < 128) (h1b : 1 ≤ bs.length) : AM G mJ0_indexOf_0f7a4 d [.ref (1000000 + j), .int c] (sh, I, R, L, g) (fun v w => v = some (.int (f_ix bs c)) ∧ w = (sh, I, R, L, g)) (fun _ _ => False) := by
  have hG := hK.1
  refine AM.of (n := 0) (by decide +kernel) (Nat.le_of_ble_eq_true rfl) ?_
  show AW G mJ0_indexOf_0f7a4 d (fun v w => v = some (.int (f_ix bs c)) ∧ w = (sh, I, R, L, g)) (fun _ _ => False) 0 [some (.ref (1000000 + j)), some (.int c)] [] (sh, I, R, L, g) 0 0
  refine AW.aload_n dJ0_indexOf_0f7a4_0 rfl ?_
  refine AW.iload_n dJ0_indexOf_0f7a4_1 rfl ?_
  refine AW.iconst 0 dJ0_indexOf_0f7a4_2 (by decide) ?_
  refine AW.callX (As := [.int c, .int 0]) hG.2.2 (vJ0_633 hG) ht (k_indexOf2 hK (d := 3) (Nat.le_refl _) ht c hc h1b) (by omega) dJ0_indexOf_0f7a4_3 rfl rfl (Nat.le_of_ble_eq_true rfl) (fun v w9 hq9 h09 => by obtain ⟨rfl, rfl⟩ := hq9; exact ⟨h09, rfl⟩) (by decide) (by decide) (fun _ _ hx => hx) (fun v3 w3 hq3 => ?_)
  obtain ⟨rfl, rfl⟩ := hq3
  refine AW.nam (fun x3 ex3 => ?_)
  exact AW.iret dJ0_indexOf_0f7a4_6 rfl (by decide) (by decide) (⟨by rw [ex3], rfl⟩)
