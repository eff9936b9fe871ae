/-! THE TEXT CONSTANTS AT THE LAW'S ENTRY -/
abbrev k_F : List Cond := flatC (Jvm.Cond.and given_1 narrow_1)
def k_stm (q : String × Nat × String × Nat × List Int32) : Term := .string q.1 q.2.1
def k_vt (q : String × Nat × String × Nat × List Int32) : Term := .field (k_stm q) "java/lang/String" "value" "[B"
def k_cq (q : String × Nat × String × Nat × List Int32) : List Cond := [.exactly (k_stm q) "java/lang/String", .eq (.field (k_stm q) "java/lang/String" "coder" "B") (.int 0), .arrayOf (k_vt q) .byte, .eq (.length (k_vt q)) (.int (Int32.ofNat q.2.2.2.2.length))] ++ (List.range q.2.2.2.2.length).map (fun j => .eq (.elem (k_vt q) (.int (Int32.ofNat j))) (.int (q.2.2.2.2.getD j 0)))
def k_pos : List Nat := [37, 71, 84, 93, 102, 110, 118, 126, 133, 143, 151, 159, 166, 175, 185, 193, 201, 211, 222, 229, 235, 252, 270, 298, 314, 340, 356, 373, 391, 418, 436, 462, 490, 516, 526, 536, 545, 554, 564, 575, 584, 593, 604, 616, 627, 636, 645, 653, 661, 668, 677]
def k_srp : List Nat := [898, 947, 1038, 1064, 1065, 1066, 1067, 1068, 1069, 1070, 1071, 1129, 1158, 1159, 1160, 1161, 1162, 1163, 1168, 1169, 1207, 1225, 1226, 1238, 1255, 1263, 1290, 1348, 1389, 1403, 1422, 1438, 1439, 1466, 1467, 1468, 1469, 1470, 1471, 1472, 1473, 1474, 1475, 1724, 1731, 1732, 1765, 1786, 1787, 1792, 1804]
abbrev k_q0 : String × Nat × String × Nat × List Int32 := ("", 0, "", 0, [])
set_option maxRecDepth 100000 in
theorem k_blk : ∀ i : Fin 51, (k_F.drop (k_pos.getD i.val 0)).take (k_cq (k_str.getD i.val k_q0)).length = k_cq (k_str.getD i.val k_q0) := by decide +kernel
set_option maxRecDepth 100000 in
theorem k_srw : ∀ i : Fin 51, lw_tbl[k_srp.getD i.val 0]? = some (.stringRef (k_str.getD i.val k_q0).1 (k_str.getD i.val k_q0).2.1 (k_str.getD i.val k_q0).2.2.1) := by decide +kernel
theorem k_sno : ∀ i : Fin 51, (k_str.getD i.val k_q0).2.2.2.1 = i.val ∧ (k_str.getD i.val k_q0).2.2.2.2.length < 2 ^ 31 := by decide +kernel
theorem k_sln : k_str.length = 51 := by decide +kernel
def k_tq (q : String × Nat × String × Nat × List Int32) (A : Nat → Prop) (s : State) (p : Nat × Nat) : Prop := vk_R q.1 q.2.1 q.2.2.1 p.1 s ∧ va_O "java/lang/String" p.1 A s s.heap ∧ va_OF "java/lang/String" "coder" "B" (.int 0) p.1 A s s.heap ∧ va_OF "java/lang/String" "value" "[B" (.ref p.2) p.1 A s s.heap ∧ va_T .byte p.2 q.2.2.2.2.length (fun j => .int (q.2.2.2.2.getD j 0)) A s s.heap
theorem k_txt {args : Array Value} {s : State} {A : Nat → Prop} (hA : ∀ a : Nat, a < s.heap.size → ¬ A a) (hF : ∀ c ∈ k_F, c.before args s = true) (hT : ∀ w ∈ lw_tbl, w.before args s = true) (i : Nat) (hi : i < 51) : ∃ p : Nat × Nat, k_tq (k_str.getD i k_q0) A s p := by
  have hb := k_blk ⟨i, hi⟩
  have hw := k_srw ⟨i, hi⟩
  have hn := (k_sno ⟨i, hi⟩).2
  generalize k_str.getD i k_q0 = q at hb hw hn ⊢
  have hc : ∀ c ∈ k_cq q, c.before args s = true := fun c h => hF c (List.mem_of_mem_drop (List.mem_of_mem_take (by rw [hb]; exact h)))
  have h1 : (Cond.exactly (k_stm q) "java/lang/String").before args s = true := hc _ (by simp [k_cq])
  have h2 : (Cond.eq (.field (k_stm q) "java/lang/String" "coder" "B") (.int 0)).before args s = true := hc _ (by simp [k_cq])
  have h3 : (Cond.arrayOf (k_vt q) .byte).before args s = true := hc _ (by simp [k_cq])
  have h4 : (Cond.eq (.length (k_vt q)) (.int (Int32.ofNat q.2.2.2.2.length))).before args s = true := hc _ (by simp [k_cq])
  have h5 : ∀ j : Nat, j < q.2.2.2.2.length → (Cond.eq (.elem (k_vt q) (.int (Int32.ofNat j))) (.int (q.2.2.2.2.getD j 0))).before args s = true := fun j hj => hc _ (List.mem_append_right _ (List.mem_map.mpr ⟨j, List.mem_range.mpr hj, rfl⟩))
  obtain ⟨a, c, cA, kA, q1, q2, q3, q4, q5, q6, -⟩ := Cond.exactly_spec (args := args) (first := s) (o := none) (s := s) (idx := []) (t := k_stm q) (cls := "java/lang/String") h1
  obtain ⟨t, ht, hTt⟩ := va_Tof (f := fun j => .int (q.2.2.2.2.getD j 0)) (A := A) hn h3 (va_eqt h4) (fun j hj => va_eqt (h5 j hj)) hA
  exact ⟨(a, t), vk_R.of (hT _ (List.mem_of_getElem? hw)) q1, ⟨cA, q3, q5, by rw [q6]; exact q2, hA a (Array.getElem?_eq_some_iff.mp q3).1⟩, vk_OFof q1 (va_eqt h2) hA, vk_OFof q1 ht hA, hTt⟩
theorem k_txts {args : Array Value} {s : State} {A : Nat → Prop} (hA : ∀ a : Nat, a < s.heap.size → ¬ A a) (hF : ∀ c ∈ k_F, c.before args s = true) (hT : ∀ w ∈ lw_tbl, w.before args s = true) : ∃ f : Nat → Nat × Nat, ∀ q ∈ k_str, q.2.2.2.1 < 51 ∧ k_tq q A s (f q.2.2.2.1) := by
  have h0 : ∀ i : Nat, ∃ p : Nat × Nat, i < 51 → k_tq (k_str.getD i k_q0) A s p := by
    intro i
    by_cases hi : i < 51
    · obtain ⟨p, hp⟩ := k_txt hA hF hT i hi
      exact ⟨p, fun _ => hp⟩
    · exact ⟨(0, 0), fun h => absurd h hi⟩
  refine ⟨fun i => Classical.choose (h0 i), fun q hq => ?_⟩
  obtain ⟨i, hi⟩ := List.getElem?_of_mem hq
  have hl : i < 51 := by
    have := (List.getElem?_eq_some_iff.mp hi).1
    rw [k_sln] at this
    exact this
  have e : k_str.getD i k_q0 = q := by simp [List.getD, hi]
  have e2 := (k_sno ⟨i, hl⟩).1
  have h9 := Classical.choose_spec (h0 i) hl
  subst e
  have e3 : (k_str.getD i k_q0).2.2.2.1 = i := e2
  rw [e3]
  exact ⟨hl, h9⟩
