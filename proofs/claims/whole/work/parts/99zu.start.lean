/-! WHAT STANDS OUTSIDE AT THE LAW'S ENTRY -/
theorem k_fd {args : Array Value} {s : State} (hF : ∀ c ∈ k_F, c.before args s = true) {w : Cond} (i : Nat) (h : k_F[i]? = some w) : w.before args s = true := hF w (List.mem_of_getElem? h)
set_option maxRecDepth 100000 in
theorem k_nl_in : ∀ w ∈ k_nl, w ∈ lw_tbl ∧ w.onTables = true := by decide +kernel
theorem k_start {args : Array Value} {s : State} {b n : Nat} {xs : Nat → Int32} (hT : ∀ w ∈ lw_tbl, w.before args s = true) (hF : ∀ c ∈ k_F, c.before args s = true) (hX : va_X b n xs s s.heap) (hbl : b < s.heap.size) : ∃ sa : Nat → Nat, sa 3000000 = b ∧ ∀ (l : Launch) (D : va_G) (cy : Nat → ClassId), k_O l sa s.heap.size D cy n xs s s.heap := by
  have hA : ∀ a : Nat, a < s.heap.size → ¬ s.heap.size ≤ a := fun a h1 h2 => by omega
  obtain ⟨f, hf⟩ := k_txts (A := fun q => s.heap.size ≤ q) hA hF hT
  have hfm : ∃ t : Nat, va_Z "jdk/internal/util/Preconditions" "SIOOBE_FORMATTER" "Ljava/util/function/BiFunction;" .null (fun q => s.heap.size ≤ q) s s.heap ∨ va_Z "jdk/internal/util/Preconditions" "SIOOBE_FORMATTER" "Ljava/util/function/BiFunction;" (.ref t) (fun q => s.heap.size ≤ q) s s.heap := by
    rcases va_Zqof (A := fun q => s.heap.size ≤ q) (k_wd hT 1000 (by decide +kernel) : (Cond.laysStatic "jdk/internal/util/Preconditions" "SIOOBE_FORMATTER" "Ljava/util/function/BiFunction;").before args s = true) (k_wd hT 139 (by decide +kernel)) (k_fd hF 7 (by decide +kernel)) hA with h | ⟨t, h⟩
    · exact ⟨0, Or.inl h⟩
    · exact ⟨t, Or.inr h⟩
  obtain ⟨fm, hfm⟩ := hfm
  refine ⟨fun c => if c = 3000000 then b else if c = 2000000 then fm else if c < 1000000 then (f c).1 else (f (c - 1000000)).2, rfl, fun l D cy => ⟨⟨fun w hw => va_Nw.of (k_nl_in w hw).2 (hT w (k_nl_in w hw).1), fun q hq => ?_, va_Nw.of rfl (k_wd hT 860 (by decide +kernel)), va_Nw.of rfl (k_wd hT 1200 (by decide +kernel)), ?_, ?_, ?_, ?_⟩, ?_, ?_, hX, hA b hbl⟩⟩
  · obtain ⟨hj, h1, h2, h3, h4, h5⟩ := hf q hq
    have e1 : (if q.2.2.2.1 = 3000000 then b else if q.2.2.2.1 = 2000000 then fm else if q.2.2.2.1 < 1000000 then (f q.2.2.2.1).1 else (f (q.2.2.2.1 - 1000000)).2) = (f q.2.2.2.1).1 := by rw [if_neg (by omega), if_neg (by omega), if_pos (by omega)]
    have e2 : (if 1000000 + q.2.2.2.1 = 3000000 then b else if 1000000 + q.2.2.2.1 = 2000000 then fm else if 1000000 + q.2.2.2.1 < 1000000 then (f (1000000 + q.2.2.2.1)).1 else (f (1000000 + q.2.2.2.1 - 1000000)).2) = (f q.2.2.2.1).2 := by rw [if_neg (by omega), if_neg (by omega), if_neg (by omega), Nat.add_sub_cancel_left]
    unfold kG am_sa
    dsimp only
    rw [e1, e2]
    exact ⟨h1, h2, h3, h4, h5⟩
  · exact vx_Zqof (k_wd hT 885 (by decide +kernel)) (k_wd hT 132 (by decide +kernel)) (k_fd hF 4 (by decide +kernel)) hA
  · exact vx_Zqof (k_wd hT 887 (by decide +kernel)) (k_wd hT 132 (by decide +kernel)) (k_fd hF 5 (by decide +kernel)) hA
  · exact va_Zof (k_wd hT 961 (by decide +kernel)) (k_wd hT 136 (by decide +kernel)) (va_eqt (k_fd hF 6 (by decide +kernel))) hA
  · exact hfm
  · exact va_AO.of (k_wd hT 1465 (by decide +kernel))
  · exact va_Nc.of (k_fd hF 36 (by decide +kernel))
