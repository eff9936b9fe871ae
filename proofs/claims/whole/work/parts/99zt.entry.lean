/-! THE CLASSES AND THE ROWS AT THE LAW'S ENTRY -/
theorem k_kt {args : Array Value} {s : State} (hT : ∀ w ∈ lw_tbl, w.before args s = true) : ∀ w ∈ k_Ts, w.before args s = true := fun w hw => hT w (List.mem_filter.mp hw).1
theorem k_wd {args : Array Value} {s : State} (hT : ∀ w ∈ lw_tbl, w.before args s = true) {w : Cond} (i : Nat) (h : lw_tbl[i]? = some w) : w.before args s = true := hT w (List.mem_of_getElem? h)
theorem k_knd {args : Array Value} {s : State} (hT : ∀ w ∈ lw_tbl, w.before args s = true) (c : Nat) : ∃ p : ClassId × (Nat → Nat), ∀ q, vwCl[c]? = some q → u_Kn s q.1 q.2.1 q.2.2 p.1 p.2 := by
  by_cases hc : c < 12
  · have hk := k_kt hT
    rcases (show c = 0 ∨ c = 1 ∨ c = 2 ∨ c = 3 ∨ c = 4 ∨ c = 5 ∨ c = 6 ∨ c = 7 ∨ c = 8 ∨ c = 9 ∨ c = 10 ∨ c = 11 by omega) with rfl | rfl | rfl | rfl | rfl | rfl | rfl | rfl | rfl | rfl | rfl | rfl
    · obtain ⟨cC, iS, h⟩ := u_known (C := RX0) (T := TX0) (N := 12) hk k_inX0 (k_wd hT 450 (by decide +kernel) : (Cond.instantiable RX0 12).before args s = true)
      exact ⟨(cC, iS), fun q hq => by cases hq; exact h⟩
    · obtain ⟨cC, iS, h⟩ := u_known (C := RX1) (T := TX1) (N := 2) hk k_inX1 (k_wd hT 496 (by decide +kernel) : (Cond.instantiable RX1 2).before args s = true)
      exact ⟨(cC, iS), fun q hq => by cases hq; exact h⟩
    · obtain ⟨cC, iS, h⟩ := u_known (C := RX2) (T := TX2) (N := 5) hk k_inX2 (k_wd hT 360 (by decide +kernel) : (Cond.instantiable RX2 5).before args s = true)
      exact ⟨(cC, iS), fun q hq => by cases hq; exact h⟩
    · obtain ⟨cC, iS, h⟩ := u_known (C := RX3) (T := TX3) (N := 8) hk k_inX3 (k_wd hT 201 (by decide +kernel) : (Cond.instantiable RX3 8).before args s = true)
      exact ⟨(cC, iS), fun q hq => by cases hq; exact h⟩
    · obtain ⟨cC, iS, h⟩ := u_known (C := RX4) (T := TX4) (N := 9) hk k_inX4 (k_wd hT 348 (by decide +kernel) : (Cond.instantiable RX4 9).before args s = true)
      exact ⟨(cC, iS), fun q hq => by cases hq; exact h⟩
    · obtain ⟨cC, iS, h⟩ := u_known (C := RX5) (T := TX5) (N := 5) hk k_inX5 (k_wd hT 512 (by decide +kernel) : (Cond.instantiable RX5 5).before args s = true)
      exact ⟨(cC, iS), fun q hq => by cases hq; exact h⟩
    · obtain ⟨cC, iS, h⟩ := u_known (C := RX6) (T := TX6) (N := 11) hk k_inX6 (k_wd hT 152 (by decide +kernel) : (Cond.instantiable RX6 11).before args s = true)
      exact ⟨(cC, iS), fun q hq => by cases hq; exact h⟩
    · obtain ⟨cC, iS, h⟩ := u_known (C := RX7) (T := TX7) (N := 3) hk k_inX7 (k_wd hT 257 (by decide +kernel) : (Cond.instantiable RX7 3).before args s = true)
      exact ⟨(cC, iS), fun q hq => by cases hq; exact h⟩
    · obtain ⟨cC, iS, h⟩ := u_known (C := RX8) (T := TX8) (N := 6) hk k_inX8 (k_wd hT 354 (by decide +kernel) : (Cond.instantiable RX8 6).before args s = true)
      exact ⟨(cC, iS), fun q hq => by cases hq; exact h⟩
    · obtain ⟨cC, iS, h⟩ := u_known (C := RX9) (T := TX9) (N := 13) hk k_inX9 (k_wd hT 195 (by decide +kernel) : (Cond.instantiable RX9 13).before args s = true)
      exact ⟨(cC, iS), fun q hq => by cases hq; exact h⟩
    · obtain ⟨cC, iS, h⟩ := u_known (C := RX10) (T := TX10) (N := 13) hk k_inX10 (k_wd hT 144 (by decide +kernel) : (Cond.instantiable RX10 13).before args s = true)
      exact ⟨(cC, iS), fun q hq => by cases hq; exact h⟩
    · obtain ⟨cC, iS, h⟩ := u_known (C := RX11) (T := TX11) (N := 69) hk k_inX11 (k_wd hT 1459 (by decide +kernel) : (Cond.instantiable RX11 69).before args s = true)
      exact ⟨(cC, iS), fun q hq => by cases hq; exact h⟩
  · exact ⟨(0, fun _ => 0), fun q hq => by
      have h1 := (List.getElem?_eq_some_iff.mp hq).1
      have h2 : vwCl.length = 12 := rfl
      omega⟩
theorem k_arp {args : Array Value} {s : State} {ty : FieldType} (h : (Cond.arrayClass ty).before args s = true) (hr : ∀ (U : State) (cA : ClassId), U.vm.findClass ("[" ++ ty.toString) = some cA → va_RA U cA ty) : ∃ cA, ArrOfT s cA ty ∧ va_RA s cA ty := by
  obtain ⟨cA, kA, comp, h1, h2, h3⟩ := Cond.arrayClass_spec h
  exact ⟨cA, fun n z => ⟨fun k h => (by cases h), kA, h2, comp, h3⟩, hr s cA h1⟩
theorem k_aro {args : Array Value} {s : State} (h : (Cond.arrayOver (.object "java/lang/String")).before args s = true) : ∃ cA, ArrOfT s cA (.object "java/lang/String") ∧ va_RA s cA (.object "java/lang/String") := by
  obtain ⟨comp, c, k, h1, h2, h3, h4, h5⟩ := Cond.arrayOver_spec h
  exact ⟨c, fun n z => ⟨fun k h => (by cases h), k, h3, comp, h4⟩, k, comp, h3, h4, h1, h5⟩
theorem k_vaK {args : Array Value} {s : State} (hT : ∀ w ∈ lw_tbl, w.before args s = true) : ∃ (D : va_G) (cy : Nat → ClassId), ∀ (l : Launch) (sa : Nat → Nat) (h n : Nat) (xs : Nat → Int32), va_K D vwCl (am_tys (k_G l sa h D cy n xs)) s := by
  obtain ⟨c0, h0⟩ := k_arp (s := s) (ty := .int) (k_wd hT 255 (by decide +kernel)) (fun _ _ h => h)
  obtain ⟨c1, h1⟩ := k_arp (s := s) (ty := .byte) (k_wd hT 193 (by decide +kernel)) (fun _ _ h => h)
  obtain ⟨c2, h2⟩ := k_arp (s := s) (ty := .boolean) (k_wd hT 494 (by decide +kernel)) (fun _ _ h => h)
  obtain ⟨c3, h3⟩ := k_aro (s := s) (k_wd hT 1465 (by decide +kernel))
  obtain ⟨c4, h4⟩ := k_arp (s := s) (ty := .long) (k_wd hT 2108 (by decide +kernel)) (fun _ _ h => h)
  refine ⟨(fun c => (Classical.choose (k_knd hT c)).1, fun c => (Classical.choose (k_knd hT c)).2), fun t => [c0, c1, c2, c3, c4].getD t 0, fun l sa h n xs => ⟨fun c q hq => Classical.choose_spec (k_knd hT c) q hq, fun k q hk => ?_⟩⟩
  have hl : k < 5 := (List.getElem?_eq_some_iff.mp hk).1
  rcases (show k = 0 ∨ k = 1 ∨ k = 2 ∨ k = 3 ∨ k = 4 by omega) with rfl | rfl | rfl | rfl | rfl
  · cases hk; exact h0
  · cases hk; exact h1
  · cases hk; exact h2
  · cases hk; exact h3
  · cases hk; exact h4
