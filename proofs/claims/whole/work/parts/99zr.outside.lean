/-! THE LAUNCH'S OWN G: what stands outside stays -/
def kG (l : Launch) (sa : Nat → Nat) (h : Nat) (D : va_G) (cy : Nat → ClassId) (O : State → Heap → Prop) : am_G := ((l, vwCl, k_Ts, O), h, sa, D, cy)
def kN (w : Cond) : Bool := match w with
  | .methodLinkNest _ _ _ _ => true
  | .declares _ => true
  | _ => false
theorem kN_warm {w : Cond} {s U : State} (hw : kN w = true) (hW : s.WarmedH U.vm) (h : va_Nw w s) : va_Nw w U := by
  unfold kN at hw
  split at hw
  · exact va_Nw.warmM hW h
  · exact va_Nw.warmD hW h
  · cases hw
theorem k_P_keep {l : Launch} {sa : Nat → Nat} {h : Nat} {D : va_G} {cy : Nat → ClassId} {O : State → Heap → Prop} {s U : State} {H H1 : Heap} (hP : k_P (kG l sa h D cy O) s H) (hW : s.WarmedH U.vm) (hq : ∀ a : Nat, a < H.size → ¬ am_A (kG l sa h D cy O) a → H1[a]? = H[a]?) : k_P (kG l sa h D cy O) U H1 := by
  obtain ⟨p1, p2, p3, p4, p5, p6, p7, p8⟩ := hP
  have hv := hW.alike
  refine ⟨fun w hw => kN_warm ((by decide +kernel : ∀ w ∈ k_nl, kN w = true) w hw) hW (p1 w hw), fun q hq9 => ?_, va_Nw.warmC hW p3, va_Nw.warmC hW p4, vx_Zq.moved hv (p5.kept hq), vx_Zq.moved hv (p6.kept hq), va_Z.moved hv (p7.kept hq), p8.imp (fun h => va_Z.moved hv (h.kept hq)) (fun h => va_Z.moved hv (h.kept hq))⟩
  obtain ⟨a1, a2, a3, a4, a5⟩ := p2 q hq9
  exact ⟨vk_R.warm hW a1, va_O.moved hv (a2.kept hq), va_OF.moved hv (a3.kept hq), va_OF.moved hv (a4.kept hq), va_T.moved hv (a5.kept hq)⟩
def k_O (l : Launch) (sa : Nat → Nat) (h : Nat) (D : va_G) (cy : Nat → ClassId) (n : Nat) (xs : Nat → Int32) : State → Heap → Prop := fun U H => k_P (kG l sa h D cy (fun _ _ => True)) U H ∧ va_AO "java/lang/String" U ∧ va_Nc nmI nmS U ∧ va_X (sa 3000000) n xs U H ∧ ¬ h ≤ sa 3000000
def k_G (l : Launch) (sa : Nat → Nat) (h : Nat) (D : va_G) (cy : Nat → ClassId) (n : Nat) (xs : Nat → Int32) : am_G := kG l sa h D cy (k_O l sa h D cy n xs)
theorem k_Ts_good : ∀ w ∈ k_Ts, (w.onTables && w.keeps) = true ∨ ∃ ty, w = .arrayClass ty := fun w hw => good_of_word (List.mem_filter.mp hw).2
theorem k_G_ok {l : Launch} {sa : Nat → Nat} {h : Nat} {D : va_G} {cy : Nat → ClassId} {n : Nat} {xs : Nat → Int32} (hl : l.stackTraces = false) : k_OK (k_G l sa h D cy n xs) := by
  refine ⟨⟨rfl, rfl, ?_, k_Ts_good⟩, fun s H hO => hO.1, hl⟩
  intro s U H H1 hO hW hq
  obtain ⟨o1, o2, o3, o4, o5⟩ := hO
  refine ⟨k_P_keep o1 hW hq, va_AO.moved hW.alike o2, va_Nc.moved hW.alike o3, va_X.moved hW.alike (o4.kept ?_), o5⟩
  obtain ⟨scr, q1, -⟩ := o4
  exact hq _ (Array.getElem?_eq_some_iff.mp q1).1 o5
theorem k_G_A {l : Launch} {sa : Nat → Nat} {h : Nat} {D : va_G} {cy : Nat → ClassId} {n : Nat} {xs : Nat → Int32} : ∀ s H, am_O (k_G l sa h D cy n xs) s H → va_AO "java/lang/String" s := fun _ _ hO => hO.2.1
theorem k_G_N {l : Launch} {sa : Nat → Nat} {h : Nat} {D : va_G} {cy : Nat → ClassId} {n : Nat} {xs : Nat → Int32} : ∀ s H, am_O (k_G l sa h D cy n xs) s H → va_Nc nmI nmS s := fun _ _ hO => hO.2.2.1
theorem k_G_X {l : Launch} {sa : Nat → Nat} {h : Nat} {D : va_G} {cy : Nat → ClassId} {n : Nat} {xs : Nat → Int32} : k_scr (k_G l sa h D cy n xs) n xs := fun _ _ hO => ⟨hO.2.2.2.1, hO.2.2.2.2⟩
/-- the walk from the law's entry, out of what stands there -/
theorem lw_walkG {l : Launch} {sa : Nat → Nat} {h : Nat} {D : va_G} {cy : Nat → ClassId} {n : Nat} {xs : Nat → Int32} (hl : l.stackTraces = false) (hn : n ≤ 3072) : AW (k_G l sa h D cy n xs) nL_law 200 (fun v _ => v = some (.int 1)) (fun _ _ => False) 0 [some (.ref (1000000 + 3000000)), none, none, none, none, none, none] [] ([], fun _ _ => 0, fun _ _ => none, fun _ _ => 0, 0) 0 0 :=
  lw_begin (k_G_ok hl) (k_XS_ok (k_G_ok hl)) k_G_A k_G_N k_G_X hn
