/-! PURE: QUESTIONS, BOTH WORLDS -/
theorem z_lfC {α : Type} {g g' : Nat → α → α} {a : α} {n : Nat} (h : ∀ k b, k < n → g k b = g' k b) : lfold g a n = lfold g' a n := by
  induction n with
  | zero => rfl
  | succ n ih =>
    show g n (lfold g a n) = g' n (lfold g' a n)
    rw [ih (fun k b hk => h k b (by omega)), h n _ (by omega)]
theorem z_cb_c {ct ct' cu : Nat → Int32} {m : Nat} (h : ∀ l, l < m → ct l = ct' l) : f_cb ct cu m = f_cb ct' cu m := z_lfC fun k b hk => by rw [h k hk]
theorem z_ub_c {ct ct' : Nat → Int32} {m : Nat} (h : ∀ l, l < m → ct l = ct' l) : f_ub ct m = f_ub ct' m := z_lfC fun k b hk => by rw [h k hk]
/-- the class has looked, X is the world behind it; the reference clears its code -/
theorem z_pre {I X : g_I} {t : Nat} {T : x_T} (ht3 : t = 3 ∨ t = 22) (hS : z_sim I t T) (hX : X = f_look I 90 t 47 T.1.length T.2.1.length) : z_sim (am_up X 101 2 0) t T ∧ z_KR T (am_up X 101 2 0 114) (am_up X 101 2 0 101 30) (X 91) ∧ (∀ l, l < T.2.1.length → X 92 l = z_cu T (am_up X 101 2 0 114) (am_up X 101 2 0 101 30) l) ∧ ∀ l, l < T.2.1.length → I 49 l = am_up X 101 2 0 118 l := by
  have hD := z_sim_D hS
  have ho : ∀ a, a ≠ 91 → a ≠ 92 → X a = I a := fun a h1 h2 => by rw [hX]; exact f_look_K _ _ _ _ h1 h2
  have e114 : am_up X 101 2 0 114 = I 114 := by rw [am_up_o _ _ _ _ (show 114 ≠ 101 by decide), ho 114 (by decide) (by decide)]
  have e118 : am_up X 101 2 0 118 = I 118 := by rw [am_up_o _ _ _ _ (show 118 ≠ 101 by decide), ho 118 (by decide) (by decide)]
  have e30 : am_up X 101 2 0 101 30 = I 101 30 := by rw [up_ne (by decide), ho 101 (by decide) (by decide)]
  have hSX : z_sim X t T := by rw [hX]; exact z_sim_o hS (z_kRl ht3)
  have h91 := z_lk91 (m := T.2.1.length) hS.1.1 hS.2.1 hD
  have h92 := fun l (hl : l < T.2.1.length) => z_look92 hS.1 hS.2.1 hD hl
  rw [← hX] at h91
  refine ⟨z_sim_o hSX (z_kR2 (v := 0) ht3), ?_, fun l hl => ?_, fun l hl => ?_⟩
  · rw [e114, e30]; exact h91
  · rw [e114, e30]
    have := h92 l hl
    rw [← hX] at this
    exact this
  · rw [e118]; exact hD.2.2.2.1 l hl
theorem z_S_familiar {I X : g_I} {t : Nat} {T : x_T} (ht3 : t = 3 ∨ t = 22) (hS : z_sim I t T) (hX : X = f_look I 90 t 47 T.1.length T.2.1.length) : ∃ J, b_X11_familiar X = some (f_fm (X 91) (nI (2 ^ T.1.length - 1)) T.1.length, J) ∧ z_sim J t T ∧ J 101 2 = 0 := by
  obtain ⟨p1, p3, p4, p5⟩ := z_pre ht3 hS hX
  refine ⟨am_up X 101 2 0, ?_, p1, up_eq⟩
  unfold b_X11_familiar
  rw [z_gl]
  exact z_fm hS.1 p1.2.2.1 p3 _
theorem z_S_ring {I X : g_I} {t : Nat} {T : x_T} (ht3 : t = 3 ∨ t = 22) (hS : z_sim I t T) (hX : X = f_look I 90 t 47 T.1.length T.2.1.length) : ∃ J, b_X11_ring X = some (f_rg (X 91) T.1.length (2 ^ T.1.length), J) ∧ z_sim J t T ∧ J 101 2 = 0 := by
  obtain ⟨p1, p3, p4, p5⟩ := z_pre ht3 hS hX
  refine ⟨am_up X 101 2 0, ?_, p1, up_eq⟩
  unfold b_X11_ring
  rw [z_gl]
  exact z_ring hS.1 p1.2.2.1 p3 _
theorem z_S_help {I X : g_I} {t : Nat} {T : x_T} (ht3 : t = 3 ∨ t = 22) (hS : z_sim I t T) (hX : X = f_look I 90 t 47 T.1.length T.2.1.length) : ∃ J, b_X11_help X = some (f_hp (f_ub (I 49) T.2.1.length) (X 92) T.2.1.length (2 ^ T.2.1.length), J) ∧ z_sim J t T ∧ J 101 2 = 0 := by
  obtain ⟨p1, p3, p4, p5⟩ := z_pre ht3 hS hX
  obtain ⟨J, e, k1, k2⟩ := z_help hS.1 p1.2.2.1 p4 (fun (a10 : Int32) (I11 : g_I) => some (a10, I11))
  refine ⟨J, ?_, z_sim_o p1 ⟨fun a ha => k1 a ?_ ?_, fun k hk => k2 k ?_, fun k _ => by rw [k1 114 (by decide) (by decide)], by rw [k1 0 (by decide) (by decide)], by rw [k1 0 (by decide) (by decide)], by rw [k1 0 (by decide) (by decide)], by rw [k1 1 (by decide) (by decide)]⟩, by rw [k2 2 (by decide)]; exact up_eq⟩
  · unfold b_X11_help
    rw [z_gl, z_ub_c p5]
    exact e
  · unfold z_rel at ha; omega
  · unfold z_rel at ha; omega
  · unfold z_rsl at hk; omega
theorem z_S_doors {I X : g_I} {t : Nat} {T : x_T} (ht3 : t = 3 ∨ t = 22) (hS : z_sim I t T) (hX : X = f_look I 90 t 47 T.1.length T.2.1.length) : ∃ J, b_X11_doors X = some (f_dr (I (t + 2)) (X 92) (f_cb (I 49) (X 92) T.2.1.length) T.1.length T.2.1.length 1024, J) ∧ z_sim J t T ∧ J 101 2 = 0 := by
  obtain ⟨p1, p3, p4, p5⟩ := z_pre ht3 hS hX
  refine ⟨am_up X 101 2 0, ?_, p1, up_eq⟩
  unfold b_X11_doors
  rw [z_gl, z_cb_c p5]
  exact z_doors hS.1 p1.2.2.1 (fun k hk => (hS.2.1.1.2.2 k hk).2.1) p4 _
