/-! PURE: WHY AND WHOM, THE REST -/
theorem z_S_why {I X : g_I} {t : Nat} {T : x_T} (ht3 : t = 3 ∨ t = 22) (hS : z_sim I t T) (hX : X = f_look I 90 t 47 T.1.length T.2.1.length) {b : Nat} (hb : b < T.2.1.length) {an : Int32} (h0 : ¬ an < 0) (h6' : an ≤ 6) : ∃ J, b_X11_why X (nI b) an = some (lfold (fun p a => if f_hin X t T.1.length p b = an then a ||| ((1 : Int32) <<< (nI p &&& 31)) else a) 0 T.1.length, J) ∧ z_sim J t T ∧ J 101 2 = 0 := by
  obtain ⟨p1, p3, p4, p5⟩ := z_pre ht3 hS hX
  have h8 := hS.1.1.1
  have h6 := hS.1.2.1.1
  have hR := p1.2.2.1
  have hD := z_sim_D p1
  have ho : ∀ a, a ≠ 91 → a ≠ 92 → X a = I a := fun a h1 h2 => by rw [hX]; exact f_look_K _ _ _ _ h1 h2
  have e47 : am_up X 101 2 0 47 = X 47 := am_up_o _ _ _ _ (by decide)
  have e49 : am_up X 101 2 0 (47 + 2) = X 49 := am_up_o _ _ _ _ (by decide)
  have d0 : X 47 0 = am_up X 101 2 0 101 30 := by have := hD.1; rw [← e47]; exact this
  have d1 : X 47 1 = am_up X 101 2 0 101 31 := by have := hD.2.1; rw [← e47]; exact this
  have d2 : X 49 b = am_up X 101 2 0 118 b := by have := hD.2.2.2.1 b hb; rw [← e49]; exact this
  have hTX : k_tw X t T := k_tw_o hS.2.1 fun a h1 h2 => ho a (by omega) (by omega)
  refine ⟨am_up X 101 2 0, ?_, p1, up_eq⟩
  unfold b_X11_why
  rw [z_gl, if_pos ((z_isL hR.2.1.1 h6 _).mpr ⟨b, hb, rfl⟩), if_pos (z_isIn.mpr (by
    rw [Int32.toInt_toInt64, show (0 : Int64).toInt = 0 by decide, show (6 : Int64).toInt = 6 by decide]
    rw [z_lI, show (0 : Int32).toInt = 0 by decide] at h0
    rw [z_leI, show (6 : Int32).toInt = 6 by decide] at h6'
    omega)), z_answering hS.1 hR hb]
  simp only [g_bind]
  congr 2
  refine z_lfC fun p c hp => ?_
  rw [z_hin hS.1.1 hS.1.2.1 hTX (by rw [d0]; exact p3) hp hb, d0, d1, d2]
theorem z_T_whom {I : g_I} {t : Nat} {T : x_T} (ht3 : t = 3 ∨ t = 22) (hS : z_sim I t T) {wh : Int32} (h : ¬ (wh = 0 ∨ wh = 1)) : ∃ r J, b_X11_whom I wh = some (r, J) ∧ z_sim J t T ∧ J 101 2 = 1 := by
  refine ⟨0, am_up (am_up I 101 2 0) 101 2 1, ?_, z_simF ht3 hS 1, up_eq⟩
  unfold b_X11_whom
  rw [z_gl]
  by_cases c1 : wh < 0
  · rw [if_pos c1]; rfl
  · rw [if_neg c1]
    by_cases c2 : wh ≤ 1
    · exfalso
      rw [z_lI, show (0 : Int32).toInt = 0 by decide] at c1
      rw [z_leI, show (1 : Int32).toInt = 1 by decide] at c2
      refine h ?_
      by_cases e : wh.toInt = 0
      · exact Or.inl (Int32.toInt_inj.mp (by rw [e]; rfl))
      · exact Or.inr (Int32.toInt_inj.mp (by rw [show wh.toInt = 1 by omega]; rfl))
    · rw [if_neg c2]; rfl
