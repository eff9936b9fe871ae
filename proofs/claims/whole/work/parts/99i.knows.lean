/-! PURE: KNOWS AND MAY, BOTH WORLDS -/
theorem z_simF {I : g_I} {t : Nat} {T : x_T} (ht3 : t = 3 ∨ t = 22) (hS : z_sim I t T) (v : Int32) : z_sim (am_up (am_up I 101 2 0) 101 2 v) t T := z_sim_o (z_sim_o hS (z_kR2 (v := 0) ht3)) (z_kR2 (v := v) ht3)
theorem z_S_knows {I X : g_I} {t : Nat} {T : x_T} (ht3 : t = 3 ∨ t = 22) (hS : z_sim I t T) (hX : X = f_look I 90 t 47 T.1.length T.2.1.length) {a b : Nat} (ha : a < T.1.length) (hb : b < T.1.length) : ∃ J, b_X11_knows X (nI a) (nI b) = some (decide (nI a = nI b) || f_has (X 91 a) (nI b), J) ∧ z_sim J t T ∧ J 101 2 = 0 := by
  obtain ⟨p1, p3, p4, p5⟩ := z_pre ht3 hS hX
  have h8 := hS.1.1.1
  have hR := p1.2.2.1
  refine ⟨am_up X 101 2 0, ?_, p1, up_eq⟩
  unfold b_X11_knows
  rw [z_gl, if_pos ((z_isP hR.1.1 h8 _).mpr ⟨a, ha, rfl⟩), if_pos ((z_isP hR.1.1 h8 _).mpr ⟨b, hb, rfl⟩), z_isKnown hS.1.1 hR.1 hR.2.2.1 ha hb]
  simp only [g_bind]
  by_cases e : a = b
  · rw [e, z_kn_self, decide_eq_true (show nI b = nI b from rfl)]; rfl
  · rw [z_hasK hS.1.1 p3 ha hb e, decide_eq_false (fun q => e ((nI_eq (by omega) (by omega)).mp q))]; rfl
theorem z_T_knows {I : g_I} {t : Nat} {T : x_T} (ht3 : t = 3 ∨ t = 22) (hS : z_sim I t T) {p q : Int32} (h : ¬ (k_is p T.1.length ∧ k_is q T.1.length)) : ∃ r J, b_X11_knows I p q = some (r, J) ∧ z_sim J t T ∧ J 101 2 = 1 := by
  have h8 := hS.1.1.1
  have hR := (z_sim_o hS (z_kR2 (v := 0) ht3)).2.2.1
  refine ⟨false, am_up (am_up I 101 2 0) 101 2 1, ?_, z_simF ht3 hS 1, up_eq⟩
  unfold b_X11_knows
  rw [z_gl]
  by_cases c1 : b_X11_isPerson (am_up I 101 2 0) p = true
  · rw [if_pos c1]
    by_cases c2 : b_X11_isPerson (am_up I 101 2 0) q = true
    · exact absurd ⟨(z_isP hR.1.1 h8 _).mp c1, (z_isP hR.1.1 h8 _).mp c2⟩ h
    · rw [if_neg c2]; rfl
  · rw [if_neg c1]; rfl
theorem z_S_may {I X : g_I} {t : Nat} {T : x_T} (ht3 : t = 3 ∨ t = 22) (hS : z_sim I t T) (hX : X = f_look I 90 t 47 T.1.length T.2.1.length) {a b : Nat} (ha : a < T.1.length) (hb : b < T.2.1.length) : ∃ J, b_X11_may X (nI a) (nI b) = some (f_hin X t T.1.length a b, J) ∧ z_sim J t T ∧ J 101 2 = 0 := by
  obtain ⟨p1, p3, p4, p5⟩ := z_pre ht3 hS hX
  have h8 := hS.1.1.1
  have h6 := hS.1.2.1.1
  have hR := p1.2.2.1
  have hD := z_sim_D p1
  have ho : ∀ a, a ≠ 91 → a ≠ 92 → X a = I a := fun a h1 h2 => by rw [hX]; exact f_look_K _ _ _ _ h1 h2
  have e47 : am_up X 101 2 0 47 = X 47 := am_up_o _ _ _ _ (by decide)
  have e49 : am_up X 101 2 0 (47 + 2) = X 49 := am_up_o _ _ _ _ (by decide)
  have d0 : X 47 0 = am_up X 101 2 0 101 30 := by have := hD.1; rw [← e47]; exact this
  have d1 : X 47 1 = am_up X 101 2 0 101 31 := by have := hD.2.1; rw [← e47]; exact this
  have d2 : X 49 b = am_up X 101 2 0 118 b := by have := hD.2.2.2.1 b hb; rw [← e49]; exact this
  have hTX : k_tw X t T := k_tw_o hS.2.1 fun a h1 h2 => ho a (by omega) (by omega)
  refine ⟨am_up X 101 2 0, ?_, p1, up_eq⟩
  unfold b_X11_may
  rw [z_gl, if_pos ((z_isP hR.1.1 h8 _).mpr ⟨a, ha, rfl⟩), if_pos ((z_isL hR.2.1.1 h6 _).mpr ⟨b, hb, rfl⟩), z_mayNow hS.1.1 hS.1.2.1 hR ha hb]
  simp only [g_bind]
  rw [z_hin hS.1.1 hS.1.2.1 hTX (by rw [d0]; exact p3) ha hb, d0, d1, d2]
theorem z_T_may {I : g_I} {t : Nat} {T : x_T} (ht3 : t = 3 ∨ t = 22) (hS : z_sim I t T) {p q : Int32} (h : ¬ (k_is p T.1.length ∧ k_is q T.2.1.length)) : ∃ r J, b_X11_may I p q = some (r, J) ∧ z_sim J t T ∧ J 101 2 = 1 := by
  have h8 := hS.1.1.1
  have h6 := hS.1.2.1.1
  have hR := (z_sim_o hS (z_kR2 (v := 0) ht3)).2.2.1
  refine ⟨0, am_up (am_up I 101 2 0) 101 2 1, ?_, z_simF ht3 hS 1, up_eq⟩
  unfold b_X11_may
  rw [z_gl]
  by_cases c1 : b_X11_isPerson (am_up I 101 2 0) p = true
  · rw [if_pos c1]
    by_cases c2 : b_X11_isLoaf (am_up I 101 2 0) q = true
    · exact absurd ⟨(z_isP hR.1.1 h8 _).mp c1, (z_isL hR.2.1.1 h6 _).mp c2⟩ h
    · rw [if_neg c2]; rfl
  · rw [if_neg c1]; rfl
