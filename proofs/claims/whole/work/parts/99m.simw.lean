/-! PURE: THE LIKENESS, WHEN A ROW IS KEPT -/
/-- what is no part of the likeness may change, and the row kept in both -/
theorem z_sim_w {I J : g_I} {t : Nat} {T : x_T} (h : z_sim I t T) (ho : (∀ a, z_rel t a → a ≠ 89 → a ≠ 127 → J a = I a) ∧ (∀ k, z_rsl k → k ≠ 45 → J 101 k = I 101 k) ∧ (∀ k, k < 64 → J 114 k = I 114 k) ∧ J 0 3 = I 0 3 ∧ J 0 6 = I 0 6 ∧ J 1 1 = I 1 1) (ht3 : t = 3 ∨ t = 22) (hw9 : z_sW J T) : z_sim J t T := by
  obtain ⟨hW, hT, hR, hS, hC, hU, hP, hF, hw, hG, h9⟩ := h
  obtain ⟨o, os, o4, o3, o6, o1⟩ := ho
  have r0 : ∀ a, 41 ≤ a → a ≤ 78 → J a = I a := fun a h1 h2 => o a (Or.inr (Or.inr (Or.inl ⟨h1, h2⟩))) (by omega) (by omega)
  have r1 : ∀ a, 104 ≤ a → a ≤ 120 → a ≠ 114 → J a = I a := fun a h1 h2 h3 => o a (Or.inr (Or.inr (Or.inr (Or.inr (Or.inl ⟨h1, h2, h3⟩))))) (by omega) (by omega)
  have r2 : ∀ a, 131 ≤ a → a ≤ 143 → J a = I a := fun a h1 h2 => o a (Or.inr (Or.inr (Or.inr (Or.inr (Or.inr (Or.inr ⟨h1, h2⟩)))))) (by omega) (by omega)
  have r5 : J 2 = I 2 := o 2 (Or.inr (Or.inl rfl)) (by decide) (by decide)
  have s17 : J 101 17 = I 101 17 := os 17 (Or.inl rfl) (by decide)
  have s26 : J 101 26 = I 101 26 := os 26 (Or.inr (Or.inl rfl)) (by decide)
  have s30 : ∀ k, 30 ≤ k → k ≤ 34 → J 101 k = I 101 k := fun k h1 h2 => os k (Or.inr (Or.inr (Or.inl ⟨h1, h2⟩))) (by omega)
  have s57 : ∀ k, 57 ≤ k → k ≤ 60 → J 101 k = I 101 k := fun k h1 h2 => os k (Or.inr (Or.inr (Or.inr (Or.inr ⟨h1, h2⟩)))) (by omega)
  refine ⟨hW, k_tw_o hT (fun a h1 h2 => o a (Or.inl ⟨h1, h2⟩) (by omega) (by omega)), z_R_o hR (fun a h1 h2 h3 => r1 a h1 (by omega) h3), ?_, z_Cl_o hC (by rw [r0 41 (by omega) (by omega)]) (by rw [r0 41 (by omega) (by omega)]) (s30 33 (by omega) (by omega)) (s30 34 (by omega) (by omega)) (fun a h1 h2 => r0 a (by omega) (by omega)) (fun a h1 h2 => r2 a (by omega) (by omega)), fun k hk => ?_, ?_, ?_, ?_, ?_, z_s9_o h9 (s30 30 (by omega) (by omega)) (r1 120 (by omega) (by omega) (by omega)) (r2 136 (by omega) (by omega)) (r2 137 (by omega) (by omega)) (s30 32 (by omega) (by omega)) (s57 58 (by omega) (by omega))⟩
  · unfold z_sS at hS ⊢
    rw [z_sy_o (fun a h1 h2 => r0 a (by omega) (by omega)), s30 32 (by omega) (by omega), r1 120 (by omega) (by omega) (by omega)]
    exact z_So_e hW.1 hS (z_eq_dr hW.1 (s30 30 (by omega) (by omega)) (s30 31 (by omega) (by omega)) o4 (r1 118 (by omega) (by omega) (by omega)) (r1 119 (by omega) (by omega) (by omega)))
  · rw [r0 54 (by omega) (by omega), r1 116 (by omega) (by omega) (by omega)]; exact hU k hk
  · unfold z_tp at hP ⊢
    rw [o1, s17, r5, r1 117 (by omega) (by omega) (by omega)]
    exact hP
  · rw [o3, s26]; exact hF
  · exact hw9
  · unfold z_sG at hG ⊢
    rw [o6, s57 57 (by omega) (by omega), s57 58 (by omega) (by omega), z_sy_o (fun a h1 h2 => r0 a (by omega) (by omega)), r0 73 (by omega) (by omega), r2 143 (by omega) (by omega), r2 137 (by omega) (by omega), r2 136 (by omega) (by omega)]
    refine ⟨hG.1, fun h => ?_⟩
    obtain ⟨g1, g2, g3⟩ := hG.2 h
    exact ⟨g1, z_Cl_o g2 (by rw [r0 60 (by omega) (by omega)]) (by rw [r0 60 (by omega) (by omega)]) (s57 59 (by omega) (by omega)) (s57 60 (by omega) (by omega)) (fun a h1 h2 => r0 a (by omega) (by omega)) (fun a h1 h2 => r2 a (by omega) (by omega)), g3⟩
