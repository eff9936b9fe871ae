/-! PURE: NOON, BOTH WORLDS, WHERE NO ROW IS FOUND -/
theorem z_noonN {X I6 I9 J : g_I} {t : Nat} {T : x_T} (ht3 : t = 3 ∨ t = 22) (hX : z_sim X t T) (o6 : ∀ a, a ≠ 128 → I6 a = am_up X 101 2 0 a) (k9 : z_rK I6 I9) (p1 : ∀ a, a ≠ 127 → J a = I9 a) (p2 : ∀ j, j < 6 → J 127 j = X 127 j) : z_sim J t T ∧ J 101 2 = 0 := by
  have h6 := hX.1.2.1.1
  have oc : ∀ a, a ≠ 101 → a ≠ 126 → a ≠ 127 → a ≠ 128 → J a = X a := fun a h1 h2 h3 h4 => by rw [p1 a h3, k9.1 a h1 h2 h3, o6 a h4, am_up_o _ _ _ _ h1]
  have os : ∀ k, k ≠ 2 → k ≠ 44 → k ≠ 46 → J 101 k = X 101 k := fun k h1 h2 h3 => by rw [p1 101 (by decide), k9.2 k h2 h3, o6 101 (by decide), up_ne h1]
  have e : am_uA (am_uA J 127 (X 127)) 127 (J 127) = J := by
    funext a
    by_cases c : a = 127
    · rw [c, am_uA_s]
    · rw [am_uA_o _ _ _ c, am_uA_o _ _ _ c]
  have h1 : z_sim (am_uA J 127 (X 127)) t T := by
    refine z_sim_o hX ⟨fun a ha => ?_, fun k hk => ?_, fun k _ => ?_, ?_, ?_, ?_, ?_⟩
    · by_cases c : a = 127
      · rw [c, am_uA_s]
      · rw [am_uA_o _ _ _ c]
        refine oc a ?_ ?_ c ?_ <;> unfold z_rel at ha <;> omega
    · rw [am_uA_o _ _ _ (show 101 ≠ 127 by decide)]
      refine os k ?_ ?_ ?_ <;> unfold z_rsl at hk <;> omega
    · rw [am_uA_o _ _ _ (show 114 ≠ 127 by decide), oc 114 (by decide) (by decide) (by decide) (by decide)]
    · rw [am_uA_o _ _ _ (show 0 ≠ 127 by decide), oc 0 (by decide) (by decide) (by decide) (by decide)]
    · rw [am_uA_o _ _ _ (show 0 ≠ 127 by decide), oc 0 (by decide) (by decide) (by decide) (by decide)]
    · rw [am_uA_o _ _ _ (show 0 ≠ 127 by decide), oc 0 (by decide) (by decide) (by decide) (by decide)]
    · rw [am_uA_o _ _ _ (show 1 ≠ 127 by decide), oc 1 (by decide) (by decide) (by decide) (by decide)]
  have h2 := z_sim127 (f := J 127) ht3 h1 (fun b hb => by rw [am_uA_s]; exact p2 b (by omega))
  rw [e] at h2
  exact ⟨h2, by rw [p1 101 (by decide), k9.2 2 (by decide) (by decide), o6 101 (by decide), up_eq]⟩
theorem z_nco {I : g_I} {t : Nat} {T : x_T} (hS : z_sim I t T) : f_bc (f_ub (I 49) T.2.1.length) = nI (z_ct (fun b => decide (I 118 b = -1)) T.2.1.length) := by
  rw [z_ub_c (ct := I 49) (ct' := I 118) (fun l hl => (z_sim_D hS).2.2.2.1 l hl)]
  exact z_ubc hS.1.2.1.1
theorem z_S_noonA {I : g_I} {t : Nat} {T : x_T} (ht3 : t = 3 ∨ t = 22) (hS : z_sim I t T) (h : ¬ f_bc (f_ub (I 49) T.2.1.length) ≤ 5) : ∃ J, b_X11_noon I = some (-2, J) ∧ z_sim J t T ∧ J 101 2 = 0 := by
  have h6 := hS.1.2.1.1
  have hc := z_ct_le (fun b => decide (I 118 b = -1)) T.2.1.length
  rw [z_nco hS] at h
  refine ⟨am_up I 101 2 0, (z_noonB h6 hS.2.2.1.2.1.1).1 (fun q => h ((nI_leI (b := 5) (by omega) (by omega)).mpr q)), z_sim_o hS (z_kR2 (v := 0) ht3), up_eq⟩
theorem z_S_noonB {I : g_I} {t : Nat} {T : x_T} (ht3 : t = 3 ∨ t = 22) (hS : z_sim I t T) (h : f_bc (f_ub (I 49) T.2.1.length) ≤ 5) (h0 : ¬ f_bc (f_ub (I 49) T.2.1.length) ≤ 0) (hd : ¬ I 47 0 ≤ 0) : ∃ J, b_X11_noon I = some (-1, J) ∧ z_sim J t T ∧ J 101 2 = 0 := by
  have h6 := hS.1.2.1.1
  have hc := z_ct_le (fun b => decide (I 118 b = -1)) T.2.1.length
  have hR := hS.2.2.1
  rw [z_nco hS] at h h0
  obtain ⟨I6, o6, hN⟩ := (z_noonB h6 hR.2.1.1).2 ((nI_leI (b := 5) (by omega) (by omega)).mp h)
  have hpos : 0 < z_ct (fun b => decide (I 118 b = -1)) T.2.1.length := by
    by_cases c : 0 < z_ct (fun b => decide (I 118 b = -1)) T.2.1.length
    · exact c
    · refine absurd ?_ h0
      rw [show z_ct (fun b => decide (I 118 b = -1)) T.2.1.length = 0 by omega]
      exact Int32.le_refl _
  obtain ⟨b, hb, eb⟩ := z_ct_p.mp hpos
  have e104 : I6 104 = I 104 := by rw [o6 104 (by decide), am_up_o _ _ _ _ (by decide)]
  have e118 : I6 118 = I 118 := by rw [o6 118 (by decide), am_up_o _ _ _ _ (by decide)]
  have e30 : I6 101 30 = I 101 30 := by rw [o6 101 (by decide), up_ne (by decide)]
  obtain ⟨I9, e9, k9, z9⟩ := z_rowOn0 (J := I6) (n := T.1.length) (m := T.2.1.length) h6 (by rw [e104]; exact hR.1.1) (by rw [e104]; exact hR.2.1.1) (by
      rw [e30, ← show I 47 0 = I 101 30 from (z_sim_D hS).1]
      exact fun q => hd (by rw [q]; exact Int32.le_refl _)) 8 0 0 (am_up I6 101 46 0) (by omega) ⟨b, Nat.zero_le _, hb, by rw [e118]; exact of_decide_eq_true eb⟩ ⟨fun a h1 _ _ => am_up_o _ _ _ _ h1, fun k _ h2 => up_ne h2⟩ up_eq
  obtain ⟨J, n1, n2, n3⟩ := (hN I9 e9 k9).1 z9
  obtain ⟨s1, s2⟩ := z_noonN ht3 hS o6 k9 n2 n3
  exact ⟨J, n1, s1, s2⟩
