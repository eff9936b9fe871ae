/-! PURE: THE LIKENESS BY ITS PIECES; REFUSALS, SEE, BALK, FORGET -/
theorem z_sS_o {I J : g_I} {T : x_T} (hW : z_Wp T) (h : z_sS I T) (h1 : ∀ a, 42 ≤ a → a ≤ 53 → J a = I a) (h2 : ∀ k, 30 ≤ k → k ≤ 32 → J 101 k = I 101 k) (h3 : J 120 = I 120) (h4 : ∀ k, k < 64 → J 114 k = I 114 k) (h5 : J 118 = I 118) (h6 : J 119 = I 119) : z_sS J T := by
  unfold z_sS at h ⊢
  rw [z_sy_o (fun a q1 q2 => h1 a (by omega) (by omega)), h2 32 (by omega) (by omega), h3]
  exact z_So_e hW h (z_eq_dr hW (h2 30 (by omega) (by omega)) (h2 31 (by omega) (by omega)) h4 h5 h6)
theorem z_sG_o {I J : g_I} {T : x_T} (h : z_sG I T) (h1 : ∀ a, 60 ≤ a → a ≤ 78 → J a = I a) (h2 : ∀ k, 57 ≤ k → k ≤ 60 → J 101 k = I 101 k) (h3 : ∀ a, 136 ≤ a → a ≤ 143 → J a = I a) (h4 : J 0 6 = I 0 6) : z_sG J T := by
  unfold z_sG at h ⊢
  rw [h4, h2 57 (by omega) (by omega), h2 58 (by omega) (by omega), z_sy_o (fun a q1 q2 => h1 a (by omega) (by omega)), h1 73 (by omega) (by omega), h3 143 (by omega) (by omega), h3 137 (by omega) (by omega), h3 136 (by omega) (by omega)]
  refine ⟨h.1, fun q => ?_⟩
  obtain ⟨g1, g2, g3⟩ := h.2 q
  exact ⟨g1, z_Cl_o g2 (by rw [h1 60 (by omega) (by omega)]) (by rw [h1 60 (by omega) (by omega)]) (h2 59 (by omega) (by omega)) (h2 60 (by omega) (by omega)) (fun a q1 q2 => h1 a (by omega) (by omega)) (fun a q1 q2 => h3 a (by omega) (by omega)), g3⟩
theorem z_tp_o {I J : g_I} (h : z_tp I) (h1 : J 1 1 = I 1 1) (h2 : J 101 17 = I 101 17) (h3 : J 2 = I 2) (h4 : J 117 = I 117) : z_tp J := by
  unfold z_tp at h ⊢
  rw [h1, h2, h3, h4]
  exact h
theorem z_sW_o {I J : g_I} {T : x_T} (h : z_sW I T) (h1 : J 0 9 = I 0 9) (h2 : J 101 45 = I 101 45) (h3 : J 89 = I 89) (h4 : J 127 = I 127) : z_sW J T := by
  unfold z_sW at h ⊢
  rw [h1, h2, h3, h4]
  exact h
/-- the clues may change in both, the counts of what was refused too -/
theorem z_simC {I K : g_I} {t : Nat} {T : x_T} (ht3 : t = 3 ∨ t = 22) (hS : z_sim I t T) (o : ∀ a, a ≠ 41 → (a < 54 ∨ 59 < a) → a ≠ 101 → a ≠ 116 → (a < 131 ∨ 135 < a) → K a = I a) (os : ∀ j, j ≠ 2 → j ≠ 33 → j ≠ 34 → K 101 j = I 101 j) (hC : z_Cl T K 41 33 34 131) (hU : ∀ k, k < 3 → K 54 k = K 116 k) : z_sim K t T := by
  have r : ∀ a, (a < 41 ∨ (42 ≤ a ∧ a < 54) ∨ (59 < a ∧ a < 101) ∨ (101 < a ∧ a < 116) ∨ (116 < a ∧ a < 131) ∨ 135 < a) → K a = I a := fun a q => o a (by omega) (by omega) (by omega) (by omega) (by omega)
  refine ⟨hS.1, k_tw_o hS.2.1 (fun a q1 q2 => r a (by omega)), z_R_o hS.2.2.1 (fun a q1 q2 _ => r a (by omega)), z_sS_o hS.1.1 hS.2.2.2.1 (fun a q1 q2 => r a (by omega)) (fun k q1 q2 => os k (by omega) (by omega) (by omega)) (r 120 (by omega)) (fun k _ => by rw [r 114 (by omega)]) (r 118 (by omega)) (r 119 (by omega)), hC, hU, z_tp_o hS.2.2.2.2.2.2.1 (by rw [r 1 (by omega)]) (os 17 (by omega) (by omega) (by omega)) (r 2 (by omega)) (r 117 (by omega)), ?_, z_sW_o hS.2.2.2.2.2.2.2.2.1 (by rw [r 0 (by omega)]) (os 45 (by omega) (by omega) (by omega)) (r 89 (by omega)) (r 127 (by omega)), z_sG_o hS.2.2.2.2.2.2.2.2.2.1 (fun a q1 q2 => r a (by omega)) (fun k q1 q2 => os k (by omega) (by omega) (by omega)) (fun a q1 q2 => r a (by omega)) (by rw [r 0 (by omega)]), z_s9_o hS.2.2.2.2.2.2.2.2.2.2 (os 30 (by omega) (by omega) (by omega)) (r 120 (by omega)) (r 136 (by omega)) (r 137 (by omega)) (os 32 (by omega) (by omega) (by omega)) (os 58 (by omega) (by omega) (by omega))⟩
  rw [r 0 (by omega), os 26 (by omega) (by omega) (by omega)]
  exact hS.2.2.2.2.2.2.2.1
/-- a refusal in both -/
theorem z_rfz {I K : g_I} {t : Nat} {T : x_T} (ht3 : t = 3 ∨ t = 22) (hS : z_sim I t T) {k : Nat} (hk : k < 3) (hK : K = am_up (am_up (f_ref I k) 101 2 0) 116 k (am_up (f_ref I k) 101 2 0 116 k + 1)) : z_sim K t T ∧ K 101 2 = 0 := by
  have o : ∀ a, a ≠ 54 → a ≠ 101 → a ≠ 116 → K a = I a := fun a q1 q2 q3 => by rw [hK, am_up_o _ _ _ _ q3, am_up_o _ _ _ _ q2]; exact am_uA_o _ _ _ q1
  have e1 : K 101 = am_up (f_ref I k) 101 2 0 101 := by rw [hK, am_up_o _ _ _ _ (show 101 ≠ 116 by decide)]
  have e2 : f_ref I k 101 = I 101 := am_uA_o _ _ _ (by decide)
  have e3 : f_ref I k 116 = I 116 := am_uA_o _ _ _ (by decide)
  have os : ∀ j, j ≠ 2 → K 101 j = I 101 j := fun j q => by rw [e1, up_ne q, e2]
  refine ⟨z_simC ht3 hS (fun a q1 q2 q3 q4 q5 => o a (by omega) q3 q4) (fun j q1 _ _ => os j q1) (z_Cl_o hS.2.2.2.2.1 (by rw [o 41 (by decide) (by decide) (by decide)]) (by rw [o 41 (by decide) (by decide) (by decide)]) (os 33 (by decide)) (os 34 (by decide)) (fun a q1 q2 => o a (by omega) (by omega) (by omega)) (fun a q1 q2 => o a (by omega) (by omega) (by omega))) (fun j hj => ?_), by rw [e1]; exact up_eq⟩
  have h54 : K 54 = upd (I 54) k (I 54 k + 1) := by rw [hK, am_up_o _ _ _ _ (show 54 ≠ 116 by decide), am_up_o _ _ _ _ (show 54 ≠ 101 by decide)]; exact am_uA_s _ _ _
  have h116 : K 116 = upd (I 116) k (I 116 k + 1) := by rw [hK, am_up_s, am_up_o _ _ _ _ (show 116 ≠ 101 by decide), e3]
  rw [h54, h116]
  by_cases c : j = k
  · rw [c, pk_us, pk_us, hS.2.2.2.2.2.1 k hk]
  · rw [upd_o c, upd_o c, hS.2.2.2.2.2.1 j hj]
theorem z_refuse {J : g_I} {k : Nat} (hk : k < 3) : b_X11_refuse J (nI k) = some (-1, am_up J 116 k (J 116 k + 1)) := by
  unfold b_X11_refuse
  rw [if_pos (g_in_nI hk (by decide)), if_pos (g_in_nI hk (by decide)), z_gl, nI_clamp (by omega)]
theorem z_rf2 (J : g_I) : b_X11_refuse J 2 = some (-1, am_up J 116 2 (J 116 2 + 1)) := z_refuse (k := 2) (by decide)
theorem z_rf1 (J : g_I) : b_X11_refuse J 1 = some (-1, am_up J 116 1 (J 116 1 + 1)) := z_refuse (k := 1) (by decide)
theorem z_is999 {x : Int32} {n : Nat} (hn : n ≤ 999) : b_X11_isIn x.toInt64 0 (nI n).toInt64 = true ↔ ¬ x < 0 ∧ x ≤ nI n := by
  rw [z_isIn, Int32.toInt_toInt64, Int32.toInt_toInt64, z_lI, z_leI, nI_toInt (by omega), show (0 : Int64).toInt = 0 by decide, show (0 : Int32).toInt = 0 by decide]
  omega
theorem z_i999 {x : Int32} : b_X11_isIn x.toInt64 0 999 = true ↔ ¬ x < 0 ∧ x ≤ 999 := z_is999 (n := 999) (by decide)
theorem z_S_see {I Y : g_I} {t : Nat} {T : x_T} (ht3 : t = 3 ∨ t = 22) (hS : z_sim I t T) {b k : Nat} (hb : b < T.2.1.length) (hk : I 41 2 = nI k) (hk6 : k ≤ 6) {x y : Int32} {C : Prop} [Decidable C] (hC : C ↔ (6 ≤ I 41 2 ∨ (x < 0 ∨ nI (z_es T b).length ≤ x) ∨ y < 0 ∨ ¬ y ≤ 999)) (hY : Y = if C then f_ref I 2 else am_uA (am_uA (am_uA (am_uA I 55 (upd (I 55) k (nI b))) 56 (upd (I 56) k x)) 57 (upd (I 57) k y)) 41 (upd (I 41) 2 (nI (k + 1)))) : ∃ J, b_X11_see Y (nI b) x y = some (if C then -1 else nI (k + 1), J) ∧ z_sim J t T ∧ J 101 2 = 0 := by
  have h6 := hS.1.2.1.1
  have he6 := (hS.1.2.1.2 b hb).2.2.2.2.2.1
  obtain ⟨⟨ks, s1, s2, s3, s4⟩, kb, b1, b2, b3, b4⟩ := hS.2.2.2.2.1
  have ek : ks = k := (nI_eq (by omega) (by omega)).mp (s2.symm.trans hk)
  subst ek
  have hR := hS.2.2.1
  have hle : 6 ≤ I 41 2 ↔ ks = 6 := by
    rw [hk, show (6 : Int32) = nI 6 from rfl, nI_leI (by omega) (by omega)]
    omega
  have hx : (x < 0 ∨ nI (z_es T b).length ≤ x) ↔ ¬ (¬ x < 0 ∧ x < nI (z_es T b).length) := by
    rw [z_lI, z_leI, z_lI]; omega
  rw [hle, hx] at hC
  by_cases c : C
  · rw [if_pos c] at hY
    rw [if_pos c]
    obtain ⟨z1, z2⟩ := z_rfz ht3 hS (k := 2) (by decide) rfl
    rw [← hY] at z1 z2
    refine ⟨_, ?_, z1, z2⟩
    have hc := hC.mp c
    have o : ∀ a, a ≠ 54 → a ≠ 101 → am_up Y 101 2 0 a = I a := fun a q1 q2 => by rw [am_up_o _ _ _ _ q2, hY]; exact am_uA_o _ _ _ q1
    have o33 : am_up Y 101 2 0 101 33 = nI ks := by rw [up_ne (by decide), hY]; unfold f_ref; rw [am_uA_o _ _ _ (show 101 ≠ 54 by decide)]; exact s3
    unfold b_X11_see
    rw [z_gl, if_pos ((z_isL (by rw [o 104 (by decide) (by decide)]; exact hR.2.1.1) h6 _).mpr ⟨b, hb, rfl⟩), o33]
    by_cases c1 : ks = 6
    · rw [if_pos (show nI ks = 6 by rw [c1]; rfl), z_rf2]; rfl
    · rw [if_neg (show ¬ nI ks = 6 from fun e => c1 ((nI_eq (a := ks) (b := 6) (by omega) (by omega)).mp e)), if_pos (g_in_nI (by omega) (by decide)), nI_clamp (by omega), o 112 (by decide) (by decide), (hR.2.1.2 b hb).2.2.2.2.1]
      by_cases c2 : b_X11_isIn x.toInt64 0 (nI (z_es T b).length - 1).toInt64 = true
      · rw [if_pos c2]
        have c3 : ¬ b_X11_isIn y.toInt64 0 999 = true := fun c3 => by
          have h1 := (z_isE0 he6).mp c2
          have h2 := z_i999.mp c3
          rcases hc with q | q | q | q
          · exact c1 q
          · exact q h1
          · exact h2.1 q
          · exact q h2.2
        rw [if_neg c3, z_rf2]; rfl
      · rw [if_neg c2, z_rf2]; rfl
  · rw [if_neg c] at hY
    rw [if_neg c]
    have hc : ks ≠ 6 ∧ (¬ x < 0 ∧ x < nI (z_es T b).length) ∧ ¬ y < 0 ∧ y ≤ 999 := ⟨fun q => c (hC.mpr (Or.inl q)), Classical.byContradiction fun q => c (hC.mpr (Or.inr (Or.inl q))), fun q => c (hC.mpr (Or.inr (Or.inr (Or.inl q)))), Classical.byContradiction fun q => c (hC.mpr (Or.inr (Or.inr (Or.inr q))))⟩
    obtain ⟨i, hi, ei⟩ := (z_xr he6 (fun q => hc.2.1.1 (by rw [z_lI] at q ⊢; rw [show (-1 : Int32).toInt = -1 by decide] at q; rw [show (0 : Int32).toInt = 0 by decide]; omega)) hc.2.1.2).resolve_left (fun q => hc.2.1.1 (by rw [q]; decide))
    have o : ∀ a, a ≠ 41 → (a < 55 ∨ 57 < a) → a ≠ 101 → am_up Y 101 2 0 a = I a := fun a q1 q2 q3 => by rw [am_up_o _ _ _ _ q3, hY, am_uA_o _ _ _ q1, am_uA_o _ _ _ (by omega), am_uA_o _ _ _ (by omega), am_uA_o _ _ _ (by omega)]
    have y101 : Y 101 = I 101 := by rw [hY, am_uA_o _ _ _ (by decide), am_uA_o _ _ _ (by decide), am_uA_o _ _ _ (by decide), am_uA_o _ _ _ (by decide)]
    have o33 : am_up Y 101 2 0 101 33 = nI ks := by rw [up_ne (by decide), y101]; exact s3
    generalize hJ0 : am_up Y 101 2 0 = J0 at o o33
    have e101 : ∀ j, j ≠ 2 → J0 101 j = I 101 j := fun j q => by rw [← hJ0, up_ne q, y101]
    have e41 : J0 41 = upd (I 41) 2 (nI (ks + 1)) := by rw [← hJ0, am_up_o _ _ _ _ (by decide), hY, am_uA_s]
    have e55 : J0 55 = upd (I 55) ks (nI b) := by rw [← hJ0, am_up_o _ _ _ _ (by decide), hY, am_uA_o _ _ _ (by decide), am_uA_o _ _ _ (by decide), am_uA_o _ _ _ (by decide), am_uA_s]
    have e56 : J0 56 = upd (I 56) ks x := by rw [← hJ0, am_up_o _ _ _ _ (by decide), hY, am_uA_o _ _ _ (by decide), am_uA_o _ _ _ (by decide), am_uA_s]
    have e57 : J0 57 = upd (I 57) ks y := by rw [← hJ0, am_up_o _ _ _ _ (by decide), hY, am_uA_o _ _ _ (by decide), am_uA_s]
    have g1 : am_up J0 131 ks (nI b) 101 33 = nI ks := by rw [am_up_o _ _ _ _ (by decide)]; exact o33
    have g2 : am_up (am_up J0 131 ks (nI b)) 132 ks x 101 33 = nI ks := by rw [am_up_o _ _ _ _ (by decide)]; exact g1
    have g3 : am_up (am_up (am_up J0 131 ks (nI b)) 132 ks x) 133 ks y 101 33 = nI ks := by rw [am_up_o _ _ _ _ (by decide)]; exact g2
    refine ⟨am_up (am_up (am_up (am_up J0 131 ks (nI b)) 132 ks x) 133 ks y) 101 33 (nI ks + 1), ?_, z_simC ht3 hS (fun a q1 q2 q3 q4 q5 => ?_) (fun j q1 q2 q3 => ?_) ⟨⟨ks + 1, by omega, ?_, ?_, fun j hj => ?_⟩, kb, b1, ?_, ?_, fun j hj => ?_⟩ (fun j hj => ?_), ?_⟩
    · unfold b_X11_see
      rw [hJ0, z_gl, if_pos ((z_isL (by rw [o 104 (by decide) (by decide) (by decide)]; exact hR.2.1.1) h6 _).mpr ⟨b, hb, rfl⟩), o33, if_neg (show ¬ nI ks = 6 from fun e => hc.1 ((nI_eq (a := ks) (b := 6) (by omega) (by omega)).mp e)), if_pos (g_in_nI (by omega) (by decide)), nI_clamp (by omega), o 112 (by decide) (by decide) (by decide), (hR.2.1.2 b hb).2.2.2.2.1, if_pos ((z_isE0 he6).mpr hc.2.1), if_pos (z_i999.mpr hc.2.2), if_pos (g_in_nI (by omega) (by decide)), nI_clamp (by omega), z_gl, g1, if_pos (g_in_nI (by omega) (by decide)), nI_clamp (by omega), z_gl, g2, if_pos (g_in_nI (by omega) (by decide)), nI_clamp (by omega), z_gl, g3, z_gl, up_eq, nI_1]
    · rw [am_up_o _ _ _ _ q3, am_up_o _ _ _ _ (by omega), am_up_o _ _ _ _ (by omega), am_up_o _ _ _ _ (by omega)]
      exact o a q1 (by omega) q3
    · rw [up_ne q2, am_up_o _ _ _ _ (by decide), am_up_o _ _ _ _ (by decide), am_up_o _ _ _ _ (by decide)]
      exact e101 j q1
    · rw [am_up_o _ _ _ _ (by decide), am_up_o _ _ _ _ (by decide), am_up_o _ _ _ _ (by decide), am_up_o _ _ _ _ (by decide), e41, pk_us]
    · rw [up_eq, nI_1]
    · show am_up (am_up (am_up (am_up J0 131 ks (nI b)) 132 ks x) 133 ks y) 101 33 (nI ks + 1) 55 j = _ ∧ am_up (am_up (am_up (am_up J0 131 ks (nI b)) 132 ks x) 133 ks y) 101 33 (nI ks + 1) 56 j = am_up (am_up (am_up (am_up J0 131 ks (nI b)) 132 ks x) 133 ks y) 101 33 (nI ks + 1) 132 j ∧ am_up (am_up (am_up (am_up J0 131 ks (nI b)) 132 ks x) 133 ks y) 101 33 (nI ks + 1) 57 j = am_up (am_up (am_up (am_up J0 131 ks (nI b)) 132 ks x) 133 ks y) 101 33 (nI ks + 1) 133 j ∧ ∃ l i, l < T.2.1.length ∧ i < (z_es T l).length ∧ am_up (am_up (am_up (am_up J0 131 ks (nI b)) 132 ks x) 133 ks y) 101 33 (nI ks + 1) 131 j = nI l ∧ am_up (am_up (am_up (am_up J0 131 ks (nI b)) 132 ks x) 133 ks y) 101 33 (nI ks + 1) 132 j = nI i
      have f55 : am_up (am_up (am_up (am_up J0 131 ks (nI b)) 132 ks x) 133 ks y) 101 33 (nI ks + 1) 55 = upd (I 55) ks (nI b) := by rw [am_up_o _ _ _ _ (by decide), am_up_o _ _ _ _ (by decide), am_up_o _ _ _ _ (by decide), am_up_o _ _ _ _ (by decide), e55]
      have f56 : am_up (am_up (am_up (am_up J0 131 ks (nI b)) 132 ks x) 133 ks y) 101 33 (nI ks + 1) 56 = upd (I 56) ks x := by rw [am_up_o _ _ _ _ (by decide), am_up_o _ _ _ _ (by decide), am_up_o _ _ _ _ (by decide), am_up_o _ _ _ _ (by decide), e56]
      have f57 : am_up (am_up (am_up (am_up J0 131 ks (nI b)) 132 ks x) 133 ks y) 101 33 (nI ks + 1) 57 = upd (I 57) ks y := by rw [am_up_o _ _ _ _ (by decide), am_up_o _ _ _ _ (by decide), am_up_o _ _ _ _ (by decide), am_up_o _ _ _ _ (by decide), e57]
      have f131 : am_up (am_up (am_up (am_up J0 131 ks (nI b)) 132 ks x) 133 ks y) 101 33 (nI ks + 1) 131 = upd (I 131) ks (nI b) := by rw [am_up_o _ _ _ _ (by decide), am_up_o _ _ _ _ (by decide), am_up_o _ _ _ _ (by decide), am_up_s, o 131 (by decide) (by decide) (by decide)]
      have f132 : am_up (am_up (am_up (am_up J0 131 ks (nI b)) 132 ks x) 133 ks y) 101 33 (nI ks + 1) 132 = upd (I 132) ks x := by rw [am_up_o _ _ _ _ (by decide), am_up_o _ _ _ _ (by decide), am_up_s, am_up_o _ _ _ _ (by decide), o 132 (by decide) (by decide) (by decide)]
      have f133 : am_up (am_up (am_up (am_up J0 131 ks (nI b)) 132 ks x) 133 ks y) 101 33 (nI ks + 1) 133 = upd (I 133) ks y := by rw [am_up_o _ _ _ _ (by decide), am_up_s, am_up_o _ _ _ _ (by decide), am_up_o _ _ _ _ (by decide), o 133 (by decide) (by decide) (by decide)]
      rw [f55, f56, f57, f131, f132, f133]
      by_cases e : j = ks
      · rw [e, pk_us, pk_us, pk_us, pk_us, pk_us, pk_us]
        exact ⟨rfl, rfl, rfl, b, i, hb, hi, rfl, ei⟩
      · rw [upd_o e, upd_o e, upd_o e, upd_o e, upd_o e, upd_o e]
        exact s4 j (by omega)
    · rw [am_up_o _ _ _ _ (by decide), am_up_o _ _ _ _ (by decide), am_up_o _ _ _ _ (by decide), am_up_o _ _ _ _ (by decide), e41, upd_o (by decide)]
      exact b2
    · rw [up_ne (by decide), am_up_o _ _ _ _ (by decide), am_up_o _ _ _ _ (by decide), am_up_o _ _ _ _ (by decide), e101 34 (by decide)]
      exact b3
    · have q : ∀ a, (a = 58 ∨ a = 59 ∨ a = 134 ∨ a = 135) → am_up (am_up (am_up (am_up J0 131 ks (nI b)) 132 ks x) 133 ks y) 101 33 (nI ks + 1) a = I a := fun a q => by
        rw [am_up_o _ _ _ _ (by omega), am_up_o _ _ _ _ (by omega), am_up_o _ _ _ _ (by omega), am_up_o _ _ _ _ (by omega)]
        exact o a (by omega) (by omega) (by omega)
      rw [q (41 + 17) (by omega), q (41 + 18) (by omega), q (131 + 3) (by omega), q (131 + 4) (by omega)]
      exact b4 j hj
    · rw [am_up_o _ _ _ _ (by decide), am_up_o _ _ _ _ (by decide), am_up_o _ _ _ _ (by decide), am_up_o _ _ _ _ (by decide), am_up_o _ _ _ _ (by decide), am_up_o _ _ _ _ (by decide), am_up_o _ _ _ _ (by decide), am_up_o _ _ _ _ (by decide), o 54 (by decide) (by decide) (by decide), o 116 (by decide) (by decide) (by decide)]
      exact hS.2.2.2.2.2.1 j hj
    · rw [up_ne (by decide), am_up_o _ _ _ _ (by decide), am_up_o _ _ _ _ (by decide), am_up_o _ _ _ _ (by decide), ← hJ0]
      exact up_eq
theorem z_T_see {I : g_I} {t : Nat} {T : x_T} (ht3 : t = 3 ∨ t = 22) (hS : z_sim I t T) {l x y : Int32} (h : ¬ k_is l T.2.1.length) : ∃ r J, b_X11_see I l x y = some (r, J) ∧ z_sim J t T ∧ J 101 2 = 1 := by
  have h6 := hS.1.2.1.1
  have hR := (z_J0 ht3 hS).2.2.1
  refine ⟨0, am_up (am_up I 101 2 0) 101 2 1, ?_, z_simF ht3 hS 1, up_eq⟩
  unfold b_X11_see
  rw [z_gl, if_neg (fun c => h ((z_isL hR.2.1.1 h6 _).mp c))]
  rfl
theorem z_S_balk {I Y : g_I} {t : Nat} {T : x_T} (ht3 : t = 3 ∨ t = 22) (hS : z_sim I t T) {a b k : Nat} (ha : a < T.1.length) (hb : b < T.2.1.length) (hk : I 41 6 = nI k) (hk4 : k ≤ 4) (hY : Y = if k < 4 then am_uA (am_uA (am_uA I 58 (upd (I 58) k (nI a))) 59 (upd (I 59) k (nI b))) 41 (upd (I 41) 6 (nI (k + 1))) else f_ref I 2) : ∃ J, b_X11_balk Y (nI a) (nI b) = some (if k < 4 then nI (k + 1) else -1, J) ∧ z_sim J t T ∧ J 101 2 = 0 := by
  have h8 := hS.1.1.1
  have h6 := hS.1.2.1.1
  obtain ⟨⟨ks, s1, s2, s3, s4⟩, kb, b1, b2, b3, b4⟩ := hS.2.2.2.2.1
  have ek : kb = k := (nI_eq (by omega) (by omega)).mp (b2.symm.trans hk)
  subst ek
  have hR := hS.2.2.1
  by_cases c : kb < 4
  · rw [if_pos c] at hY
    rw [if_pos c]
    have o : ∀ a, a ≠ 41 → (a < 58 ∨ 59 < a) → a ≠ 101 → am_up Y 101 2 0 a = I a := fun a q1 q2 q3 => by rw [am_up_o _ _ _ _ q3, hY, am_uA_o _ _ _ q1, am_uA_o _ _ _ (by omega), am_uA_o _ _ _ (by omega)]
    have y101 : Y 101 = I 101 := by rw [hY, am_uA_o _ _ _ (by decide), am_uA_o _ _ _ (by decide), am_uA_o _ _ _ (by decide)]
    have o34 : am_up Y 101 2 0 101 34 = nI kb := by rw [up_ne (by decide), y101]; exact b3
    generalize hJ0 : am_up Y 101 2 0 = J0 at o o34
    have e101 : ∀ j, j ≠ 2 → J0 101 j = I 101 j := fun j q => by rw [← hJ0, up_ne q, y101]
    have e41 : J0 41 = upd (I 41) 6 (nI (kb + 1)) := by rw [← hJ0, am_up_o _ _ _ _ (by decide), hY, am_uA_s]
    have e58 : J0 58 = upd (I 58) kb (nI a) := by rw [← hJ0, am_up_o _ _ _ _ (by decide), hY, am_uA_o _ _ _ (by decide), am_uA_o _ _ _ (by decide), am_uA_s]
    have e59 : J0 59 = upd (I 59) kb (nI b) := by rw [← hJ0, am_up_o _ _ _ _ (by decide), hY, am_uA_o _ _ _ (by decide), am_uA_s]
    have g1 : am_up J0 134 kb (nI a) 101 34 = nI kb := by rw [am_up_o _ _ _ _ (by decide)]; exact o34
    have g2 : am_up (am_up J0 134 kb (nI a)) 135 kb (nI b) 101 34 = nI kb := by rw [am_up_o _ _ _ _ (by decide)]; exact g1
    refine ⟨am_up (am_up (am_up J0 134 kb (nI a)) 135 kb (nI b)) 101 34 (nI kb + 1), ?_, z_simC ht3 hS (fun a q1 q2 q3 q4 q5 => ?_) (fun j q1 q2 q3 => ?_) ⟨⟨ks, s1, ?_, ?_, fun j hj => ?_⟩, kb + 1, by omega, ?_, ?_, fun j hj => ?_⟩ (fun j hj => ?_), ?_⟩
    · unfold b_X11_balk
      rw [hJ0, z_gl, if_pos ((z_isP (by rw [o 104 (by decide) (by decide) (by decide)]; exact hR.1.1) h8 _).mpr ⟨a, ha, rfl⟩), if_pos ((z_isL (by rw [o 104 (by decide) (by decide) (by decide)]; exact hR.2.1.1) h6 _).mpr ⟨b, hb, rfl⟩), o34, if_neg (show ¬ nI kb = 4 from fun e => absurd ((nI_eq (a := kb) (b := 4) (by omega) (by omega)).mp e) (by omega)), if_pos (g_in_nI (by omega) (by decide)), nI_clamp (by omega), z_gl, g1, if_pos (g_in_nI (by omega) (by decide)), nI_clamp (by omega), z_gl, g2, z_gl, up_eq, nI_1]
    · rw [am_up_o _ _ _ _ q3, am_up_o _ _ _ _ (by omega), am_up_o _ _ _ _ (by omega)]
      exact o a q1 (by omega) q3
    · rw [up_ne q3, am_up_o _ _ _ _ (by decide), am_up_o _ _ _ _ (by decide)]
      exact e101 j q1
    · rw [am_up_o _ _ _ _ (by decide), am_up_o _ _ _ _ (by decide), am_up_o _ _ _ _ (by decide), e41, upd_o (by decide)]
      exact s2
    · rw [up_ne (by decide), am_up_o _ _ _ _ (by decide), am_up_o _ _ _ _ (by decide), e101 33 (by decide)]
      exact s3
    · have q : ∀ c, ((55 ≤ c ∧ c ≤ 57) ∨ (131 ≤ c ∧ c ≤ 133)) → am_up (am_up (am_up J0 134 kb (nI a)) 135 kb (nI b)) 101 34 (nI kb + 1) c = I c := fun c q => by
        rw [am_up_o _ _ _ _ (by omega), am_up_o _ _ _ _ (by omega), am_up_o _ _ _ _ (by omega)]
        exact o c (by omega) (by omega) (by omega)
      rw [q (41 + 14) (by omega), q (41 + 15) (by omega), q (41 + 16) (by omega), q 131 (by omega), q (131 + 1) (by omega), q (131 + 2) (by omega)]
      exact s4 j hj
    · rw [am_up_o _ _ _ _ (by decide), am_up_o _ _ _ _ (by decide), am_up_o _ _ _ _ (by decide), e41, pk_us]
    · rw [up_eq, nI_1]
    · have f58 : am_up (am_up (am_up J0 134 kb (nI a)) 135 kb (nI b)) 101 34 (nI kb + 1) (41 + 17) = upd (I 58) kb (nI a) := by rw [am_up_o _ _ _ _ (by decide), am_up_o _ _ _ _ (by decide), am_up_o _ _ _ _ (by decide), e58]
      have f59 : am_up (am_up (am_up J0 134 kb (nI a)) 135 kb (nI b)) 101 34 (nI kb + 1) (41 + 18) = upd (I 59) kb (nI b) := by rw [am_up_o _ _ _ _ (by decide), am_up_o _ _ _ _ (by decide), am_up_o _ _ _ _ (by decide), e59]
      have f134 : am_up (am_up (am_up J0 134 kb (nI a)) 135 kb (nI b)) 101 34 (nI kb + 1) (131 + 3) = upd (I 134) kb (nI a) := by rw [am_up_o _ _ _ _ (by decide), am_up_o _ _ _ _ (by decide), am_up_s, o 134 (by decide) (by decide) (by decide)]
      have f135 : am_up (am_up (am_up J0 134 kb (nI a)) 135 kb (nI b)) 101 34 (nI kb + 1) (131 + 4) = upd (I 135) kb (nI b) := by rw [am_up_o _ _ _ _ (by decide), am_up_s, am_up_o _ _ _ _ (by decide), o 135 (by decide) (by decide) (by decide)]
      rw [f58, f59, f134, f135]
      by_cases e : j = kb
      · rw [e, pk_us, pk_us, pk_us, pk_us]
        exact ⟨rfl, rfl, ⟨a, ha, rfl⟩, b, hb, rfl⟩
      · rw [upd_o e, upd_o e, upd_o e, upd_o e]
        exact b4 j (by omega)
    · rw [am_up_o _ _ _ _ (by decide), am_up_o _ _ _ _ (by decide), am_up_o _ _ _ _ (by decide), am_up_o _ _ _ _ (by decide), am_up_o _ _ _ _ (by decide), am_up_o _ _ _ _ (by decide), o 54 (by decide) (by decide) (by decide), o 116 (by decide) (by decide) (by decide)]
      exact hS.2.2.2.2.2.1 j hj
    · rw [up_ne (by decide), am_up_o _ _ _ _ (by decide), am_up_o _ _ _ _ (by decide), ← hJ0]
      exact up_eq
  · rw [if_neg c] at hY
    rw [if_neg c]
    obtain ⟨z1, z2⟩ := z_rfz ht3 hS (k := 2) (by decide) rfl
    rw [← hY] at z1 z2
    refine ⟨_, ?_, z1, z2⟩
    have o : ∀ a, a ≠ 54 → a ≠ 101 → am_up Y 101 2 0 a = I a := fun a q1 q2 => by rw [am_up_o _ _ _ _ q2, hY]; exact am_uA_o _ _ _ q1
    have o34 : am_up Y 101 2 0 101 34 = nI kb := by rw [up_ne (by decide), hY]; unfold f_ref; rw [am_uA_o _ _ _ (show 101 ≠ 54 by decide)]; exact b3
    unfold b_X11_balk
    rw [z_gl, if_pos ((z_isP (by rw [o 104 (by decide) (by decide)]; exact hR.1.1) h8 _).mpr ⟨a, ha, rfl⟩), if_pos ((z_isL (by rw [o 104 (by decide) (by decide)]; exact hR.2.1.1) h6 _).mpr ⟨b, hb, rfl⟩), o34, if_pos (show nI kb = 4 by rw [show kb = 4 by omega]; rfl), z_rf2]
    rfl
theorem z_T_balk {I : g_I} {t : Nat} {T : x_T} (ht3 : t = 3 ∨ t = 22) (hS : z_sim I t T) {p l : Int32} (h : ¬ (k_is p T.1.length ∧ k_is l T.2.1.length)) : ∃ r J, b_X11_balk I p l = some (r, J) ∧ z_sim J t T ∧ J 101 2 = 1 := by
  have h8 := hS.1.1.1
  have h6 := hS.1.2.1.1
  have hR := (z_J0 ht3 hS).2.2.1
  refine ⟨0, am_up (am_up I 101 2 0) 101 2 1, ?_, z_simF ht3 hS 1, up_eq⟩
  unfold b_X11_balk
  rw [z_gl]
  by_cases c1 : b_X11_isPerson (am_up I 101 2 0) p = true
  · rw [if_pos c1]
    by_cases c2 : b_X11_isLoaf (am_up I 101 2 0) l = true
    · exact absurd ⟨(z_isP hR.1.1 h8 _).mp c1, (z_isL hR.2.1.1 h6 _).mp c2⟩ h
    · rw [if_neg c2]; rfl
  · rw [if_neg c1]; rfl
theorem z_S_forget {I Y : g_I} {t : Nat} {T : x_T} (ht3 : t = 3 ∨ t = 22) (hS : z_sim I t T) (hY : Y = am_uA I 41 (upd (upd (I 41) 2 0) 6 0)) : ∃ J, b_X11_forget Y = some J ∧ z_sim J t T ∧ J 101 2 = 0 := by
  have o : ∀ a, a ≠ 41 → a ≠ 101 → am_up (am_up (am_up Y 101 2 0) 101 33 0) 101 34 0 a = I a := fun a q1 q2 => by rw [am_up_o _ _ _ _ q2, am_up_o _ _ _ _ q2, am_up_o _ _ _ _ q2, hY, am_uA_o _ _ _ q1]
  refine ⟨am_up (am_up (am_up Y 101 2 0) 101 33 0) 101 34 0, rfl, z_simC ht3 hS (fun a q1 q2 q3 q4 q5 => o a q1 q3) (fun j q1 q2 q3 => ?_) ⟨⟨0, by omega, ?_, ?_, fun j hj => absurd hj (by omega)⟩, 0, by omega, ?_, ?_, fun j hj => absurd hj (by omega)⟩ (fun j hj => ?_), ?_⟩
  · rw [up_ne q3, up_ne q2, up_ne q1, hY, am_uA_o _ _ _ (by decide)]
  · rw [am_up_o _ _ _ _ (by decide), am_up_o _ _ _ _ (by decide), am_up_o _ _ _ _ (by decide), hY, am_uA_s, upd_o (by decide), pk_us]; rfl
  · rw [up_ne (by decide), up_eq]; rfl
  · rw [am_up_o _ _ _ _ (by decide), am_up_o _ _ _ _ (by decide), am_up_o _ _ _ _ (by decide), hY, am_uA_s, pk_us]; rfl
  · rw [up_eq]; rfl
  · rw [o 54 (by decide) (by decide), o 116 (by decide) (by decide)]
    exact hS.2.2.2.2.2.1 j hj
  · rw [up_ne (by decide), up_ne (by decide), up_eq]
