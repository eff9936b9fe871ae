/-! THE OPERATIONS THAT NEVER THROW -/
theorem lw_okb {α : Type} {b : g_I → Option (α × g_I)} {tl : α → Int32} {I2 : g_I} {R : Nat → Nat → Option Nat} {L : Nat → Nat → Int64} {t t2 : Nat} {T : x_T} {r : α} {y : Int32} (hk : lw_K R t t2) (h : ∃ J, b I2 = some (r, J) ∧ z_sim J t T ∧ J 101 2 = 0) (hy : y = tl r) : lw_Pb b tl (some (.int y)) (lw_sh, I2, R, L, 1) := by
  obtain ⟨J, h1, h2, h3⟩ := h
  subst hy
  exact ⟨I2, R, L, r, J, rfl, rfl, hk.2.1, h1, ⟨J, R, L, t, t2, T, rfl, hk, h2⟩⟩
theorem lw_okn {b : g_I → Option g_I} {I2 : g_I} {R : Nat → Nat → Option Nat} {L : Nat → Nat → Int64} {t t2 : Nat} {T : x_T} (hk : lw_K R t t2) (h : ∃ J, b I2 = some J ∧ z_sim J t T ∧ J 101 2 = 0) : lw_Pn b none (lw_sh, I2, R, L, 1) := by
  obtain ⟨J, h1, h2, h3⟩ := h
  exact ⟨I2, R, L, J, rfl, rfl, hk.2.1, h1, ⟨J, R, L, t, t2, T, rfl, hk, h2⟩⟩
section LO2
variable {G : am_G} {w : am_w}
theorem o_feed (hK : k_OK G) (hXS : k_XS G) (hJ : lw_J w) (a1 a2 a3 a4 a5 : Int32) : AM G mX10_feed 140 [.ref 0, .int a1, .int a2, .int a3, .int a4, .int a5] w (lw_Pb (fun I => b_X11_feed I a1 a2 a3 a4 a5) id) (fun _ _ => False) := by
  obtain ⟨I, R, L, t, t2, T, rfl, hk, hS⟩ := hJ
  have ⟨hM, hMo, hR1, hR2, ht3, ht2⟩ := hk
  obtain ⟨fd, hf6, hfd⟩ := q_fd hS
  refine (k_X10_feed hK (d := 140) (by omega) hXS hM hR1 ht3 hfd hf6 a1 a2 a3 a4 a5).imp ?_ (fun _ _ h => h)
  rintro v w' ⟨rfl, rfl⟩
  exact lw_okb hk (z_S_feed ht3 hS hfd hf6 rfl) rfl
theorem o_fault (hK : k_OK G) (hXS : k_XS G) (hJ : lw_J w) : AM G mX10_fault 140 [.ref 0] w (lw_Pb (fun I => b_X11_fault I) id) (fun _ _ => False) := by
  obtain ⟨I, R, L, t, t2, T, rfl, hk, hS⟩ := hJ
  have ⟨hM, hMo, hR1, hR2, ht3, ht2⟩ := hk
  refine (k_X10_fault hK (d := 140) (by omega) hXS hM hR1 ht3).imp ?_ (fun _ _ h => h)
  rintro v w' ⟨rfl, rfl⟩
  exact lw_okb hk (z_S_fault ht3 hS) rfl
theorem o_fair (hK : k_OK G) (hXS : k_XS G) (hJ : lw_J w) (a1 : Int32) : AM G mX10_fair 140 [.ref 0, .int a1] w (lw_Pb (fun I => b_X11_fair I a1) id) (fun _ _ => False) := by
  obtain ⟨I, R, L, t, t2, T, rfl, hk, hS⟩ := hJ
  have ⟨hM, hMo, hR1, hR2, ht3, ht2⟩ := hk
  obtain ⟨k, hk40, hk5, hok⟩ := q_k hS
  refine (k_X10_fair hK (d := 140) (by omega) hXS hM hR1 ht3 (q_n hS) (q_n8 hS) hk5 hk40 hok a1).imp ?_ (fun _ _ h => h)
  rintro v w' ⟨rfl, rfl⟩
  exact lw_okb hk (z_S_fair ht3 hS hk5 hk40 Iff.rfl rfl) rfl
theorem o_hours (hK : k_OK G) (hXS : k_XS G) (hJ : lw_J w) (a1 : Int32) : AM G mX10_hours 140 [.ref 0, .int a1] w (lw_Pb (fun I => b_X11_hours I a1) id) (fun _ _ => False) := by
  obtain ⟨I, R, L, t, t2, T, rfl, hk, hS⟩ := hJ
  have ⟨hM, hMo, hR1, hR2, ht3, ht2⟩ := hk
  obtain ⟨k, hk40, hk5, hok⟩ := q_k hS
  refine (k_X10_hours hK (d := 140) (by omega) hXS hM hR1 ht3 (q_n hS) (q_n8 hS) hk5 hk40 hok a1).imp ?_ (fun _ _ h => h)
  rintro v w' ⟨rfl, rfl⟩
  refine lw_okb hk (z_S_hours ht3 hS hk5 hk40 Iff.rfl rfl) ?_
  by_cases hc : a1 < 1 ∨ 99 < a1 ∨ ¬ I 47 0 + (I 47 1 + a1) / 24 ≤ 999
  · rw [if_pos hc, if_pos hc]; rfl
  · rw [if_neg hc, if_neg hc, if_neg hc]; rfl
theorem o_undo (hK : k_OK G) (hXS : k_XS G) (hJ : lw_J w) : AM G mX10_undo 140 [.ref 0] w (lw_Pb (fun I => b_X11_undo I) id) (fun _ _ => False) := by
  obtain ⟨I, R, L, t, t2, T, rfl, hk, hS⟩ := hJ
  have ⟨hM, hMo, hR1, hR2, ht3, ht2⟩ := hk
  obtain ⟨k, hk40, hk5, hok⟩ := q_k hS
  refine (k_X10_undo hK (d := 140) (by omega) hXS hM hR1 ht3 (q_n hS) (q_n8 hS) hk5 hk40 hok).imp ?_ (fun _ _ h => h)
  rintro v w' ⟨rfl, rfl⟩
  exact lw_okb hk (z_S_undo ht3 hS hk5 hk40 rfl) rfl
theorem o_noon (hK : k_OK G) (hXS : k_XS G) (hJ : lw_J w) : AM G mX10_noon 140 [.ref 0] w (lw_Pb (fun I => b_X11_noon I) id) (fun _ _ => False) := by
  obtain ⟨I, R, L, t, t2, T, rfl, hk, hS⟩ := hJ
  have ⟨hM, hMo, hR1, hR2, ht3, ht2⟩ := hk
  obtain ⟨a9, ha24, ha9⟩ := q_hour hS
  obtain ⟨b9, hb23, hb9, hb8⟩ := q_far hS
  refine (k_X10_noon hK (d := 140) (by omega) hXS hM hR1 ht3 (q_n hS) (q_n8 hS) (q_m hS) (q_m6 hS) ha9 (by omega) hb9 (by omega)).imp ?_ (fun _ _ h => h)
  rintro v w' (⟨h1, rfl, rfl⟩ | ⟨h1, h2, rfl, rfl⟩ | ⟨h1, h2, I2, J, hs, ⟨h3, rfl, rfl⟩ | ⟨h3, rfl, rfl⟩⟩)
  · exact lw_okb hk (z_S_noonA ht3 hS h1) rfl
  · exact lw_okb hk (z_S_noonB ht3 hS h1 h2.1 h2.2) rfl
  · exact lw_okb hk (z_S_noonC ht3 hS ha9 ha24 hb8 hb23 h1 h2 hs (Or.inl ⟨h3, rfl⟩)) (by rw [if_pos h3]; rfl)
  · exact lw_okb hk (z_S_noonC ht3 hS ha9 ha24 hb8 hb23 h1 h2 hs (Or.inr ⟨h3, rfl⟩)) (by rw [if_neg h3]; rfl)
theorem o_familiar (hK : k_OK G) (hXS : k_XS G) (hJ : lw_J w) : AM G mX10_familiar 140 [.ref 0] w (lw_Pb (fun I => b_X11_familiar I) id) (fun _ _ => False) := by
  obtain ⟨I, R, L, t, t2, T, rfl, hk, hS⟩ := hJ
  have ⟨hM, hMo, hR1, hR2, ht3, ht2⟩ := hk
  refine (k_X10_familiar hK (d := 140) (by omega) hXS hM hR1 ht3 (q_n hS) (q_n8 hS) (q_m hS) (q_m6 hS)).imp ?_ (fun _ _ h => h)
  rintro v w' ⟨rfl, rfl⟩
  exact lw_okb hk (z_S_familiar ht3 hS rfl) rfl
theorem o_ring (hK : k_OK G) (hXS : k_XS G) (hJ : lw_J w) : AM G mX10_ring 140 [.ref 0] w (lw_Pb (fun I => b_X11_ring I) id) (fun _ _ => False) := by
  obtain ⟨I, R, L, t, t2, T, rfl, hk, hS⟩ := hJ
  have ⟨hM, hMo, hR1, hR2, ht3, ht2⟩ := hk
  refine (k_X10_ring hK (d := 140) (by omega) hXS hM hR1 ht3 (q_n hS) (q_n8 hS) (q_m hS) (q_m6 hS)).imp ?_ (fun _ _ h => h)
  rintro v w' ⟨rfl, rfl⟩
  exact lw_okb hk (z_S_ring ht3 hS rfl) rfl
theorem o_safe (hK : k_OK G) (hXS : k_XS G) (hJ : lw_J w) : AM G mX10_safe 140 [.ref 0] w (lw_Pb (fun I => b_X11_safe I) id) (fun _ _ => False) := by
  obtain ⟨I, R, L, t, t2, T, rfl, hk, hS⟩ := hJ
  have ⟨hM, hMo, hR1, hR2, ht3, ht2⟩ := hk
  refine (k_X10_safe hK (d := 140) (by omega) hXS hM hR1 ht3 (q_n hS) (q_n8 hS) (q_m hS) (q_m6 hS)).imp ?_ (fun _ _ h => h)
  rintro v w' ⟨rfl, rfl⟩
  exact lw_okb hk (z_S_safe ht3 hS rfl) rfl
theorem o_help (hK : k_OK G) (hXS : k_XS G) (hJ : lw_J w) : AM G mX10_help 140 [.ref 0] w (lw_Pb (fun I => b_X11_help I) id) (fun _ _ => False) := by
  obtain ⟨I, R, L, t, t2, T, rfl, hk, hS⟩ := hJ
  have ⟨hM, hMo, hR1, hR2, ht3, ht2⟩ := hk
  refine (k_X10_help hK (d := 140) (by omega) hXS hM hR1 ht3 (q_n hS) (q_n8 hS) (q_m hS) (q_m6 hS)).imp ?_ (fun _ _ h => h)
  rintro v w' ⟨rfl, rfl⟩
  exact lw_okb hk (z_S_help ht3 hS rfl) rfl
theorem o_doors (hK : k_OK G) (hXS : k_XS G) (hJ : lw_J w) : AM G mX10_doors 140 [.ref 0] w (lw_Pb (fun I => b_X11_doors I) id) (fun _ _ => False) := by
  obtain ⟨I, R, L, t, t2, T, rfl, hk, hS⟩ := hJ
  have ⟨hM, hMo, hR1, hR2, ht3, ht2⟩ := hk
  refine (k_X10_doors hK (d := 140) (by omega) hXS hM hR1 ht3 (q_n hS) (q_n8 hS) (q_m hS) (q_m6 hS)).imp ?_ (fun _ _ h => h)
  rintro v w' ⟨rfl, rfl⟩
  exact lw_okb hk (z_S_doors ht3 hS rfl) (id_eq _).symm
theorem o_restore (hK : k_OK G) (hXS : k_XS G) (hJ : lw_J w) : AM G mX10_restore 140 [.ref 0] w (lw_Pb (fun I => b_X11_restore I) kb) (fun _ _ => False) := by
  obtain ⟨I, R, L, t, t2, T, rfl, hk, hS⟩ := hJ
  have ⟨hM, hMo, hR1, hR2, ht3, ht2⟩ := hk
  refine (k_X10_restore hK (d := 140) (by omega) hXS hM hR1 ht3).imp ?_ (fun _ _ h => h)
  rintro v w' ⟨rfl, rfl⟩
  exact lw_okb hk (z_S_restore ht3 hS rfl) rfl
theorem o_forget (hK : k_OK G) (hXS : k_XS G) (hJ : lw_J w) : AM G mX10_forget 140 [.ref 0] w (lw_Pn (fun I => b_X11_forget I)) (fun _ _ => False) := by
  obtain ⟨I, R, L, t, t2, T, rfl, hk, hS⟩ := hJ
  have ⟨hM, hMo, hR1, hR2, ht3, ht2⟩ := hk
  refine (k_X10_forget hK (d := 140) (by omega) hXS hM hR1 ht3).imp ?_ (fun _ _ h => h)
  rintro v w' ⟨rfl, rfl⟩
  exact lw_okn hk (z_S_forget ht3 hS rfl)
theorem o_image (hK : k_OK G) (hXS : k_XS G) (hJ : lw_J w) : AM G mX10_image 140 [.ref 0] w (lw_Pn (fun I => b_X11_image I)) (fun _ _ => False) := by
  obtain ⟨I, R, L, t, t2, T, rfl, hk, hS⟩ := hJ
  have ⟨hM, hMo, hR1, hR2, ht3, ht2⟩ := hk
  refine (k_X10_image hK (d := 140) (by omega) hXS hM hR1 ht3).imp ?_ (fun _ _ h => h)
  rintro v w' ⟨rfl, rfl⟩
  exact lw_okn hk (z_S_image ht3 hS rfl)
end LO2
