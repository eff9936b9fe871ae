/-! PURE: IMAGE AND RESTORE, BOTH WORLDS -/
theorem z_be {I : g_I} {c0 n0 c1 n1 : Nat} (hc : c0 ≠ c1) (hn : n0 ≤ n1) (hn1 : n1 < 5000) : ∃ J, b_X11_be I c0 n0 c1 n1 = some J ∧ (∀ a, a ≠ c0 → J a = I a) ∧ ∀ j, j < n0 → J c0 j = I c1 j := by
  obtain ⟨J, e, h1, h2⟩ := z_cpy (F := fun f x J => b_X11_be_L2 c0 n0 c1 n1 (fun (I2 : g_I) => some I2) f x J) (K := fun (I2 : g_I) => some I2) (I := I) (J0 := I) (c := c0) (d := 0) (N := n0) (fun i => I c1 i) (by omega)
    (fun f J => by show b_X11_be_L2 c0 n0 c1 n1 (fun (I2 : g_I) => some I2) (f + 1) (nI n0) J = some J; unfold b_X11_be_L2; rw [if_pos (Int32.le_refl _)])
    (fun f i J hi hJ _ => by
      show b_X11_be_L2 c0 n0 c1 n1 (fun (I2 : g_I) => some I2) (f + 1) (nI i) J = b_X11_be_L2 c0 n0 c1 n1 (fun (I2 : g_I) => some I2) f (nI (i + 1)) (am_up J c0 (0 + i) (I c1 i))
      conv => lhs; unfold b_X11_be_L2
      rw [if_neg (nI_ge hi (by omega)), if_pos (g_in_nI (by omega) (by omega)), if_pos (g_in_nI hi (by omega)), z_gl, nI_clamp (by omega), nI_1, hJ c1 (fun q => hc q.symm), Nat.zero_add]) (fun _ _ => rfl)
  refine ⟨J, e, h1, fun j hj => ?_⟩
  rw [h2 j, if_pos (by omega), Nat.sub_zero]
theorem z_mcp {I Y : g_I} {T : x_T} {q o : Nat} (hW : z_W T) (hqo : q + 19 ≤ o ∨ o + 19 ≤ q) (hY : Y = f_mcp I q o) : (∀ a, (a < q ∨ q + 19 ≤ a) → Y a = I a) ∧
    (∀ (rk rk' : Int32) (past past' : Nat → Int32) (rn rn' : z_Dy), z_So T (z_sy I (o + 1)) rk past rn → rk' = rk → (∀ j, j < 3200 → past' j = past j) → z_eq T rn rn' → z_So T (z_sy Y (q + 1)) rk' past' rn') ∧
    Y q 2 = I o 2 ∧ Y q 6 = I o 6 ∧ (∀ j, j < 6 → Y (q + 14) j = I (o + 14) j ∧ Y (q + 15) j = I (o + 15) j ∧ Y (q + 16) j = I (o + 16) j) ∧ (∀ j, j < 4 → Y (q + 17) j = I (o + 17) j ∧ Y (q + 18) j = I (o + 18) j) ∧ ∀ j, j < 3 → Y (q + 13) j = I (o + 13) j := by
  have h8 := hW.1.1
  have h6 := hW.2.1.1
  have s0 : ∀ a, q + 1 ≤ a → a < q + 13 → Y a = f_scp I (q + 1) (o + 1) a := fun a p1 p2 => by
    rw [hY]
    unfold f_mcp
    rw [am_uA_o _ _ _ (by omega), am_uA_o _ _ _ (by omega), am_uA_o _ _ _ (by omega), am_uA_o _ _ _ (by omega), am_uA_o _ _ _ (by omega), am_uA_o _ _ _ (by omega), am_uA_o _ _ _ (by omega)]
  have s1 : ∀ a, q + 2 ≤ a → a < q + 6 → Y a = f_dcp I (q + 2) (o + 2) a := fun a p1 p2 => by
    rw [s0 a (by omega) (by omega)]
    unfold f_scp
    rw [am_uA_o _ _ _ (by omega), am_uA_o _ _ _ (by omega), am_uA_o _ _ _ (by omega), am_uA_o _ _ _ (by omega), f_dcp_o _ _ _ (by omega)]
  have s2 : ∀ a, q + 6 ≤ a → a < q + 10 → Y a = f_dcp (f_dcp I (q + 2) (o + 2)) (q + 6) (o + 6) a := fun a p1 p2 => by
    rw [s0 a (by omega) (by omega)]
    unfold f_scp
    rw [am_uA_o _ _ _ (by omega), am_uA_o _ _ _ (by omega), am_uA_o _ _ _ (by omega), am_uA_o _ _ _ (by omega)]
  have c9 : Y (q + 10) = f_cp 40 (I (o + 10)) (I (q + 10)) := by
    rw [s0 _ (by omega) (by omega)]
    unfold f_scp
    rw [am_uA_o _ _ _ (by omega), am_uA_o _ _ _ (by omega), am_uA_o _ _ _ (by omega), am_uA_s]
  have c10 : Y (q + 11) = f_cp 40 (I (o + 11)) (I (q + 11)) := by
    rw [s0 _ (by omega) (by omega)]
    unfold f_scp
    rw [am_uA_o _ _ _ (by omega), am_uA_o _ _ _ (by omega), am_uA_s]
  have c11 : Y (q + 12) = f_cp 40 (I (o + 12)) (I (q + 12)) := by
    rw [s0 _ (by omega) (by omega)]
    unfold f_scp
    rw [am_uA_o _ _ _ (by omega), am_uA_s]
  have c5 : Y (q + 1) 5 = I (o + 1) 5 := by
    rw [s0 _ (by omega) (by omega)]
    unfold f_scp
    rw [am_uA_s, pk_us]
  have d1 : z_eq T (z_dc I (o + 2)) (z_dc Y (q + 2)) := by
    have h1 := z_dcpD (I := I) (b := q + 2) (o := o + 2) hW (by omega)
    have h2 : z_dc Y (q + 2) = z_dc (f_dcp I (q + 2) (o + 2)) (q + 2) := by
      unfold z_dc
      rw [s1 (q + 2) (by omega) (by omega), s1 (q + 2 + 1) (by omega) (by omega), s1 (q + 2 + 2) (by omega) (by omega), s1 (q + 2 + 3) (by omega) (by omega)]
    rw [h2]
    exact h1
  have d2 : z_eq T (z_dc I (o + 6)) (z_dc Y (q + 6)) := by
    have h1 := z_dcpD (I := f_dcp I (q + 2) (o + 2)) (b := q + 6) (o := o + 6) hW (by omega)
    have h2 : z_dc Y (q + 6) = z_dc (f_dcp (f_dcp I (q + 2) (o + 2)) (q + 6) (o + 6)) (q + 6) := by
      unfold z_dc
      rw [s2 (q + 6) (by omega) (by omega), s2 (q + 6 + 1) (by omega) (by omega), s2 (q + 6 + 2) (by omega) (by omega), s2 (q + 6 + 3) (by omega) (by omega)]
    have h3 : z_dc (f_dcp I (q + 2) (o + 2)) (o + 6) = z_dc I (o + 6) := by
      unfold z_dc
      rw [f_dcp_o _ _ _ (by omega), f_dcp_o _ _ _ (by omega), f_dcp_o _ _ _ (by omega), f_dcp_o _ _ _ (by omega)]
    rw [h3] at h1
    rw [h2]
    exact h1
  refine ⟨fun a p => ?_, fun rk rk' past past' rn rn' h p1 p2 p3 => ?_, ?_, ?_, fun j hj => ⟨?_, ?_, ?_⟩, fun j hj => ⟨?_, ?_⟩, fun j hj => ?_⟩
  · rw [hY]
    unfold f_mcp
    rw [am_uA_o _ _ _ (by omega), am_uA_o _ _ _ (by omega), am_uA_o _ _ _ (by omega), am_uA_o _ _ _ (by omega), am_uA_o _ _ _ (by omega), am_uA_o _ _ _ (by omega), am_uA_o _ _ _ (by omega), f_scp_o _ _ _ (by omega)]
  · refine z_So_c hW.1 h (fun i hi => ?_) d1 d2 c5 p1 (fun j hj => z_eq_dp hW.1 h6 fun i hi => p2 _ (by omega)) p3
    show Y (q + 10) i = I (o + 10) i ∧ Y (q + 11) i = I (o + 11) i ∧ Y (q + 12) i = I (o + 12) i
    rw [c9, c10, c11, f_cp_in hi, f_cp_in hi, f_cp_in hi]
    exact ⟨rfl, rfl, rfl⟩
  · rw [hY]; unfold f_mcp; rw [am_uA_o _ _ _ (by omega), am_uA_o _ _ _ (by omega), am_uA_s, upd_o (by decide), pk_us]
  · rw [hY]; unfold f_mcp; rw [am_uA_o _ _ _ (by omega), am_uA_o _ _ _ (by omega), am_uA_s, pk_us]
  · rw [hY]; unfold f_mcp; rw [am_uA_o _ _ _ (by omega), am_uA_o _ _ _ (by omega), am_uA_o _ _ _ (by omega), am_uA_o _ _ _ (by omega), am_uA_o _ _ _ (by omega), am_uA_s, f_cp_in hj]
  · rw [hY]; unfold f_mcp; rw [am_uA_o _ _ _ (by omega), am_uA_o _ _ _ (by omega), am_uA_o _ _ _ (by omega), am_uA_o _ _ _ (by omega), am_uA_s, f_cp_in hj]
  · rw [hY]; unfold f_mcp; rw [am_uA_o _ _ _ (by omega), am_uA_o _ _ _ (by omega), am_uA_o _ _ _ (by omega), am_uA_s, f_cp_in hj]
  · rw [hY]; unfold f_mcp; rw [am_uA_o _ _ _ (by omega), am_uA_s, f_cp_in hj]
  · rw [hY]; unfold f_mcp; rw [am_uA_s, f_cp_in hj]
  · rw [hY]; unfold f_mcp; rw [am_uA_o _ _ _ (by omega), am_uA_o _ _ _ (by omega), am_uA_o _ _ _ (by omega), am_uA_o _ _ _ (by omega), am_uA_o _ _ _ (by omega), am_uA_o _ _ _ (by omega), am_uA_s, f_cp_in hj]
/-- clues copied in both -/
theorem z_Cl_c {T : x_T} {I J : g_I} {q k1 k2 o q' k1' k2' o' : Nat} (h : z_Cl T I q k1 k2 o) (h0 : J q' 2 = I q 2) (h1 : J q' 6 = I q 6) (h2 : J 101 k1' = I 101 k1) (h3 : J 101 k2' = I 101 k2) (h4 : ∀ j, j < 6 → J (q' + 14) j = I (q + 14) j ∧ J (q' + 15) j = I (q + 15) j ∧ J (q' + 16) j = I (q + 16) j) (h5 : ∀ j, j < 4 → J (q' + 17) j = I (q + 17) j ∧ J (q' + 18) j = I (q + 18) j) (h6 : ∀ j, j < 6 → J o' j = I o j ∧ J (o' + 1) j = I (o + 1) j ∧ J (o' + 2) j = I (o + 2) j) (h7 : ∀ j, j < 4 → J (o' + 3) j = I (o + 3) j ∧ J (o' + 4) j = I (o + 4) j) : z_Cl T J q' k1' k2' o' := by
  obtain ⟨⟨ks, s1, s2, s3, s4⟩, kb, b1, b2, b3, b4⟩ := h
  refine ⟨⟨ks, s1, by rw [h0]; exact s2, by rw [h2]; exact s3, fun j hj => ?_⟩, kb, b1, by rw [h1]; exact b2, by rw [h3]; exact b3, fun j hj => ?_⟩
  · rw [(h4 j (by omega)).1, (h4 j (by omega)).2.1, (h4 j (by omega)).2.2, (h6 j (by omega)).1, (h6 j (by omega)).2.1, (h6 j (by omega)).2.2]
    exact s4 j hj
  · rw [(h5 j (by omega)).1, (h5 j (by omega)).2, (h7 j (by omega)).1, (h7 j (by omega)).2]
    exact b4 j hj
theorem z_S_image {I Y : g_I} {t : Nat} {T : x_T} (ht3 : t = 3 ∨ t = 22) (hS : z_sim I t T) (hY : Y = am_uA (f_mcp I 60 41) 0 (upd ((f_mcp I 60 41) 0) 6 1)) : ∃ J, b_X11_image Y = some J ∧ z_sim J t T ∧ J 101 2 = 0 := by
  have h8 := hS.1.1.1
  have h6 := hS.1.2.1.1
  obtain ⟨c1, c2, c3, c4, c5, c6, c7⟩ := z_mcp (I := I) (q := 60) (o := 41) hS.1 (by omega) rfl
  have y0 : Y 0 = upd (I 0) 6 1 := by rw [hY, am_uA_s, c1 0 (by omega)]
  have y1 : ∀ a, a ≠ 0 → Y a = f_mcp I 60 41 a := fun a p => by rw [hY, am_uA_o _ _ _ p]
  have y2 : ∀ a, a ≠ 0 → (a < 60 ∨ 79 ≤ a) → Y a = I a := fun a p1 p2 => by rw [y1 a p1, c1 a (by omega)]
  generalize hM : am_up (am_up (am_up (am_up (am_up Y 101 2 0) 101 57 1) 101 58 (I 101 32)) 101 59 (I 101 33)) 101 60 (I 101 34) = M
  have m1 : ∀ a, a ≠ 101 → M a = Y a := fun a p => by rw [← hM, am_up_o _ _ _ _ p, am_up_o _ _ _ _ p, am_up_o _ _ _ _ p, am_up_o _ _ _ _ p, am_up_o _ _ _ _ p]
  have m2 : ∀ j, j ≠ 2 → j ≠ 57 → j ≠ 58 → j ≠ 59 → j ≠ 60 → M 101 j = I 101 j := fun j p1 p2 p3 p4 p5 => by rw [← hM, up_ne p5, up_ne p4, up_ne p3, up_ne p2, up_ne p1, y2 101 (by decide) (by decide)]
  have m2' : M 101 2 = 0 := by rw [← hM, up_ne (by decide), up_ne (by decide), up_ne (by decide), up_ne (by decide), up_eq]
  have m57 : M 101 57 = 1 := by rw [← hM, up_ne (by decide), up_ne (by decide), up_ne (by decide), up_eq]
  have m58 : M 101 58 = I 101 32 := by rw [← hM, up_ne (by decide), up_ne (by decide), up_eq]
  have m59 : M 101 59 = I 101 33 := by rw [← hM, up_ne (by decide), up_eq]
  have m60 : M 101 60 = I 101 34 := by rw [← hM, up_eq]
  obtain ⟨J1, e1, a1, b1⟩ := z_pack (I := M) (c := 136) (n := 80) (o := 0) (by decide) (by decide) (by decide)
  obtain ⟨J2, e2, a2, b2⟩ := z_be (I := J1) (c0 := 137) (n0 := 3200) (c1 := 120) (n1 := 3200) (by decide) (by decide) (by decide)
  obtain ⟨J3, e3, a3, b3⟩ := z_be (I := J2) (c0 := 138) (n0 := 6) (c1 := 131) (n1 := 6) (by decide) (by decide) (by decide)
  obtain ⟨J4, e4, a4, b4⟩ := z_be (I := J3) (c0 := 139) (n0 := 6) (c1 := 132) (n1 := 6) (by decide) (by decide) (by decide)
  obtain ⟨J5, e5, a5, b5⟩ := z_be (I := J4) (c0 := 140) (n0 := 6) (c1 := 133) (n1 := 6) (by decide) (by decide) (by decide)
  obtain ⟨J6, e6, a6, b6⟩ := z_be (I := J5) (c0 := 141) (n0 := 4) (c1 := 134) (n1 := 4) (by decide) (by decide) (by decide)
  obtain ⟨J7, e7, a7, b7⟩ := z_be (I := J6) (c0 := 142) (n0 := 4) (c1 := 135) (n1 := 4) (by decide) (by decide) (by decide)
  obtain ⟨K, e8, a8, b8⟩ := z_be (I := J7) (c0 := 143) (n0 := 3) (c1 := 116) (n1 := 3) (by decide) (by decide) (by decide)
  have k0 : ∀ a, a < 136 → K a = M a := fun a p => by rw [a8 a (by omega), a7 a (by omega), a6 a (by omega), a5 a (by omega), a4 a (by omega), a3 a (by omega), a2 a (by omega), a1 a (by omega)]
  have k1 : ∀ a, a ≠ 0 → (a < 60 ∨ (79 ≤ a ∧ a < 136)) → a ≠ 101 → K a = I a := fun a p1 p2 p3 => by rw [k0 a (by omega), m1 a p3, y2 a p1 (by omega)]
  have kY : ∀ a, 60 ≤ a → a < 79 → K a = f_mcp I 60 41 a := fun a p1 p2 => by rw [k0 a (by omega), m1 a (by omega), y1 a (by omega)]
  have ks : ∀ j, j ≠ 2 → j ≠ 57 → j ≠ 58 → j ≠ 59 → j ≠ 60 → K 101 j = I 101 j := fun j p1 p2 p3 p4 p5 => by rw [k0 101 (by decide)]; exact m2 j p1 p2 p3 p4 p5
  have k00 : K 0 = upd (I 0) 6 1 := by rw [k0 0 (by decide), m1 0 (by decide), y0]
  have im : ∀ a, 102 ≤ a → a < 136 → M a = I a := fun a p1 p2 => by rw [m1 a (by omega), y2 a (by omega) (by omega)]
  have k136 : ∀ j, j < 80 → K 136 j = z_pk I j := fun j hj => by
    rw [a8 136 (by decide), a7 136 (by decide), a6 136 (by decide), a5 136 (by decide), a4 136 (by decide), a3 136 (by decide), a2 136 (by decide), b1 j, if_pos (by omega), Nat.sub_zero]
    unfold z_pk
    rw [m2 30 (by decide) (by decide) (by decide) (by decide) (by decide), m2 31 (by decide) (by decide) (by decide) (by decide) (by decide), im 114 (by decide) (by decide), im 118 (by decide) (by decide), im 119 (by decide) (by decide)]
  have k137 : ∀ j, j < 3200 → K 137 j = I 120 j := fun j hj => by
    rw [a8 137 (by decide), a7 137 (by decide), a6 137 (by decide), a5 137 (by decide), a4 137 (by decide), a3 137 (by decide), b2 j hj, a1 120 (by decide), im 120 (by decide) (by decide)]
  have k138 : ∀ j, j < 6 → K 138 j = I 131 j := fun j hj => by
    rw [a8 138 (by decide), a7 138 (by decide), a6 138 (by decide), a5 138 (by decide), a4 138 (by decide), b3 j hj, a2 131 (by decide), a1 131 (by decide), im 131 (by decide) (by decide)]
  have k139 : ∀ j, j < 6 → K 139 j = I 132 j := fun j hj => by
    rw [a8 139 (by decide), a7 139 (by decide), a6 139 (by decide), a5 139 (by decide), b4 j hj, a3 132 (by decide), a2 132 (by decide), a1 132 (by decide), im 132 (by decide) (by decide)]
  have k140 : ∀ j, j < 6 → K 140 j = I 133 j := fun j hj => by
    rw [a8 140 (by decide), a7 140 (by decide), a6 140 (by decide), b5 j hj, a4 133 (by decide), a3 133 (by decide), a2 133 (by decide), a1 133 (by decide), im 133 (by decide) (by decide)]
  have k141 : ∀ j, j < 4 → K 141 j = I 134 j := fun j hj => by
    rw [a8 141 (by decide), a7 141 (by decide), b6 j hj, a5 134 (by decide), a4 134 (by decide), a3 134 (by decide), a2 134 (by decide), a1 134 (by decide), im 134 (by decide) (by decide)]
  have k142 : ∀ j, j < 4 → K 142 j = I 135 j := fun j hj => by
    rw [a8 142 (by decide), b7 j hj, a6 135 (by decide), a5 135 (by decide), a4 135 (by decide), a3 135 (by decide), a2 135 (by decide), a1 135 (by decide), im 135 (by decide) (by decide)]
  have k143 : ∀ j, j < 3 → K 143 j = I 116 j := fun j hj => by
    rw [b8 j hj, a7 116 (by decide), a6 116 (by decide), a5 116 (by decide), a4 116 (by decide), a3 116 (by decide), a2 116 (by decide), a1 116 (by decide), im 116 (by decide) (by decide)]
  have n9 := hS.2.2.2.2.2.2.2.2.2.2
  refine ⟨K, ?_, ⟨hS.1, k_tw_o hS.2.1 (fun a p1 p2 => k1 a (by omega) (by omega) (by omega)), z_R_o hS.2.2.1 (fun a p1 p2 p3 => k1 a (by omega) (by omega) (by omega)), z_sS_o hS.1.1 hS.2.2.2.1 (fun a p1 p2 => k1 a (by omega) (by omega) (by omega)) (fun k p1 p2 => ks k (by omega) (by omega) (by omega) (by omega) (by omega)) (k1 120 (by omega) (by omega) (by omega)) (fun k _ => by rw [k1 114 (by omega) (by omega) (by omega)]) (k1 118 (by omega) (by omega) (by omega)) (k1 119 (by omega) (by omega) (by omega)), z_Cl_o hS.2.2.2.2.1 (by rw [k1 41 (by omega) (by omega) (by omega)]) (by rw [k1 41 (by omega) (by omega) (by omega)]) (ks 33 (by decide) (by decide) (by decide) (by decide) (by decide)) (ks 34 (by decide) (by decide) (by decide) (by decide) (by decide)) (fun a p1 p2 => k1 a (by omega) (by omega) (by omega)) (fun a p1 p2 => k1 a (by omega) (by omega) (by omega)), fun j hj => ?_, z_tp_o hS.2.2.2.2.2.2.1 (by rw [k1 1 (by omega) (by omega) (by omega)]) (ks 17 (by decide) (by decide) (by decide) (by decide) (by decide)) (k1 2 (by omega) (by omega) (by omega)) (k1 117 (by omega) (by omega) (by omega)), ?_, z_sW_o hS.2.2.2.2.2.2.2.2.1 (by rw [k00, upd_o (by decide)]) (ks 45 (by decide) (by decide) (by decide) (by decide) (by decide)) (k1 89 (by omega) (by omega) (by omega)) (k1 127 (by omega) (by omega) (by omega)), ⟨?_, fun _ => ⟨?_, ?_, fun k hk => ?_⟩⟩, ?_, ?_, ?_, fun k2' j p1 p2 p3 => ?_⟩, by rw [k0 101 (by decide)]; exact m2'⟩
  · unfold b_X11_image
    have g1 : am_up Y 101 2 0 101 32 = I 101 32 := by rw [up_ne (by decide), y2 101 (by decide) (by decide)]
    rw [z_gl, z_gl, up_ne (show 32 ≠ 57 by decide), up_ne (show 32 ≠ 2 by decide), y2 101 (by decide) (by decide), z_gl, up_ne (show 33 ≠ 58 by decide), up_ne (show 33 ≠ 57 by decide), up_ne (show 33 ≠ 2 by decide), y2 101 (by decide) (by decide), z_gl, up_ne (show 34 ≠ 59 by decide), up_ne (show 34 ≠ 58 by decide), up_ne (show 34 ≠ 57 by decide), up_ne (show 34 ≠ 2 by decide), y2 101 (by decide) (by decide), z_gl, hM, show b_X11_pack M 136 80 0 = some J1 from e1]
    simp only [g_bind]
    rw [e2]
    simp only []
    rw [e3]
    simp only []
    rw [e4]
    simp only []
    rw [e5]
    simp only []
    rw [e6]
    simp only []
    rw [e7]
    simp only []
    rw [e8]
  · rw [k1 54 (by omega) (by omega) (by omega), k1 116 (by omega) (by omega) (by omega)]
    exact hS.2.2.2.2.2.1 j hj
  · rw [k00, upd_o (by decide), ks 26 (by decide) (by decide) (by decide) (by decide) (by decide)]
    exact hS.2.2.2.2.2.2.2.1
  · rw [k00, pk_us, k0 101 (by decide), m57]
  · rw [z_sy_o (I := f_mcp I 60 41) (J := K) (s := 61) (fun a p1 p2 => kY a (by omega) (by omega)), k0 101 (by decide), m58]
    refine c2 _ _ _ _ _ _ hS.2.2.2.1 rfl k137 ⟨k136 0 (by decide), k136 1 (by decide), fun a b ha hb => ?_, fun l hl => ?_, fun p hp => ?_⟩
    · show K 136 (0 + 2 + (8 * a + b)) = I 114 (8 * a + b)
      rw [k136 _ (by omega)]
      unfold z_pk
      rw [if_neg (by omega), if_neg (by omega), if_pos (by omega), show 0 + 2 + (8 * a + b) - 2 = 8 * a + b by omega]
    · show K 136 (0 + 66 + l) = I 118 l
      rw [k136 _ (by omega)]
      unfold z_pk
      rw [if_neg (by omega), if_neg (by omega), if_neg (by omega), if_pos (by omega), show 0 + 66 + l - 66 = l by omega]
    · show K 136 (0 + 72 + p) = I 119 p
      rw [k136 _ (by omega)]
      unfold z_pk
      rw [if_neg (by omega), if_neg (by omega), if_neg (by omega), if_neg (by omega), show 0 + 72 + p - 72 = p by omega]
  · refine z_Cl_c (q := 41) (k1 := 33) (k2 := 34) (o := 131) hS.2.2.2.2.1 (by rw [kY 60 (by omega) (by omega)]; exact c3) (by rw [kY 60 (by omega) (by omega)]; exact c4) (by rw [k0 101 (by decide), m59]) (by rw [k0 101 (by decide), m60]) (fun j hj => ?_) (fun j hj => ?_) (fun j hj => ⟨k138 j hj, k139 j hj, k140 j hj⟩) (fun j hj => ⟨k141 j hj, k142 j hj⟩)
    · rw [kY (60 + 14) (by omega) (by omega), kY (60 + 15) (by omega) (by omega), kY (60 + 16) (by omega) (by omega)]
      exact c5 j hj
    · rw [kY (60 + 17) (by omega) (by omega), kY (60 + 18) (by omega) (by omega)]
      exact c6 j hj
  · rw [kY 73 (by omega) (by omega), k143 k hk, ← hS.2.2.2.2.2.1 k hk]
    exact c7 k hk
  · rw [ks 30 (by decide) (by decide) (by decide) (by decide) (by decide)]
    exact n9.1
  · rw [ks 32 (by decide) (by decide) (by decide) (by decide) (by decide), k1 120 (by omega) (by omega) (by omega)]
    exact n9.2.1
  · rw [k136 0 (by decide)]
    exact n9.1
  · rw [k0 101 (by decide), m58] at p2
    rw [k137 _ (by omega)]
    exact n9.2.1 k2' j p1 p2 p3
theorem z_S_restore {I Y : g_I} {t : Nat} {T : x_T} (ht3 : t = 3 ∨ t = 22) (hS : z_sim I t T) (hY : Y = if ¬ I 0 6 = 0 then f_mcp I 41 60 else I) : ∃ J, b_X11_restore Y = some (decide (¬ I 0 6 = 0), J) ∧ z_sim J t T ∧ J 101 2 = 0 := by
  have h8 := hS.1.1.1
  have h6 := hS.1.2.1.1
  have hG := hS.2.2.2.2.2.2.2.2.2.1
  unfold b_X11_restore
  by_cases c : I 0 6 = 0
  · rw [if_neg (fun q => q c)] at hY
    rw [hY, decide_eq_false (fun q => q c), z_gl]
    refine ⟨am_up I 101 2 0, ?_, z_J0 ht3 hS, up_eq⟩
    rw [up_ne (show 57 ≠ 2 by decide), if_pos (hG.1.mp c)]
  · rw [if_pos c] at hY
    rw [decide_eq_true c, z_gl]
    obtain ⟨g1, g2, g3⟩ := hG.2 c
    obtain ⟨c1, c2, c3, c4, c5, c6, c7⟩ := z_mcp (q := 41) (o := 60) hS.1 (by omega) hY
    have y101 : Y 101 = I 101 := c1 101 (by omega)
    generalize hM : am_up (am_up (am_up (am_up Y 101 2 0) 101 32 (I 101 58)) 101 33 (I 101 59)) 101 34 (I 101 60) = M
    have m1 : ∀ a, a ≠ 101 → M a = Y a := fun a p => by rw [← hM, am_up_o _ _ _ _ p, am_up_o _ _ _ _ p, am_up_o _ _ _ _ p, am_up_o _ _ _ _ p]
    have m2 : ∀ j, j ≠ 2 → j ≠ 32 → j ≠ 33 → j ≠ 34 → M 101 j = I 101 j := fun j p1 p2 p3 p4 => by rw [← hM, up_ne p4, up_ne p3, up_ne p2, up_ne p1, y101]
    have m2' : M 101 2 = 0 := by rw [← hM, up_ne (by decide), up_ne (by decide), up_ne (by decide), up_eq]
    have m32 : M 101 32 = I 101 58 := by rw [← hM, up_ne (by decide), up_ne (by decide), up_eq]
    have m33 : M 101 33 = I 101 59 := by rw [← hM, up_ne (by decide), up_eq]
    have m34 : M 101 34 = I 101 60 := by rw [← hM, up_eq]
    have im : ∀ a, 102 ≤ a → M a = I a := fun a p1 => by rw [m1 a (by omega), c1 a (by omega)]
    obtain ⟨J1, e1, u1, u2, u3, u4, u5, u6, u7⟩ := z_unpack (I := M) (c := 136) (n := 80) (o := 0) (by decide) (by decide) (by decide)
    obtain ⟨J2, e2, a2, b2⟩ := z_be (I := J1) (c0 := 120) (n0 := 3200) (c1 := 137) (n1 := 3200) (by decide) (by decide) (by decide)
    obtain ⟨J3, e3, a3, b3⟩ := z_be (I := J2) (c0 := 131) (n0 := 6) (c1 := 138) (n1 := 6) (by decide) (by decide) (by decide)
    obtain ⟨J4, e4, a4, b4⟩ := z_be (I := J3) (c0 := 132) (n0 := 6) (c1 := 139) (n1 := 6) (by decide) (by decide) (by decide)
    obtain ⟨J5, e5, a5, b5⟩ := z_be (I := J4) (c0 := 133) (n0 := 6) (c1 := 140) (n1 := 6) (by decide) (by decide) (by decide)
    obtain ⟨J6, e6, a6, b6⟩ := z_be (I := J5) (c0 := 134) (n0 := 4) (c1 := 141) (n1 := 4) (by decide) (by decide) (by decide)
    obtain ⟨J7, e7, a7, b7⟩ := z_be (I := J6) (c0 := 135) (n0 := 4) (c1 := 142) (n1 := 4) (by decide) (by decide) (by decide)
    obtain ⟨K, e8, a8, b8⟩ := z_be (I := J7) (c0 := 116) (n0 := 3) (c1 := 143) (n1 := 3) (by decide) (by decide) (by decide)
    have k0 : ∀ a, a ≠ 116 → a ≠ 120 → (a < 131 ∨ 135 < a) → K a = J1 a := fun a p1 p2 p3 => by rw [a8 a p1, a7 a (by omega), a6 a (by omega), a5 a (by omega), a4 a (by omega), a3 a (by omega), a2 a p2]
    have kY : ∀ a, a < 101 → K a = Y a := fun a p => by rw [k0 a (by omega) (by omega) (by omega), u1 a (by omega) (by omega) (by omega) (by omega), m1 a (by omega)]
    have k1 : ∀ a, (a < 41 ∨ (60 ≤ a ∧ a < 101)) → K a = I a := fun a p => by rw [kY a (by omega), c1 a (by omega)]
    have k2 : ∀ a, 102 ≤ a → a ≠ 114 → a ≠ 116 → a ≠ 118 → a ≠ 119 → a ≠ 120 → (a < 131 ∨ 135 < a) → K a = I a := fun a p p1 p2 p3 p4 p5 p6 => by rw [k0 a p2 p5 p6, u1 a (by omega) p1 p3 p4, im a p]
    have ks : ∀ j, j ≠ 2 → j ≠ 30 → j ≠ 31 → j ≠ 32 → j ≠ 33 → j ≠ 34 → K 101 j = I 101 j := fun j p1 p2 p3 p4 p5 p6 => by rw [k0 101 (by decide) (by decide) (by decide), u2 j p2 p3]; exact m2 j p1 p4 p5 p6
    have km : ∀ j, j ≠ 30 → j ≠ 31 → K 101 j = M 101 j := fun j p1 p2 => by rw [k0 101 (by decide) (by decide) (by decide), u2 j p1 p2]
    have jm : ∀ a, 136 ≤ a → J1 a = I a := fun a p => by rw [u1 a (by omega) (by omega) (by omega) (by omega), im a (by omega)]
    have k120 : ∀ j, j < 3200 → K 120 j = I 137 j := fun j hj => by
      rw [a8 120 (by decide), a7 120 (by decide), a6 120 (by decide), a5 120 (by decide), a4 120 (by decide), a3 120 (by decide), b2 j hj, jm 137 (by decide)]
    have k131 : ∀ j, j < 6 → K 131 j = I 138 j := fun j hj => by
      rw [a8 131 (by decide), a7 131 (by decide), a6 131 (by decide), a5 131 (by decide), a4 131 (by decide), b3 j hj, a2 138 (by decide), jm 138 (by decide)]
    have k132 : ∀ j, j < 6 → K 132 j = I 139 j := fun j hj => by
      rw [a8 132 (by decide), a7 132 (by decide), a6 132 (by decide), a5 132 (by decide), b4 j hj, a3 139 (by decide), a2 139 (by decide), jm 139 (by decide)]
    have k133 : ∀ j, j < 6 → K 133 j = I 140 j := fun j hj => by
      rw [a8 133 (by decide), a7 133 (by decide), a6 133 (by decide), b5 j hj, a4 140 (by decide), a3 140 (by decide), a2 140 (by decide), jm 140 (by decide)]
    have k134 : ∀ j, j < 4 → K 134 j = I 141 j := fun j hj => by
      rw [a8 134 (by decide), a7 134 (by decide), b6 j hj, a5 141 (by decide), a4 141 (by decide), a3 141 (by decide), a2 141 (by decide), jm 141 (by decide)]
    have k135 : ∀ j, j < 4 → K 135 j = I 142 j := fun j hj => by
      rw [a8 135 (by decide), b7 j hj, a6 142 (by decide), a5 142 (by decide), a4 142 (by decide), a3 142 (by decide), a2 142 (by decide), jm 142 (by decide)]
    have k116 : ∀ j, j < 3 → K 116 j = I 143 j := fun j hj => by
      rw [b8 j hj, a7 143 (by decide), a6 143 (by decide), a5 143 (by decide), a4 143 (by decide), a3 143 (by decide), a2 143 (by decide), jm 143 (by decide)]
    have k30 : K 101 30 = I 136 0 := by rw [k0 101 (by decide) (by decide) (by decide), u3, im 136 (by decide)]
    have k31 : K 101 31 = I 136 1 := by rw [k0 101 (by decide) (by decide) (by decide), u4, im 136 (by decide)]
    have n9 := hS.2.2.2.2.2.2.2.2.2.2
    refine ⟨K, ?_, ⟨hS.1, k_tw_o hS.2.1 (fun a p1 p2 => k1 a (by omega)), z_R_o hS.2.2.1 (fun a p1 p2 p3 => k2 a (by omega) p3 (by omega) (by omega) (by omega) (by omega) (by omega)), ?_, ?_, fun j hj => ?_, z_tp_o hS.2.2.2.2.2.2.1 (by rw [k1 1 (by omega)]) (ks 17 (by decide) (by decide) (by decide) (by decide) (by decide) (by decide)) (k1 2 (by omega)) (k2 117 (by decide) (by decide) (by decide) (by decide) (by decide) (by decide) (by decide)), ?_, z_sW_o hS.2.2.2.2.2.2.2.2.1 (by rw [k1 0 (by omega)]) (ks 45 (by decide) (by decide) (by decide) (by decide) (by decide) (by decide)) (k1 89 (by omega)) (k2 127 (by decide) (by decide) (by decide) (by decide) (by decide) (by decide) (by decide)), z_sG_o hG (fun a p1 p2 => k1 a (by omega)) (fun k p1 p2 => ks k (by omega) (by omega) (by omega) (by omega) (by omega) (by omega)) (fun a p1 p2 => k2 a (by omega) (by omega) (by omega) (by omega) (by omega) (by omega) (by omega)) (by rw [k1 0 (by omega)]), ?_, fun k2' j p1 p2 p3 => ?_, ?_, ?_⟩, by rw [km 2 (by decide) (by decide), m2']⟩
    · have n57 : ¬ am_up Y 101 2 0 101 57 = 0 := by rw [up_ne (by decide), y101]; exact fun q => c (hG.1.mpr q)
      rw [if_neg n57, z_gl, up_ne (show 58 ≠ 2 by decide), z_gl, up_ne (show 59 ≠ 32 by decide), up_ne (show 59 ≠ 2 by decide), z_gl, up_ne (show 60 ≠ 33 by decide), up_ne (show 60 ≠ 32 by decide), up_ne (show 60 ≠ 2 by decide), y101, hM, show b_X11_unpack M 136 80 0 = some J1 from e1]
      simp only [g_bind]
      rw [e2]
      simp only []
      rw [e3]
      simp only []
      rw [e4]
      simp only []
      rw [e5]
      simp only []
      rw [e6]
      simp only []
      rw [e7]
      simp only []
      rw [e8]
    · unfold z_sS
      rw [z_sy_o (I := Y) (J := K) (s := 42) (fun a p1 p2 => kY a (by omega)), km 32 (by decide) (by decide), m32]
      refine c2 _ _ _ _ _ _ g1 rfl k120 ⟨k30, k31, fun a b ha hb => ?_, fun l hl => ?_, fun p hp => ?_⟩
      · show K 114 (8 * a + b) = I 136 (0 + 2 + (8 * a + b))
        rw [k0 114 (by decide) (by decide) (by decide), u5, if_pos (by omega), im 136 (by decide)]
      · show K 118 l = I 136 (0 + 66 + l)
        rw [k0 118 (by decide) (by decide) (by decide), u6, if_pos (by omega), im 136 (by decide)]
      · show K 119 p = I 136 (0 + 72 + p)
        rw [k0 119 (by decide) (by decide) (by decide), u7, if_pos (by omega), im 136 (by decide)]
    · refine z_Cl_c (q := 60) (k1 := 59) (k2 := 60) (o := 138) g2 (by rw [kY 41 (by omega)]; exact c3) (by rw [kY 41 (by omega)]; exact c4) (by rw [km 33 (by decide) (by decide), m33]) (by rw [km 34 (by decide) (by decide), m34]) (fun j hj => ?_) (fun j hj => ?_) (fun j hj => ⟨k131 j hj, k132 j hj, k133 j hj⟩) (fun j hj => ⟨k134 j hj, k135 j hj⟩)
      · rw [kY (41 + 14) (by omega), kY (41 + 15) (by omega), kY (41 + 16) (by omega)]
        exact c5 j hj
      · rw [kY (41 + 17) (by omega), kY (41 + 18) (by omega)]
        exact c6 j hj
    · rw [kY 54 (by omega), k116 j hj, ← g3 j hj]
      exact c7 j hj
    · rw [k1 0 (by omega), ks 26 (by decide) (by decide) (by decide) (by decide) (by decide) (by decide)]
      exact hS.2.2.2.2.2.2.2.1
    · rw [k30]
      exact n9.2.2.1
    · rw [km 32 (by decide) (by decide), m32] at p2
      rw [k120 _ (by omega)]
      exact n9.2.2.2 k2' j p1 p2 p3
    · rw [k2 136 (by decide) (by decide) (by decide) (by decide) (by decide) (by decide) (by decide)]
      exact n9.2.2.1
    · rw [k2 137 (by decide) (by decide) (by decide) (by decide) (by decide) (by decide) (by decide), ks 58 (by decide) (by decide) (by decide) (by decide) (by decide) (by decide)]
      exact n9.2.2.2
