/-! THE FIRST WORLD: class and reference are alike -/
def mk_C0 : g_I := f_clr (am_up (fun _ _ => 0) 0 3 (-1)) 3
def mk_D0 : g_I := am_uA (f_sbeg mk_C0 42 3 0 0) 41 (upd (upd (mk_C0 41) 2 0) 6 0)
def mk_I0 : g_I := mk_I11 mk_D0
theorem mk_I0_hi {a : Nat} (h : a ≠ 101) (h2 : a ≠ 104) (h3 : a ≠ 118) : mk_I0 a = mk_D0 a := by
  unfold mk_I0 mk_I11
  simp (disch := omega) only [am_up_o]
theorem mk_D0_o {a : Nat} (h : a < 41 ∨ 54 ≤ a) : mk_D0 a = mk_C0 a := by
  unfold mk_D0
  rw [am_uA_o _ _ _ (by omega), f_sbeg_o _ _ _ _ _ (by omega)]
theorem mk_C0_o {a : Nat} (h : a ≠ 0) (h1 : a < 3 ∨ 20 ≤ a) : mk_C0 a = fun _ => 0 := by
  unfold mk_C0 f_clr
  rw [am_uA_o _ _ _ (by omega), am_uA_o _ _ _ (by omega), am_uA_o _ _ _ (by omega), am_up_o _ _ _ _ h]
theorem mk_I0_z {a : Nat} (h : a ≠ 0) (h1 : a < 3 ∨ 20 ≤ a) (h2 : a < 41 ∨ 54 ≤ a) (h3 : a ≠ 101) (h4 : a ≠ 104) (h5 : a ≠ 118) : mk_I0 a = fun _ => 0 := by
  rw [mk_I0_hi h3 h4 h5, mk_D0_o h2, mk_C0_o h h1]
theorem z_sim0 : z_sim mk_I0 3 x_T0 := by
  refine ⟨?_, ?_, ?_, ?_, ?_, ?_, ?_, ?_, ?_, ?_, ?_⟩
  · exact z_Wk0.1
  · refine k_tw_o (k_tw_clr (am_up (fun _ _ => 0) 0 3 (-1)) 3) (fun a h1 h2 => ?_)
    rw [mk_I0_hi (by omega) (by omega) (by omega), mk_D0_o (by omega)]
    rfl
  · exact ⟨⟨by decide +kernel, fun p hp => absurd hp (Nat.not_lt_zero p)⟩, ⟨by decide +kernel, fun p hp => absurd hp (Nat.not_lt_zero p)⟩, by decide +kernel, by decide +kernel, by decide +kernel, fun p hp => absurd hp (Nat.not_lt_zero p)⟩
  · refine ⟨0, by omega, ?_, ?_, fun i hi => absurd hi (by omega), ?_, fun i hi => absurd hi (by omega), ?_⟩
    · show mk_I0 42 5 = nI 0
      decide +kernel
    · decide +kernel
    · show z_eq x_T0 (z_dc mk_I0 43) (z_dc mk_I0 47)
      exact ⟨by show mk_I0 47 0 = mk_I0 43 0; decide +kernel, by show mk_I0 47 1 = mk_I0 43 1; decide +kernel, fun a b ha => absurd ha (Nat.not_lt_zero a), fun l hl => absurd hl (Nat.not_lt_zero l), fun l hl => absurd hl (Nat.not_lt_zero l)⟩
    · show z_D x_T0 (z_dc mk_I0 43) (z_dr mk_I0)
      exact ⟨by show mk_I0 43 0 = mk_I0 101 30; decide +kernel, by show mk_I0 43 1 = mk_I0 101 31; decide +kernel, fun a b ha => absurd ha (Nat.not_lt_zero a), fun l hl => absurd hl (Nat.not_lt_zero l), fun l hl => absurd hl (Nat.not_lt_zero l), ⟨0, by omega, by show mk_I0 101 30 = nI 0; decide +kernel⟩, ⟨0, by omega, by show mk_I0 101 31 = nI 0; decide +kernel⟩, fun a b ha => absurd ha (Nat.not_lt_zero a), fun l hl => absurd hl (Nat.not_lt_zero l)⟩
  · refine ⟨⟨0, by omega, ?_, ?_, fun i hi => absurd hi (by omega)⟩, 0, by omega, ?_, ?_, fun i hi => absurd hi (by omega)⟩
    · decide +kernel
    · decide +kernel
    · decide +kernel
    · decide +kernel
  · intro k hk
    rw [mk_I0_z (a := 54) (by omega) (by omega) (by omega) (by omega) (by omega) (by omega), mk_I0_z (a := 116) (by omega) (by omega) (by omega) (by omega) (by omega) (by omega)]
  · refine ⟨⟨0, by omega, ?_, ?_, fun i hi => absurd hi (by omega)⟩, fun j hj => ?_⟩
    · decide +kernel
    · decide +kernel
    · rw [mk_I0_z (a := 2) (by omega) (by omega) (by omega) (by omega) (by omega) (by omega)]
      exact (by decide : (-128 : Int32) ≤ 0 ∧ (0 : Int32) < 128)
  · decide +kernel
  · exact ⟨by decide +kernel, fun h => absurd (by decide +kernel : mk_I0 0 9 = 0) h⟩
  · exact ⟨by decide +kernel, fun h => absurd (by decide +kernel : mk_I0 0 6 = 0) h⟩
  · have e120 : mk_I0 120 = fun _ => 0 := mk_I0_z (by omega) (by omega) (by omega) (by omega) (by omega) (by omega)
    have e136 : mk_I0 136 = fun _ => 0 := mk_I0_z (by omega) (by omega) (by omega) (by omega) (by omega) (by omega)
    have e137 : mk_I0 137 = fun _ => 0 := mk_I0_z (by omega) (by omega) (by omega) (by omega) (by omega) (by omega)
    exact ⟨⟨0, by omega, by decide +kernel⟩, fun k j _ _ _ => ⟨0, by omega, by rw [e120]; rfl⟩, ⟨0, by omega, by rw [e136]; rfl⟩, fun k j _ _ _ => ⟨0, by omega, by rw [e137]; rfl⟩⟩
/-! THE LAW'S BEGINNING -/
theorem am_cI.re {G : am_G} {own : String} {idx n : Nat} {M1 M2 : am_M} (h : am_cI G own idx M1 n) (hy : am_y M1 = am_y M2) (hb : am_b M1 = am_b M2) (hn : am_n M1 = am_n M2) (ht : am_t M1 = am_t M2) : am_cI G own idx M2 n := by
  unfold am_cI am_cB at h ⊢
  rw [hy, hb, hn, ht] at h
  exact h
def mk_R0 : Nat → Nat → Option Nat := mk_in (mk_in (fun _ _ => none) 0 mkR_X10) 101 mkR_X11
theorem mk_R0_K : lw_K mk_R0 3 22 := by
  refine ⟨⟨?_, ?_⟩, ⟨?_, ?_⟩, by decide +kernel, by decide +kernel, by omega, by omega⟩
  · intro j s h
    have hj : j < kS_Main.length := (List.getElem?_eq_some_iff.mp h).1
    show lw_sh[0 + j]? = some s
    rw [Nat.zero_add]
    unfold lw_sh
    rw [List.append_assoc, List.getElem?_append_left hj]
    exact h
  · intro q hq
    revert q
    decide +kernel
  · intro j s h
    have hj : j < kS_Mod.length := (List.getElem?_eq_some_iff.mp h).1
    have hl : kS_Main.length = 101 := by decide
    show lw_sh[101 + j]? = some s
    unfold lw_sh
    rw [List.append_assoc, List.getElem?_append_right (by omega), show 101 + j - kS_Main.length = j by omega, List.getElem?_append_left hj]
    exact h
  · intro q hq
    revert q
    decide +kernel
theorem mk_J0 (L : Nat → Nat → Int64) : lw_J (lw_sh, mk_I0, mk_R0, L, 1) := ⟨mk_I0, mk_R0, L, 3, 22, x_T0, rfl, mk_R0_K, z_sim0⟩
theorem mk_f0 (n : Nat) : u_fresh n (fun _ _ => 0) (fun _ _ => none) (fun _ _ => 0) := fun _ _ _ => ⟨rfl, rfl, rfl⟩
theorem mk_f1 : u_fresh 101 mk_D0 (mk_in (fun _ _ => none) 0 mkR_X10) (fun _ _ => 0) := by
  intro a ha k
  refine ⟨?_, ?_, rfl⟩
  · rw [mk_D0_o (by omega), mk_C0_o (by omega) (by omega)]
  · rw [mk_no _ _ _ _ (fun q hq => ?_)]
    have h1 : ∀ q ∈ mkR_X10, q.1 < 101 := by decide
    have := h1 q hq
    omega
theorem mk_f2 : u_fresh 144 mk_I0 mk_R0 (fun _ _ => 0) := by
  intro a ha k
  refine ⟨?_, ?_, rfl⟩
  · rw [mk_I0_z (by omega) (by omega) (by omega) (by omega) (by omega) (by omega)]
  · unfold mk_R0
    rw [mk_no _ _ _ _ (fun q hq => ?_)]
    · exact (mk_f1 a (by omega) k).2.1
    · have h1 : ∀ q ∈ mkR_X11, q.1 < 43 := by decide
      have := h1 q hq
      omega
set_option maxRecDepth 100000 in
set_option maxHeartbeats 4000000 in
theorem lw_begin {G : am_G} (hK : k_OK G) (hXS : k_XS G) (hA : ∀ s H, am_O G s H → va_AO "java/lang/String" s) (hN : ∀ s H, am_O G s H → va_Nc nmI nmS s) {n : Nat} {xs : Nat → Int32} (hX : k_scr G n xs) (hn : n ≤ 3072) : AW G nL_law 200 (fun v _ => v = some (.int 1)) (fun _ _ => False) 0 [some (.ref (1000000 + 3000000)), none, none, none, none, none, none] [] ([], fun _ _ => 0, fun _ _ => none, fun _ _ => 0, 0) 0 0 := by
  have hG := hK.1
  refine AW.newO (ci := 10) (N := 13) (c := 0) tyX10 (mk_clX10 hG) (mk_inX10 hG) tyX10_ok mk_dfX10 (k_c hG 143 (by decide +kernel) (by decide +kernel)) (k_c hG 144 (by decide +kernel) (by decide +kernel)) (k_c hG 117 (by decide +kernel) (by decide +kernel)) rfl (by omega) (mk_f0 0) (sh' := [.inl 10]) rfl dL_law_0 (by decide) (by decide) ?_
  refine AW.dup dL_law_3 rfl ?_
  refine AW.callI (M' := nX10_init) (b := 0) (As := []) hG.2.2 (am_cI.re (vL_74 hG) rfl rfl rfl rfl) rfl (mk_X10 hK (d := 150) (by omega) 0 rfl (by omega) rfl (mk_f0 _)) (by omega) dL_law_4 rfl rfl (Nat.le_of_ble_eq_true rfl) (fun v w9 hq9 h09 => by obtain ⟨rfl, rfl⟩ := hq9; exact ⟨rfl, rfl⟩) (by decide) (by decide) (fun v4 w4 hq4 => ?_)
  obtain ⟨rfl, rfl⟩ := hq4
  refine AW.as_n [some (.ref (1000000 + 3000000)), some (.ref 0), none, none, none, none, none] dL_law_7 (by decide) rfl rfl ?_
  show AW G nL_law 200 (fun v _ => v = some (.int 1)) (fun _ _ => False) 8 [some (.ref (1000000 + 3000000)), some (.ref 0), none, none, none, none, none] [] (kS_Main, mk_D0, mk_in (fun _ _ => none) 0 mkR_X10, fun _ _ => 0, 0) 101 3475
  refine AW.newO (ci := 11) (N := 69) (c := 101) tyX11 (mk_clX11 hG) (mk_inX11 hG) tyX11_ok mk_dfX11 (k_c hG 1458 (by decide +kernel) (by decide +kernel)) (k_c hG 1459 (by decide +kernel) (by decide +kernel)) (k_c hG 131 (by decide +kernel) (by decide +kernel)) (by decide) (by omega) mk_f1 (sh' := kS_Main ++ [.inl 11]) rfl dL_law_8 (by decide) (by decide) ?_
  refine AW.dup dL_law_11 rfl ?_
  refine AW.callI (M' := nX11_init) (b := 101) (As := []) hG.2.2 (am_cI.re (vL_77 hG) rfl rfl rfl rfl) rfl (mk_X11 hK hA (d := 150) (by omega) (by decide) (by decide) (fun a ha k => mk_f1 a (by omega) k)) (by omega) dL_law_12 rfl rfl (Nat.le_of_ble_eq_true rfl) (fun v w9 hq9 h09 => by obtain ⟨rfl, rfl⟩ := hq9; exact ⟨rfl, by decide⟩) (by decide) (by decide) (fun v5 w5 hq5 => ?_)
  obtain ⟨rfl, rfl⟩ := hq5
  refine AW.as_n [some (.ref (1000000 + 3000000)), some (.ref 0), some (.ref 101), none, none, none, none] dL_law_15 (by decide) rfl rfl ?_
  refine AW.eqSR (sh' := kS_Main ++ kS_Mod) (R' := mk_R0) (by decide) rfl ?_
  show AW G nL_law 200 (fun v _ => v = some (.int 1)) (fun _ _ => False) 16 [some (.ref (1000000 + 3000000)), some (.ref 0), some (.ref 101), none, none, none, none] [] (kS_Main ++ kS_Mod, mk_I0, mk_R0, fun _ _ => 0, 0) 144 12420
  refine AW.iconst 1 dL_law_16 (by decide) ?_
  refine AW.newL (n := 1) (c := 144) (k_c hG 2108 (by decide +kernel) (by decide +kernel)) (by decide) (by decide) (by decide) (by decide) (by omega) mk_f2 (sh' := lw_sh) rfl dL_law_17 (by decide) (by decide) ?_
  refine AW.as_n [some (.ref (1000000 + 3000000)), some (.ref 0), some (.ref 101), some (.ref 144), none, none, none] dL_law_19 (by decide) rfl rfl ?_
  refine AW.iconst 0 dL_law_20 (by decide) ?_
  refine AW.is [some (.ref (1000000 + 3000000)), some (.ref 0), some (.ref 101), some (.ref 144), some (.int (nI (6 * 0))), none, none] dL_law_21 (by decide) rfl rfl ?_
  refine AW.loose ?_
  refine AW.widen (uc' := 1024 + 4 * 0) (us' := 20000 + 24 * 0) (by decide) (by decide) Nat.one_ne_zero ?_
  exact lw_loop hK hXS hN hX hn 0 (by omega) _ (mk_J0 _)
