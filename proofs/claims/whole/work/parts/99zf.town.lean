/-! PURE: THE TOWN'S TEXT, BOTH WORLDS -/
theorem z_R_h {J K : g_I} {T : x_T} (hW : z_W T) (h : z_R J T) (hf : ∀ a, 104 ≤ a → a ≤ 115 → ∀ k, k < z_hf a → K a k = J a k) : z_R K T := by
  have h8 := hW.1.1
  have h6 := hW.2.1.1
  have hr := hW.2.2.2.1
  obtain ⟨⟨r1, r2⟩, ⟨l1, l2⟩, r3, r4, r5, r6⟩ := h
  have f4 : ∀ k, k < 6 → K 104 k = J 104 k := fun k hk => hf 104 (by decide) (by decide) k hk
  refine ⟨⟨by rw [f4 0 (by decide)]; exact r1, fun p hp => ?_⟩, ⟨by rw [f4 1 (by decide)]; exact l1, fun l hl => ?_⟩, by rw [f4 3 (by decide)]; exact r3, by rw [f4 4 (by decide)]; exact r4, by rw [f4 5 (by decide)]; exact r5, fun k hk => ?_⟩
  · rw [hf 105 (by decide) (by decide) p (by show p < 8; omega), hf 106 (by decide) (by decide) p (by show p < 8; omega), hf 107 (by decide) (by decide) p (by show p < 8; omega)]
    exact r2 p hp
  · have he := (hW.2.1.2 l hl).2.2.2.2.2.1
    rw [hf 108 (by decide) (by decide) l (by show l < 6; omega), hf 109 (by decide) (by decide) l (by show l < 6; omega), hf 110 (by decide) (by decide) l (by show l < 6; omega), hf 111 (by decide) (by decide) l (by show l < 6; omega), hf 112 (by decide) (by decide) l (by show l < 6; omega)]
    obtain ⟨a1, a2, a3, a4, a5, a6⟩ := l2 l hl
    refine ⟨a1, a2, a3, a4, a5, fun i hi => ?_⟩
    rw [hf 113 (by decide) (by decide) (6 * l + i) (by show 6 * l + i < 36; omega)]
    exact a6 i hi
  · rw [hf 115 (by decide) (by decide) k (by show k < 600; omega)]
    exact r6 k hk
theorem z_takeHalf {I : g_I} {c0 n0 h : Nat} (hd : nI n0 / 2 = nI h) (hn : 2 * h ≤ n0) (hn0 : n0 < 5000) : ∃ J, b_X11_takeHalf I c0 n0 = some J ∧ (∀ a, a ≠ c0 → J a = I a) ∧ ∀ j, j < h → J c0 j = I c0 (h + j) := by
  obtain ⟨J, e, h1, h2⟩ := z_cpy (F := fun f x J => b_X11_takeHalf_L2 c0 n0 (fun (I2 : g_I) => some I2) f x J) (K := fun (I2 : g_I) => some I2) (I := I) (J0 := I) (c := c0) (d := 0) (N := h) (fun i => I c0 (h + i)) (by omega)
    (fun f J => by show b_X11_takeHalf_L2 c0 n0 (fun (I2 : g_I) => some I2) (f + 1) (nI h) J = some J; unfold b_X11_takeHalf_L2; rw [hd, if_pos (Int32.le_refl _)])
    (fun f i J hi hJ hk => by
      show b_X11_takeHalf_L2 c0 n0 (fun (I2 : g_I) => some I2) (f + 1) (nI i) J = b_X11_takeHalf_L2 c0 n0 (fun (I2 : g_I) => some I2) f (nI (i + 1)) (am_up J c0 (0 + i) (I c0 (h + i)))
      conv => lhs; unfold b_X11_takeHalf_L2
      rw [hd, if_neg (nI_ge hi (by omega)), nI_add, if_pos (g_in_nI (by omega) (by omega)), if_pos (g_in_nI (by omega) (by omega)), z_gl, nI_clamp (by omega), nI_clamp (by omega), nI_1, hk (h + i) (by omega), Nat.zero_add]) (fun _ _ => rfl)
  refine ⟨J, e, h1, fun j hj => ?_⟩
  rw [h2 j, if_pos (by omega), Nat.sub_zero]
theorem z_takeOver {J : g_I} : ∃ K, b_X11_takeOver J = some K ∧ (∀ a, (a < 101 ∨ (101 < a ∧ a < 104) ∨ 119 < a ∨ a = 116 ∨ a = 117) → K a = J a) ∧ (∀ a, 104 ≤ a → a ≤ 115 → ∀ k, k < z_hf a → K a k = J a (z_hf a + k)) ∧ (∀ k, k ≠ 30 → k ≠ 31 → k ≠ 32 → k ≠ 33 → k ≠ 34 → k ≠ 45 → k ≠ 57 → K 101 k = J 101 k) ∧ (K 101 30 = 0 ∧ K 101 31 = 0 ∧ K 101 32 = 0 ∧ K 101 33 = 0 ∧ K 101 34 = 0 ∧ K 101 45 = 0 ∧ K 101 57 = 0) ∧ (∀ k, k < 6 → K 118 k = -1) ∧ ∀ k, k < 8 → K 119 k = 0 := by
  obtain ⟨J1, e1, a1, b1⟩ := z_takeHalf (I := J) (c0 := 104) (n0 := 12) (h := 6) (by decide) (by decide) (by decide)
  obtain ⟨J2, e2, a2, b2⟩ := z_takeHalf (I := J1) (c0 := 105) (n0 := 16) (h := 8) (by decide) (by decide) (by decide)
  obtain ⟨J3, e3, a3, b3⟩ := z_takeHalf (I := J2) (c0 := 106) (n0 := 16) (h := 8) (by decide) (by decide) (by decide)
  obtain ⟨J4, e4, a4, b4⟩ := z_takeHalf (I := J3) (c0 := 107) (n0 := 16) (h := 8) (by decide) (by decide) (by decide)
  obtain ⟨J5, e5, a5, b5⟩ := z_takeHalf (I := J4) (c0 := 108) (n0 := 12) (h := 6) (by decide) (by decide) (by decide)
  obtain ⟨J6, e6, a6, b6⟩ := z_takeHalf (I := J5) (c0 := 109) (n0 := 12) (h := 6) (by decide) (by decide) (by decide)
  obtain ⟨J7, e7, a7, b7⟩ := z_takeHalf (I := J6) (c0 := 110) (n0 := 12) (h := 6) (by decide) (by decide) (by decide)
  obtain ⟨J8, e8, a8, b8⟩ := z_takeHalf (I := J7) (c0 := 111) (n0 := 12) (h := 6) (by decide) (by decide) (by decide)
  obtain ⟨J9, e9, a9, b9⟩ := z_takeHalf (I := J8) (c0 := 112) (n0 := 12) (h := 6) (by decide) (by decide) (by decide)
  obtain ⟨J10, e10, a10, b10⟩ := z_takeHalf (I := J9) (c0 := 113) (n0 := 72) (h := 36) (by decide) (by decide) (by decide)
  obtain ⟨J11, e11, a11, b11⟩ := z_takeHalf (I := J10) (c0 := 114) (n0 := 128) (h := 64) (by decide) (by decide) (by decide)
  obtain ⟨J12, e12, a12, b12⟩ := z_takeHalf (I := J11) (c0 := 115) (n0 := 1200) (h := 600) (by decide) (by decide) (by decide)
  have o : ∀ a, (a < 104 ∨ 115 < a) → J12 a = J a := fun a p => by rw [a12 a (by omega), a11 a (by omega), a10 a (by omega), a9 a (by omega), a8 a (by omega), a7 a (by omega), a6 a (by omega), a5 a (by omega), a4 a (by omega), a3 a (by omega), a2 a (by omega), a1 a (by omega)]
  have hh : ∀ a, 104 ≤ a → a ≤ 115 → ∀ k, k < z_hf a → J12 a k = J a (z_hf a + k) := fun a p q k hk => by
    rcases (show a = 104 ∨ a = 105 ∨ a = 106 ∨ a = 107 ∨ a = 108 ∨ a = 109 ∨ a = 110 ∨ a = 111 ∨ a = 112 ∨ a = 113 ∨ a = 114 ∨ a = 115 by omega) with rfl | rfl | rfl | rfl | rfl | rfl | rfl | rfl | rfl | rfl | rfl | rfl
    · rw [a12 104 (by decide), a11 104 (by decide), a10 104 (by decide), a9 104 (by decide), a8 104 (by decide), a7 104 (by decide), a6 104 (by decide), a5 104 (by decide), a4 104 (by decide), a3 104 (by decide), a2 104 (by decide)]
      exact b1 k hk
    · rw [a12 105 (by decide), a11 105 (by decide), a10 105 (by decide), a9 105 (by decide), a8 105 (by decide), a7 105 (by decide), a6 105 (by decide), a5 105 (by decide), a4 105 (by decide), a3 105 (by decide), b2 k hk, a1 105 (by decide)]
      rfl
    · rw [a12 106 (by decide), a11 106 (by decide), a10 106 (by decide), a9 106 (by decide), a8 106 (by decide), a7 106 (by decide), a6 106 (by decide), a5 106 (by decide), a4 106 (by decide), b3 k hk, a2 106 (by decide), a1 106 (by decide)]
      rfl
    · rw [a12 107 (by decide), a11 107 (by decide), a10 107 (by decide), a9 107 (by decide), a8 107 (by decide), a7 107 (by decide), a6 107 (by decide), a5 107 (by decide), b4 k hk, a3 107 (by decide), a2 107 (by decide), a1 107 (by decide)]
      rfl
    · rw [a12 108 (by decide), a11 108 (by decide), a10 108 (by decide), a9 108 (by decide), a8 108 (by decide), a7 108 (by decide), a6 108 (by decide), b5 k hk, a4 108 (by decide), a3 108 (by decide), a2 108 (by decide), a1 108 (by decide)]
      rfl
    · rw [a12 109 (by decide), a11 109 (by decide), a10 109 (by decide), a9 109 (by decide), a8 109 (by decide), a7 109 (by decide), b6 k hk, a5 109 (by decide), a4 109 (by decide), a3 109 (by decide), a2 109 (by decide), a1 109 (by decide)]
      rfl
    · rw [a12 110 (by decide), a11 110 (by decide), a10 110 (by decide), a9 110 (by decide), a8 110 (by decide), b7 k hk, a6 110 (by decide), a5 110 (by decide), a4 110 (by decide), a3 110 (by decide), a2 110 (by decide), a1 110 (by decide)]
      rfl
    · rw [a12 111 (by decide), a11 111 (by decide), a10 111 (by decide), a9 111 (by decide), b8 k hk, a7 111 (by decide), a6 111 (by decide), a5 111 (by decide), a4 111 (by decide), a3 111 (by decide), a2 111 (by decide), a1 111 (by decide)]
      rfl
    · rw [a12 112 (by decide), a11 112 (by decide), a10 112 (by decide), b9 k hk, a8 112 (by decide), a7 112 (by decide), a6 112 (by decide), a5 112 (by decide), a4 112 (by decide), a3 112 (by decide), a2 112 (by decide), a1 112 (by decide)]
      rfl
    · rw [a12 113 (by decide), a11 113 (by decide), b10 k hk, a9 113 (by decide), a8 113 (by decide), a7 113 (by decide), a6 113 (by decide), a5 113 (by decide), a4 113 (by decide), a3 113 (by decide), a2 113 (by decide), a1 113 (by decide)]
      rfl
    · rw [a12 114 (by decide), b11 k hk, a10 114 (by decide), a9 114 (by decide), a8 114 (by decide), a7 114 (by decide), a6 114 (by decide), a5 114 (by decide), a4 114 (by decide), a3 114 (by decide), a2 114 (by decide), a1 114 (by decide)]
      rfl
    · rw [b12 k hk, a11 115 (by decide), a10 115 (by decide), a9 115 (by decide), a8 115 (by decide), a7 115 (by decide), a6 115 (by decide), a5 115 (by decide), a4 115 (by decide), a3 115 (by decide), a2 115 (by decide), a1 115 (by decide)]
      rfl
  have g1 : ∀ (M : g_I) (K : g_I → Option g_I), ∃ M', b_X11_takeOver_L96 K fu 0 M = K M' ∧ (∀ a, a ≠ 118 → M' a = M a) ∧ ∀ j, M' 118 j = if 0 ≤ j ∧ j < 0 + 6 then -1 else M 118 j := fun M K => z_cpy (F := fun f x J => b_X11_takeOver_L96 K f x J) (K := K) (I := M) (J0 := M) (c := 118) (d := 0) (N := 6) (fun _ => -1) (by decide)
    (fun f J => by show b_X11_takeOver_L96 K (f + 1) (nI 6) J = K J; unfold b_X11_takeOver_L96; rw [if_pos (show (6 : Int32) ≤ nI 6 by decide)])
    (fun f i J hi _ _ => by
      show b_X11_takeOver_L96 K (f + 1) (nI i) J = b_X11_takeOver_L96 K f (nI (i + 1)) (am_up J 118 (0 + i) (-1))
      conv => lhs; unfold b_X11_takeOver_L96
      rw [if_neg (show ¬ (6 : Int32) ≤ nI i from nI_ge (b := 6) hi (by decide)), if_pos (g_in_nI hi (by omega)), z_gl, nI_clamp (by omega), nI_1, Nat.zero_add]) (fun _ _ => rfl)
  have g2 : ∀ (M : g_I) (K : g_I → Option g_I), ∃ M', b_X11_takeOver_L117 K fu 0 M = K M' ∧ (∀ a, a ≠ 119 → M' a = M a) ∧ ∀ j, M' 119 j = if 0 ≤ j ∧ j < 0 + 8 then 0 else M 119 j := fun M K => z_cpy (F := fun f x J => b_X11_takeOver_L117 K f x J) (K := K) (I := M) (J0 := M) (c := 119) (d := 0) (N := 8) (fun _ => 0) (by decide)
    (fun f J => by show b_X11_takeOver_L117 K (f + 1) (nI 8) J = K J; unfold b_X11_takeOver_L117; rw [if_pos (show (8 : Int32) ≤ nI 8 by decide)])
    (fun f i J hi _ _ => by
      show b_X11_takeOver_L117 K (f + 1) (nI i) J = b_X11_takeOver_L117 K f (nI (i + 1)) (am_up J 119 (0 + i) 0)
      conv => lhs; unfold b_X11_takeOver_L117
      rw [if_neg (show ¬ (8 : Int32) ≤ nI i from nI_ge (b := 8) hi (by decide)), if_pos (g_in_nI hi (by omega)), z_gl, nI_clamp (by omega), nI_1, Nat.zero_add]) (fun _ _ => rfl)
  obtain ⟨M1, m1, m2, m3⟩ := g1 (am_up (am_up J12 101 30 0) 101 31 0) (fun (I40 : g_I) => b_X11_takeOver_L117 (fun (I42 : g_I) => g_let (am_up I42 101 32 0) fun I43 => g_let (am_up I43 101 33 0) fun I44 => g_let (am_up I44 101 34 0) fun I45 => g_let (am_up I45 101 45 0) fun I46 => g_let (am_up I46 101 57 0) fun I47 => some I47) fu 0 I40)
  obtain ⟨M2, m4, m5, m6⟩ := g2 M1 (fun (I42 : g_I) => g_let (am_up I42 101 32 0) fun I43 => g_let (am_up I43 101 33 0) fun I44 => g_let (am_up I44 101 34 0) fun I45 => g_let (am_up I45 101 45 0) fun I46 => g_let (am_up I46 101 57 0) fun I47 => some I47)
  have n1 : M2 101 = am_up (am_up J12 101 30 0) 101 31 0 101 := by rw [m5 101 (by decide), m2 101 (by decide)]
  have n2 : ∀ a, a ≠ 101 → a ≠ 118 → a ≠ 119 → M2 a = J12 a := fun a p q r => by rw [m5 a r, m2 a q, am_up_o _ _ _ _ p, am_up_o _ _ _ _ p]
  refine ⟨am_up (am_up (am_up (am_up (am_up M2 101 32 0) 101 33 0) 101 34 0) 101 45 0) 101 57 0, ?_, fun a p => ?_, fun a p q k hk => ?_, fun k p1 p2 p3 p4 p5 p6 p7 => ?_, ⟨?_, ?_, ?_, ?_, ?_, ?_, ?_⟩, fun k hk => ?_, fun k hk => ?_⟩
  · unfold b_X11_takeOver
    rw [e1, z_gb, e2, z_gb, e3, z_gb, e4, z_gb, e5, z_gb, e6, z_gb, e7, z_gb, e8, z_gb, e9, z_gb, e10, z_gb, e11, z_gb, e12, z_gb, z_gl, z_gl]
    refine Eq.trans m1 (Eq.trans m4 ?_)
    rfl
  · rw [am_up_o _ _ _ _ (by omega), am_up_o _ _ _ _ (by omega), am_up_o _ _ _ _ (by omega), am_up_o _ _ _ _ (by omega), am_up_o _ _ _ _ (by omega), n2 a (by omega) (by omega) (by omega), o a (by omega)]
  · rw [am_up_o _ _ _ _ (by omega), am_up_o _ _ _ _ (by omega), am_up_o _ _ _ _ (by omega), am_up_o _ _ _ _ (by omega), am_up_o _ _ _ _ (by omega), n2 a (by omega) (by omega) (by omega), hh a p q k hk]
  · rw [up_ne p7, up_ne p6, up_ne p5, up_ne p4, up_ne p3, n1, up_ne p2, up_ne p1, o 101 (by decide)]
  · rw [up_ne (by decide), up_ne (by decide), up_ne (by decide), up_ne (by decide), up_ne (by decide), n1, up_ne (by decide), up_eq]
  · rw [up_ne (by decide), up_ne (by decide), up_ne (by decide), up_ne (by decide), up_ne (by decide), n1, up_eq]
  · rw [up_ne (by decide), up_ne (by decide), up_ne (by decide), up_ne (by decide), up_eq]
  · rw [up_ne (by decide), up_ne (by decide), up_ne (by decide), up_eq]
  · rw [up_ne (by decide), up_ne (by decide), up_eq]
  · rw [up_ne (by decide), up_eq]
  · exact up_eq
  · rw [am_up_o _ _ _ _ (by decide), am_up_o _ _ _ _ (by decide), am_up_o _ _ _ _ (by decide), am_up_o _ _ _ _ (by decide), am_up_o _ _ _ _ (by decide), m5 118 (by decide), m3 k, if_pos (by omega)]
  · rw [am_up_o _ _ _ _ (by decide), am_up_o _ _ _ _ (by decide), am_up_o _ _ _ _ (by decide), am_up_o _ _ _ _ (by decide), am_up_o _ _ _ _ (by decide), m6 k, if_pos (by omega)]
theorem z_Wk0 : z_Wk x_T0 := by
  refine ⟨⟨⟨Nat.zero_le _, fun p hp => absurd hp (Nat.not_lt_zero p)⟩, ⟨Nat.zero_le _, fun p hp => absurd hp (Nat.not_lt_zero p)⟩, ⟨⟨365, by decide, by decide, rfl⟩, ⟨12, by decide, by decide, rfl⟩⟩, Nat.zero_le _, fun c hc => absurd hc (by simp), 0, rfl⟩, Nat.zero_le _, fun p hp => absurd hp (Nat.not_lt_zero p)⟩
/-- the reference reads the text as the class does -/
theorem z_townP {X : g_I} {tp : Nat → Int32} {nn fd : Nat} (h17 : X 101 17 = nI fd) (hf6 : fd ≤ 600) (hnn : nn ≤ fd) (htp : ∀ j, j < fd → X 117 j = tp j &&& 255) (hby : ∀ j, j < 600 → -128 ≤ tp j ∧ tp j < 128) : ∃ J22, b_X11_town X (nI nn) = (if (J22 101 24) = 0 then g_bind (b_X11_takeOver J22) fun I24 => some (0, I24) else g_let (am_up J22 101 26 (J22 101 25)) fun I26 => g_let (am_up I26 116 0 ((I26 116 0) + 1)) fun I27 => some (I27 101 24, I27)) ∧
    (∀ a, (a < 101 ∨ (101 < a ∧ a < 104) ∨ 115 < a) → J22 a = X a) ∧ (∀ a, 104 ≤ a → a ≤ 115 → ∀ k, k < z_hf a → J22 a k = X a k) ∧ (∀ k, k ≠ 2 → (k < 17 ∨ 26 < k) → J22 101 k = X 101 k) ∧ J22 101 17 = 0 ∧ J22 101 2 = 0 ∧ J22 101 26 = -1 ∧ z_ps tp nn J22 (x_read tp nn).1 ∧ ((x_read tp nn).1.1 = 0 → z_Rh J22 (x_read tp nn).2.1 ∧ z_Wk (x_read tp nn).2.1) := by
  generalize hI9 : am_up (am_up (am_up (am_up (am_up (am_up X 101 2 0) 101 17 0) 101 19 (nI nn)) 101 18 0) 101 24 0) 101 26 (-1) = I9
  have i9o : ∀ a, a ≠ 101 → I9 a = X a := fun a p => by rw [← hI9]; simp only [am_up_o _ _ _ _ p]
  have i9s : ∀ k, k ≠ 2 → k ≠ 17 → k ≠ 18 → k ≠ 19 → k ≠ 24 → k ≠ 26 → I9 101 k = X 101 k := fun k p1 p2 p3 p4 p5 p6 => by rw [← hI9, up_ne p6, up_ne p5, up_ne p3, up_ne p4, up_ne p2, up_ne p1]
  have i2 : I9 101 2 = 0 := by rw [← hI9, up_ne (by decide), up_ne (by decide), up_ne (by decide), up_ne (by decide), up_ne (by decide), up_eq]
  have i17 : I9 101 17 = 0 := by rw [← hI9, up_ne (by decide), up_ne (by decide), up_ne (by decide), up_ne (by decide), up_eq]
  have i19 : I9 101 19 = nI nn := by rw [← hI9, up_ne (by decide), up_ne (by decide), up_ne (by decide), up_eq]
  have i18 : I9 101 18 = 0 := by rw [← hI9, up_ne (by decide), up_ne (by decide), up_eq]
  have i24 : I9 101 24 = 0 := by rw [← hI9, up_ne (by decide), up_eq]
  have i26 : I9 101 26 = -1 := by rw [← hI9, up_eq]
  have g1 : ∀ (K : g_I → Option (Int32 × g_I)), ∃ M', b_X11_town_L50 K fu 0 I9 = K M' ∧ (∀ a, a ≠ 104 → M' a = I9 a) ∧ ∀ j, M' 104 j = if 6 ≤ j ∧ j < 6 + 6 then (if j - 6 = 3 then 365 else if j - 6 = 4 then 12 else 0) else I9 104 j := fun K => z_cpy (F := fun f x J => b_X11_town_L50 K f x J) (K := K) (I := I9) (J0 := I9) (c := 104) (d := 6) (N := 6) (fun i => if i = 3 then 365 else if i = 4 then 12 else 0) (by decide)
    (fun f J => by show b_X11_town_L50 K (f + 1) (nI 6) J = K J; unfold b_X11_town_L50; rw [if_pos (show (6 : Int32) ≤ nI 6 by decide)])
    (fun f i J hi _ _ => by
      show b_X11_town_L50 K (f + 1) (nI i) J = b_X11_town_L50 K f (nI (i + 1)) (am_up J 104 (6 + i) (if i = 3 then 365 else if i = 4 then 12 else 0))
      conv => lhs; unfold b_X11_town_L50
      rw [if_neg (show ¬ (6 : Int32) ≤ nI i from nI_ge (b := 6) hi (by decide)), show (6 : Int32) + nI i = nI (6 + i) from nI_add 6 i, if_pos (g_in_nI (by omega) (by omega)), if_pos (g_in_nI (by omega) (by omega)), if_pos (g_in_nI (by omega) (by omega)), z_gl, z_gl, z_gl, nI_clamp (by omega), nI_1]
      by_cases c3 : i = 3
      · rw [if_pos (show nI i = 3 by rw [c3]; rfl), if_pos c3]
      · rw [if_neg (show ¬ nI i = 3 from fun r => c3 ((nI_eq (b := 3) (by omega) (by omega)).mp r)), if_neg c3]
        by_cases c4 : i = 4
        · rw [if_pos (show nI i = 4 by rw [c4]; rfl), if_pos c4]
        · rw [if_neg (show ¬ nI i = 4 from fun r => c4 ((nI_eq (b := 4) (by omega) (by omega)).mp r)), if_neg c4]) (fun _ _ => rfl)
  have g2 : ∀ (M : g_I) (K : g_I → Option (Int32 × g_I)), ∃ M', b_X11_town_L95 K fu 0 M = K M' ∧ (∀ a, a ≠ 114 → M' a = M a) ∧ ∀ j, M' 114 j = if 64 ≤ j ∧ j < 64 + 64 then -100000 else M 114 j := fun M K => z_cpy (F := fun f x J => b_X11_town_L95 K f x J) (K := K) (I := M) (J0 := M) (c := 114) (d := 64) (N := 64) (fun _ => -100000) (by decide)
    (fun f J => by show b_X11_town_L95 K (f + 1) (nI 64) J = K J; unfold b_X11_town_L95; rw [if_pos (show (64 : Int32) ≤ nI 64 by decide)])
    (fun f i J hi _ _ => by
      show b_X11_town_L95 K (f + 1) (nI i) J = b_X11_town_L95 K f (nI (i + 1)) (am_up J 114 (64 + i) (-100000))
      conv => lhs; unfold b_X11_town_L95
      rw [if_neg (show ¬ (64 : Int32) ≤ nI i from nI_ge (b := 64) hi (by decide)), show (64 : Int32) + nI i = nI (64 + i) from nI_add 64 i, if_pos (g_in_nI (by omega) (by omega)), z_gl, nI_clamp (by omega), nI_1]) (fun _ _ => rfl)
  obtain ⟨M1, m1, m2, m3⟩ := g1 (fun (I13 : g_I) => b_X11_town_L95 (fun (I15 : g_I) => g_bind (b_X11_stepOn I15) fun I17 => b_X11_town_L125 (fun (I22 : g_I) => if (I22 101 24) = 0 then g_bind (b_X11_takeOver I22) fun I24 => some (0, I24) else g_let (am_up I22 101 26 (I22 101 25)) fun I26 => g_let (am_up I26 116 0 ((I26 116 0) + 1)) fun I27 => some (I27 101 24, I27)) fu 0 I17) fu 0 I13)
  obtain ⟨M2, m4, m5, m6⟩ := g2 M1 (fun (I15 : g_I) => g_bind (b_X11_stepOn I15) fun I17 => b_X11_town_L125 (fun (I22 : g_I) => if (I22 101 24) = 0 then g_bind (b_X11_takeOver I22) fun I24 => some (0, I24) else g_let (am_up I22 101 26 (I22 101 25)) fun I26 => g_let (am_up I26 116 0 ((I26 116 0) + 1)) fun I27 => some (I27 101 24, I27)) fu 0 I17)
  have n101 : M2 101 = I9 101 := by rw [m5 101 (by decide), m2 101 (by decide)]
  have no : ∀ a, a ≠ 101 → a ≠ 104 → a ≠ 114 → M2 a = X a := fun a p q r => by rw [m5 a r, m2 a q, i9o a p]
  have hT : z_tpr tp nn M2 := ⟨by rw [n101]; exact i19, by omega, fun j hj => by rw [no 117 (by decide) (by decide) (by decide)]; exact htp j (by omega), hby⟩
  obtain ⟨J17, s1, s2, s3, s4, s5, s6⟩ := z_stepOn (p := 0) hT (Nat.zero_le _) (by rw [n101]; exact i18)
  rw [Nat.sub_zero] at s5
  have hrb := x_run_b x_bl tp nn 0
  have jo : ∀ a, a ≠ 101 → J17 a = M2 a := s2.1
  have j104 : ∀ j, J17 104 j = if 6 ≤ j ∧ j < 6 + 6 then (if j - 6 = 3 then 365 else if j - 6 = 4 then 12 else 0) else X 104 j := fun j => by rw [jo 104 (by decide), m5 104 (by decide), m3 j, i9o 104 (by decide)]
  have j114 : ∀ j, J17 114 j = if 64 ≤ j ∧ j < 64 + 64 then -100000 else X 114 j := fun j => by rw [jo 114 (by decide), m6 j, m2 114 (by decide), i9o 114 (by decide)]
  have jx : ∀ a, a ≠ 101 → a ≠ 104 → a ≠ 114 → J17 a = X a := fun a p q r => by rw [jo a p, no a p q r]
  have hRh : z_Rh J17 x_T0 := by
    refine ⟨⟨by rw [j104 6]; rfl, by rw [j104 7]; rfl, by rw [j104 8]; rfl, by rw [j104 9]; rfl, by rw [j104 10]; rfl⟩, ⟨by rw [j104 11]; rfl, fun k hk => absurd hk (Nat.not_lt_zero k)⟩, fun p hp => absurd hp (Nat.not_lt_zero p), fun p hp => absurd hp (Nat.not_lt_zero p), fun a b ha hb => ?_⟩
    rw [j114, if_pos (by omega)]
    rfl
  have hpl : z_pln tp nn J17 ((0, x_run x_bl tp nn 0), x_T0, (0, 0, 0)) 0 := ⟨⟨s6, by rw [s3, n101]; exact i24, by show x_run x_bl tp nn 0 ≤ nn; omega, fun _ => s5, fun r => absurd rfl r⟩, fun _ => ⟨hRh, z_Wk0, ⟨0, 0, 0, by decide, by decide, by decide, rfl, rfl⟩, fun _ => rfl⟩⟩
  obtain ⟨J22, t1, t2, t3, t4⟩ := z_rdR (tp := tp) (n := nn) (K := fun (I22 : g_I) => if (I22 101 24) = 0 then g_bind (b_X11_takeOver I22) fun I24 => some (0, I24) else g_let (am_up I22 101 26 (I22 101 25)) fun I26 => g_let (am_up I26 116 0 ((I26 116 0) + 1)) fun I27 => some (I27 101 24, I27)) 601 fu J17 _ 0 hpl (fun _ => by show nn ≤ x_run x_bl tp nn 0 + 601; omega) (by unfold fu; omega)
  have q101 : ∀ k, (k < 18 ∨ k = 19 ∨ 25 < k) → J22 101 k = I9 101 k := fun k hk => by rw [t2.2.1 k hk, s2.2 k hk, n101]
  refine ⟨J22, ?_, fun a p => ?_, fun a p q k hk => ?_, fun k p q => ?_, ?_, ?_, ?_, t3, t4⟩
  · unfold b_X11_town
    rw [z_gl, if_neg (nI_pos (by omega)), up_ne (show 17 ≠ 2 by decide), h17, if_pos (nI_le hnn (by omega)), z_gl, z_gl, z_gl, z_gl, z_gl, hI9]
    refine Eq.trans m1 (Eq.trans m4 ?_)
    rw [s1, z_gb]
    exact t1
  · rw [t2.1 a p, jx a (by omega) (by omega) (by omega)]
  · rw [t2.2.2 a p q k hk]
    by_cases e1 : a = 104
    · subst e1
      rw [j104, if_neg (by have : k < 6 := hk; omega)]
    · by_cases e2 : a = 114
      · subst e2
        rw [j114, if_neg (by have : k < 64 := hk; omega)]
      · rw [jx a (by omega) e1 e2]
  · rw [q101 k (by omega), i9s k p (by omega) (by omega) (by omega) (by omega) (by omega)]
  · rw [q101 17 (by decide), i17]
  · rw [q101 2 (by decide), i2]
  · rw [q101 26 (by decide), i26]
