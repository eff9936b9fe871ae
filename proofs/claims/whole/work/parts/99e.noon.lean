/-! PURE: NOON, ASKED -/
/-- behind the first day no open loaf is carried -/
theorem z_rowOn0 {J : g_I} {n m : Nat} (hm6 : m ≤ 6) (h1040 : J 104 0 = nI n) (h1041 : J 104 1 = nI m) (hday : ¬ J 101 30 = 0) : ∀ (f b : Nat) (c : Int32) (I : g_I), m - b < f → (∃ b', b ≤ b' ∧ b' < m ∧ J 118 b' = -1) → z_rK J I → I 101 46 = 0 → ∃ I', c_X11_rowOn f I (nI b) c = some I' ∧ z_rK J I' ∧ I' 101 46 = 0 := by
  intro f
  induction f with
  | zero => intro b c I h; exact absurd h (Nat.not_lt_zero _)
  | succ f ih =>
    intro b c I hf hex hI h46
    obtain ⟨b', e1, e2, e3⟩ := hex
    show ∃ I', b_X11_rowOn (c_X11_rowOn f) I (nI b) c = some I' ∧ z_rK J I' ∧ I' 101 46 = 0
    have hk1 : z_rK J (am_up I 126 b (-1)) := ⟨fun a h1 h2 h3 => by rw [am_up_o _ _ _ _ h2]; exact hI.1 a h1 h2 h3, fun k h1 h2 => by rw [am_up_o _ _ _ _ (show 101 ≠ 126 by decide)]; exact hI.2 k h1 h2⟩
    have h461 : am_up I 126 b (-1) 101 46 = 0 := by rw [am_up_o _ _ _ _ (show 101 ≠ 126 by decide)]; exact h46
    unfold b_X11_rowOn
    rw [z_gl, if_pos h46]
    dsimp only
    rw [if_neg (show ¬ nI b = I 104 1 by rw [hI.1 104 (by decide) (by decide) (by decide), h1041]; exact fun e => by have := (nI_eq (by omega) (by omega)).mp e; omega), if_pos (g_in_nI (by omega) (by decide)), z_gl, if_pos (g_in_nI (by omega) (by decide)), nI_clamp (by omega), hk1.1 118 (by decide) (by decide) (by decide)]
    by_cases c1 : J 118 b = -1
    · rw [if_pos c1]
      refine ⟨am_up I 126 b (-1), ?_, hk1, h461⟩
      obtain ⟨g9, hg9⟩ : ∃ g, fu = g + 1 := ⟨fu - 1, by unfold fu; omega⟩
      rw [hg9]
      unfold b_X11_rowOn_L91
      rw [hk1.2 30 (by decide) (by decide), if_neg hday]
      split <;> rfl
    · rw [if_neg c1, nI_1]
      obtain ⟨I', g1, g2, g3⟩ := ih (b + 1) c (am_up I 126 b (-1)) (by omega) ⟨b', by have : b' ≠ b := fun q => c1 (by rw [← q]; exact e3)
                                                                                      omega, e2, e3⟩ hk1 h461
      exact ⟨I', by rw [g1]; rfl, g2, g3⟩
theorem z_noonB {X : g_I} {m : Nat} (hm6 : m ≤ 6) (h1041 : X 104 1 = nI m) : (¬ z_ct (fun b => decide (X 118 b = -1)) m ≤ 5 → b_X11_noon X = some (-2, am_up X 101 2 0)) ∧ (z_ct (fun b => decide (X 118 b = -1)) m ≤ 5 → ∃ I6, (∀ a, a ≠ 128 → I6 a = am_up X 101 2 0 a) ∧ ∀ I9, c_X11_rowOn 8 (am_up I6 101 46 0) 0 0 = some I9 → z_rK I6 I9 → (I9 101 46 = 0 → ∃ J', b_X11_noon X = some (-1, J') ∧ (∀ a, a ≠ 127 → J' a = I9 a) ∧ ∀ j, j < 6 → J' 127 j = X 127 j) ∧ (¬ I9 101 46 = 0 → b_X11_noon X = some (I9 101 44, am_up I9 101 45 1))) := by
  have hL9 : ∀ K : Int32 → Option (Int32 × g_I), b_X11_noon_L9 (am_up X 101 2 0) K fu 0 0 = K (nI (z_ct (fun b => decide (X 118 b = -1)) m)) := fun K => by
    have h := z_lp (F := fun f (s : Int32 × Int32) => b_X11_noon_L9 (am_up X 101 2 0) K f s.1 s.2) (K := fun s => K s.1) (N := m) (fun i s => s.2 = nI i ∧ s.1 = nI (z_ct (fun b => decide (X 118 b = -1)) i))
      (fun f s hP => by
        show b_X11_noon_L9 (am_up X 101 2 0) K (f + 1) s.1 s.2 = K s.1
        unfold b_X11_noon_L9
        rw [am_up_o _ _ _ _ (show 104 ≠ 101 by decide), h1041, hP.1, if_pos (Int32.le_refl _)])
      (fun f i s hi hP => by
        obtain ⟨s1, s2⟩ := hP
        refine ⟨(nI (z_ct (fun b => decide (X 118 b = -1)) (i + 1)), nI (i + 1)), ?_, rfl, rfl⟩
        show b_X11_noon_L9 (am_up X 101 2 0) K (f + 1) s.1 s.2 = b_X11_noon_L9 (am_up X 101 2 0) K f (nI (z_ct (fun b => decide (X 118 b = -1)) (i + 1))) (nI (i + 1))
        conv => lhs; unfold b_X11_noon_L9
        rw [am_up_o _ _ _ _ (show 104 ≠ 101 by decide), h1041, s1, if_neg (nI_ge hi (by omega)), if_pos (g_in_nI (by omega) (by decide)), nI_clamp (by omega), am_up_o _ _ _ _ (show 118 ≠ 101 by decide), z_gl, z_gl, s2, nI_1, z_ct_s]
        by_cases c : X 118 i = -1
        · rw [if_pos c, if_pos (decide_eq_true c), nI_1]
        · rw [if_neg c, if_neg (show ¬ decide (X 118 i = -1) = true from fun q => c (of_decide_eq_true q)), Int32.add_zero, nI_1])
      m fu 0 (0, 0) (by omega) (by unfold fu; omega) ⟨rfl, rfl⟩
    obtain ⟨s, e, -, e2⟩ := h
    rw [← e2]; exact e
  have hcm := z_ct_le (fun b => decide (X 118 b = -1)) m
  constructor
  · intro hc
    unfold b_X11_noon
    rw [z_gl, hL9, if_neg (show ¬ nI (z_ct (fun b => decide (X 118 b = -1)) m) ≤ 5 from fun q => hc ((nI_leI (b := 5) (by omega) (by omega)).mp q))]
  · intro hc
    obtain ⟨I6, e, o1, o2⟩ := z_cpy (F := fun f x I => b_X11_noon_L53 (fun (I6 : g_I) => g_let (am_up I6 101 46 0) fun I7 => g_bind (c_X11_rowOn 8 I7 0 0) fun I9 => if (I9 101 46) = 0 then b_X11_noon_L97 (fun (I13 : g_I) => some ((-1), I13)) fu 0 I9 else g_let (am_up I9 101 45 1) fun I11 => some (I11 101 44, I11)) f x I) (K := fun (I6 : g_I) => g_let (am_up I6 101 46 0) fun I7 => g_bind (c_X11_rowOn 8 I7 0 0) fun I9 => if (I9 101 46) = 0 then b_X11_noon_L97 (fun (I13 : g_I) => some ((-1), I13)) fu 0 I9 else g_let (am_up I9 101 45 1) fun I11 => some (I11 101 44, I11)) (I := am_up X 101 2 0) (J0 := am_up X 101 2 0) (c := 128) (d := 0) (N := 6) (fun i => X 127 i) (by decide)
      (fun f I => by
        show b_X11_noon_L53 _ (f + 1) (nI 6) I = _
        unfold b_X11_noon_L53
        rw [if_pos (show (6 : Int32) ≤ nI 6 from Int32.le_refl _)])
      (fun f i I hi ho _ => by
        show b_X11_noon_L53 _ (f + 1) (nI i) I = b_X11_noon_L53 _ f (nI (i + 1)) (am_up I 128 (0 + i) (X 127 i))
        conv => lhs; unfold b_X11_noon_L53
        rw [if_neg (show ¬ (6 : Int32) ≤ nI i from nI_ge (b := 6) hi (by omega)), if_pos (g_in_nI (by omega) (by decide)), if_pos (g_in_nI (by omega) (by decide)), z_gl, nI_clamp (by omega), nI_1, Nat.zero_add, ho 127 (by decide), am_up_o _ _ _ _ (show 127 ≠ 101 by decide)])
      (fun _ _ => rfl)
    refine ⟨I6, o1, fun I9 e9 k9 => ?_⟩
    have hn : b_X11_noon X = if (I9 101 46) = 0 then b_X11_noon_L97 (fun (I13 : g_I) => some ((-1), I13)) fu 0 I9 else some (am_up I9 101 45 1 101 44, am_up I9 101 45 1) := by
      unfold b_X11_noon
      rw [z_gl, hL9, if_pos (show nI (z_ct (fun b => decide (X 118 b = -1)) m) ≤ 5 from (nI_leI (b := 5) (by omega) (by omega)).mpr hc)]
      refine Eq.trans e ?_
      rw [z_gl, e9]
      simp only [g_bind]
      rw [z_gl]
    rw [hn]
    constructor
    · intro h0
      rw [if_pos h0]
      obtain ⟨J', e', p1, p2⟩ := z_cpy (F := fun f x I => b_X11_noon_L97 (fun (I13 : g_I) => some ((-1 : Int32), I13)) f x I) (K := fun (I13 : g_I) => some ((-1 : Int32), I13)) (I := I9) (J0 := I9) (c := 127) (d := 0) (N := 6) (fun i => X 127 i) (by decide)
        (fun f I => by
          show b_X11_noon_L97 _ (f + 1) (nI 6) I = _
          unfold b_X11_noon_L97
          rw [if_pos (show (6 : Int32) ≤ nI 6 from Int32.le_refl _)])
        (fun f i I hi ho _ => by
          show b_X11_noon_L97 _ (f + 1) (nI i) I = b_X11_noon_L97 _ f (nI (i + 1)) (am_up I 127 (0 + i) (X 127 i))
          conv => lhs; unfold b_X11_noon_L97
          rw [if_neg (show ¬ (6 : Int32) ≤ nI i from nI_ge (b := 6) hi (by omega)), if_pos (g_in_nI (by omega) (by decide)), if_pos (g_in_nI (by omega) (by decide)), z_gl, nI_clamp (by omega), nI_1, Nat.zero_add, ho 128 (by decide), k9.1 128 (by decide) (by decide) (by decide), o2 i, if_pos (by omega), Nat.sub_zero])
        (fun _ _ => rfl)
      exact ⟨J', e', p1, fun j hj => by rw [p2 j, if_pos (by omega), Nat.sub_zero]⟩
    · intro h0
      rw [if_neg h0, up_ne (by decide)]
