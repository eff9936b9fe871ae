/-! PURE: SAFE, BOTH WORLDS -/
theorem z_preD {I X : g_I} {t : Nat} {T : x_T} (hS : z_sim I t T) (hX : X = f_look I 90 t 47 T.1.length T.2.1.length) {J : g_I} (h : z_eq T (z_dr I) (z_dr J)) : z_dok T (z_dr J) ∧ z_KR T (J 114) (J 101 30) (X 91) ∧ ∀ l, l < T.2.1.length → X 92 l = z_cu T (J 114) (J 101 30) l := by
  have hD := z_D_c hS.1.1 (z_sim_D hS) (z_eq_r T _) h
  have h91 := z_lk91 (m := T.2.1.length) hS.1.1 hS.2.1 hD
  have h92 := fun l (hl : l < T.2.1.length) => z_look92 hS.1 hS.2.1 hD hl
  rw [← hX] at h91
  refine ⟨hD.2.2.2.2.2, h91, fun l hl => ?_⟩
  have := h92 l hl
  rw [← hX] at this
  exact this
theorem z_S_safe {I X : g_I} {t : Nat} {T : x_T} (ht3 : t = 3 ∨ t = 22) (hS : z_sim I t T) (hX : X = f_look I 90 t 47 T.1.length T.2.1.length) : ∃ J, b_X11_safe X = some (f_se (f_sQ X t T.1.length T.2.1.length (f_cb (I 49) (X 92) T.2.1.length)) T.1.length (2 ^ T.1.length), J) ∧ z_sim J t T ∧ J 101 2 = 0 := by
  obtain ⟨p1, p3, p4, p5⟩ := z_pre ht3 hS hX
  have ho : ∀ a, a ≠ 91 → a ≠ 92 → X a = I a := fun a h1 h2 => by rw [hX]; exact f_look_K _ _ _ _ h1 h2
  obtain ⟨I6, e6, o1, o2⟩ := z_pack (I := am_up X 101 2 0) (c := 129) (n := 80) (o := 0) (by decide) (by decide) (by decide)
  have hpkE : ∀ j, z_pk I6 j = z_pk (am_up X 101 2 0) j := fun j => by
    unfold z_pk
    rw [o1 101 (by decide), o1 114 (by decide), o1 118 (by decide), o1 119 (by decide)]
  have hR6 : z_R I6 T := z_R_o p1.2.2.1 fun a q1 q2 q3 => o1 a (by omega)
  have heq : z_eq T (z_dr I) (z_dr I6) := by
    have : z_dr I6 = z_dr I := by
      unfold z_dr
      rw [o1 101 (by decide), o1 114 (by decide), o1 118 (by decide), o1 119 (by decide), up_ne (show 30 ≠ 2 by decide), up_ne (show 31 ≠ 2 by decide), am_up_o _ _ _ _ (show 114 ≠ 101 by decide), am_up_o _ _ _ _ (show 118 ≠ 101 by decide), am_up_o _ _ _ _ (show 119 ≠ 101 by decide), ho 101 (by decide) (by decide), ho 114 (by decide) (by decide), ho 118 (by decide) (by decide), ho 119 (by decide) (by decide)]
    rw [this]; exact z_eq_r T _
  have h118 : I6 118 = am_up X 101 2 0 118 := o1 118 (by decide)
  obtain ⟨J, e, k1, k2⟩ := z_safe (J := I6) hS.1 hR6 (fun j hj => by rw [o2 j, if_pos (by omega), Nat.sub_zero, hpkE j]) (kd := X (t + 1)) (tw := X (t + 4)) (kn := X 91) (cu := X 92) (eb := X (t + 14))
    (fun k hk => by rw [ho (t + 1) (by omega) (by omega)]; exact (hS.2.1.1.2.2 k hk).1)
    (fun k hk => by rw [ho (t + 4) (by omega) (by omega)]; exact (hS.2.1.1.2.2 k hk).2.2.2)
    (fun l hl => by rw [ho (t + 14) (by omega) (by omega)]; exact (hS.2.1.2.1.2.2 l hl).2.2.2.2.2.2.1)
    (fun J' h => z_preD hS hX (z_eq_t heq h)) (Q := f_sQ X t T.1.length T.2.1.length (f_cb (I6 118) (X 92) T.2.1.length)) (fun j s => rfl) (fun (a29 : Int32) (I30 : g_I) => some (a29, I30))
  have hcb : f_cb (I 49) (X 92) T.2.1.length = f_cb (I6 118) (X 92) T.2.1.length := by rw [h118]; exact z_cb_c p5
  refine ⟨J, ?_, z_sim_o p1 ⟨fun a ha => ?_, fun k hk => by rw [k1 101 (by decide), o1 101 (by decide)], fun k hk => by rw [k2 k hk, o1 114 (by decide)], by rw [k1 0 (by decide), o1 0 (by decide)], by rw [k1 0 (by decide), o1 0 (by decide)], by rw [k1 0 (by decide), o1 0 (by decide)], by rw [k1 1 (by decide), o1 1 (by decide)]⟩, by rw [k1 101 (by decide), o1 101 (by decide)]; exact up_eq⟩
  · unfold b_X11_safe
    rw [z_gl, (z_cuttable hS.1 p1.2.2.1 p4).1]
    simp only [g_bind]
    rw [show b_X11_pack (am_up X 101 2 0) 129 80 0 = some I6 from e6]
    simp only []
    rw [hcb, ← h118]
    exact e
  · have h1 : a ≠ 114 := by unfold z_rel at ha; omega
    have h2 : a ≠ 129 := by unfold z_rel at ha; omega
    rw [k1 a h1, o1 a h2]
