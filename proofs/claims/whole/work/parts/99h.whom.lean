/-! PURE: WHOM, BOTH WORLDS -/
theorem z_S_whom {I X : g_I} {t : Nat} {T : x_T} (ht3 : t = 3 ∨ t = 22) (hS : z_sim I t T) (hX : X = f_look I 90 t 47 T.1.length T.2.1.length) {k : Nat} (hk : I 41 6 = nI k) (hk4 : k ≤ 4) {wh : Int32} (hwh : wh = 0 ∨ wh = 1) : ∃ J, b_X11_whom X wh = some (if wh = 0 then (f_wm (f_wP X t T.1.length k) T.1.length T.1.length).1 else (f_wm (f_wP X t T.1.length k) T.1.length T.1.length).2, J) ∧ z_sim J t T ∧ J 101 2 = 0 := by
  obtain ⟨p1, p3, p4, p5⟩ := z_pre ht3 hS hX
  have ho : ∀ a, a ≠ 91 → a ≠ 92 → X a = I a := fun a h1 h2 => by rw [hX]; exact f_look_K _ _ _ _ h1 h2
  obtain ⟨-, kb, b1, b2, b3, b4⟩ := p1.2.2.2.2.1
  have e41 : am_up X 101 2 0 41 = I 41 := by rw [am_up_o _ _ _ _ (show 41 ≠ 101 by decide), ho 41 (by decide) (by decide)]
  have hkb : k = kb := by
    rw [e41, hk] at b2
    exact (nI_eq (by omega) (by omega)).mp b2
  have e58 : am_up X 101 2 0 (41 + 17) = X 58 := am_up_o _ _ _ _ (by decide)
  have e59 : am_up X 101 2 0 (41 + 18) = X 59 := am_up_o _ _ _ _ (by decide)
  have hd : z_dok T (z_dr (am_up X 101 2 0)) := (z_sim_D p1).2.2.2.2.2
  refine ⟨am_up X 101 2 0, ?_, p1, up_eq⟩
  have h := z_whom (J := am_up X 101 2 0) hS.1 p1.2.2.1 hd (kd := X (t + 1)) (tw := X (t + 4)) (kn := X 91) (eb := X (t + 14)) (bp := X 58) (bl := X 59)
    (fun k hk => by rw [ho (t + 1) (by omega) (by omega)]; exact (hS.2.1.1.2.2 k hk).1)
    (fun k hk => by rw [ho (t + 4) (by omega) (by omega)]; exact (hS.2.1.1.2.2 k hk).2.2.2) p3
    (fun l hl => by rw [ho (t + 14) (by omega) (by omega)]; exact (hS.2.1.2.1.2.2 l hl).2.2.2.2.2.2.1) (k := k) (by rw [hkb]; exact b3) hk4 (fun j hj => by
      obtain ⟨x1, x2, x3, x4⟩ := b4 j (by omega)
      rw [e58] at x1
      rw [e59] at x2
      exact ⟨x1, x2, x3, x4⟩) (f_wP X t T.1.length k) (fun a b => rfl) wh (fun (a27 : Int32) (a28 : Int32) (I29 : g_I) => if wh = 0 then some (a27, I29) else some (a28, I29))
  unfold b_X11_whom
  rw [z_gl, if_neg (show ¬ wh < 0 by rcases hwh with e | e <;> rw [e] <;> decide), if_pos (show wh ≤ 1 by rcases hwh with e | e <;> rw [e] <;> decide)]
  refine Eq.trans h ?_
  by_cases c : wh = 0
  · rw [if_pos c, if_pos c]
  · rw [if_neg c, if_neg c]
