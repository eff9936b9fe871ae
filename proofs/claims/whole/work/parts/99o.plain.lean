/-! PURE: FAULT, CARRIED, MET, PERSON, LOAF, COUNT, BOTH WORLDS -/
theorem z_J0 {I : g_I} {t : Nat} {T : x_T} (ht3 : t = 3 ∨ t = 22) (hS : z_sim I t T) : z_sim (am_up I 101 2 0) t T := z_sim_o hS (z_kR2 (v := 0) ht3)
theorem z_so {α : Type} {a b : α} {J : g_I} (h : a = b) : (some (a, J) : Option (α × g_I)) = some (b, J) := by rw [h]
theorem z_S_fault {I : g_I} {t : Nat} {T : x_T} (ht3 : t = 3 ∨ t = 22) (hS : z_sim I t T) : ∃ J, b_X11_fault I = some (I 0 3, J) ∧ z_sim J t T ∧ J 101 2 = 0 := by
  refine ⟨am_up I 101 2 0, ?_, z_J0 ht3 hS, up_eq⟩
  unfold b_X11_fault
  rw [z_gl, up_ne (by decide), ← hS.2.2.2.2.2.2.2.1]
theorem z_S_carried {I : g_I} {t : Nat} {T : x_T} (ht3 : t = 3 ∨ t = 22) (hS : z_sim I t T) {b : Nat} (hb : b < T.2.1.length) (hk : ¬ I 0 9 = 0) : ∃ J, b_X11_carried I (nI b) = some (I 89 b, J) ∧ z_sim J t T ∧ J 101 2 = 0 := by
  have h0 := z_J0 ht3 hS
  have h6 := hS.1.2.1.1
  have hw := hS.2.2.2.2.2.2.2.2.1
  refine ⟨am_up I 101 2 0, ?_, h0, up_eq⟩
  unfold b_X11_carried
  rw [z_gl, if_pos ((z_isL h0.2.2.1.2.1.1 h6 _).mpr ⟨b, hb, rfl⟩), up_ne (show 45 ≠ 2 by decide), if_neg (show ¬ I 101 45 = 0 from fun e => hk (hw.1.mpr e)), if_pos (g_in_nI (by omega) (by decide)), nI_clamp (by omega), am_up_o _ _ _ _ (show 127 ≠ 101 by decide), hw.2 hk b hb]
theorem z_T_carried {I : g_I} {t : Nat} {T : x_T} (ht3 : t = 3 ∨ t = 22) (hS : z_sim I t T) {l : Int32} (h : ¬ (k_is l T.2.1.length ∧ ¬ I 0 9 = 0)) : ∃ r J, b_X11_carried I l = some (r, J) ∧ z_sim J t T ∧ J 101 2 = 1 := by
  have h0 := z_J0 ht3 hS
  have h6 := hS.1.2.1.1
  have hw := hS.2.2.2.2.2.2.2.2.1
  refine ⟨0, am_up (am_up I 101 2 0) 101 2 1, ?_, z_simF ht3 hS 1, up_eq⟩
  unfold b_X11_carried
  rw [z_gl]
  by_cases c1 : b_X11_isLoaf (am_up I 101 2 0) l = true
  · rw [if_pos c1, up_ne (show 45 ≠ 2 by decide), if_pos (show I 101 45 = 0 from hw.1.mp (Classical.byContradiction fun e => h ⟨(z_isL h0.2.2.1.2.1.1 h6 _).mp c1, e⟩))]; rfl
  · rw [if_neg c1]; rfl
theorem z_S_met {I : g_I} {t : Nat} {T : x_T} (ht3 : t = 3 ∨ t = 22) (hS : z_sim I t T) {a b : Nat} (ha : a < T.1.length) (hb : b < T.1.length) (hne : ¬ nI a = nI b) : ∃ J, b_X11_met I (nI a) (nI b) = some (f_mt I a b, J) ∧ z_sim J t T ∧ J 101 2 = 0 := by
  have h0 := z_J0 ht3 hS
  have h8 := hS.1.1.1
  have hR := h0.2.2.1
  have hD := z_sim_D hS
  have hab : a ≠ b := fun e => hne (by rw [e])
  have d0 : I 47 0 = I 101 30 := hD.1
  have d2 : I 48 (8 * a + b) = z_cv (z_ld (I 114) (z_tw T) a b) := hD.2.2.1 a b ha hb hab
  have hge : -100000 ≤ z_ld (I 114) (z_tw T) a b := z_ld_ge hS.1.1 (fun x y hx hy => (hD.2.2.2.2.2.2.2.1 x y hx hy).1) ha hb
  refine ⟨am_up I 101 2 0, ?_, h0, up_eq⟩
  unfold b_X11_met
  rw [z_gl, if_pos ((z_isP hR.1.1 h8 _).mpr ⟨a, ha, rfl⟩), if_pos ((z_isP hR.1.1 h8 _).mpr ⟨b, hb, rfl⟩), if_neg hne, z_lastDay hS.1.1 hR.1 ha hb]
  simp only [g_bind]
  rw [am_up_o _ _ _ _ (show 114 ≠ 101 by decide), up_ne (show 30 ≠ 2 by decide)]
  unfold f_mt
  rw [d2, d0]
  unfold z_cv
  by_cases c : z_ld (I 114) (z_tw T) a b = -100000
  · rw [if_pos c, if_pos c, if_pos rfl]
  · rw [if_neg c, if_neg c, if_neg (fun e => by rw [e] at hge; exact absurd hge (by decide))]
theorem z_T_met1 {I : g_I} {t : Nat} {T : x_T} (ht3 : t = 3 ∨ t = 22) (hS : z_sim I t T) {p q : Int32} (h : ¬ (k_is p T.1.length ∧ k_is q T.1.length)) : ∃ r J, b_X11_met I p q = some (r, J) ∧ z_sim J t T ∧ J 101 2 = 1 := by
  have h8 := hS.1.1.1
  have hR := (z_J0 ht3 hS).2.2.1
  refine ⟨0, am_up (am_up I 101 2 0) 101 2 1, ?_, z_simF ht3 hS 1, up_eq⟩
  unfold b_X11_met
  rw [z_gl]
  by_cases c1 : b_X11_isPerson (am_up I 101 2 0) p = true
  · rw [if_pos c1]
    by_cases c2 : b_X11_isPerson (am_up I 101 2 0) q = true
    · exact absurd ⟨(z_isP hR.1.1 h8 _).mp c1, (z_isP hR.1.1 h8 _).mp c2⟩ h
    · rw [if_neg c2]; rfl
  · rw [if_neg c1]; rfl
theorem z_T_met2 {I : g_I} {t : Nat} {T : x_T} (ht3 : t = 3 ∨ t = 22) (hS : z_sim I t T) {p q : Int32} (h1 : k_is p T.1.length) (h2 : k_is q T.1.length) (h : p = q) : ∃ r J, b_X11_met I p q = some (r, J) ∧ z_sim J t T ∧ J 101 2 = 2 := by
  have h8 := hS.1.1.1
  have hR := (z_J0 ht3 hS).2.2.1
  refine ⟨0, am_up (am_up I 101 2 0) 101 2 2, ?_, z_simF ht3 hS 2, up_eq⟩
  unfold b_X11_met
  rw [z_gl, if_pos ((z_isP hR.1.1 h8 _).mpr h1), if_pos ((z_isP hR.1.1 h8 _).mpr h2), if_pos h]; rfl
theorem z_S_person {I : g_I} {t : Nat} {T : x_T} (ht3 : t = 3 ∨ t = 22) (hS : z_sim I t T) {a j : Nat} (ha : a < T.1.length) (hj : j < 5) : ∃ J, b_X11_person I (nI a) (nI j) = some (f_pe I t T.1.length T.2.1.length a j, J) ∧ z_sim J t T ∧ J 101 2 = 0 := by
  have h0 := z_J0 ht3 hS
  have h8 := hS.1.1.1
  have hR := h0.2.2.1
  have hp := hS.2.1.1.2.2 a ha
  have hr := hR.1.2 a ha
  have h50 : I 50 a = I 119 a := (z_sim_D hS).2.2.2.2.1 a ha
  refine ⟨am_up I 101 2 0, ?_, h0, up_eq⟩
  unfold b_X11_person
  rw [z_gl, if_pos ((z_isP hR.1.1 h8 _).mpr ⟨a, ha, rfl⟩)]
  match j, hj with
  | 0, _ => rw [if_pos (show nI 0 = 0 by decide), if_pos (g_in_nI (by omega) (by decide)), nI_clamp (by omega), hr.1]; exact z_so (show _ = f_pe I t T.1.length T.2.1.length a 0 from hp.1.symm)
  | 1, _ => rw [if_neg (show ¬ nI 1 = 0 by decide), if_pos (show nI 1 = 1 by decide), if_pos (g_in_nI (by omega) (by decide)), nI_clamp (by omega), hr.2.1]; exact z_so (show _ = f_pe I t T.1.length T.2.1.length a 1 from hp.2.1.symm)
  | 2, _ => rw [if_neg (show ¬ nI 2 = 0 by decide), if_neg (show ¬ nI 2 = 1 by decide), if_pos (show nI 2 = 2 by decide), if_pos (g_in_nI (by omega) (by decide)), nI_clamp (by omega), hr.2.2]; exact z_so (show _ = f_pe I t T.1.length T.2.1.length a 2 from hp.2.2.1.symm)
  | 3, _ => rw [if_neg (show ¬ nI 3 = 0 by decide), if_neg (show ¬ nI 3 = 1 by decide), if_neg (show ¬ nI 3 = 2 by decide), if_pos (show nI 3 = 3 by decide), z_twin hS.1.1 hR.1 ha]; exact z_so (show _ = f_pe I t T.1.length T.2.1.length a 3 from hp.2.2.2.symm)
  | 4, _ => rw [if_neg (show ¬ nI 4 = 0 by decide), if_neg (show ¬ nI 4 = 1 by decide), if_neg (show ¬ nI 4 = 2 by decide), if_neg (show ¬ nI 4 = 3 by decide), if_pos (show nI 4 = 4 by decide), if_pos (g_in_nI (by omega) (by decide)), nI_clamp (by omega), am_up_o _ _ _ _ (show 119 ≠ 101 by decide)]; exact z_so (show _ = f_pe I t T.1.length T.2.1.length a 4 from h50.symm)
theorem z_S_person5 {I X : g_I} {t : Nat} {T : x_T} (ht3 : t = 3 ∨ t = 22) (hS : z_sim I t T) (hX : X = f_look I 90 t 47 T.1.length T.2.1.length) {a : Nat} (ha : a < T.1.length) : ∃ J, b_X11_person X (nI a) (nI 5) = some (X 91 a, J) ∧ z_sim J t T ∧ J 101 2 = 0 := by
  obtain ⟨p1, p3, p4, p5⟩ := z_pre ht3 hS hX
  have h8 := hS.1.1.1
  refine ⟨am_up X 101 2 0, ?_, p1, up_eq⟩
  unfold b_X11_person
  rw [z_gl, if_pos ((z_isP p1.2.2.1.1.1 h8 _).mpr ⟨a, ha, rfl⟩), if_neg (show ¬ nI 5 = 0 by decide), if_neg (show ¬ nI 5 = 1 by decide), if_neg (show ¬ nI 5 = 2 by decide), if_neg (show ¬ nI 5 = 3 by decide), if_neg (show ¬ nI 5 = 4 by decide), if_pos (show nI 5 = 5 by decide)]
  exact z_personL hS.1 p1.2.2.1 p3 ha _
theorem z_T_person {I : g_I} {t : Nat} {T : x_T} (ht3 : t = 3 ∨ t = 22) (hS : z_sim I t T) {x w : Int32} (h : ¬ (k_is x T.1.length ∧ k_is w 6)) : ∃ r J, b_X11_person I x w = some (r, J) ∧ z_sim J t T ∧ J 101 2 = 1 := by
  have h8 := hS.1.1.1
  have hR := (z_J0 ht3 hS).2.2.1
  refine ⟨0, am_up (am_up I 101 2 0) 101 2 1, ?_, z_simF ht3 hS 1, up_eq⟩
  unfold b_X11_person
  rw [z_gl]
  by_cases c1 : b_X11_isPerson (am_up I 101 2 0) x = true
  · have hx := (z_isP hR.1.1 h8 _).mp c1
    rw [if_pos c1, if_neg (show ¬ w = 0 from fun e => h ⟨hx, 0, by decide, e⟩), if_neg (show ¬ w = 1 from fun e => h ⟨hx, 1, by decide, e⟩), if_neg (show ¬ w = 2 from fun e => h ⟨hx, 2, by decide, e⟩), if_neg (show ¬ w = 3 from fun e => h ⟨hx, 3, by decide, e⟩), if_neg (show ¬ w = 4 from fun e => h ⟨hx, 4, by decide, e⟩), if_neg (show ¬ w = 5 from fun e => h ⟨hx, 5, by decide, e⟩)]; rfl
  · rw [if_neg c1]; rfl
theorem z_S_loaf {I : g_I} {t : Nat} {T : x_T} (ht3 : t = 3 ∨ t = 22) (hS : z_sim I t T) {b j : Nat} (hb : b < T.2.1.length) (hj : j < 7) : ∃ J, b_X11_loaf I (nI b) (nI j) = some (f_lo I t T.1.length T.2.1.length b j, J) ∧ z_sim J t T ∧ J 101 2 = 0 := by
  have h0 := z_J0 ht3 hS
  have h6 := hS.1.2.1.1
  have hR := h0.2.2.1
  have hl := hS.2.1.2.1.2.2 b hb
  have hr := hR.2.1.2 b hb
  have h49 : I 49 b = I 118 b := (z_sim_D hS).2.2.2.1 b hb
  unfold b_X11_loaf
  rw [z_gl, if_pos ((z_isL hR.2.1.1 h6 _).mpr ⟨b, hb, rfl⟩)]
  match j, hj with
  | 0, _ => refine ⟨am_up I 101 2 0, ?_, h0, up_eq⟩; rw [if_pos (show nI 0 = 0 by decide), if_pos (g_in_nI (by omega) (by decide)), nI_clamp (by omega), hr.1]; exact z_so (show _ = f_lo I t T.1.length T.2.1.length b 0 from hl.1.symm)
  | 1, _ => refine ⟨am_up I 101 2 0, ?_, h0, up_eq⟩; rw [if_neg (show ¬ nI 1 = 0 by decide), if_pos (show nI 1 = 1 by decide), if_pos (g_in_nI (by omega) (by decide)), nI_clamp (by omega), hr.2.1]; exact z_so (show _ = f_lo I t T.1.length T.2.1.length b 1 from hl.2.1.symm)
  | 2, _ => refine ⟨am_up I 101 2 0, ?_, h0, up_eq⟩; rw [if_neg (show ¬ nI 2 = 0 by decide), if_neg (show ¬ nI 2 = 1 by decide), if_pos (show nI 2 = 2 by decide), if_pos (g_in_nI (by omega) (by decide)), nI_clamp (by omega), hr.2.2.1]; exact z_so (show _ = f_lo I t T.1.length T.2.1.length b 2 from hl.2.2.1.symm)
  | 3, _ => refine ⟨am_up I 101 2 0, ?_, h0, up_eq⟩; rw [if_neg (show ¬ nI 3 = 0 by decide), if_neg (show ¬ nI 3 = 1 by decide), if_neg (show ¬ nI 3 = 2 by decide), if_pos (show nI 3 = 3 by decide), if_pos (g_in_nI (by omega) (by decide)), nI_clamp (by omega), hr.2.2.2.1]; exact z_so (show _ = f_lo I t T.1.length T.2.1.length b 3 from hl.2.2.2.1.symm)
  | 4, _ => refine ⟨am_up I 101 2 0, ?_, h0, up_eq⟩; rw [if_neg (show ¬ nI 4 = 0 by decide), if_neg (show ¬ nI 4 = 1 by decide), if_neg (show ¬ nI 4 = 2 by decide), if_neg (show ¬ nI 4 = 3 by decide), if_pos (show nI 4 = 4 by decide), z_eatersOf hS.1.2.1 hR.2.1 hb]; exact z_so (show _ = f_lo I t T.1.length T.2.1.length b 4 from hl.2.2.2.2.2.2.1.symm)
  | 5, _ =>
    obtain ⟨J', e, k1, k2, k3, k4⟩ := z_tellUnits hS.1 hR hb
    refine ⟨J', ?_, z_sim_o h0 ⟨fun a ha => k1 a (by unfold z_rel at ha; omega) (by unfold z_rel at ha; omega), fun k hk => k2 k (by unfold z_rsl at hk; omega), fun k _ => by rw [k1 114 (by decide) (by decide)], by rw [k1 0 (by decide) (by decide)], by rw [k1 0 (by decide) (by decide)], by rw [k1 0 (by decide) (by decide)], by rw [k1 1 (by decide) (by decide)]⟩, by rw [k2 2 (by decide)]; exact up_eq⟩
    rw [if_neg (show ¬ nI 5 = 0 by decide), if_neg (show ¬ nI 5 = 1 by decide), if_neg (show ¬ nI 5 = 2 by decide), if_neg (show ¬ nI 5 = 3 by decide), if_neg (show ¬ nI 5 = 4 by decide), if_pos (show nI 5 = 5 by decide), e]
    simp only [g_bind]
    rw [k3]
    refine z_so ?_
    show _ = f_sc (I (t + 4)) (I (t + 14) b) T.1.length
    rw [hl.2.2.2.2.2.2.1]
    exact (z_sc hS.1.1 (fun k hk => (hS.2.1.1.2.2 k hk).2.2.2) (hS.1.2.1.2 b hb).2.2.2.2).symm
  | 6, _ => refine ⟨am_up I 101 2 0, ?_, h0, up_eq⟩; rw [if_neg (show ¬ nI 6 = 0 by decide), if_neg (show ¬ nI 6 = 1 by decide), if_neg (show ¬ nI 6 = 2 by decide), if_neg (show ¬ nI 6 = 3 by decide), if_neg (show ¬ nI 6 = 4 by decide), if_neg (show ¬ nI 6 = 5 by decide), if_pos (show nI 6 = 6 by decide), if_pos (g_in_nI (by omega) (by decide)), nI_clamp (by omega), am_up_o _ _ _ _ (show 118 ≠ 101 by decide)]; exact z_so (show _ = f_lo I t T.1.length T.2.1.length b 6 from h49.symm)
theorem z_pwE {I X : g_I} {t : Nat} {T : x_T} (ht3 : t = 3 ∨ t = 22) (hS : z_sim I t T) (hX : X = f_look I 90 t 47 T.1.length T.2.1.length) {b : Nat} (hb : b < T.2.1.length) (an : Int32) : b_X11_answering (am_up X 101 2 0) (nI b) an = some (f_pw X t T.1.length b an T.1.length) := by
  obtain ⟨p1, p3, p4, p5⟩ := z_pre ht3 hS hX
  have hR := p1.2.2.1
  have hD := z_sim_D p1
  have ho : ∀ a, a ≠ 91 → a ≠ 92 → X a = I a := fun a h1 h2 => by rw [hX]; exact f_look_K _ _ _ _ h1 h2
  have e47 : am_up X 101 2 0 47 = X 47 := am_up_o _ _ _ _ (by decide)
  have e49 : am_up X 101 2 0 (47 + 2) = X 49 := am_up_o _ _ _ _ (by decide)
  have d0 : X 47 0 = am_up X 101 2 0 101 30 := by have := hD.1; rw [← e47]; exact this
  have d1 : X 47 1 = am_up X 101 2 0 101 31 := by have := hD.2.1; rw [← e47]; exact this
  have d2 : X 49 b = am_up X 101 2 0 118 b := by have := hD.2.2.2.1 b hb; rw [← e49]; exact this
  have hTX : k_tw X t T := k_tw_o hS.2.1 fun a h1 h2 => ho a (by omega) (by omega)
  rw [z_answering hS.1 hR hb]
  unfold f_pw
  congr 1
  refine z_lfC fun p c hp => ?_
  rw [z_hin hS.1.1 hS.1.2.1 hTX (by rw [d0]; exact p3) hp hb, d0, d1, d2]
theorem z_S_loaf7 {I X : g_I} {t : Nat} {T : x_T} (ht3 : t = 3 ∨ t = 22) (hS : z_sim I t T) (hX : X = f_look I 90 t 47 T.1.length T.2.1.length) {b : Nat} (hb : b < T.2.1.length) : ∃ J, b_X11_loaf X (nI b) (nI 7) = some (f_pw X t T.1.length b 0 T.1.length, J) ∧ z_sim J t T ∧ J 101 2 = 0 := by
  obtain ⟨p1, p3, p4, p5⟩ := z_pre ht3 hS hX
  have h6 := hS.1.2.1.1
  refine ⟨am_up X 101 2 0, ?_, p1, up_eq⟩
  unfold b_X11_loaf
  rw [z_gl, if_pos ((z_isL p1.2.2.1.2.1.1 h6 _).mpr ⟨b, hb, rfl⟩), if_neg (show ¬ nI 7 = 0 by decide), if_neg (show ¬ nI 7 = 1 by decide), if_neg (show ¬ nI 7 = 2 by decide), if_neg (show ¬ nI 7 = 3 by decide), if_neg (show ¬ nI 7 = 4 by decide), if_neg (show ¬ nI 7 = 5 by decide), if_neg (show ¬ nI 7 = 6 by decide), if_pos (show nI 7 = 7 by decide), z_pwE ht3 hS hX hb]
  rfl
theorem z_T_loaf {I : g_I} {t : Nat} {T : x_T} (ht3 : t = 3 ∨ t = 22) (hS : z_sim I t T) {x w : Int32} (h : ¬ (k_is x T.2.1.length ∧ k_is w 8)) : ∃ r J, b_X11_loaf I x w = some (r, J) ∧ z_sim J t T ∧ J 101 2 = 1 := by
  have h6 := hS.1.2.1.1
  have hR := (z_J0 ht3 hS).2.2.1
  refine ⟨0, am_up (am_up I 101 2 0) 101 2 1, ?_, z_simF ht3 hS 1, up_eq⟩
  unfold b_X11_loaf
  rw [z_gl]
  by_cases c1 : b_X11_isLoaf (am_up I 101 2 0) x = true
  · have hx := (z_isL hR.2.1.1 h6 _).mp c1
    rw [if_pos c1, if_neg (show ¬ w = 0 from fun e => h ⟨hx, 0, by decide, e⟩), if_neg (show ¬ w = 1 from fun e => h ⟨hx, 1, by decide, e⟩), if_neg (show ¬ w = 2 from fun e => h ⟨hx, 2, by decide, e⟩), if_neg (show ¬ w = 3 from fun e => h ⟨hx, 3, by decide, e⟩), if_neg (show ¬ w = 4 from fun e => h ⟨hx, 4, by decide, e⟩), if_neg (show ¬ w = 5 from fun e => h ⟨hx, 5, by decide, e⟩), if_neg (show ¬ w = 6 from fun e => h ⟨hx, 6, by decide, e⟩), if_neg (show ¬ w = 7 from fun e => h ⟨hx, 7, by decide, e⟩)]; rfl
  · rw [if_neg c1]; rfl
theorem z_T_why {I : g_I} {t : Nat} {T : x_T} (ht3 : t = 3 ∨ t = 22) (hS : z_sim I t T) {x an : Int32} (h : ¬ (k_is x T.2.1.length ∧ ¬ an < 0 ∧ an ≤ 6)) : ∃ r J, b_X11_why I x an = some (r, J) ∧ z_sim J t T ∧ J 101 2 = 1 := by
  have h6 := hS.1.2.1.1
  have hR := (z_J0 ht3 hS).2.2.1
  refine ⟨0, am_up (am_up I 101 2 0) 101 2 1, ?_, z_simF ht3 hS 1, up_eq⟩
  unfold b_X11_why
  rw [z_gl]
  by_cases c1 : b_X11_isLoaf (am_up I 101 2 0) x = true
  · rw [if_pos c1]
    by_cases c2 : b_X11_isIn an.toInt64 0 6 = true
    · exfalso
      refine h ⟨(z_isL hR.2.1.1 h6 _).mp c1, ?_⟩
      have c3 := z_isIn.mp c2
      rw [Int32.toInt_toInt64, show (0 : Int64).toInt = 0 by decide, show (6 : Int64).toInt = 6 by decide] at c3
      rw [z_lI, z_leI, show (0 : Int32).toInt = 0 by decide, show (6 : Int32).toInt = 6 by decide]
      omega
    · rw [if_neg c2]; rfl
  · rw [if_neg c1]; rfl
theorem z_cc {P : Nat → Prop} [DecidablePred P] (m : Nat) : lfold (fun b (a : Int32) => if P b then a + 0 else a + 1) 0 m = nI (m - z_ct (fun b => decide (P b)) m) := by
  induction m with
  | zero => rfl
  | succ m ih =>
    have hle := z_ct_le (fun b => decide (P b)) m
    show (if P m then lfold (fun b (a : Int32) => if P b then a + 0 else a + 1) 0 m + 0 else lfold (fun b (a : Int32) => if P b then a + 0 else a + 1) 0 m + 1) = _
    rw [ih, z_ct_s]
    by_cases c : P m
    · rw [if_pos c, if_pos (decide_eq_true c), show m + 1 - (z_ct (fun b => decide (P b)) m + 1) = m - z_ct (fun b => decide (P b)) m by omega]
      exact nI_add _ 0
    · rw [if_neg c, if_neg (fun q => c (of_decide_eq_true q)), nI_1]
      congr 1
      omega
theorem z_countL {I : g_I} {t : Nat} {T : x_T} (ht3 : t = 3 ∨ t = 22) (hS : z_sim I t T) (K : Int32 → Option (Int32 × g_I)) : b_X11_count_L110 (am_up I 101 2 0) K fu 0 0 = K (I (t + 8) 0 - f_bc (f_ub (I 49) T.2.1.length)) := by
  have h6 := hS.1.2.1.1
  have hR := (z_J0 ht3 hS).2.2.1
  have hc := z_ct_le (fun b => decide (I 118 b = -1)) T.2.1.length
  have h := z_lf (F := fun f a x => b_X11_count_L110 (am_up I 101 2 0) K f a x) (K := K) (g := fun b a => if I 118 b = -1 then a + 0 else a + 1) (N := T.2.1.length)
    (fun f a => by show b_X11_count_L110 (am_up I 101 2 0) K (f + 1) a _ = _; unfold b_X11_count_L110; rw [hR.2.1.1, if_pos (Int32.le_refl _)])
    (fun f a i hi => by
      show b_X11_count_L110 (am_up I 101 2 0) K (f + 1) a (nI i) = b_X11_count_L110 (am_up I 101 2 0) K f _ _
      conv => lhs; unfold b_X11_count_L110
      rw [hR.2.1.1, if_neg (nI_ge hi (by omega)), if_pos (g_in_nI (by omega) (by decide)), nI_clamp (by omega), am_up_o _ _ _ _ (show 118 ≠ 101 by decide), nI_1]
      by_cases e : I 118 i = -1
      · rw [if_pos e, if_pos e]; rfl
      · rw [if_neg e, if_neg e]; rfl) 0 (by omega)
  rw [h, z_nco hS, hS.2.1.2.1.1, z_cc (P := fun b => I 118 b = -1), nI_subI hc]
theorem z_S_count {I : g_I} {t : Nat} {T : x_T} (ht3 : t = 3 ∨ t = 22) (hS : z_sim I t T) {j : Nat} (hj : j < 15) (h7 : j ≠ 7) : ∃ J, b_X11_count I (nI j) = some (f_ct I t T.1.length T.2.1.length j, J) ∧ z_sim J t T ∧ J 101 2 = 0 := by
  have h0 := z_J0 ht3 hS
  have hR := h0.2.2.1
  have hT := hS.2.1
  have hD := z_sim_D hS
  have hU := hS.2.2.2.2.2.1
  obtain ⟨ks, s1, s2, s3, s4⟩ := hS.2.2.2.2.1.1
  obtain ⟨kb, b1, b2, b3, b4⟩ := hS.2.2.2.2.1.2
  obtain ⟨kk, k1, k2, k3, k4⟩ := hS.2.2.2.1
  obtain ⟨⟨fd, f1, f2, f3, f4⟩, f5⟩ := hS.2.2.2.2.2.2.1
  have d0 : I 47 0 = I 101 30 := hD.1
  have d1 : I 47 1 = I 101 31 := hD.2.1
  have k2' : I 42 5 = nI kk := k2
  refine ⟨am_up I 101 2 0, ?_, h0, up_eq⟩
  unfold b_X11_count
  rw [z_gl]
  match j, hj, h7 with
  | 0, _, _ => rw [if_pos (show nI 0 = 0 by decide), if_pos (show g_in (nI 0) 12 = true by decide), show (nI 0).toNatClampNeg = 0 from nI_clamp (by decide), hR.1.1]; exact z_so (show _ = f_ct I t T.1.length T.2.1.length 0 from hT.1.1.symm)
  | 1, _, _ => rw [if_neg (show ¬ nI 1 = 0 by decide), if_pos (show nI 1 = 1 by decide), if_pos (show g_in (nI 1) 12 = true by decide), show (nI 1).toNatClampNeg = 1 from nI_clamp (by decide), hR.2.1.1]; exact z_so (show _ = f_ct I t T.1.length T.2.1.length 1 from hT.2.1.1.symm)
  | 2, _, _ => rw [if_neg (show ¬ nI 2 = 0 by decide), if_neg (show ¬ nI 2 = 1 by decide), if_pos (show nI 2 = 2 by decide), show nI 2 + 1 = nI 3 by decide, if_pos (show g_in (nI 3) 12 = true by decide), show (nI 3).toNatClampNeg = 3 from nI_clamp (by decide), hR.2.2.1]; exact z_so (show _ = f_ct I t T.1.length T.2.1.length 2 from hT.2.2.2.1.symm)
  | 3, _, _ => rw [if_neg (show ¬ nI 3 = 0 by decide), if_neg (show ¬ nI 3 = 1 by decide), if_neg (show ¬ nI 3 = 2 by decide), if_pos (show nI 3 = 3 by decide), show nI 3 + 1 = nI 4 by decide, if_pos (show g_in (nI 4) 12 = true by decide), show (nI 4).toNatClampNeg = 4 from nI_clamp (by decide), hR.2.2.2.1]; exact z_so (show _ = f_ct I t T.1.length T.2.1.length 3 from hT.2.2.2.2.1.symm)
  | 4, _, _ => rw [if_neg (show ¬ nI 4 = 0 by decide), if_neg (show ¬ nI 4 = 1 by decide), if_neg (show ¬ nI 4 = 2 by decide), if_neg (show ¬ nI 4 = 3 by decide), if_pos (show nI 4 = 4 by decide), up_ne (show 30 ≠ 2 by decide)]; exact z_so (show _ = f_ct I t T.1.length T.2.1.length 4 from d0.symm)
  | 5, _, _ => rw [if_neg (show ¬ nI 5 = 0 by decide), if_neg (show ¬ nI 5 = 1 by decide), if_neg (show ¬ nI 5 = 2 by decide), if_neg (show ¬ nI 5 = 3 by decide), if_neg (show ¬ nI 5 = 4 by decide), if_pos (show nI 5 = 5 by decide), up_ne (show 31 ≠ 2 by decide)]; exact z_so (show _ = f_ct I t T.1.length T.2.1.length 5 from d1.symm)
  | 8, _, _ => rw [if_neg (show ¬ nI 8 = 0 by decide), if_neg (show ¬ nI 8 = 1 by decide), if_neg (show ¬ nI 8 = 2 by decide), if_neg (show ¬ nI 8 = 3 by decide), if_neg (show ¬ nI 8 = 4 by decide), if_neg (show ¬ nI 8 = 5 by decide), if_neg (show ¬ nI 8 = 6 by decide), if_neg (show ¬ nI 8 = 7 by decide), if_pos (show nI 8 = 8 by decide), up_ne (show 32 ≠ 2 by decide)]; exact z_so (show _ = f_ct I t T.1.length T.2.1.length 8 from k3.trans k2'.symm)
  | 9, _, _ => rw [if_neg (show ¬ nI 9 = 0 by decide), if_neg (show ¬ nI 9 = 1 by decide), if_neg (show ¬ nI 9 = 2 by decide), if_neg (show ¬ nI 9 = 3 by decide), if_neg (show ¬ nI 9 = 4 by decide), if_neg (show ¬ nI 9 = 5 by decide), if_neg (show ¬ nI 9 = 6 by decide), if_neg (show ¬ nI 9 = 7 by decide), if_neg (show ¬ nI 9 = 8 by decide), if_pos (show nI 9 = 9 by decide), up_ne (show 33 ≠ 2 by decide)]; exact z_so (show _ = f_ct I t T.1.length T.2.1.length 9 from s3.trans s2.symm)
  | 10, _, _ => rw [if_neg (show ¬ nI 10 = 0 by decide), if_neg (show ¬ nI 10 = 1 by decide), if_neg (show ¬ nI 10 = 2 by decide), if_neg (show ¬ nI 10 = 3 by decide), if_neg (show ¬ nI 10 = 4 by decide), if_neg (show ¬ nI 10 = 5 by decide), if_neg (show ¬ nI 10 = 6 by decide), if_neg (show ¬ nI 10 = 7 by decide), if_neg (show ¬ nI 10 = 8 by decide), if_neg (show ¬ nI 10 = 9 by decide), if_pos (show nI 10 = 10 by decide), up_ne (show 34 ≠ 2 by decide)]; exact z_so (show _ = f_ct I t T.1.length T.2.1.length 10 from b3.trans b2.symm)
  | 11, _, _ => rw [if_neg (show ¬ nI 11 = 0 by decide), if_neg (show ¬ nI 11 = 1 by decide), if_neg (show ¬ nI 11 = 2 by decide), if_neg (show ¬ nI 11 = 3 by decide), if_neg (show ¬ nI 11 = 4 by decide), if_neg (show ¬ nI 11 = 5 by decide), if_neg (show ¬ nI 11 = 6 by decide), if_neg (show ¬ nI 11 = 7 by decide), if_neg (show ¬ nI 11 = 8 by decide), if_neg (show ¬ nI 11 = 9 by decide), if_neg (show ¬ nI 11 = 10 by decide), if_pos (show nI 11 = 11 by decide), up_ne (show 17 ≠ 2 by decide)]; exact z_so (show _ = f_ct I t T.1.length T.2.1.length 11 from f3.trans f2.symm)
  | 6, _, _ => rw [if_neg (show ¬ nI 6 = 0 by decide), if_neg (show ¬ nI 6 = 1 by decide), if_neg (show ¬ nI 6 = 2 by decide), if_neg (show ¬ nI 6 = 3 by decide), if_neg (show ¬ nI 6 = 4 by decide), if_neg (show ¬ nI 6 = 5 by decide), if_pos (show nI 6 = 6 by decide), z_countL ht3 hS]; exact z_so (show _ = f_ct I t T.1.length T.2.1.length 6 from rfl)
  | 12, _, _ => rw [if_neg (show ¬ nI 12 = 0 by decide), if_neg (show ¬ nI 12 = 1 by decide), if_neg (show ¬ nI 12 = 2 by decide), if_neg (show ¬ nI 12 = 3 by decide), if_neg (show ¬ nI 12 = 4 by decide), if_neg (show ¬ nI 12 = 5 by decide), if_neg (show ¬ nI 12 = 6 by decide), if_neg (show ¬ nI 12 = 7 by decide), if_neg (show ¬ nI 12 = 8 by decide), if_neg (show ¬ nI 12 = 9 by decide), if_neg (show ¬ nI 12 = 10 by decide), if_neg (show ¬ nI 12 = 11 by decide), if_pos (show nI 12 = 12 by decide), show nI 12 - 12 = nI 0 by decide, if_pos (show g_in (nI 0) 3 = true by decide), show (nI 0).toNatClampNeg = 0 from nI_clamp (by decide), am_up_o _ _ _ _ (show 116 ≠ 101 by decide)]; exact z_so (show _ = f_ct I t T.1.length T.2.1.length 12 from (hU 0 (by decide)).symm)
  | 13, _, _ => rw [if_neg (show ¬ nI 13 = 0 by decide), if_neg (show ¬ nI 13 = 1 by decide), if_neg (show ¬ nI 13 = 2 by decide), if_neg (show ¬ nI 13 = 3 by decide), if_neg (show ¬ nI 13 = 4 by decide), if_neg (show ¬ nI 13 = 5 by decide), if_neg (show ¬ nI 13 = 6 by decide), if_neg (show ¬ nI 13 = 7 by decide), if_neg (show ¬ nI 13 = 8 by decide), if_neg (show ¬ nI 13 = 9 by decide), if_neg (show ¬ nI 13 = 10 by decide), if_neg (show ¬ nI 13 = 11 by decide), if_neg (show ¬ nI 13 = 12 by decide), if_pos (show nI 13 = 13 by decide), show nI 13 - 12 = nI 1 by decide, if_pos (show g_in (nI 1) 3 = true by decide), show (nI 1).toNatClampNeg = 1 from nI_clamp (by decide), am_up_o _ _ _ _ (show 116 ≠ 101 by decide)]; exact z_so (show _ = f_ct I t T.1.length T.2.1.length 13 from (hU 1 (by decide)).symm)
  | 14, _, _ => rw [if_neg (show ¬ nI 14 = 0 by decide), if_neg (show ¬ nI 14 = 1 by decide), if_neg (show ¬ nI 14 = 2 by decide), if_neg (show ¬ nI 14 = 3 by decide), if_neg (show ¬ nI 14 = 4 by decide), if_neg (show ¬ nI 14 = 5 by decide), if_neg (show ¬ nI 14 = 6 by decide), if_neg (show ¬ nI 14 = 7 by decide), if_neg (show ¬ nI 14 = 8 by decide), if_neg (show ¬ nI 14 = 9 by decide), if_neg (show ¬ nI 14 = 10 by decide), if_neg (show ¬ nI 14 = 11 by decide), if_neg (show ¬ nI 14 = 12 by decide), if_neg (show ¬ nI 14 = 13 by decide), if_pos (show nI 14 = 14 by decide), show nI 14 - 12 = nI 2 by decide, if_pos (show g_in (nI 2) 3 = true by decide), show (nI 2).toNatClampNeg = 2 from nI_clamp (by decide), am_up_o _ _ _ _ (show 116 ≠ 101 by decide)]; exact z_so (show _ = f_ct I t T.1.length T.2.1.length 14 from (hU 2 (by decide)).symm)
  | 7, _, h7 => exact absurd rfl h7
theorem z_S_count7 {I X : g_I} {t : Nat} {T : x_T} (ht3 : t = 3 ∨ t = 22) (hS : z_sim I t T) (hX : X = f_look I 90 t 47 T.1.length T.2.1.length) : ∃ J, b_X11_count X (nI 7) = some (f_cu (X 91) T.1.length T.1.length, J) ∧ z_sim J t T ∧ J 101 2 = 0 := by
  obtain ⟨p1, p3, p4, p5⟩ := z_pre ht3 hS hX
  refine ⟨am_up X 101 2 0, ?_, p1, up_eq⟩
  unfold b_X11_count
  rw [z_gl, if_neg (show ¬ nI 7 = 0 by decide), if_neg (show ¬ nI 7 = 1 by decide), if_neg (show ¬ nI 7 = 2 by decide), if_neg (show ¬ nI 7 = 3 by decide), if_neg (show ¬ nI 7 = 4 by decide), if_neg (show ¬ nI 7 = 5 by decide), if_neg (show ¬ nI 7 = 6 by decide), if_pos (show nI 7 = 7 by decide), z_knownBoth hS.1 p1.2.2.1 p3]
  rfl
theorem z_T_count {I : g_I} {t : Nat} {T : x_T} (ht3 : t = 3 ∨ t = 22) (hS : z_sim I t T) {w : Int32} (h : ¬ k_is w 15) : ∃ r J, b_X11_count I w = some (r, J) ∧ z_sim J t T ∧ J 101 2 = 1 := by
  refine ⟨0, am_up (am_up I 101 2 0) 101 2 1, ?_, z_simF ht3 hS 1, up_eq⟩
  unfold b_X11_count
  rw [z_gl, if_neg (show ¬ w = 0 from fun e => h ⟨0, by decide, e⟩), if_neg (show ¬ w = 1 from fun e => h ⟨1, by decide, e⟩), if_neg (show ¬ w = 2 from fun e => h ⟨2, by decide, e⟩), if_neg (show ¬ w = 3 from fun e => h ⟨3, by decide, e⟩), if_neg (show ¬ w = 4 from fun e => h ⟨4, by decide, e⟩), if_neg (show ¬ w = 5 from fun e => h ⟨5, by decide, e⟩), if_neg (show ¬ w = 6 from fun e => h ⟨6, by decide, e⟩), if_neg (show ¬ w = 7 from fun e => h ⟨7, by decide, e⟩), if_neg (show ¬ w = 8 from fun e => h ⟨8, by decide, e⟩), if_neg (show ¬ w = 9 from fun e => h ⟨9, by decide, e⟩), if_neg (show ¬ w = 10 from fun e => h ⟨10, by decide, e⟩), if_neg (show ¬ w = 11 from fun e => h ⟨11, by decide, e⟩), if_neg (show ¬ w = 12 from fun e => h ⟨12, by decide, e⟩), if_neg (show ¬ w = 13 from fun e => h ⟨13, by decide, e⟩), if_neg (show ¬ w = 14 from fun e => h ⟨14, by decide, e⟩)]; rfl
