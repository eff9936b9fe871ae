/-! PURE: SLICE, WHO, FAIREST, GAME, SEASON, BOTH WORLDS -/
theorem z_kRd {I Y : g_I} {t : Nat} (ht3 : t = 3 ∨ t = 22) (h : ∀ a, a ≠ t + 18 → (a < 90 ∨ 97 ≤ a) → Y a = I a) : z_keepR I Y t := z_kRa ht3 fun a q => h a (by omega) (by omega)
theorem z_xr {x : Int32} {n : Nat} (hn : n ≤ 6) (h1 : ¬ x < -1) (h2 : x < nI n) : x = -1 ∨ ∃ i, i < n ∧ x = nI i := by
  rw [z_lI, show (-1 : Int32).toInt = -1 by decide] at h1
  rw [z_lI, nI_toInt (by omega)] at h2
  by_cases e : x.toInt = -1
  · exact Or.inl (Int32.toInt_inj.mp (by rw [e]; decide))
  · refine Or.inr ⟨x.toInt.toNat, by omega, Int32.toInt_inj.mp ?_⟩
    rw [nI_toInt (by omega)]; omega
theorem z_isE {x : Int32} {n : Nat} (hn : n ≤ 6) : b_X11_isIn x.toInt64 (-1) (nI n - 1).toInt64 = true ↔ ¬ x < -1 ∧ x < nI n := by
  rw [z_isIn, Int32.toInt_toInt64, Int32.toInt_toInt64, z_pm1 (by omega), z_lI, z_lI, nI_toInt (by omega), show (-1 : Int64).toInt = -1 by decide, show (-1 : Int32).toInt = -1 by decide]
  omega
theorem z_isE0 {x : Int32} {n : Nat} (hn : n ≤ 6) : b_X11_isIn x.toInt64 0 (nI n - 1).toInt64 = true ↔ ¬ x < 0 ∧ x < nI n := by
  rw [z_isIn, Int32.toInt_toInt64, Int32.toInt_toInt64, z_pm1 (by omega), z_lI, z_lI, nI_toInt (by omega), show (0 : Int64).toInt = 0 by decide, show (0 : Int32).toInt = 0 by decide]
  omega
theorem z_S_slice {I Y : g_I} {t : Nat} {T : x_T} (ht3 : t = 3 ∨ t = 22) (hS : z_sim I t T) {a b : Nat} (ha : a < T.1.length) (hb : b < T.2.1.length) {x : Int32} (h1 : ¬ x < -1) (h2 : x < nI (z_es T b).length) (hY : Y = f_div I 93 t 47 a b T.2.2.2.2.length (z_mn T (z_es T b)) (z_es T b).length) : ∃ J, b_X11_slice Y (nI a) (nI b) x = some (if x = -1 then Y 93 4 else Y 95 x.toNatClampNeg, J) ∧ z_sim J t T ∧ J 101 2 = 0 := by
  have h8 := hS.1.1.1
  have h6 := hS.1.2.1.1
  have he6 := (hS.1.2.1.2 b hb).2.2.2.2.2.1
  have ho : ∀ c, c ≠ t + 18 → (c < 93 ∨ 97 ≤ c) → Y c = I c := fun c q1 q2 => by rw [hY]; exact f_div_o q1 q2
  have hSY : z_sim Y t T := z_sim_o hS (z_kRd ht3 fun c q1 q2 => ho c q1 (by omega))
  have h0 := z_J0 ht3 hSY
  have hR := h0.2.2.1
  have h50 : I 50 a = am_up Y 101 2 0 119 a := by rw [am_up_o _ _ _ _ (show 119 ≠ 101 by decide), ho 119 (by omega) (by omega)]; exact (z_sim_D hS).2.2.2.2.1 a ha
  obtain ⟨J', e, a1, b1, c1, d1, f1, g1⟩ := z_tellSlices (I := I) (J := am_up Y 101 2 0) (t := t) hS.1 hS.2.1 hR ha hb h50
  have hC : Y 95 = f_G2 I 93 t 47 a b T.2.2.2.2.length (z_mn T (z_es T b)) (z_es T b).length := by rw [hY]; exact f_w5_C
  have hE : Y 93 4 = f_c1 I 93 t 47 a b T.2.2.2.2.length (z_mn T (z_es T b)) (z_mn T (z_es T b)) := by
    rw [hY]
    unfold f_div
    rw [f_w5_E]
    exact pk_us
  refine ⟨J', ?_, z_sim_o h0 (z_kT_k ht3 ⟨a1, b1⟩), by rw [b1 2 (by decide) (by decide)]; exact up_eq⟩
  unfold b_X11_slice
  rw [z_gl, if_pos ((z_isP hR.1.1 h8 _).mpr ⟨a, ha, rfl⟩), if_pos ((z_isL hR.2.1.1 h6 _).mpr ⟨b, hb, rfl⟩), if_pos (g_in_nI (by omega) (by decide)), nI_clamp (by omega), (hR.2.1.2 b hb).2.2.2.2.1, if_pos ((z_isE he6).mpr ⟨h1, h2⟩), e]
  simp only [g_bind]
  by_cases ex : x = -1
  · rw [if_pos ex, if_pos ex, d1, hE]
  · obtain ⟨i, hi, rfl⟩ := (z_xr he6 h1 h2).resolve_left ex
    rw [if_neg ex, if_neg ex, if_pos (g_in_nI (by omega) (by decide)), nI_clamp (by omega), g1 i hi, hC]
theorem z_T_slice {I : g_I} {t : Nat} {T : x_T} (ht3 : t = 3 ∨ t = 22) (hS : z_sim I t T) {p l x : Int32} (h : ¬ (k_is p T.1.length ∧ ∃ b, b < T.2.1.length ∧ l = nI b ∧ ¬ x < -1 ∧ x < nI (z_es T b).length)) : ∃ r J, b_X11_slice I p l x = some (r, J) ∧ z_sim J t T ∧ J 101 2 = 1 := by
  have h8 := hS.1.1.1
  have h6 := hS.1.2.1.1
  have hR := (z_J0 ht3 hS).2.2.1
  refine ⟨0, am_up (am_up I 101 2 0) 101 2 1, ?_, z_simF ht3 hS 1, up_eq⟩
  unfold b_X11_slice
  rw [z_gl]
  by_cases c1 : b_X11_isPerson (am_up I 101 2 0) p = true
  · rw [if_pos c1]
    by_cases c2 : b_X11_isLoaf (am_up I 101 2 0) l = true
    · obtain ⟨b, hb, rfl⟩ := (z_isL hR.2.1.1 h6 _).mp c2
      have he6 := (hS.1.2.1.2 b hb).2.2.2.2.2.1
      rw [if_pos c2, if_pos (g_in_nI (by omega) (by decide)), nI_clamp (by omega), (hR.2.1.2 b hb).2.2.2.2.1]
      by_cases c3 : b_X11_isIn x.toInt64 (-1) (nI (z_es T b).length - 1).toInt64 = true
      · exact absurd ⟨(z_isP hR.1.1 h8 _).mp c1, b, hb, rfl, (z_isE he6).mp c3⟩ h
      · rw [if_neg c3]; rfl
    · rw [if_neg c2]; rfl
  · rw [if_neg c1]; rfl
theorem z_S_who {I Y : g_I} {t : Nat} {T : x_T} (ht3 : t = 3 ∨ t = 22) (hS : z_sim I t T) {b k : Nat} (hb : b < T.2.1.length) (hk : I 41 2 = nI k) (hk6 : k ≤ 6) (hY : Y = (f_wh I t b T.2.2.2.2.length (z_mn T (z_es T b)) (z_es T b).length k (nI b) T.1.length).1) : ∃ J, b_X11_who Y (nI b) = some ((f_wh I t b T.2.2.2.2.length (z_mn T (z_es T b)) (z_es T b).length k (nI b) T.1.length).2, J) ∧ z_sim J t T ∧ J 101 2 = 0 := by
  have h6 := hS.1.2.1.1
  have ho : ∀ c, c ≠ t + 18 → (c < 93 ∨ 97 ≤ c) → Y c = I c := fun c q1 q2 => by rw [hY]; exact f_wh_o _ _ _ _ _ _ _ _ _ q1 q2
  have hSY : z_sim Y t T := z_sim_o hS (z_kRd ht3 fun c q1 q2 => ho c q1 (by omega))
  have h0 := z_J0 ht3 hSY
  have hR := h0.2.2.1
  have oY : ∀ c, 102 ≤ c → am_up Y 101 2 0 c = I c := fun c q => by rw [am_up_o _ _ _ _ (show c ≠ 101 by omega), ho c (by omega) (by omega)]
  obtain ⟨ks, s1, s2, s3, s4⟩ := hS.2.2.2.2.1.1
  have ek : k = ks := (nI_eq (by omega) (by omega)).mp (hk.symm.trans s2)
  obtain ⟨J', e, kt⟩ := z_who (I := I) (J := am_up Y 101 2 0) (ks := k) hS.1 hS.2.1 hR hb ht3 (fun p hp => by rw [oY 119 (by decide)]; exact (z_sim_D hS).2.2.2.2.1 p hp) hk6 (by rw [up_ne (show 33 ≠ 2 by decide), ho 101 (by omega) (by omega), ek]; exact s3) (fun j hj => by rw [oY 131 (by decide), oY 132 (by decide), oY 133 (by decide)]; exact s4 j (by omega)) (fun (a14 : Int32) (I15 : g_I) => some (a14, I15))
  refine ⟨J', ?_, z_sim_o h0 (z_kT_k ht3 kt), by rw [kt.2 2 (by decide) (by decide)]; exact up_eq⟩
  unfold b_X11_who
  rw [z_gl, if_pos ((z_isL hR.2.1.1 h6 _).mpr ⟨b, hb, rfl⟩)]
  exact e
theorem z_T_who {I : g_I} {t : Nat} {T : x_T} (ht3 : t = 3 ∨ t = 22) (hS : z_sim I t T) {l : Int32} (h : ¬ k_is l T.2.1.length) : ∃ r J, b_X11_who I l = some (r, J) ∧ z_sim J t T ∧ J 101 2 = 1 := by
  have h6 := hS.1.2.1.1
  have hR := (z_J0 ht3 hS).2.2.1
  refine ⟨0, am_up (am_up I 101 2 0) 101 2 1, ?_, z_simF ht3 hS 1, up_eq⟩
  unfold b_X11_who
  rw [z_gl, if_neg (fun c => h ((z_isL hR.2.1.1 h6 _).mp c))]
  rfl
theorem z_S_fairest {I X Y : g_I} {t : Nat} {T : x_T} (ht3 : t = 3 ∨ t = 22) (hS : z_sim I t T) (hX : X = f_look I 90 t 47 T.1.length T.2.1.length) {b : Nat} (hb : b < T.2.1.length) {x : Int32} (h1 : ¬ x < -1) (h2 : x < nI (z_es T b).length) (hY : Y = (f_fa X t b T.2.2.2.2.length (z_mn T (z_es T b)) (z_es T b).length (X 92 b) x T.1.length).1) : ∃ J, b_X11_fairest Y (nI b) x = some ((f_fa X t b T.2.2.2.2.length (z_mn T (z_es T b)) (z_es T b).length (X 92 b) x T.1.length).2.1, J) ∧ z_sim J t T ∧ J 101 2 = 0 := by
  have h6 := hS.1.2.1.1
  have he6 := (hS.1.2.1.2 b hb).2.2.2.2.2.1
  obtain ⟨p1, p3, p4, p5⟩ := z_pre ht3 hS hX
  have ho : ∀ a, a ≠ 91 → a ≠ 92 → X a = I a := fun a h1 h2 => by rw [hX]; exact f_look_K _ _ _ _ h1 h2
  have hoY : ∀ c, c ≠ t + 18 → (c < 93 ∨ 97 ≤ c) → Y c = X c := fun c q1 q2 => by rw [hY]; exact f_fa_o _ _ _ _ _ _ _ _ _ q1 q2
  have hSY : z_sim Y t T := z_sim_o hS (z_kRd ht3 fun c q1 q2 => by rw [hoY c q1 (by omega), ho c (by omega) (by omega)])
  have h0 := z_J0 ht3 hSY
  have hR := h0.2.2.1
  have hTX : k_tw X t T := k_tw_o hS.2.1 fun a h1 h2 => ho a (by omega) (by omega)
  have e119 : am_up Y 101 2 0 119 = I 119 := by rw [am_up_o _ _ _ _ (show 119 ≠ 101 by decide), hoY 119 (by omega) (by omega), ho 119 (by decide) (by decide)]
  have e114 : am_up Y 101 2 0 114 = am_up X 101 2 0 114 := by rw [am_up_o _ _ _ _ (show 114 ≠ 101 by decide), am_up_o _ _ _ _ (show 114 ≠ 101 by decide), hoY 114 (by omega) (by omega)]
  have e30 : am_up Y 101 2 0 101 30 = am_up X 101 2 0 101 30 := by rw [up_ne (by decide), up_ne (by decide), hoY 101 (by omega) (by omega)]
  obtain ⟨J', e, kt⟩ := z_fairest (I := X) (J := am_up Y 101 2 0) hS.1 hTX hR hb ht3 (fun p hp => by rw [e119, ho 50 (by decide) (by decide)]; exact (z_sim_D hS).2.2.2.2.1 p hp) (cu := X 92 b) (by rw [e114, e30]; exact p4 b hb) x (z_xr he6 h1 h2) (fun (a11 : Int32) (I12 : g_I) => some (a11, I12))
  refine ⟨J', ?_, z_sim_o h0 (z_kT_k ht3 kt), by rw [kt.2 2 (by decide) (by decide)]; exact up_eq⟩
  unfold b_X11_fairest
  rw [z_gl, if_pos ((z_isL hR.2.1.1 h6 _).mpr ⟨b, hb, rfl⟩), if_pos (g_in_nI (by omega) (by decide)), nI_clamp (by omega), (hR.2.1.2 b hb).2.2.2.2.1, if_pos ((z_isE he6).mpr ⟨h1, h2⟩)]
  exact e
theorem z_T_fairest {I : g_I} {t : Nat} {T : x_T} (ht3 : t = 3 ∨ t = 22) (hS : z_sim I t T) {l x : Int32} (h : ¬ ∃ b, b < T.2.1.length ∧ l = nI b ∧ ¬ x < -1 ∧ x < nI (z_es T b).length) : ∃ r J, b_X11_fairest I l x = some (r, J) ∧ z_sim J t T ∧ J 101 2 = 1 := by
  have h6 := hS.1.2.1.1
  have hR := (z_J0 ht3 hS).2.2.1
  refine ⟨0, am_up (am_up I 101 2 0) 101 2 1, ?_, z_simF ht3 hS 1, up_eq⟩
  unfold b_X11_fairest
  rw [z_gl]
  by_cases c2 : b_X11_isLoaf (am_up I 101 2 0) l = true
  · obtain ⟨b, hb, rfl⟩ := (z_isL hR.2.1.1 h6 _).mp c2
    have he6 := (hS.1.2.1.2 b hb).2.2.2.2.2.1
    rw [if_pos c2, if_pos (g_in_nI (by omega) (by decide)), nI_clamp (by omega), (hR.2.1.2 b hb).2.2.2.2.1]
    by_cases c3 : b_X11_isIn x.toInt64 (-1) (nI (z_es T b).length - 1).toInt64 = true
    · exact absurd ⟨b, hb, rfl, (z_isE he6).mp c3⟩ h
    · rw [if_neg c3]; rfl
  · rw [if_neg c2]; rfl
theorem z_01 {x : Int32} : (x = 0 ∨ x = 1) ↔ ¬ x < 0 ∧ x ≤ 1 := by
  rw [z_lI, z_leI, show (0 : Int32).toInt = 0 by decide, show (1 : Int32).toInt = 1 by decide]
  constructor
  · rintro (h | h) <;> rw [h] <;> decide
  · rintro ⟨c1, c2⟩
    by_cases e : x.toInt = 0
    · exact Or.inl (Int32.toInt_inj.mp (by rw [e]; rfl))
    · exact Or.inr (Int32.toInt_inj.mp (by rw [show x.toInt = 1 by omega]; rfl))
theorem z_S_game {I X : g_I} {t : Nat} {T : x_T} (ht3 : t = 3 ∨ t = 22) (hS : z_sim I t T) (hX : X = f_look I 90 t 47 T.1.length T.2.1.length) {p q : Nat} (hp : p < T.1.length) (hq : q < T.1.length) (hne : ¬ nI p = nI q) {wh : Int32} (hwh : wh = 0 ∨ wh = 1) : ∃ J, b_X11_game X (nI p) (nI q) wh = some (if wh = 0 then (f_gm (f_gP X t T.2.1.length p q) T.2.1.length T.2.1.length).1 else (f_gm (f_gP X t T.2.1.length p q) T.2.1.length T.2.1.length).2, J) ∧ z_sim J t T ∧ J 101 2 = 0 := by
  obtain ⟨p1, p3, p4, p5⟩ := z_pre ht3 hS hX
  have h8 := hS.1.1.1
  have hR := p1.2.2.1
  have ho : ∀ a, a ≠ 91 → a ≠ 92 → X a = I a := fun a h1 h2 => by rw [hX]; exact f_look_K _ _ _ _ h1 h2
  have hw := z_01.mp hwh
  refine ⟨am_up X 101 2 0, ?_, p1, up_eq⟩
  have h := z_game (J := am_up X 101 2 0) hS.1 hR (cu := X 92) (sz := X (t + 10)) p4 (fun l hl => by rw [ho (t + 10) (by omega) (by omega)]; exact (hS.2.1.2.1.2.2 l hl).2.1) hp hq wh (fun (a27 : Int32) (a28 : Int32) => if wh = 0 then some (a27, am_up X 101 2 0) else some (a28, am_up X 101 2 0))
  unfold b_X11_game
  rw [z_gl, if_pos ((z_isP hR.1.1 h8 _).mpr ⟨p, hp, rfl⟩), if_pos ((z_isP hR.1.1 h8 _).mpr ⟨q, hq, rfl⟩), if_neg hw.1, if_pos hw.2, if_neg hne]
  refine Eq.trans h ?_
  by_cases c : wh = 0
  · rw [if_pos c, if_pos c]; rfl
  · rw [if_neg c, if_neg c]; rfl
theorem z_T_game1 {I : g_I} {t : Nat} {T : x_T} (ht3 : t = 3 ∨ t = 22) (hS : z_sim I t T) {p q wh : Int32} (h : ¬ (k_is p T.1.length ∧ k_is q T.1.length ∧ (wh = 0 ∨ wh = 1))) : ∃ r J, b_X11_game I p q wh = some (r, J) ∧ z_sim J t T ∧ J 101 2 = 1 := by
  have h8 := hS.1.1.1
  have hR := (z_J0 ht3 hS).2.2.1
  refine ⟨0, am_up (am_up I 101 2 0) 101 2 1, ?_, z_simF ht3 hS 1, up_eq⟩
  unfold b_X11_game
  rw [z_gl]
  by_cases c1 : b_X11_isPerson (am_up I 101 2 0) p = true
  · rw [if_pos c1]
    by_cases c2 : b_X11_isPerson (am_up I 101 2 0) q = true
    · rw [if_pos c2]
      by_cases c3 : wh < 0
      · rw [if_pos c3]; rfl
      · rw [if_neg c3]
        by_cases c4 : wh ≤ 1
        · exact absurd ⟨(z_isP hR.1.1 h8 _).mp c1, (z_isP hR.1.1 h8 _).mp c2, z_01.mpr ⟨c3, c4⟩⟩ h
        · rw [if_neg c4]; rfl
    · rw [if_neg c2]; rfl
  · rw [if_neg c1]; rfl
theorem z_T_game2 {I : g_I} {t : Nat} {T : x_T} (ht3 : t = 3 ∨ t = 22) (hS : z_sim I t T) {p q wh : Int32} (h1 : k_is p T.1.length) (h2 : k_is q T.1.length) (hwh : wh = 0 ∨ wh = 1) (h : p = q) : ∃ r J, b_X11_game I p q wh = some (r, J) ∧ z_sim J t T ∧ J 101 2 = 2 := by
  have h8 := hS.1.1.1
  have hR := (z_J0 ht3 hS).2.2.1
  have hw := z_01.mp hwh
  refine ⟨0, am_up (am_up I 101 2 0) 101 2 2, ?_, z_simF ht3 hS 2, up_eq⟩
  unfold b_X11_game
  rw [z_gl, if_pos ((z_isP hR.1.1 h8 _).mpr h1), if_pos ((z_isP hR.1.1 h8 _).mpr h2), if_neg hw.1, if_pos hw.2, if_pos h]
  rfl
theorem z_is2 {x : Int32} {n : Nat} (hn : n ≤ 99) : b_X11_isIn x.toInt64 0 (nI n).toInt64 = true ↔ ¬ x < 0 ∧ x ≤ nI n := by
  rw [z_isIn, Int32.toInt_toInt64, Int32.toInt_toInt64, z_lI, z_leI, nI_toInt (by omega), show (0 : Int64).toInt = 0 by decide, show (0 : Int32).toInt = 0 by decide]
  omega
theorem z_gb {α β : Type} (x : α) (f : α → Option β) : g_bind (some x) f = f x := rfl
theorem z_i2 {x : Int32} : b_X11_isIn x.toInt64 0 2 = true ↔ ¬ x < 0 ∧ x ≤ 2 := z_is2 (n := 2) (by decide)
theorem z_i60 {x : Int32} : b_X11_isIn x.toInt64 0 60 = true ↔ ¬ x < 0 ∧ x ≤ 60 := z_is2 (n := 60) (by decide)
theorem z_S_season {I Q Z : g_I} {t : Nat} {T : x_T} (ht3 : t = 3 ∨ t = 22) (hS : z_sim I t T) {sd wh x0 a0 b0 : Int32} {j : Nat} (hj : j ≤ 60) (hw1 : ¬ wh < 0) (hw2 : wh ≤ 2) (hx0 : x0 = if nI j = 0 then 0 else 6) (hQ : Q = (f_sn t T.1.length T.2.1.length (f_dcp I 97 47, sd, 0, x0) j).1) (ha0 : a0 = (f_sn t T.1.length T.2.1.length (f_dcp I 97 47, sd, 0, x0) j).2.2.1) (hb0 : b0 = (f_sn t T.1.length T.2.1.length (f_dcp I 97 47, sd, 0, x0) j).2.2.2) (hZ : Z = f_look Q 90 t 97 T.1.length T.2.1.length) : ∃ J, b_X11_season Z sd (nI j) wh = some (if wh = 0 then a0 else if wh = 1 then b0 else f_cu (Z 91) T.1.length T.1.length, J) ∧ z_sim J t T ∧ J 101 2 = 0 := by
  have h8 := hS.1.1.1
  have hZo : ∀ a, (a < 91 ∨ 101 ≤ a) → Z a = I a := fun a q => by
    rw [hZ, f_look_o _ _ _ _ _ _ (by omega), hQ, f_sn_o _ _ _ _ _ (by omega) (by omega) (by omega) (by omega)]
    exact f_dcp_o _ _ _ (by omega)
  have hSZ : z_sim Z t T := z_sim_o hS (z_kRa ht3 fun a q => hZo a (by omega))
  have h0 := z_J0 ht3 hSZ
  obtain ⟨I3, e3, o3, q3⟩ := z_pack (I := am_up Z 101 2 0) (c := 129) (n := 80) (o := 0) (by decide) (by decide) (by decide)
  have hpkE : ∀ k, z_pk I3 k = z_pk (am_up Z 101 2 0) k := fun k => by
    unfold z_pk
    rw [o3 101 (by decide), o3 114 (by decide), o3 118 (by decide), o3 119 (by decide)]
  have oc : ∀ a, a ≠ 101 → a ≠ 129 → am_up I3 101 56 sd a = am_up Z 101 2 0 a := fun a q1 q2 => by rw [am_up_o _ _ _ _ q1, o3 a q2]
  have os : ∀ k, k ≠ 56 → am_up I3 101 56 sd 101 k = am_up Z 101 2 0 101 k := fun k q1 => by rw [up_ne q1, o3 101 (by decide)]
  have hdr : z_dr (am_up I3 101 56 sd) = z_dr I := by
    unfold z_dr
    rw [os 30 (by decide), os 31 (by decide), oc 114 (by decide) (by decide), oc 118 (by decide) (by decide), oc 119 (by decide) (by decide), up_ne (show 30 ≠ 2 by decide), up_ne (show 31 ≠ 2 by decide), am_up_o _ _ _ _ (show 114 ≠ 101 by decide), am_up_o _ _ _ _ (show 118 ≠ 101 by decide), am_up_o _ _ _ _ (show 119 ≠ 101 by decide), hZo 101 (by decide), hZo 114 (by decide), hZo 118 (by decide), hZo 119 (by decide)]
  have hTd : k_tw (f_dcp I 97 47) t T := k_tw_o hS.2.1 fun a q1 q2 => f_dcp_o _ _ _ (by omega)
  have hDd : z_D T (z_dc (f_dcp I 97 47) 97) (z_dr (am_up I3 101 56 sd)) := by
    rw [hdr]
    refine z_D_c hS.1.1 (z_sim_D hS) ?_ (z_eq_r T _)
    have h6 := hS.1.2.1.1
    have e0 : f_dcp I 97 47 97 = upd (upd (I 97) 0 (I 47 0)) 1 (I 47 1) := by unfold f_dcp; rw [am_uA_o _ _ _ (by decide), am_uA_o _ _ _ (by decide), am_uA_o _ _ _ (by decide), am_uA_s]
    have e1 : f_dcp I 97 47 98 = f_cp 64 (I 48) (I 98) := by unfold f_dcp; rw [am_uA_o _ _ _ (by decide), am_uA_o _ _ _ (by decide), am_uA_s]
    have e2 : f_dcp I 97 47 99 = f_cp 6 (I 49) (I 99) := by unfold f_dcp; rw [am_uA_o _ _ _ (by decide), am_uA_s]
    have e4 : f_dcp I 97 47 100 = f_cp 8 (I 50) (I 100) := by unfold f_dcp; rw [am_uA_s]
    refine ⟨?_, ?_, fun a b ha hb => ?_, fun l hl => ?_, fun p hp => ?_⟩
    · show f_dcp I 97 47 97 0 = I 47 0
      rw [e0, upd_o (by decide), pk_us]
    · show f_dcp I 97 47 97 1 = I 47 1
      rw [e0, pk_us]
    · show f_dcp I 97 47 98 _ = I 48 _
      rw [e1, f_cp_in (by omega)]
    · show f_dcp I 97 47 99 _ = I 49 _
      rw [e2, f_cp_in (by omega)]
    · show f_dcp I 97 47 100 _ = I 50 _
      rw [e4, f_cp_in (by omega)]
  obtain ⟨dd, hd9, ed⟩ := hS.2.2.2.2.2.2.2.2.2.2.1
  have hR5 : z_R (am_up I3 101 56 sd) T := z_R_o h0.2.2.1 fun a q1 q2 _ => oc a (by omega) (by omega)
  obtain ⟨J1, eJ, kJ, dJ, tJ⟩ := z_season (I := f_dcp I 97 47) (J := am_up I3 101 56 sd) hS.1 ht3 hTd hR5 hDd (dd := dd) (by rw [os 30 (by decide), up_ne (show 30 ≠ 2 by decide), hZo 101 (by decide)]; exact ed) hd9 (sd := sd) up_eq hj hx0 wh (fun (a27 : Int32) (a28 : Int32) (I29 : g_I) => g_bind (b_X11_knownBoth I29) fun a30 => g_bind (b_X11_unpack I29 129 80 0) fun I34 => if wh = 0 then some (a27, I34) else if wh = 1 then some (a28, I34) else some (a30, I34))
  rw [← hQ] at dJ tJ
  rw [← ha0, ← hb0] at eJ
  have hR1 : z_R J1 T := z_R_o hR5 fun a q1 q2 q3 => kJ.1 a (by omega) q3
  have hKR := z_lk91 (m := T.2.1.length) hS.1.1 tJ dJ
  rw [← hZ] at hKR
  have hkb := z_knownBoth hS.1 hR1 hKR
  obtain ⟨J2, e2, b1, b2⟩ := z_bk_u (J := am_up (am_up I3 101 56 sd) 101 56 (J1 101 56)) (J1 := J1) (fun k hk => by
      rw [am_up_o _ _ _ _ (show 129 ≠ 101 by decide), am_up_o _ _ _ _ (show 129 ≠ 101 by decide), q3 k, if_pos (by omega), Nat.sub_zero, ← hpkE k]
      unfold z_pk
      rw [up_ne (show 30 ≠ 56 by decide), up_ne (show 31 ≠ 56 by decide), up_ne (show 30 ≠ 56 by decide), up_ne (show 31 ≠ 56 by decide), am_up_o _ _ _ _ (show 114 ≠ 101 by decide), am_up_o _ _ _ _ (show 114 ≠ 101 by decide), am_up_o _ _ _ _ (show 118 ≠ 101 by decide), am_up_o _ _ _ _ (show 118 ≠ 101 by decide), am_up_o _ _ _ _ (show 119 ≠ 101 by decide), am_up_o _ _ _ _ (show 119 ≠ 101 by decide)])
    (fun a q1 q2 q3 q4 => by rw [am_up_o _ _ _ _ q1]; exact kJ.1 a q1 q2)
    (fun k q1 q2 => by
      by_cases c : k = 56
      · rw [c, up_eq]
      · rw [up_ne c]; exact kJ.2 k q1 c)
    (fun k _ => by rw [am_up_o _ _ _ _ (show 118 ≠ 101 by decide), kJ.1 118 (by decide) (by decide)])
    (fun k _ => by rw [am_up_o _ _ _ _ (show 119 ≠ 101 by decide), kJ.1 119 (by decide) (by decide)])
  have c1 : ∀ a, a ≠ 101 → a ≠ 114 → a ≠ 129 → J2 a = am_up Z 101 2 0 a := fun a q1 q2 q3 => by rw [b1 a q2, am_up_o _ _ _ _ q1, oc a q1 q3]
  have c2 : ∀ k, k ≠ 56 → J2 101 k = am_up Z 101 2 0 101 k := fun k q => by rw [b1 101 (by decide), up_ne q, os k q]
  refine ⟨J2, ?_, z_sim_o h0 ⟨fun a ha => ?_, fun k hk => c2 k (by unfold z_rsl at hk; omega), fun k hk => ?_, by rw [c1 0 (by decide) (by decide) (by decide)], by rw [c1 0 (by decide) (by decide) (by decide)], by rw [c1 0 (by decide) (by decide) (by decide)], by rw [c1 1 (by decide) (by decide) (by decide)]⟩, by rw [c2 2 (by decide)]; exact up_eq⟩
  · unfold b_X11_season
    rw [z_gl, if_pos (z_i2.mpr ⟨hw1, hw2⟩), if_pos (z_i60.mpr ⟨nI_pos (by omega), (nI_leI (a := j) (b := 60) (by omega) (by decide)).mpr hj⟩)]
    rw [show b_X11_pack (am_up Z 101 2 0) 129 80 0 = some I3 from e3, z_gb, z_gl]
    refine Eq.trans eJ ?_
    rw [hkb, z_gb, e2, z_gb]
    by_cases c : wh = 0
    · rw [if_pos c, if_pos c]
    · rw [if_neg c, if_neg c]
      by_cases c3 : wh = 1
      · rw [if_pos c3, if_pos c3]
      · rw [if_neg c3, if_neg c3]
  · exact c1 a (by unfold z_rel at ha; omega) (by unfold z_rel at ha; omega) (by unfold z_rel at ha; omega)
  · rw [b2 k hk, am_up_o _ _ _ _ (show 114 ≠ 101 by decide), oc 114 (by decide) (by decide)]
theorem z_T_season1 {I : g_I} {t : Nat} {T : x_T} (ht3 : t = 3 ∨ t = 22) (hS : z_sim I t T) {s x wh : Int32} (h : ¬ (¬ wh < 0 ∧ wh ≤ 2)) : ∃ r J, b_X11_season I s x wh = some (r, J) ∧ z_sim J t T ∧ J 101 2 = 1 := by
  refine ⟨0, am_up (am_up I 101 2 0) 101 2 1, ?_, z_simF ht3 hS 1, up_eq⟩
  unfold b_X11_season
  rw [z_gl, if_neg (fun c => h (z_i2.mp c))]
  rfl
theorem z_T_season2 {I : g_I} {t : Nat} {T : x_T} (ht3 : t = 3 ∨ t = 22) (hS : z_sim I t T) {s x wh : Int32} (hw : ¬ wh < 0 ∧ wh ≤ 2) (h : ¬ (¬ x < 0 ∧ x ≤ 60)) : ∃ r J, b_X11_season I s x wh = some (r, J) ∧ z_sim J t T ∧ J 101 2 = 2 := by
  refine ⟨0, am_up (am_up I 101 2 0) 101 2 2, ?_, z_simF ht3 hS 2, up_eq⟩
  unfold b_X11_season
  rw [z_gl, if_pos (z_i2.mpr hw), if_neg (fun c => h (z_i60.mp c))]
  rfl
