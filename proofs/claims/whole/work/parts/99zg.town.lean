/-! PURE: A TOWN BEGINS, BOTH WORLDS -/
theorem z_ldK {tw : Nat → Int32} {a b : Nat} : z_ld (fun _ => -100000) tw a b = -100000 := by
  have g : g_max (-100000) (-100000) = -100000 := by decide
  unfold z_ld
  split
  · rfl
  · split
    · split
      · rfl
      · exact g
    · split
      · exact g
      · rw [g, g, g]
theorem z_ngd : ∀ d, d < 1000 → -100000 < -(nI d) ∧ -(nI d) ≤ 0 := by decide +kernel
/-- the table of those who met, day by day as it is told -/
def z_Mt (ms : List x_P) (i : Nat) : Nat → Int32 := fun k => z_mt (ms.take i) (k / 8) (k % 8)
theorem z_begD {T : x_T} (hW : z_Wk T) {tw mo mt md M0 ct th : Nat → Int32} (htw : ∀ k, k < T.1.length → tw k = z_tw T k) (hmo : ∀ j, j < T.2.2.1.length → mo j = (T.2.2.1.getD j (0, 0, 0)).1 ∧ mt j = (T.2.2.1.getD j (0, 0, 0)).2.1 ∧ md j = (T.2.2.1.getD j (0, 0, 0)).2.2) (h0 : ∀ k, k < 64 → M0 k = -1000000) (hct : ∀ k, k < 6 → ct k = -1) (hth : ∀ k, k < 8 → th k = 0) {rc rt : Nat → Int32} (hrc : ∀ k, k < 6 → rc k = -1) (hrt : ∀ k, k < 8 → rt k = 0) : ∀ i, i ≤ T.2.2.1.length → z_D T (0, 0, f_bm tw mo mt md T.1.length M0 i, ct, th) (0, 0, z_Mt T.2.2.1 i, rc, rt) := by
  have h8 := hW.1.1.1
  have h6 := hW.1.2.1.1
  intro i
  induction i with
  | zero =>
    intro _
    have hM : z_Mt T.2.2.1 0 = fun _ => -100000 := rfl
    rw [hM]
    refine ⟨rfl, rfl, fun a b ha hb _ => ?_, fun l hl => ?_, fun p hp => ?_, ⟨0, by decide, rfl⟩, ⟨0, by decide, rfl⟩, fun x y hx hy => ⟨Int32.le_refl _, show (-100000 : Int32) ≤ 0 by decide, rfl⟩, fun l hl => Or.inl (hrc l (by omega))⟩
    · show M0 (8 * a + b) = z_cv (z_ld (fun _ => -100000) (z_tw T) a b)
      rw [z_ldK, h0 _ (by omega)]
      rfl
    · show ct l = rc l
      rw [hct l (by omega), hrc l (by omega)]
    · show th p = rt p
      rw [hth p (by omega), hrt p (by omega)]
  | succ i ih =>
    intro hi
    have hil : i < T.2.2.1.length := by omega
    have hD := ih (by omega)
    obtain ⟨a, b, d, ha, hb, hab, hd, em⟩ := hW.2.2 i hil
    obtain ⟨e1, e2, e3⟩ := hmo i hil
    rw [em] at e1 e2 e3
    have htk : T.2.2.1.take (i + 1) = T.2.2.1.take i ++ [(nI a, nI b, nI d)] := by
      rw [List.take_add_one]
      congr 1
      have : T.2.2.1[i]? = some (T.2.2.1.getD i (0, 0, 0)) := by simp [List.getD, hil]
      rw [this, em]
      rfl
    have hmm : z_mm T (bt (((1 : Int32) <<< (mo i &&& 31)) ||| ((1 : Int32) <<< (mt i &&& 31)))) (-(md i)) (z_Mt T.2.2.1 i) (z_Mt T.2.2.1 (i + 1)) := fun x y hx hy => by
      have d1 : (8 * x + y) / 8 = x := by omega
      have d2 : (8 * x + y) % 8 = y := by omega
      show z_mt (T.2.2.1.take (i + 1)) ((8 * x + y) / 8) ((8 * x + y) % 8) = if x ≠ y ∧ _ then g_max (z_mt (T.2.2.1.take i) ((8 * x + y) / 8) ((8 * x + y) % 8)) (-(md i)) else z_mt (T.2.2.1.take i) ((8 * x + y) / 8) ((8 * x + y) % 8)
      rw [d1, d2, htk, z_mt_a, e1, e2, e3, b_or, b_or, z_one (by omega) (by omega), z_one (by omega) (by omega), z_one (by omega) (by omega), z_one (by omega) (by omega)]
      by_cases c : (nI a = nI x ∧ nI b = nI y) ∨ (nI a = nI y ∧ nI b = nI x)
      · rw [if_pos c, if_pos]
        simp only [Bool.or_eq_true, decide_eq_true_eq]
        rcases c with ⟨r1, r2⟩ | ⟨r1, r2⟩
        · have := (nI_eq (by omega) (by omega)).mp r1
          have := (nI_eq (by omega) (by omega)).mp r2
          omega
        · have := (nI_eq (by omega) (by omega)).mp r1
          have := (nI_eq (by omega) (by omega)).mp r2
          omega
      · rw [if_neg c, if_neg]
        simp only [Bool.or_eq_true, decide_eq_true_eq]
        rintro ⟨r1, r2, r3⟩
        refine c ?_
        by_cases e : x = a
        · have : y = b := by omega
          rw [e, this]
          exact Or.inl ⟨rfl, rfl⟩
        · have h1 : x = b := by omega
          have h2 : y = a := by omega
          rw [h1, h2]
          exact Or.inr ⟨rfl, rfl⟩
    have hng := z_ngd d (by omega)
    exact z_D_meet hW.1.1 htw hD (S := ((1 : Int32) <<< (mo i &&& 31)) ||| ((1 : Int32) <<< (mt i &&& 31))) (wh := -(md i)) (M' := z_Mt T.2.2.1 (i + 1)) (by rw [e3]; exact hng.1) (by rw [e3]; exact hng.2) hmm
theorem z_R_up {J K : g_I} {T : x_T} (hW : z_W T) (h : z_Rh J T) (hf : ∀ a, 104 ≤ a → a ≤ 115 → ∀ k, k < z_hf a → K a k = J a (z_hf a + k)) : z_R K T := by
  have h8 := hW.1.1
  have h6 := hW.2.1.1
  have hr := hW.2.2.2.1
  obtain ⟨⟨t1, t2, t3, t4, t5⟩, rl, rp, rlo, rm⟩ := h
  have f4 : ∀ k, k < 6 → K 104 k = J 104 (6 + k) := fun k hk => hf 104 (by decide) (by decide) k hk
  refine ⟨⟨by rw [f4 0 (by decide)]; exact t1, fun p hp => ?_⟩, ⟨by rw [f4 1 (by decide)]; exact t2, fun l hl => ?_⟩, by rw [f4 3 (by decide)]; exact t4, by rw [f4 4 (by decide)]; exact t5, by rw [f4 5 (by decide)]; exact rl.1, fun k hk => ?_⟩
  · rw [show K 105 p = J 105 (8 + p) from hf 105 (by decide) (by decide) p (by show p < 8; omega), show K 106 p = J 106 (8 + p) from hf 106 (by decide) (by decide) p (by show p < 8; omega), show K 107 p = J 107 (8 + p) from hf 107 (by decide) (by decide) p (by show p < 8; omega)]
    exact rp p hp
  · have he := (hW.2.1.2 l hl).2.2.2.2.2.1
    rw [show K 108 l = J 108 (6 + l) from hf 108 (by decide) (by decide) l (by show l < 6; omega), show K 109 l = J 109 (6 + l) from hf 109 (by decide) (by decide) l (by show l < 6; omega), show K 110 l = J 110 (6 + l) from hf 110 (by decide) (by decide) l (by show l < 6; omega), show K 111 l = J 111 (6 + l) from hf 111 (by decide) (by decide) l (by show l < 6; omega), show K 112 l = J 112 (6 + l) from hf 112 (by decide) (by decide) l (by show l < 6; omega)]
    obtain ⟨a1, a2, a3, a4, a5, a6⟩ := rlo l hl
    refine ⟨a1, a2, a3, a4, a5, fun i hi => ?_⟩
    rw [show K 113 (6 * l + i) = J 113 (36 + (6 * l + i)) from hf 113 (by decide) (by decide) (6 * l + i) (by show 6 * l + i < 36; omega), ← Nat.add_assoc]
    exact a6 i hi
  · rw [show K 115 k = J 115 (600 + k) from hf 115 (by decide) (by decide) k (by show k < 600; omega)]
    exact rl.2 k hk
theorem z_T_town {I : g_I} {t : Nat} {T : x_T} (ht3 : t = 3 ∨ t = 22) (hS : z_sim I t T) {fd : Nat} (hfd : I 1 1 = nI fd) (hf6 : fd ≤ 600) {x : Int32} (h : ¬ ∃ nn, nn ≤ fd ∧ x = nI nn) : ∃ r J, b_X11_town I x = some (r, J) ∧ z_sim J t T ∧ J 101 2 = 1 := by
  obtain ⟨⟨fd2, f1, f2, f3, f4⟩, f5⟩ := hS.2.2.2.2.2.2.1
  have ef : fd2 = fd := (nI_eq (by omega) (by omega)).mp (f2.symm.trans hfd)
  subst ef
  refine ⟨0, am_up (am_up I 101 2 0) 101 2 1, ?_, z_simF ht3 hS 1, up_eq⟩
  unfold b_X11_town
  rw [z_gl]
  by_cases c1 : x < 0
  · rw [if_pos c1]; rfl
  · rw [if_neg c1, up_ne (show 17 ≠ 2 by decide), f3, if_neg]
    · rfl
    · intro c2
      rw [z_lI, show (0 : Int32).toInt = 0 by decide] at c1
      rw [z_leI, nI_toInt (by omega)] at c2
      refine h ⟨x.toInt.toNat, by omega, Int32.toInt_inj.mp ?_⟩
      rw [nI_toInt (by omega)]
      omega
theorem z_S_townF {I J X : g_I} {t t2 nn fd : Nat} {T : x_T} (ht3 : t = 3 ∨ t = 22) (ht2 : t + t2 = 25) (hS : z_sim I t T) (hfd : I 1 1 = nI fd) (hf6 : fd ≤ 600) (hnn : nn ≤ fd) (hk : k_rt (am_up I 1 2 (nI nn)) J 1 t2 (I 2) nn (x_read (I 2) nn)) (hf : ¬ (x_read (I 2) nn).1.1 = 0) (hX : X = f_tF J) : ∃ K, b_X11_town X (nI nn) = some ((x_read (I 2) nn).1.1, K) ∧ z_sim K t T ∧ K 101 2 = 0 := by
  obtain ⟨⟨fd2, f1, f2, f3, f4⟩, f5⟩ := hS.2.2.2.2.2.2.1
  have ef : fd2 = fd := (nI_eq (by omega) (by omega)).mp (f2.symm.trans hfd)
  subst ef
  obtain ⟨⟨k1, k2⟩, ⟨k3, k4⟩, -, -⟩ := hk
  have jI : ∀ a, a ≠ 1 → (a < t2 ∨ t2 + 19 ≤ a) → J a = I a := fun a p q => by rw [k1 a p q, am_up_o _ _ _ _ p]
  have xI : ∀ a, a ≠ 0 → a ≠ 1 → a ≠ 54 → (a < t2 ∨ t2 + 19 ≤ a) → X a = I a := fun a p0 p1 p2 q => by rw [hX]; unfold f_tF; rw [am_up_o _ _ _ _ p2, am_up_o _ _ _ _ p0, am_up_o _ _ _ _ p1, jI a p1 q]
  have x0 : ∀ k, k ≠ 3 → X 0 k = I 0 k := fun k p => by rw [hX]; unfold f_tF; rw [am_up_o _ _ _ _ (by decide), up_ne p, am_up_o _ _ _ _ (by decide), jI 0 (by decide) (by omega)]
  have x03 : X 0 3 = J 1 4 := by rw [hX]; unfold f_tF; rw [am_up_o _ _ _ _ (by decide), up_eq]
  have x11 : X 1 1 = 0 := by rw [hX]; unfold f_tF; rw [am_up_o _ _ _ _ (by decide), am_up_o _ _ _ _ (by decide), up_eq]
  have x54 : X 54 = upd (I 54) 0 (I 54 0 + 1) := by rw [hX]; unfold f_tF; rw [am_up_s, am_up_o _ _ _ _ (by decide), am_up_o _ _ _ _ (by decide), jI 54 (by decide) (by omega)]
  obtain ⟨J22, e, g1, g2, g3, g4, g5, g6, g7, -⟩ := z_townP (X := X) (tp := I 2) (nn := nn) (fd := fd2) (by rw [xI 101 (by decide) (by decide) (by decide) (by omega)]; exact f3) hf6 hnn (fun j hj => by rw [xI 117 (by decide) (by decide) (by decide) (by omega)]; exact f4 j hj) f5
  have hb : ¬ J22 101 24 = 0 := by rw [g7.2.1]; exact hf
  have h25 : J22 101 25 = nI (x_read (I 2) nn).1.2 := g7.2.2.2.2 hf
  have hj4 : J 1 4 = nI (x_read (I 2) nn).1.2 := k4.2.2.1
  rw [if_neg hb, z_gl, z_gl, am_up_o _ _ _ _ (show 116 ≠ 101 by decide)] at e
  generalize hK : am_up (am_up J22 101 26 (J22 101 25)) 116 0 (J22 116 0 + 1) = K at e
  have c1 : ∀ a, a ≠ 101 → a ≠ 116 → K a = J22 a := fun a p q => by rw [← hK, am_up_o _ _ _ _ q, am_up_o _ _ _ _ p]
  have c2 : ∀ k, k ≠ 26 → K 101 k = J22 101 k := fun k p => by rw [← hK, am_up_o _ _ _ _ (by decide), up_ne p]
  have c26 : K 101 26 = nI (x_read (I 2) nn).1.2 := by rw [← hK, am_up_o _ _ _ _ (by decide), up_eq, h25]
  have c116 : K 116 = upd (I 116) 0 (I 116 0 + 1) := by rw [← hK, am_up_s, am_up_o _ _ _ _ (by decide), g1 116 (by decide), xI 116 (by decide) (by decide) (by decide) (by omega)]
  have kc : ∀ a, a < 101 → K a = X a := fun a p => by rw [c1 a (by omega) (by omega), g1 a (by omega)]
  have kI : ∀ a, a ≠ 0 → a ≠ 1 → a ≠ 54 → (a < t2 ∨ t2 + 19 ≤ a) → (a < 101 ∨ (115 < a ∧ a ≠ 116)) → K a = I a := fun a p0 p1 p2 q r => by
    rw [c1 a (by omega) (by omega), g1 a (by omega), xI a p0 p1 p2 q]
  have ks : ∀ k, k ≠ 2 → (k < 17 ∨ 26 < k) → K 101 k = I 101 k := fun k p q => by rw [c2 k (by omega), g3 k p q, xI 101 (by decide) (by decide) (by decide) (by omega)]
  have kh : ∀ a, 104 ≤ a → a ≤ 115 → ∀ k, k < z_hf a → K a k = I a k := fun a p q k hk => by rw [c1 a (by omega) (by omega), g2 a p q k hk, xI a (by omega) (by omega) (by omega) (by omega)]
  rw [c2 24 (by decide), g7.2.1] at e
  refine ⟨K, e, ⟨hS.1, k_tw_o hS.2.1 (fun a p1 p2 => kI a (by omega) (by omega) (by omega) (by omega) (by omega)), z_R_h hS.1 hS.2.2.1 kh, z_sS_o hS.1.1 hS.2.2.2.1 (fun a p1 p2 => kI a (by omega) (by omega) (by omega) (by omega) (by omega)) (fun k p1 p2 => ks k (by omega) (by omega)) (kI 120 (by omega) (by omega) (by omega) (by omega) (by omega)) (fun k hk => kh 114 (by decide) (by decide) k hk) (kI 118 (by omega) (by omega) (by omega) (by omega) (by omega)) (kI 119 (by omega) (by omega) (by omega) (by omega) (by omega)), z_Cl_o hS.2.2.2.2.1 (by rw [kI 41 (by omega) (by omega) (by omega) (by omega) (by omega)]) (by rw [kI 41 (by omega) (by omega) (by omega) (by omega) (by omega)]) (ks 33 (by decide) (by decide)) (ks 34 (by decide) (by decide)) (fun a p1 p2 => kI a (by omega) (by omega) (by omega) (by omega) (by omega)) (fun a p1 p2 => kI a (by omega) (by omega) (by omega) (by omega) (by omega)), fun k hk => ?_, ⟨⟨0, by omega, ?_, ?_, fun j hj => absurd hj (Nat.not_lt_zero j)⟩, fun j hj => ?_⟩, ?_, z_sW_o hS.2.2.2.2.2.2.2.2.1 (by rw [kc 0 (by decide), x0 9 (by decide)]) (ks 45 (by decide) (by decide)) (kI 89 (by omega) (by omega) (by omega) (by omega) (by omega)) (kI 127 (by omega) (by omega) (by omega) (by omega) (by omega)), z_sG_o hS.2.2.2.2.2.2.2.2.2.1 (fun a p1 p2 => kI a (by omega) (by omega) (by omega) (by omega) (by omega)) (fun k p1 p2 => ks k (by omega) (by omega)) (fun a p1 p2 => kI a (by omega) (by omega) (by omega) (by omega) (by omega)) (by rw [kc 0 (by decide), x0 6 (by decide)]), z_s9_o hS.2.2.2.2.2.2.2.2.2.2 (ks 30 (by decide) (by decide)) (kI 120 (by omega) (by omega) (by omega) (by omega) (by omega)) (kI 136 (by omega) (by omega) (by omega) (by omega) (by omega)) (kI 137 (by omega) (by omega) (by omega) (by omega) (by omega)) (ks 32 (by decide) (by decide)) (ks 58 (by decide) (by decide))⟩, by rw [c2 2 (by decide), g5]⟩
  · rw [kc 54 (by decide), x54, c116]
    by_cases r : k = 0
    · rw [r, pk_us, pk_us, hS.2.2.2.2.2.1 0 (by decide)]
    · rw [upd_o r, upd_o r]
      exact hS.2.2.2.2.2.1 k hk
  · rw [kc 1 (by decide), x11]; rfl
  · rw [c2 17 (by decide), g4]; rfl
  · rw [kI 2 (by omega) (by omega) (by omega) (by omega) (by omega)]
    exact f5 j hj
  · rw [kc 0 (by decide), x03, hj4, c26]
theorem z_S_townG {I J X : g_I} {t t2 nn fd : Nat} {T : x_T} (ht3 : t = 3 ∨ t = 22) (ht2 : t + t2 = 25) (hS : z_sim I t T) (hfd : I 1 1 = nI fd) (hf6 : fd ≤ 600) (hnn : nn ≤ fd) (hk : k_rt (am_up I 1 2 (nI nn)) J 1 t2 (I 2) nn (x_read (I 2) nn)) (hf : (x_read (I 2) nn).1.1 = 0) (hX : X = f_tG J t2 (x_read (I 2) nn).2.1.1.length (x_read (I 2) nn).2.1.2.2.1.length) : ∃ K, b_X11_town X (nI nn) = some (0, K) ∧ z_sim K t2 (x_read (I 2) nn).2.1 ∧ K 101 2 = 0 := by
  obtain ⟨⟨fd2, f1, f2, f3, f4⟩, f5⟩ := hS.2.2.2.2.2.2.1
  have ef : fd2 = fd := (nI_eq (by omega) (by omega)).mp (f2.symm.trans hfd)
  subst ef
  obtain ⟨⟨k1, k2⟩, ⟨k3, k4⟩, -, k5⟩ := hk
  have hTw := k5 hf
  generalize hT2 : (x_read (I 2) nn).2.1 = T2 at hTw hX
  have jI : ∀ a, a ≠ 1 → (a < t2 ∨ t2 + 19 ≤ a) → J a = I a := fun a p q => by rw [k1 a p q, am_up_o _ _ _ _ p]
  generalize hH : f_tH J = H at hX
  have hHo : ∀ a, a ≠ 0 → a ≠ 1 → H a = J a := fun a p q => by rw [← hH]; unfold f_tH; rw [am_up_o _ _ _ _ p, am_up_o _ _ _ _ q]
  have hX2 : X = am_up (am_up (am_uA (f_sbeg H 42 t2 T2.1.length T2.2.2.1.length) 41 (upd (upd (H 41) 2 0) 6 0)) 0 9 0) 0 6 0 := by rw [hX]; unfold f_tG; rw [hH]
  have xo : ∀ a, a ≠ 0 → a ≠ 41 → X a = f_sbeg H 42 t2 T2.1.length T2.2.2.1.length a := fun a p q => by rw [hX2, am_up_o _ _ _ _ p, am_up_o _ _ _ _ p, am_uA_o _ _ _ q]
  have xH : ∀ a, a ≠ 0 → a ≠ 41 → (a < 42 ∨ 54 ≤ a) → X a = H a := fun a p q r => by rw [xo a p q, f_sbeg_o _ _ _ _ _ (by omega)]
  have xI : ∀ a, a ≠ 0 → a ≠ 1 → a ≠ 41 → (a < t2 ∨ t2 + 19 ≤ a) → (a < 42 ∨ 54 ≤ a) → X a = I a := fun a p q r s u => by rw [xH a p r u, hHo a p q, jI a q s]
  have x0 : ∀ k, X 0 k = if k = 6 then 0 else if k = 9 then 0 else H 0 k := fun k => by
    by_cases r1 : k = 6
    · rw [if_pos r1, r1, hX2, up_eq]
    · rw [if_neg r1, hX2, up_ne r1]
      by_cases r2 : k = 9
      · rw [if_pos r2, r2, up_eq]
      · rw [if_neg r2, up_ne r2, am_uA_o _ _ _ (by decide), f_sbeg_o _ _ _ _ _ (by omega)]
  have h03 : H 0 3 = -1 := by rw [← hH]; unfold f_tH; rw [up_eq]
  have x41 : X 41 = upd (upd (I 41) 2 0) 6 0 := by rw [hX2, am_up_o _ _ _ _ (by decide), am_up_o _ _ _ _ (by decide), am_uA_s, hHo 41 (by decide) (by decide), jI 41 (by decide) (by omega)]
  have x11 : X 1 1 = 0 := by rw [xH 1 (by decide) (by decide) (by decide), ← hH]; unfold f_tH; rw [am_up_o _ _ _ _ (by decide), up_eq]
  obtain ⟨J22, e, g1, g2, g3, g4, g5, g6, g7, g8⟩ := z_townP (X := X) (tp := I 2) (nn := nn) (fd := fd2) (by rw [xI 101 (by decide) (by decide) (by decide) (by omega) (by omega)]; exact f3) hf6 hnn (fun j hj => by rw [xI 117 (by decide) (by decide) (by decide) (by omega) (by omega)]; exact f4 j hj) f5
  obtain ⟨hRh, hWk⟩ := g8 hf
  rw [hT2] at hRh hWk
  have hb : J22 101 24 = 0 := by rw [g7.2.1]; exact hf
  obtain ⟨K, e2, c1, c2, c3, ⟨d30, d31, d32, d33, d34, d45, d57⟩, c4, c5⟩ := z_takeOver (J := J22)
  rw [if_pos hb, e2, z_gb] at e
  have h8 := hWk.1.1.1
  have h6 := hWk.1.2.1.1
  have kc : ∀ a, a < 101 → K a = X a := fun a p => by rw [c1 a (by omega), g1 a (by omega)]
  have kr : ∀ a, (119 < a ∨ a = 116 ∨ a = 117) → K a = I a := fun a p => by rw [c1 a (by omega), g1 a (by omega), xI a (by omega) (by omega) (by omega) (by omega) (by omega)]
  have hTX : k_tw X t2 T2 := k_tw_o hTw (fun a p1 p2 => by rw [xH a (by omega) (by omega) (by omega), hHo a (by omega) (by omega)])
  have hTH : k_tw H t2 T2 := k_tw_o hTw (fun a p1 p2 => hHo a (by omega) (by omega))
  have hr4 : ∀ a b, a < T2.1.length → b < T2.1.length → K 114 (8 * a + b) = z_Mt T2.2.2.1 T2.2.2.1.length (8 * a + b) := fun a b ha hb => by
    rw [show K 114 (8 * a + b) = J22 114 (64 + (8 * a + b)) from c2 114 (by decide) (by decide) _ (by show 8 * a + b < 64; omega), ← Nat.add_assoc, hRh.2.2.2.2 a b (by omega) (by omega)]
    show _ = z_mt (T2.2.2.1.take T2.2.2.1.length) ((8 * a + b) / 8) ((8 * a + b) % 8)
    rw [List.take_length, show (8 * a + b) / 8 = a by omega, show (8 * a + b) % 8 = b by omega]
  have hbeg := z_begD hWk (tw := H (t2 + 4)) (mo := H (t2 + 5)) (mt := H (t2 + 6)) (md := H (t2 + 7)) (M0 := f_fill (H (43 + 1)) (-1000000) 64) (ct := f_fill (H (43 + 2)) (-1) 6) (th := f_fill (H (43 + 3)) 0 8) (rc := K 118) (rt := K 119) (fun k hk => (hTH.1.2.2 k hk).2.2.2) (fun j hj => hTH.2.2.1.2.2 j hj) (fun k hk => if_pos hk) (fun k hk => if_pos hk) (fun k hk => if_pos hk) c4 c5 T2.2.2.1.length (Nat.le_refl _)
  generalize hB : f_beg H 43 t2 T2.1.length T2.2.2.1.length = B
  have hBd : z_dc B 43 = (0, 0, f_bm (H (t2 + 4)) (H (t2 + 5)) (H (t2 + 6)) (H (t2 + 7)) T2.1.length (f_fill (H (43 + 1)) (-1000000) 64) T2.2.2.1.length, f_fill (H (43 + 2)) (-1) 6, f_fill (H (43 + 3)) 0 8) := by
    rw [← hB]
    unfold z_dc f_beg
    rw [am_uA_o _ _ _ (show 43 ≠ 43 + 1 by decide), am_uA_o _ _ _ (show 43 ≠ 43 + 3 by decide), am_uA_o _ _ _ (show 43 ≠ 43 + 2 by decide), am_uA_s, am_uA_s, am_uA_o _ _ _ (show 43 + 2 ≠ 43 + 1 by decide), am_uA_o _ _ _ (show 43 + 2 ≠ 43 + 3 by decide), am_uA_s, am_uA_o _ _ _ (show 43 + 3 ≠ 43 + 1 by decide), am_uA_s, upd_o (by decide), pk_us, pk_us]
  have hsb : f_sbeg H 42 t2 T2.1.length T2.2.2.1.length = am_uA (f_dcp B 47 43) 42 (upd (H 42) 5 0) := by unfold f_sbeg; rw [show 42 + 1 = 43 from rfl, hB]
  have hx43 : z_dc X 43 = z_dc B 43 := by
    unfold z_dc
    rw [xo 43 (by decide) (by decide), xo (43 + 1) (by decide) (by decide), xo (43 + 2) (by decide) (by decide), xo (43 + 3) (by decide) (by decide), hsb, am_uA_o _ _ _ (by decide), am_uA_o _ _ _ (by decide), am_uA_o _ _ _ (by decide), am_uA_o _ _ _ (by decide), f_dcp_o _ _ _ (by decide), f_dcp_o _ _ _ (by decide), f_dcp_o _ _ _ (by decide), f_dcp_o _ _ _ (by decide)]
  have hx47 : z_dc X 47 = z_dc (f_dcp B 47 43) 47 := by
    unfold z_dc
    rw [xo 47 (by decide) (by decide), xo (47 + 1) (by decide) (by decide), xo (47 + 2) (by decide) (by decide), xo (47 + 3) (by decide) (by decide), hsb, am_uA_o _ _ _ (by decide), am_uA_o _ _ _ (by decide), am_uA_o _ _ _ (by decide), am_uA_o _ _ _ (by decide)]
  have hDX : z_D T2 (z_dc X 43) (z_dr K) := by
    rw [hx43, hBd]
    refine z_D_c hWk.1.1 hbeg (z_eq_r T2 _) ⟨?_, ?_, fun a b ha hb => ?_, fun _ _ => rfl, fun _ _ => rfl⟩
    · show K 101 30 = 0; exact d30
    · show K 101 31 = 0; exact d31
    · exact hr4 a b ha hb
  refine ⟨K, e, ⟨hWk.1, k_tw_o hTX (fun a p1 p2 => kc a (by omega)), z_R_up hWk.1 hRh c2, ?_, ⟨⟨0, by omega, ?_, ?_, fun j hj => absurd hj (Nat.not_lt_zero j)⟩, 0, by omega, ?_, ?_, fun j hj => absurd hj (Nat.not_lt_zero j)⟩, fun k hk => ?_, ⟨⟨0, by omega, ?_, ?_, fun j hj => absurd hj (Nat.not_lt_zero j)⟩, fun j hj => ?_⟩, ?_, ⟨?_, fun r => ?_⟩, ⟨?_, fun r => ?_⟩, ⟨0, by omega, d30⟩, fun k j p1 p2 p3 => ?_, ?_, ?_⟩, ?_⟩
  · unfold z_sS
    rw [z_sy_o (I := X) (J := K) (s := 42) (fun a p1 p2 => kc a (by omega))]
    refine ⟨0, by omega, ?_, d32, fun i hi => absurd hi (Nat.not_lt_zero i), ?_, fun j hj => absurd hj (Nat.not_lt_zero j), hDX⟩
    · show X 42 5 = nI 0
      rw [xo 42 (by decide) (by decide), hsb, am_uA_s, pk_us]
      rfl
    · show z_eq T2 (z_dc X 43) (z_dc X 47)
      rw [hx43, hx47]
      exact z_dcpD hWk.1 (by decide)
  · rw [kc 41 (by decide), x41, upd_o (by decide), pk_us]; rfl
  · exact d33
  · rw [kc 41 (by decide), x41, pk_us]; rfl
  · exact d34
  · rw [kc 54 (by decide), kr 116 (by decide), xI 54 (by decide) (by decide) (by decide) (by omega) (by omega)]
    exact hS.2.2.2.2.2.1 k hk
  · rw [kc 1 (by decide), x11]; rfl
  · rw [c3 17 (by decide) (by decide) (by decide) (by decide) (by decide) (by decide) (by decide), g4]; rfl
  · rw [kc 2 (by decide), xI 2 (by decide) (by decide) (by decide) (by omega) (by omega)]
    exact f5 j hj
  · rw [kc 0 (by decide), x0 3, if_neg (by decide), if_neg (by decide), h03, c3 26 (by decide) (by decide) (by decide) (by decide) (by decide) (by decide) (by decide), g6]
  · rw [kc 0 (by decide), x0 9, if_neg (by decide), if_pos rfl, d45]
  · rw [kc 0 (by decide), x0 9, if_neg (by decide), if_pos rfl] at r
    exact absurd rfl r
  · rw [kc 0 (by decide), x0 6, if_pos rfl, d57]
  · rw [kc 0 (by decide), x0 6, if_pos rfl] at r
    exact absurd rfl r
  · rw [d32] at p2
    have : k = 0 := ((nI_eq (a := 0) (b := k) (by omega) (by omega)).mp p2).symm
    omega
  · rw [kr 136 (by decide)]
    exact hS.2.2.2.2.2.2.2.2.2.2.2.2.1
  · rw [kr 137 (by decide), c3 58 (by decide) (by decide) (by decide) (by decide) (by decide) (by decide) (by decide), g3 58 (by decide) (by decide), xI 101 (by decide) (by decide) (by decide) (by omega) (by omega)]
    exact hS.2.2.2.2.2.2.2.2.2.2.2.2.2
  · rw [c3 2 (by decide) (by decide) (by decide) (by decide) (by decide) (by decide) (by decide), g5]
