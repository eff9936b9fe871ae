/-! PURE: FEED, BOTH WORLDS -/
theorem z_b8 (x : Int32) : x.toInt8.toInt32 &&& 255 = x &&& 255 := by
  apply b_ext
  intro i hi
  rw [b_and, b_and, b_255]
  by_cases h : i < 8
  · have e : bt x.toInt8.toInt32 i = bt x i := by
      unfold bt
      rw [Int8.toBitVec_toInt32, Int32.toBitVec_toInt8, BitVec.getLsbD_signExtend, BitVec.getLsbD_signExtend, if_pos h, if_pos hi]
      simp [h, hi]
    rw [e]
  · rw [decide_eq_false h, Bool.and_false, Bool.and_false]
theorem z_b8r (x : Int32) : -128 ≤ x.toInt8.toInt32 ∧ x.toInt8.toInt32 < 128 := by
  have h1 := Int8.toInt_lt x.toInt8
  have h2 := Int8.le_toInt x.toInt8
  rw [z_leI, z_lI, Int8.toInt_toInt32, show (-128 : Int32).toInt = -128 by decide, show (128 : Int32).toInt = 128 by decide]
  omega
theorem z_lfu {g : Nat → Int32} {f0 : Nat → Int32} {fd : Nat} (k j : Nat) : lfold (fun i tp => upd tp (fd + i) (g i)) f0 k j = if fd ≤ j ∧ j < fd + k then g (j - fd) else f0 j := by
  induction k with
  | zero => rw [if_neg (by omega)]; rfl
  | succ k ih =>
    show upd (lfold (fun i tp => upd tp (fd + i) (g i)) f0 k) (fd + k) (g k) j = _
    by_cases e : j = fd + k
    · rw [e, pk_us, if_pos (by omega), show fd + k - fd = k by omega]
    · rw [upd_o e, ih]
      by_cases c : fd ≤ j ∧ j < fd + k
      · rw [if_pos c, if_pos (by omega)]
      · rw [if_neg c, if_neg (by omega)]
theorem z_apk2 {I : g_I} {fd : Nat} {v : Int32} (j : Nat) : f_apk I 1 fd v 4 2 j = if fd ≤ j ∧ j < fd + 4 then (v >>> (f_sh (j - fd) &&& 31)).toInt8.toInt32 else I 2 j := by
  unfold f_apk
  rw [am_up_o _ _ _ _ (by decide), am_uA_s]
  exact z_lfu (g := fun i => (v >>> (f_sh i &&& 31)).toInt8.toInt32) 4 j
theorem z_apk1 {I : g_I} {fd : Nat} {v : Int32} : f_apk I 1 fd v 4 1 1 = nI (fd + 4) := up_eq
theorem z_apko {I : g_I} {fd : Nat} {v : Int32} {a : Nat} (h1 : a ≠ 1) (h2 : a ≠ 2) : f_apk I 1 fd v 4 a = I a := by
  unfold f_apk
  rw [am_up_o _ _ _ _ h1, am_uA_o _ _ _ h2]
def z_fw (a b c d e : Int32) (i : Nat) : Int32 := if i < 4 then a else if i < 8 then b else if i < 12 then c else if i < 16 then d else e
theorem z_fed {I : g_I} {fd : Nat} {a b c d e : Int32} : f_fed I fd a b c d e 1 1 = nI (fd + 20) ∧ (∀ q, q ≠ 1 → q ≠ 2 → f_fed I fd a b c d e q = I q) ∧ ∀ j, f_fed I fd a b c d e 2 j = if fd ≤ j ∧ j < fd + 20 then (z_fw a b c d e (j - fd) >>> (f_sh ((j - fd) % 4) &&& 31)).toInt8.toInt32 else I 2 j := by
  refine ⟨by unfold f_fed; exact z_apk1, fun q h1 h2 => ?_, fun j => ?_⟩
  · unfold f_fed
    rw [z_apko h1 h2, z_apko h1 h2, z_apko h1 h2, z_apko h1 h2, z_apko h1 h2]
  · unfold f_fed
    rw [z_apk2]
    by_cases c5 : fd + 16 ≤ j ∧ j < fd + 16 + 4
    · rw [if_pos c5, if_pos (by omega), show (j - fd) % 4 = j - (fd + 16) by omega]
      unfold z_fw
      rw [if_neg (by omega), if_neg (by omega), if_neg (by omega), if_neg (by omega)]
    · rw [if_neg c5, z_apk2]
      by_cases c4 : fd + 12 ≤ j ∧ j < fd + 12 + 4
      · rw [if_pos c4, if_pos (by omega), show (j - fd) % 4 = j - (fd + 12) by omega]
        unfold z_fw
        rw [if_neg (by omega), if_neg (by omega), if_neg (by omega), if_pos (by omega)]
      · rw [if_neg c4, z_apk2]
        by_cases c3 : fd + 8 ≤ j ∧ j < fd + 8 + 4
        · rw [if_pos c3, if_pos (by omega), show (j - fd) % 4 = j - (fd + 8) by omega]
          unfold z_fw
          rw [if_neg (by omega), if_neg (by omega), if_pos (by omega)]
        · rw [if_neg c3, z_apk2]
          by_cases c2 : fd + 4 ≤ j ∧ j < fd + 4 + 4
          · rw [if_pos c2, if_pos (by omega), show (j - fd) % 4 = j - (fd + 4) by omega]
            unfold z_fw
            rw [if_neg (by omega), if_pos (by omega)]
          · rw [if_neg c2, z_apk2]
            by_cases c1 : fd ≤ j ∧ j < fd + 4
            · rw [if_pos c1, if_pos (by omega), show (j - fd) % 4 = j - fd by omega]
              unfold z_fw
              rw [if_pos (by omega)]
            · rw [if_neg c1, if_neg (by omega)]
theorem z_fsh : ∀ i, i < 20 → (24 : Int32) - (8 : Int32) * (nI i - nI i / 4 * 4) = f_sh (i % 4) := by decide +kernel
theorem z_feed1 {J : g_I} {x1 x2 x3 x4 x5 : Int32} {K : g_I → Option (Int32 × g_I)} {f i fd : Nat} (hi : i < 20) (h17 : J 101 17 = nI fd) (hfd : fd < 600) : b_X11_feed_L23 x1 x2 x3 x4 x5 K (f + 1) (nI i) J = b_X11_feed_L23 x1 x2 x3 x4 x5 K f (nI (i + 1)) (am_up (am_up J 117 fd ((z_fw x1 x2 x3 x4 x5 i >>> (f_sh (i % 4) &&& 31)) &&& 255)) 101 17 (nI (fd + 1))) := by
  have st : ∀ w : Int32, (if g_in (J 101 17) 600 = true then g_let (am_up J 117 (J 101 17).toNatClampNeg ((w >>> (((24 : Int32) - ((8 : Int32) * (nI i - nI i / 4 * 4))) &&& 31)) &&& 255)) fun I2 => g_let (am_up I2 101 17 ((I2 101 17) + 1)) fun I3 => b_X11_feed_L23 x1 x2 x3 x4 x5 K f (nI i + 1) I3 else none) = b_X11_feed_L23 x1 x2 x3 x4 x5 K f (nI (i + 1)) (am_up (am_up J 117 fd ((w >>> (f_sh (i % 4) &&& 31)) &&& 255)) 101 17 (nI (fd + 1))) := fun w => by
    rw [h17, if_pos (g_in_nI hfd (by decide)), z_gl, nI_clamp (by omega), z_gl, am_up_o _ _ _ _ (show 101 ≠ 117 by decide), h17, nI_1, nI_1, z_fsh i hi]
  have le : ∀ k, k < 100 → (nI k ≤ nI i ↔ k ≤ i) := fun k hk => nI_leI (by omega) (by omega)
  conv => lhs; unfold b_X11_feed_L23
  rw [z_gl, if_neg (show ¬ (20 : Int32) ≤ nI i from fun q => absurd ((le 20 (by decide)).mp q) (by omega))]
  unfold z_fw
  by_cases c1 : i < 4
  · rw [if_neg (show ¬ (4 : Int32) ≤ nI i from fun q => absurd ((le 4 (by decide)).mp q) (by omega)), if_pos c1]
    exact st x1
  · rw [if_pos (show (4 : Int32) ≤ nI i from (le 4 (by decide)).mpr (by omega)), if_neg c1]
    by_cases c2 : i < 8
    · rw [if_neg (show ¬ (8 : Int32) ≤ nI i from fun q => absurd ((le 8 (by decide)).mp q) (by omega)), if_pos c2]
      exact st x2
    · rw [if_pos (show (8 : Int32) ≤ nI i from (le 8 (by decide)).mpr (by omega)), if_neg c2]
      by_cases c3 : i < 12
      · rw [if_neg (show ¬ (12 : Int32) ≤ nI i from fun q => absurd ((le 12 (by decide)).mp q) (by omega)), if_pos c3]
        exact st x3
      · rw [if_pos (show (12 : Int32) ≤ nI i from (le 12 (by decide)).mpr (by omega)), if_neg c3]
        by_cases c4 : i < 16
        · rw [if_neg (show ¬ (16 : Int32) ≤ nI i from fun q => absurd ((le 16 (by decide)).mp q) (by omega)), if_pos c4]
          exact st x4
        · rw [if_pos (show (16 : Int32) ≤ nI i from (le 16 (by decide)).mpr (by omega)), if_neg c4]
          exact st x5
theorem z_feedL {J0 : g_I} {x1 x2 x3 x4 x5 : Int32} {K : g_I → Option (Int32 × g_I)} {fd : Nat} (h17 : J0 101 17 = nI fd) (hfd : fd ≤ 580) : ∃ J, b_X11_feed_L23 x1 x2 x3 x4 x5 K fu 0 J0 = K J ∧ (∀ a, a ≠ 101 → a ≠ 117 → J a = J0 a) ∧ (∀ k, k ≠ 17 → J 101 k = J0 101 k) ∧ J 101 17 = nI (fd + 20) ∧ ∀ j, J 117 j = if fd ≤ j ∧ j < fd + 20 then (z_fw x1 x2 x3 x4 x5 (j - fd) >>> (f_sh ((j - fd) % 4) &&& 31)) &&& 255 else J0 117 j := by
  have h := z_lp (F := fun f (s : Int32 × g_I) => b_X11_feed_L23 x1 x2 x3 x4 x5 K f s.1 s.2) (K := fun s => K s.2) (N := 20) (fun i s => s.1 = nI i ∧ (∀ a, a ≠ 101 → a ≠ 117 → s.2 a = J0 a) ∧ (∀ k, k ≠ 17 → s.2 101 k = J0 101 k) ∧ s.2 101 17 = nI (fd + i) ∧ ∀ j, s.2 117 j = if fd ≤ j ∧ j < fd + i then (z_fw x1 x2 x3 x4 x5 (j - fd) >>> (f_sh ((j - fd) % 4) &&& 31)) &&& 255 else J0 117 j)
    (fun f s hP => by
      show b_X11_feed_L23 x1 x2 x3 x4 x5 K (f + 1) s.1 s.2 = K s.2
      unfold b_X11_feed_L23
      rw [z_gl, hP.1, if_pos (show (20 : Int32) ≤ nI 20 by decide)])
    (fun f i s hi hP => by
      obtain ⟨p1, p2, p3, p4, p5⟩ := hP
      refine ⟨(nI (i + 1), am_up (am_up s.2 117 (fd + i) ((z_fw x1 x2 x3 x4 x5 i >>> (f_sh (i % 4) &&& 31)) &&& 255)) 101 17 (nI (fd + i + 1))), ?_, rfl, fun a q1 q2 => ?_, fun k q => ?_, ?_, fun j => ?_⟩
      · show b_X11_feed_L23 x1 x2 x3 x4 x5 K (f + 1) s.1 s.2 = _
        rw [p1]
        exact z_feed1 hi p4 (by omega)
      · show am_up _ 101 17 _ a = _
        rw [am_up_o _ _ _ _ q1, am_up_o _ _ _ _ q2, p2 a q1 q2]
      · show am_up _ 101 17 _ 101 k = _
        rw [up_ne q, am_up_o _ _ _ _ (by decide), p3 k q]
      · dsimp only
        rw [up_eq]; rfl
      · dsimp only
        rw [am_up_o _ _ _ _ (by decide)]
        by_cases e : j = fd + i
        · rw [e, up_eq, if_pos (by omega), show fd + i - fd = i by omega]
        · rw [up_ne e, p5 j]
          by_cases c : fd ≤ j ∧ j < fd + i
          · rw [if_pos c, if_pos (by omega)]
          · rw [if_neg c, if_neg (by omega)])
    20 fu 0 (0, J0) (by omega) (by unfold fu; omega) ⟨rfl, fun _ _ _ => rfl, fun _ _ => rfl, h17, fun j => by rw [if_neg (by omega)]⟩
  obtain ⟨s, e, -, p2, p3, p4, p5⟩ := h
  exact ⟨s.2, e, p2, p3, p4, p5⟩
theorem z_S_feed {I Y : g_I} {t : Nat} {T : x_T} (ht3 : t = 3 ∨ t = 22) (hS : z_sim I t T) {fd : Nat} (hfd : I 1 1 = nI fd) (hf6 : fd ≤ 600) {a b c d e : Int32} (hY : Y = if fd ≤ 580 then f_fed I fd a b c d e else I) : ∃ J, b_X11_feed Y a b c d e = some (if fd ≤ 580 then nI (fd + 20) else -1, J) ∧ z_sim J t T ∧ J 101 2 = 0 := by
  obtain ⟨⟨fd2, f1, f2, f3, f4⟩, f5⟩ := hS.2.2.2.2.2.2.1
  have ef : fd2 = fd := (nI_eq (by omega) (by omega)).mp (f2.symm.trans hfd)
  subst ef
  have hle : ∀ J : g_I, J 101 17 = nI fd2 → (J 101 17 + 20 ≤ 600 ↔ fd2 ≤ 580) := fun J q => by
    rw [q, show (20 : Int32) = nI 20 from rfl, nI_add, show (600 : Int32) = nI 600 from rfl, nI_leI (by omega) (by omega)]
    omega
  unfold b_X11_feed
  by_cases cc : fd2 ≤ 580
  · rw [if_pos cc] at hY
    rw [if_pos cc, z_gl]
    obtain ⟨y1, y2, y3⟩ := z_fed (I := I) (fd := fd2) (a := a) (b := b) (c := c) (d := d) (e := e)
    rw [← hY] at y1 y3
    have y2' : ∀ q, q ≠ 1 → q ≠ 2 → Y q = I q := fun q p1 p2 => by rw [hY]; exact y2 q p1 p2
    have h17 : am_up Y 101 2 0 101 17 = nI fd2 := by rw [up_ne (by decide), y2' 101 (by decide) (by decide)]; exact f3
    obtain ⟨J, e1, j1, j2, j3, j4⟩ := z_feedL (x1 := a) (x2 := b) (x3 := c) (x4 := d) (x5 := e) (K := fun (I4 : g_I) => some (I4 101 17, I4)) h17 cc
    have k1 : ∀ q, q ≠ 1 → q ≠ 2 → q ≠ 101 → q ≠ 117 → J q = I q := fun q p1 p2 p3 p4 => by rw [j1 q p3 p4, am_up_o _ _ _ _ p3, y2' q p1 p2]
    have k2 : ∀ k, k ≠ 17 → k ≠ 2 → J 101 k = I 101 k := fun k p1 p2 => by rw [j2 k p1, up_ne p2, y2' 101 (by decide) (by decide)]
    have kY : ∀ q, q < 3 → J q = Y q := fun q p => by rw [j1 q (by omega) (by omega), am_up_o _ _ _ _ (by omega)]
    refine ⟨J, ?_, ⟨hS.1, k_tw_o hS.2.1 (fun q p1 p2 => k1 q (by omega) (by omega) (by omega) (by omega)), z_R_o hS.2.2.1 (fun q p1 p2 _ => k1 q (by omega) (by omega) (by omega) (by omega)), z_sS_o hS.1.1 hS.2.2.2.1 (fun q p1 p2 => k1 q (by omega) (by omega) (by omega) (by omega)) (fun k p1 p2 => k2 k (by omega) (by omega)) (k1 120 (by decide) (by decide) (by decide) (by decide)) (fun k _ => by rw [k1 114 (by decide) (by decide) (by decide) (by decide)]) (k1 118 (by decide) (by decide) (by decide) (by decide)) (k1 119 (by decide) (by decide) (by decide) (by decide)), z_Cl_o hS.2.2.2.2.1 (by rw [k1 41 (by decide) (by decide) (by decide) (by decide)]) (by rw [k1 41 (by decide) (by decide) (by decide) (by decide)]) (k2 33 (by decide) (by decide)) (k2 34 (by decide) (by decide)) (fun q p1 p2 => k1 q (by omega) (by omega) (by omega) (by omega)) (fun q p1 p2 => k1 q (by omega) (by omega) (by omega) (by omega)), fun j hj => ?_, ⟨⟨fd2 + 20, by omega, ?_, j3, fun j hj => ?_⟩, fun j hj => ?_⟩, ?_, z_sW_o hS.2.2.2.2.2.2.2.2.1 (by rw [k1 0 (by decide) (by decide) (by decide) (by decide)]) (k2 45 (by decide) (by decide)) (k1 89 (by decide) (by decide) (by decide) (by decide)) (k1 127 (by decide) (by decide) (by decide) (by decide)), z_sG_o hS.2.2.2.2.2.2.2.2.2.1 (fun q p1 p2 => k1 q (by omega) (by omega) (by omega) (by omega)) (fun k p1 p2 => k2 k (by omega) (by omega)) (fun q p1 p2 => k1 q (by omega) (by omega) (by omega) (by omega)) (by rw [k1 0 (by decide) (by decide) (by decide) (by decide)]), z_s9_o hS.2.2.2.2.2.2.2.2.2.2 (k2 30 (by decide) (by decide)) (k1 120 (by decide) (by decide) (by decide) (by decide)) (k1 136 (by decide) (by decide) (by decide) (by decide)) (k1 137 (by decide) (by decide) (by decide) (by decide)) (k2 32 (by decide) (by decide)) (k2 58 (by decide) (by decide))⟩, by rw [j2 2 (by decide)]; exact up_eq⟩
    · rw [if_pos ((hle _ h17).mpr cc)]
      refine Eq.trans e1 ?_
      rw [j3]
    · rw [k1 54 (by decide) (by decide) (by decide) (by decide), k1 116 (by decide) (by decide) (by decide) (by decide)]
      exact hS.2.2.2.2.2.1 j hj
    · rw [kY 1 (by decide)]
      exact y1
    · rw [j4 j, kY 2 (by decide), y3 j]
      by_cases c2 : fd2 ≤ j ∧ j < fd2 + 20
      · rw [if_pos c2, if_pos c2, z_b8]
      · rw [if_neg c2, if_neg c2, am_up_o _ _ _ _ (by decide), y2' 117 (by decide) (by decide)]
        exact f4 j (by omega)
    · rw [kY 2 (by decide), y3 j]
      by_cases c2 : fd2 ≤ j ∧ j < fd2 + 20
      · rw [if_pos c2]
        exact z_b8r _
      · rw [if_neg c2]
        exact f5 j hj
    · rw [k1 0 (by decide) (by decide) (by decide) (by decide), k2 26 (by decide) (by decide)]
      exact hS.2.2.2.2.2.2.2.1
  · rw [if_neg cc] at hY
    rw [if_neg cc, z_gl, hY]
    refine ⟨am_up I 101 2 0, ?_, z_J0 ht3 hS, up_eq⟩
    rw [if_neg (fun q => cc ((hle _ (by rw [up_ne (by decide)]; exact f3)).mp q))]
