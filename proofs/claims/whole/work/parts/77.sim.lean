/-! PURE: THE CLASS'S WORLD AND THE REFERENCE'S -/
/-- how high a rule's stack is -/
def z_ht : List Int32 → Nat → Option Nat
  | [], h => some h
  | c :: l, h => if 0 ≤ c ∨ c ≤ -10 then (if h < 64 then z_ht l (h + 1) else none) else if c = -3 then (if 1 ≤ h then z_ht l h else none) else (if 2 ≤ h then z_ht l (h - 1) else none)
def z_Wr (T : x_T) : Prop := T.2.2.2.2.length ≤ 600 ∧ (∀ c ∈ T.2.2.2.2, -15 ≤ c) ∧ ∃ h, z_ht T.2.2.2.2 0 = some h
def z_Wm (T : x_T) : Prop := (∃ f, 1 ≤ f ∧ f ≤ 999 ∧ T.2.2.2.1.1 = nI f) ∧ ∃ f, 1 ≤ f ∧ f ≤ 23 ∧ T.2.2.2.1.2 = nI f
def z_W (T : x_T) : Prop := z_Wp T ∧ z_Wl T ∧ z_Wm T ∧ z_Wr T
/-- what is seen, who balked: the class's rows behind the cell q, the reference's from o on, its counts in k1, k2 -/
def z_Cl (T : x_T) (I : g_I) (q k1 k2 o : Nat) : Prop :=
  (∃ ks, ks ≤ 6 ∧ I q 2 = nI ks ∧ I 101 k1 = nI ks ∧ ∀ j, j < ks → I (q + 14) j = I o j ∧ I (q + 15) j = I (o + 1) j ∧ I (q + 16) j = I (o + 2) j ∧ ∃ l i, l < T.2.1.length ∧ i < (z_es T l).length ∧ I o j = nI l ∧ I (o + 1) j = nI i) ∧
  ∃ kb, kb ≤ 4 ∧ I q 6 = nI kb ∧ I 101 k2 = nI kb ∧ ∀ j, j < kb → I (q + 17) j = I (o + 3) j ∧ I (q + 18) j = I (o + 4) j ∧ (∃ p, p < T.1.length ∧ I (o + 3) j = nI p) ∧ ∃ l, l < T.2.1.length ∧ I (o + 4) j = nI l
theorem z_Cl_o {T : x_T} {I J : g_I} {q k1 k2 o : Nat} (h : z_Cl T I q k1 k2 o) (h0 : J q 2 = I q 2) (h1 : J q 6 = I q 6) (h2 : J 101 k1 = I 101 k1) (h3 : J 101 k2 = I 101 k2) (h4 : ∀ a, q + 14 ≤ a → a ≤ q + 18 → J a = I a) (h5 : ∀ a, o ≤ a → a ≤ o + 4 → J a = I a) : z_Cl T J q k1 k2 o := by
  unfold z_Cl at h ⊢
  rw [h0, h1, h2, h3, h4 (q + 14) (by omega) (by omega), h4 (q + 15) (by omega) (by omega), h4 (q + 16) (by omega) (by omega), h4 (q + 17) (by omega) (by omega), h4 (q + 18) (by omega) (by omega), h5 o (by omega) (by omega), h5 (o + 1) (by omega) (by omega), h5 (o + 2) (by omega) (by omega), h5 (o + 3) (by omega) (by omega), h5 (o + 4) (by omega) (by omega)]
  exact h
/-- the tape -/
def z_tp (I : g_I) : Prop := (∃ fd, fd ≤ 600 ∧ I 1 1 = nI fd ∧ I 101 17 = nI fd ∧ ∀ j, j < fd → I 117 j = I 2 j &&& 255) ∧ ∀ j, j < 600 → -128 ≤ I 2 j ∧ I 2 j < 128
def z_sS (I : g_I) (T : x_T) : Prop := z_So T (z_sy I 42) (I 101 32) (I 120) (z_dr I)
def z_sW (I : g_I) (T : x_T) : Prop := (I 0 9 = 0 ↔ I 101 45 = 0) ∧ (¬ I 0 9 = 0 → ∀ b, b < T.2.1.length → I 89 b = I 127 b)
def z_sG (I : g_I) (T : x_T) : Prop := (I 0 6 = 0 ↔ I 101 57 = 0) ∧ (¬ I 0 6 = 0 → z_So T (z_sy I 61) (I 101 58) (I 137) (z_dp (I 136) 0) ∧ z_Cl T I 60 59 60 138 ∧ ∀ k, k < 3 → I 73 k = I 143 k)
/-- no day that is kept is behind the last one -/
def z_9 (x : Int32) : Prop := ∃ d, d ≤ 999 ∧ x = nI d
def z_s9 (I : g_I) : Prop := z_9 (I 101 30) ∧ (∀ k j, k ≤ 40 → I 101 32 = nI k → j < k → z_9 (I 120 (80 * j))) ∧ z_9 (I 136 0) ∧ ∀ k j, k ≤ 40 → I 101 58 = nI k → j < k → z_9 (I 137 (80 * j))
theorem z_s9_o {I J : g_I} (h : z_s9 I) (h1 : J 101 30 = I 101 30) (h2 : J 120 = I 120) (h3 : J 136 = I 136) (h4 : J 137 = I 137) (h5 : J 101 32 = I 101 32) (h6 : J 101 58 = I 101 58) : z_s9 J := by
  unfold z_s9 at h ⊢
  rw [h1, h2, h3, h4, h5, h6]
  exact h
/-- both worlds tell of one town, one story -/
def z_sim (I : g_I) (t : Nat) (T : x_T) : Prop := z_W T ∧ k_tw I t T ∧ z_R I T ∧ z_sS I T ∧ z_Cl T I 41 33 34 131 ∧ (∀ k, k < 3 → I 54 k = I 116 k) ∧ z_tp I ∧ I 0 3 = I 101 26 ∧ z_sW I T ∧ z_sG I T ∧ z_s9 I
/-- the cells that the two worlds' likeness speaks of -/
def z_rel (t a : Nat) : Prop := (t ≤ a ∧ a < t + 18) ∨ a = 2 ∨ (41 ≤ a ∧ a ≤ 78) ∨ a = 89 ∨ (104 ≤ a ∧ a ≤ 120 ∧ a ≠ 114) ∨ a = 127 ∨ (131 ≤ a ∧ a ≤ 143)
def z_rsl (k : Nat) : Prop := k = 17 ∨ k = 26 ∨ (30 ≤ k ∧ k ≤ 34) ∨ k = 45 ∨ (57 ≤ k ∧ k ≤ 60)
def z_keepR (I J : g_I) (t : Nat) : Prop := (∀ a, z_rel t a → J a = I a) ∧ (∀ k, z_rsl k → J 101 k = I 101 k) ∧ (∀ k, k < 64 → J 114 k = I 114 k) ∧ J 0 3 = I 0 3 ∧ J 0 6 = I 0 6 ∧ J 0 9 = I 0 9 ∧ J 1 1 = I 1 1
theorem z_keepR_t {I J K : g_I} {t : Nat} (h1 : z_keepR I J t) (h2 : z_keepR J K t) : z_keepR I K t := ⟨fun a h => (h2.1 a h).trans (h1.1 a h), fun k h => (h2.2.1 k h).trans (h1.2.1 k h), fun k h => (h2.2.2.1 k h).trans (h1.2.2.1 k h), h2.2.2.2.1.trans h1.2.2.2.1, h2.2.2.2.2.1.trans h1.2.2.2.2.1, h2.2.2.2.2.2.1.trans h1.2.2.2.2.2.1, h2.2.2.2.2.2.2.trans h1.2.2.2.2.2.2⟩
theorem z_keepR_r (I : g_I) (t : Nat) : z_keepR I I t := ⟨fun _ _ => rfl, fun _ _ => rfl, fun _ _ => rfl, rfl, rfl, rfl, rfl⟩
theorem z_sy_o {I J : g_I} {s : Nat} (h : ∀ a, s ≤ a → a < s + 12 → J a = I a) : z_sy J s = z_sy I s := by
  unfold z_sy z_dc
  rw [h s (by omega) (by omega), h (s + 9) (by omega) (by omega), h (s + 10) (by omega) (by omega), h (s + 11) (by omega) (by omega), h (s + 1) (by omega) (by omega), h (s + 1 + 1) (by omega) (by omega), h (s + 1 + 2) (by omega) (by omega), h (s + 1 + 3) (by omega) (by omega), h (s + 5) (by omega) (by omega), h (s + 5 + 1) (by omega) (by omega), h (s + 5 + 2) (by omega) (by omega), h (s + 5 + 3) (by omega) (by omega)]
theorem z_eq_dr {T : x_T} (hW : z_Wp T) {I J : g_I} (h0 : J 101 30 = I 101 30) (h1 : J 101 31 = I 101 31) (h2 : ∀ k, k < 64 → J 114 k = I 114 k) (h3 : J 118 = I 118) (h4 : J 119 = I 119) : z_eq T (z_dr I) (z_dr J) := ⟨h0, h1, fun a b ha hb => h2 _ (by have := hW.1; omega), fun l _ => by show J 118 l = I 118 l; rw [h3], fun p _ => by show J 119 p = I 119 p; rw [h4]⟩
theorem z_So_e {T : x_T} (hW : z_Wp T) {s : z_Sy} {rk : Int32} {past : Nat → Int32} {rn rn' : z_Dy} (h : z_So T s rk past rn) (h7 : z_eq T rn rn') : z_So T s rk past rn' := z_So_c hW h (fun _ _ => ⟨rfl, rfl, rfl⟩) (z_eq_r T _) (z_eq_r T _) rfl rfl (fun _ _ => z_eq_r T _) h7
/-- what is no part of the likeness may change -/
theorem z_sim_o {I J : g_I} {t : Nat} {T : x_T} (h : z_sim I t T) (ho : z_keepR I J t) : z_sim J t T := by
  obtain ⟨hW, hT, hR, hS, hC, hU, hP, hF, hw, hG, h9⟩ := h
  obtain ⟨o, os, o4, o3, o6, o9, o1⟩ := ho
  have r0 : ∀ a, 41 ≤ a → a ≤ 78 → J a = I a := fun a h1 h2 => o a (Or.inr (Or.inr (Or.inl ⟨h1, h2⟩)))
  have r1 : ∀ a, 104 ≤ a → a ≤ 120 → a ≠ 114 → J a = I a := fun a h1 h2 h3 => o a (Or.inr (Or.inr (Or.inr (Or.inr (Or.inl ⟨h1, h2, h3⟩)))))
  have r2 : ∀ a, 131 ≤ a → a ≤ 143 → J a = I a := fun a h1 h2 => o a (Or.inr (Or.inr (Or.inr (Or.inr (Or.inr (Or.inr ⟨h1, h2⟩))))))
  have r3 : J 127 = I 127 := o 127 (Or.inr (Or.inr (Or.inr (Or.inr (Or.inr (Or.inl rfl))))))
  have r4 : J 89 = I 89 := o 89 (Or.inr (Or.inr (Or.inr (Or.inl rfl))))
  have r5 : J 2 = I 2 := o 2 (Or.inr (Or.inl rfl))
  have s17 : J 101 17 = I 101 17 := os 17 (Or.inl rfl)
  have s26 : J 101 26 = I 101 26 := os 26 (Or.inr (Or.inl rfl))
  have s30 : ∀ k, 30 ≤ k → k ≤ 34 → J 101 k = I 101 k := fun k h1 h2 => os k (Or.inr (Or.inr (Or.inl ⟨h1, h2⟩)))
  have s45 : J 101 45 = I 101 45 := os 45 (Or.inr (Or.inr (Or.inr (Or.inl rfl))))
  have s57 : ∀ k, 57 ≤ k → k ≤ 60 → J 101 k = I 101 k := fun k h1 h2 => os k (Or.inr (Or.inr (Or.inr (Or.inr ⟨h1, h2⟩))))
  refine ⟨hW, k_tw_o hT (fun a h1 h2 => o a (Or.inl ⟨h1, h2⟩)), z_R_o hR (fun a h1 h2 h3 => r1 a h1 (by omega) h3), ?_, z_Cl_o hC (by rw [r0 41 (by omega) (by omega)]) (by rw [r0 41 (by omega) (by omega)]) (s30 33 (by omega) (by omega)) (s30 34 (by omega) (by omega)) (fun a h1 h2 => r0 a (by omega) (by omega)) (fun a h1 h2 => r2 a (by omega) (by omega)), fun k hk => ?_, ?_, ?_, ?_, ?_, z_s9_o h9 (s30 30 (by omega) (by omega)) (r1 120 (by omega) (by omega) (by omega)) (r2 136 (by omega) (by omega)) (r2 137 (by omega) (by omega)) (s30 32 (by omega) (by omega)) (s57 58 (by omega) (by omega))⟩
  · unfold z_sS at hS ⊢
    rw [z_sy_o (fun a h1 h2 => r0 a (by omega) (by omega)), s30 32 (by omega) (by omega), r1 120 (by omega) (by omega) (by omega)]
    exact z_So_e hW.1 hS (z_eq_dr hW.1 (s30 30 (by omega) (by omega)) (s30 31 (by omega) (by omega)) o4 (r1 118 (by omega) (by omega) (by omega)) (r1 119 (by omega) (by omega) (by omega)))
  · rw [r0 54 (by omega) (by omega), r1 116 (by omega) (by omega) (by omega)]; exact hU k hk
  · unfold z_tp at hP ⊢
    rw [o1, s17, r5, r1 117 (by omega) (by omega) (by omega)]
    exact hP
  · rw [o3, s26]; exact hF
  · unfold z_sW at hw ⊢
    rw [o9, s45, r4, r3]; exact hw
  · unfold z_sG at hG ⊢
    rw [o6, s57 57 (by omega) (by omega), s57 58 (by omega) (by omega), z_sy_o (fun a h1 h2 => r0 a (by omega) (by omega)), r0 73 (by omega) (by omega), r2 143 (by omega) (by omega), r2 137 (by omega) (by omega), r2 136 (by omega) (by omega)]
    refine ⟨hG.1, fun h => ?_⟩
    obtain ⟨g1, g2, g3⟩ := hG.2 h
    exact ⟨g1, z_Cl_o g2 (by rw [r0 60 (by omega) (by omega)]) (by rw [r0 60 (by omega) (by omega)]) (s57 59 (by omega) (by omega)) (s57 60 (by omega) (by omega)) (fun a h1 h2 => r0 a (by omega) (by omega)) (fun a h1 h2 => r2 a (by omega) (by omega)), g3⟩
theorem z_sim_D {I : g_I} {t : Nat} {T : x_T} (h : z_sim I t T) : z_D T (z_dc I 47) (z_dr I) := z_So_now h.1.1 h.2.2.2.1
theorem z_kR1 {I : g_I} {t k : Nat} {v : Int32} (h : ¬ z_rsl k) (ht : t = 3 ∨ t = 22) : z_keepR I (am_up I 101 k v) t := by
  refine ⟨fun a ha => am_up_o _ _ _ _ ?_, fun j hj => up_ne ?_, fun j _ => by rw [am_up_o _ _ _ _ (by decide)], by rw [am_up_o _ _ _ _ (by decide)], by rw [am_up_o _ _ _ _ (by decide)], by rw [am_up_o _ _ _ _ (by decide)], by rw [am_up_o _ _ _ _ (by decide)]⟩
  · unfold z_rel at ha; omega
  · intro e; rw [e] at hj; exact h hj
theorem z_kRa {I J : g_I} {t : Nat} (ht : t = 3 ∨ t = 22) (h : ∀ a, (a ≤ 2 ∨ (3 ≤ a ∧ a < 79 ∧ a ≠ 21 ∧ a ≠ 40) ∨ a = 89 ∨ (101 ≤ a ∧ a ≤ 120) ∨ a = 127 ∨ 131 ≤ a) → J a = I a) : z_keepR I J t := by
  refine ⟨fun a ha => h a (by unfold z_rel at ha; omega), fun k _ => by rw [h 101 (by omega)], fun k _ => by rw [h 114 (by omega)], by rw [h 0 (by omega)], by rw [h 0 (by omega)], by rw [h 0 (by omega)], by rw [h 1 (by omega)]⟩
theorem z_kRl {I : g_I} {t n m : Nat} (ht : t = 3 ∨ t = 22) : z_keepR I (f_look I 90 t 47 n m) t := z_kRa ht fun a h => f_look_K _ _ _ _ (by omega) (by omega)
theorem z_kR2 {I : g_I} {t : Nat} {v : Int32} (ht : t = 3 ∨ t = 22) : z_keepR I (am_up I 101 2 v) t := z_kR1 (by unfold z_rsl; omega) ht
theorem z_isIn {v a b : Int64} : b_X11_isIn v a b = true ↔ a.toInt ≤ v.toInt ∧ v.toInt ≤ b.toInt := by
  unfold b_X11_isIn
  by_cases h1 : v < a
  · rw [if_pos h1]; rw [Int64.lt_iff_toInt_lt] at h1; exact ⟨fun h => Bool.noConfusion h, fun h => by omega⟩
  · rw [if_neg h1]; rw [Int64.lt_iff_toInt_lt] at h1
    by_cases h2 : b < v
    · rw [if_pos h2]; rw [Int64.lt_iff_toInt_lt] at h2; exact ⟨fun h => Bool.noConfusion h, fun h => by omega⟩
    · rw [if_neg h2]; rw [Int64.lt_iff_toInt_lt] at h2; exact ⟨fun _ => ⟨by omega, by omega⟩, fun _ => rfl⟩
theorem z_kis {x : Int32} {n : Nat} (hn : n < 2 ^ 31) : k_is x n ↔ 0 ≤ x.toInt ∧ x.toInt < n := by
  constructor
  · rintro ⟨j, hj, rfl⟩; rw [nI_toInt (by omega)]; omega
  · rintro ⟨h1, h2⟩
    refine ⟨x.toInt.toNat, by omega, Int32.toInt_inj.mp ?_⟩
    rw [nI_toInt (by omega)]; omega
theorem z_pm1 {n : Nat} (hn : n < 2 ^ 30) : (nI n - 1).toInt = (n : Int) - 1 := pk_sub_toInt (b := 1) hn (by decide)
theorem z_isP {I : g_I} {n : Nat} (h : I 104 0 = nI n) (hn : n ≤ 8) (x : Int32) : b_X11_isPerson I x = true ↔ k_is x n := by
  unfold b_X11_isPerson
  rw [z_isIn, h, Int32.toInt_toInt64, Int32.toInt_toInt64, z_pm1 (by omega), z_kis (by omega), show (0 : Int64).toInt = 0 by decide]
  omega
theorem z_isL {I : g_I} {m : Nat} (h : I 104 1 = nI m) (hm : m ≤ 6) (x : Int32) : b_X11_isLoaf I x = true ↔ k_is x m := by
  unfold b_X11_isLoaf
  rw [z_isIn, h, Int32.toInt_toInt64, Int32.toInt_toInt64, z_pm1 (by omega), z_kis (by omega), show (0 : Int64).toInt = 0 by decide]
  omega
/-- the class's own table of who knows whom, and who can cut -/
theorem z_knA {I : g_I} {t : Nat} {T : x_T} (hW : z_Wp T) (hT : k_tw I t T) {b : Nat} {r : z_Dy} (hD : z_D T (z_dc I b) r) : z_KR T r.2.2.1 r.1 (f_knA I t b T.1.length) := by
  obtain ⟨h1, h2, h3, h4, h5, d⟩ := hD
  have hk := z_knR hW (kd := I (t + 1)) (hs := I (t + 2)) (tw := I (t + 4)) (mt := I (b + 1)) (M := r.2.2.1) (dy := r.1) (fun k hk => (hT.1.2.2 k hk).1) (fun k hk => (hT.1.2.2 k hk).2.1) (fun k hk => (hT.1.2.2 k hk).2.2.2) h3 (fun a b ha hb => by
    have h9 := z_ld_ge hW (fun x y hx hy => (d.2.2.1 x y hx hy).1) ha hb
    intro e
    rw [e] at h9
    exact absurd h9 (by decide))
  unfold f_knA
  rw [hT.2.2.2.1, show I b 0 = r.1 from h1]
  exact hk
theorem z_KR_c {T : x_T} {M : Nat → Int32} {dy : Int32} {kn kn' : Nat → Int32} (h : z_KR T M dy kn) (hc : ∀ p, p < T.1.length → kn' p = kn p) : z_KR T M dy kn' := fun p hp i hi => by rw [hc p hp]; exact h p hp i hi
theorem z_lk91 {I : g_I} {t : Nat} {T : x_T} (hW : z_Wp T) (hT : k_tw I t T) {b m : Nat} {r : z_Dy} (hD : z_D T (z_dc I b) r) : z_KR T r.2.2.1 r.1 (f_look I 90 t b T.1.length m 91) := by
  refine z_KR_c (z_knA hW hT hD) fun p hp => ?_
  unfold f_look
  rw [am_uA_o _ _ _ (by decide), am_uA_s]
  unfold f_knR
  exact f_row_in hp
theorem z_lk92 {I : g_I} {t : Nat} {T : x_T} (hW : z_Wp T) (hWl : z_Wl T) (hT : k_tw I t T) {b : Nat} {r : z_Dy} (hD : z_D T (z_dc I b) r) {l : Nat} (hl : l < T.2.1.length) {i : Nat} (hi : i < 32) : bt (f_look I 90 t b T.1.length T.2.1.length 92 l) i = true ↔ i < T.1.length ∧ z_can T r.2.2.1 r.1 i l = true := by
  unfold f_look
  rw [am_uA_s]
  unfold f_ctR
  rw [f_row_in hl, (hT.2.1.2.2 l hl).2.2.2.2.2.2.1]
  refine z_st hW hWl (z_KR_c (z_knA hW hT hD) fun p hp => ?_) hl hi
  unfold f_knR
  exact f_row_in hp
