/-! PURE: HELP -/
theorem z_pcM {s m : Nat} (hm : m ≤ 10) (hs : s < 2 ^ m) : z_pc s = z_ct (fun b => s.testBit b) m := by
  have h2 := z_ct_x (P := fun b => s.testBit b) (m := m) (r := 10 - m) (fun l hl => Nat.testBit_lt_two_pow (Nat.lt_of_lt_of_le hs (Nat.pow_le_pow_right (by decide) hl)))
  rw [show m + (10 - m) = 10 by omega] at h2
  exact h2
theorem z_hp {n m : Nat} {c : Nat → Nat → Bool} {U : Nat → Bool} {h : Nat → Int32} {u : Nat} {S X : Nat → Bool} (hm : m ≤ 6) (hn : n ≤ 8) {uc : Int32} {cu : Nat → Int32} (huc : ∀ b, b < 32 → (bt uc b = true ↔ b < m ∧ U b = true)) (hcu : ∀ b, b < m → ∀ p, p < 32 → (bt (cu b) p = true ↔ p < n ∧ c b p = true)) (H : z_hI n m c U m h u S X) (hu : u ≤ 6) : f_hp uc cu m (2 ^ m) = nI u := by
  obtain ⟨hup, hlo⟩ := z_hall hm H
  have hm2 : 2 ^ m ≤ 1024 := (k_pow1 (by omega)).2
  have hn2 : 2 ^ n ≤ 1024 := (k_pow1 (by omega)).2
  have hca : ∀ s, ∀ p, p < 32 → (bt (f_ca (nI s) cu m) p = true ↔ ∃ b, b < m ∧ s.testBit b = true ∧ p < n ∧ c b p = true) := fun s p hp => by
    unfold f_ca
    rw [z_foldU]
    refine exists_congr fun b => ?_
    constructor
    · rintro ⟨h1, h2, h3⟩
      rw [z_has (by omega), z_tb (by omega)] at h2
      exact ⟨h1, h2, (hcu b h1 p hp).mp h3⟩
    · rintro ⟨h1, h2, h3⟩
      exact ⟨h1, by rw [z_has (by omega), z_tb (by omega)]; exact h2, (hcu b h1 p hp).mpr h3⟩
  have hfb : ∀ s, f_bc (f_ca (nI s) cu m) = nI (z_ct (fun p => bt (f_ca (nI s) cu m) p) n) := fun s => by
    obtain ⟨s2, h1, e⟩ := z_of (k := n) (x := f_ca (nI s) cu m) (by omega) (fun i h1 h2 => by
      cases e : bt (f_ca (nI s) cu m) i
      · rfl
      · obtain ⟨b, -, -, h3, -⟩ := (hca s i h2).mp e
        omega)
    rw [e, z_bc s2 (by omega), z_pcM (by omega) h1]
    congr 1
    exact z_ct_c fun p hp => (z_tb (by omega)).symm
  have hsub : ∀ s, s < 2 ^ m → (nI s &&& (uc ^^^ (-1)) = 0 ↔ ∀ b, b < m → s.testBit b = true → U b = true) := fun s hs => by
    rw [z_and0]
    constructor
    · intro g b hb e
      have g1 := g b (by omega) (by rw [z_tb (by omega)]; exact e)
      rw [z_com _ (by omega), Bool.not_eq_false'] at g1
      exact ((huc b (by omega)).mp g1).2
    · intro g i hi e
      rw [z_tb hi] at e
      have hb : i < m := by
        by_cases q : i < m
        · exact q
        · rw [Nat.testBit_lt_two_pow (Nat.lt_of_lt_of_le hs (Nat.pow_le_pow_right (by decide) (show m ≤ i by omega)))] at e
          exact Bool.noConfusion e
      rw [z_com _ hi, Bool.not_eq_false']
      exact (huc i hi).mpr ⟨hb, g i hb e⟩
  have hdef : ∀ s, s < 2 ^ m → (∀ b, b < m → s.testBit b = true → U b = true) → z_ct (fun b => s.testBit b) m ≤ z_ct (fun p => bt (f_ca (nI s) cu m) p) n + u := fun s hs g => hup _ _ g fun b hb e p hp hc => (hca s p (by omega)).mpr ⟨b, hb, e, hp, hc⟩
  have hk : ∀ k, k ≤ 2 ^ m → ∃ v, f_hp uc cu m k = nI v ∧ v ≤ u ∧ ∀ s, s < k → ¬ s = 0 → (∀ b, b < m → s.testBit b = true → U b = true) → z_ct (fun b => s.testBit b) m ≤ z_ct (fun p => bt (f_ca (nI s) cu m) p) n + v := by
    intro k
    induction k with
    | zero => intro _; exact ⟨0, rfl, Nat.zero_le _, fun s hs => absurd hs (Nat.not_lt_zero s)⟩
    | succ k ih =>
      intro hk
      obtain ⟨v, e, hv, hs⟩ := ih (by omega)
      have hst : f_hp uc cu m (k + 1) = if k = 0 then f_hp uc cu m k else if nI k &&& (uc ^^^ (-1)) = 0 then f_mx (f_hp uc cu m k) (f_bc (nI k) - f_bc (f_ca (nI k) cu m)) else f_hp uc cu m k := rfl
      rw [hst, e]
      by_cases c1 : k = 0
      · rw [if_pos c1]
        refine ⟨v, rfl, hv, fun s h1 h2 h3 => ?_⟩
        exact hs s (by omega) h2 h3
      · rw [if_neg c1]
        by_cases c2 : nI k &&& (uc ^^^ (-1)) = 0
        · rw [if_pos c2, hfb k, z_bc k (by omega), z_pcM (by omega) (show k < 2 ^ m by omega)]
          have hd := hdef k (by omega) ((hsub k (by omega)).mp c2)
          have ha : z_ct (fun b => k.testBit b) m ≤ 6 := Nat.le_trans (z_ct_le _ _) hm
          have hb : z_ct (fun p => bt (f_ca (nI k) cu m) p) n ≤ 8 := Nat.le_trans (z_ct_le _ _) hn
          have hti : (nI (z_ct (fun b => k.testBit b) m) - nI (z_ct (fun p => bt (f_ca (nI k) cu m) p) n)).toInt = (z_ct (fun b => k.testBit b) m : Int) - (z_ct (fun p => bt (f_ca (nI k) cu m) p) n : Nat) := pk_sub_toInt (by omega) (by omega)
          have hlt : nI v < nI (z_ct (fun b => k.testBit b) m) - nI (z_ct (fun p => bt (f_ca (nI k) cu m) p) n) ↔ z_ct (fun p => bt (f_ca (nI k) cu m) p) n + v < z_ct (fun b => k.testBit b) m := by
            rw [z_lI, hti, nI_toInt (by omega)]; omega
          unfold f_mx
          by_cases c3 : z_ct (fun p => bt (f_ca (nI k) cu m) p) n + v < z_ct (fun b => k.testBit b) m
          · rw [if_pos (hlt.mpr c3)]
            refine ⟨z_ct (fun b => k.testBit b) m - z_ct (fun p => bt (f_ca (nI k) cu m) p) n, Int32.toInt_inj.mp (by rw [hti, nI_toInt (by omega)]; omega), by omega, fun s h1 h2 h3 => ?_⟩
            by_cases es : s = k
            · rw [es]; omega
            · have := hs s (by omega) h2 h3
              omega
          · rw [if_neg (fun q => c3 (hlt.mp q))]
            refine ⟨v, rfl, hv, fun s h1 h2 h3 => ?_⟩
            by_cases es : s = k
            · rw [es]; omega
            · exact hs s (by omega) h2 h3
        · rw [if_neg c2]
          refine ⟨v, rfl, hv, fun s h1 h2 h3 => ?_⟩
          by_cases es : s = k
          · rw [es] at h3; exact absurd ((hsub k (by omega)).mpr h3) c2
          · exact hs s (by omega) h2 h3
  obtain ⟨v, e, hv, hs⟩ := hk (2 ^ m) (Nat.le_refl _)
  have hb : ∀ i, i < 32 → bt (lfold (fun l a => if S l = true then a ||| ((1 : Int32) <<< (nI l &&& 31)) else a) 0 m) i = decide (i < m ∧ S i = true) := fun i hi => z_fold (by omega) hi
  obtain ⟨s, hs2, e2⟩ := z_of (k := m) (x := lfold (fun l a => if S l = true then a ||| ((1 : Int32) <<< (nI l &&& 31)) else a) 0 m) (by omega) (fun i h1 h2 => by rw [hb i h2]; exact decide_eq_false (fun h => by omega))
  have hS : ∀ b, b < m → s.testBit b = S b := fun b hb2 => by
    rw [← z_tb (show b < 32 by omega), ← e2, hb b (by omega)]
    cases q : S b
    · exact decide_eq_false (fun h => Bool.noConfusion h.2)
    · exact decide_eq_true ⟨hb2, rfl⟩
  have hct : z_ct (fun b => s.testBit b) m = z_ct S m := z_ct_c hS
  have hN : z_ct (fun p => bt (f_ca (nI s) cu m) p) n ≤ z_ct X n := z_ct_m fun p hp q => by
    obtain ⟨b, h1, h2, h3, h4⟩ := (hca s p (by omega)).mp q
    rw [hS b h1] at h2
    exact H.2.2.2.2.1.1 b h1 h2 p hp h4
  rw [e]
  congr 1
  by_cases c0 : s = 0
  · have : z_ct (fun b => s.testBit b) m = 0 := by
      rw [c0]
      cases q : z_ct (fun b => Nat.testBit 0 b) m with
      | zero => rfl
      | succ k =>
        obtain ⟨p, -, h2⟩ := z_ct_p.mp (show 0 < z_ct (fun b => Nat.testBit 0 b) m by omega)
        have h3 : Nat.testBit 0 p = true := h2
        rw [Nat.zero_testBit] at h3
        exact Bool.noConfusion h3
    omega
  · have := hs s hs2 c0 fun b hb2 q => (H.2.2.2.1 b hb2 (by rw [← hS b hb2]; exact q)).2
    omega
theorem z_helpL {J J1 : g_I} {T : x_T} (hW : z_W T) (hR : z_R J T) {cu : Nat → Int32} (hcu : ∀ l, l < T.2.1.length → cu l = z_cu T (J 114) (J 101 30) l) (hk1 : z_hk J J1) (h1 : ∀ p, p < 8 → J1 130 p = -1) (K : Int32 → g_I → Option (Int32 × g_I)) : ∃ J', b_X11_help_L30 K fu 0 0 J1 = K (f_hp (f_ub (J 118) T.2.1.length) cu T.2.1.length (2 ^ T.2.1.length)) J' ∧ z_hk J J' := by
  have h8 := hW.1.1
  have h6 := hW.2.1.1
  have hc : ∀ I, z_hk J I → ∀ p b, p < T.1.length → b < T.2.1.length → b_X11_canCut I (nI p) (nI b) = some ((fun b p => z_can T (J 114) (J 101 30) p b) b p) := fun I hI p b hp hb => by
    rw [z_canCut hW.1 hW.2.1 (z_R_o hR fun a q1 q2 q3 => hI.1 a (by omega) (by omega)) hp hb, hI.1 114 (by decide) (by decide), hI.2 30 (by decide)]
  have h := z_lp (F := fun f (s : Int32 × Int32 × g_I) => b_X11_help_L30 K f s.1 s.2.1 s.2.2) (K := fun s => K s.1 s.2.2) (N := T.2.1.length) (fun i s => s.2.1 = nI i ∧ z_hk J s.2.2 ∧ ∃ u S X, s.1 = nI u ∧ u ≤ i ∧ z_hI T.1.length T.2.1.length (fun b p => z_can T (J 114) (J 101 30) p b) (fun b => decide (J 118 b = -1)) i (s.2.2 130) u S X)
    (fun f s hP => by
      show b_X11_help_L30 K (f + 1) s.1 s.2.1 s.2.2 = K s.1 s.2.2
      unfold b_X11_help_L30
      rw [hP.2.1.1 104 (by decide) (by decide), hR.2.1.1, hP.1, if_pos (Int32.le_refl _)])
    (fun f i s hi hP => by
      obtain ⟨s1, s2, u, S, X, s3, s4, s5⟩ := hP
      have h118 : s.2.2 118 = J 118 := s2.1 118 (by decide) (by decide)
      show ∃ s' : Int32 × Int32 × g_I, b_X11_help_L30 K (f + 1) s.1 s.2.1 s.2.2 = b_X11_help_L30 K f s'.1 s'.2.1 s'.2.2 ∧ _
      by_cases c1 : J 118 i = -1
      · have hk4 : z_hk J (am_up s.2.2 101 50 0) := ⟨fun a q1 q2 => by rw [am_up_o _ _ _ _ q1]; exact s2.1 a q1 q2, fun k q => by rw [up_ne q]; exact s2.2 k q⟩
        have h130 : am_up s.2.2 101 50 0 130 = s.2.2 130 := am_up_o _ _ _ _ (by decide)
        obtain ⟨r, I', e, k', hS⟩ := z_isHelped (J := J) h8 h6 hR.1.1 hc 10 (am_up s.2.2 101 50 0) i hk4 hi (by rw [h130]; exact s5.1) (Nat.lt_of_le_of_lt (z_ct_le _ _) (by omega))
        rw [← h130] at s5
        have hst : b_X11_help_L30 K (f + 1) s.1 s.2.1 s.2.2 = if r = true then b_X11_help_L30 K f (s.1 + 0) (nI (i + 1)) I' else b_X11_help_L30 K f (s.1 + 1) (nI (i + 1)) I' := by
          conv => lhs; unfold b_X11_help_L30
          rw [s2.1 104 (by decide) (by decide), hR.2.1.1, s1, if_neg (nI_ge hi (by omega)), if_pos (g_in_nI (by omega) (by decide)), nI_clamp (by omega), h118, if_pos c1, z_gl, e]
          simp only [g_bind2]
          rw [z_gl, z_gl, nI_1]
        rw [hst]
        cases r
        · rw [if_neg (by decide)]
          obtain ⟨S', X', hI'⟩ := z_hI_f h6 s5 hi (decide_eq_true c1) up_eq hS
          exact ⟨(s.1 + 1, nI (i + 1), I'), rfl, rfl, k', u + 1, S', X', by show s.1 + 1 = nI (u + 1); rw [s3, nI_1], by omega, hI'⟩
        · rw [if_pos rfl]
          exact ⟨(s.1 + 0, nI (i + 1), I'), rfl, rfl, k', u, S, X, by show s.1 + 0 = nI u; rw [s3, Int32.add_zero], by omega, z_hI_t s5 hi (decide_eq_true c1) hS⟩
      · refine ⟨(s.1, nI (i + 1), s.2.2), ?_, rfl, s2, u, S, X, s3, by omega, z_hI_n s5 (decide_eq_false c1)⟩
        show b_X11_help_L30 K (f + 1) s.1 s.2.1 s.2.2 = b_X11_help_L30 K f s.1 (nI (i + 1)) s.2.2
        conv => lhs; unfold b_X11_help_L30
        rw [s2.1 104 (by decide) (by decide), hR.2.1.1, s1, if_neg (nI_ge hi (by omega)), if_pos (g_in_nI (by omega) (by decide)), nI_clamp (by omega), h118, if_neg c1, nI_1])
    T.2.1.length fu 0 (0, 0, J1) (by omega) (by unfold fu; omega) ⟨rfl, hk1, 0, fun _ => false, fun _ => false, rfl, Nat.le_refl _, by
      have hz : ∀ b, z_cn (J1 130) T.1.length b = 0 ∨ ¬ b < T.2.1.length := fun b => by
        by_cases q : b < T.2.1.length
        · left
          cases e : z_cn (J1 130) T.1.length b with
          | zero => rfl
          | succ k =>
            obtain ⟨p, hp, e2⟩ := z_cn_p.mp (show 0 < z_cn (J1 130) T.1.length b by omega)
            rw [h1 p (by omega)] at e2
            exact absurd e2.symm (z_nm1 (by omega))
        · exact Or.inr q
      have hz' : ∀ b, b < T.2.1.length → z_cn (J1 130) T.1.length b = 0 := fun b hb => (hz b).resolve_right (fun q => q hb)
      refine ⟨fun p hp => Or.inl (h1 p (by omega)), fun b hb => by rw [hz' b hb]; exact Nat.zero_le _, fun b hb _ => hz' b hb, fun b _ q => Bool.noConfusion q, ⟨fun b _ q => Bool.noConfusion q, fun p _ q => Bool.noConfusion q⟩, fun b _ q => absurd q (Nat.not_lt_zero b), ?_⟩
      cases e : z_ct (fun b => decide (J 118 b = -1) && (decide (b < 0) && decide (z_cn (J1 130) T.1.length b = 0))) T.2.1.length with
      | zero => rfl
      | succ k =>
        obtain ⟨p, -, q⟩ := z_ct_p.mp (show 0 < z_ct (fun b => decide (J 118 b = -1) && (decide (b < 0) && decide (z_cn (J1 130) T.1.length b = 0))) T.2.1.length by omega)
        have q' : (decide (J 118 p = -1) && (decide (p < 0) && decide (z_cn (J1 130) T.1.length p = 0))) = true := q
        rw [decide_eq_false (Nat.not_lt_zero p), Bool.false_and, Bool.and_false] at q'
        exact Bool.noConfusion q'⟩
  obtain ⟨s, e, -, e2, u, S, X, e3, e4, e5⟩ := h
  refine ⟨s.2.2, ?_, e2⟩
  rw [z_hp (uc := f_ub (J 118) T.2.1.length) (cu := cu) h6 h8 (fun b hb => by
    unfold f_ub
    rw [z_fold (by omega) hb, decide_eq_true_iff, decide_eq_true_iff]) (fun b hb p hp => by
    rw [hcu b hb]; exact z_cu_b hW.1 hp) e5 (by omega), ← e3]
  exact e
theorem z_help {J : g_I} {T : x_T} (hW : z_W T) (hR : z_R J T) {cu : Nat → Int32} (hcu : ∀ l, l < T.2.1.length → cu l = z_cu T (J 114) (J 101 30) l) (K : Int32 → g_I → Option (Int32 × g_I)) : ∃ J', b_X11_help_L9 0 (fun (I3 : g_I) => b_X11_help_L30 K fu 0 0 I3) fu 0 J = K (f_hp (f_ub (J 118) T.2.1.length) cu T.2.1.length (2 ^ T.2.1.length)) J' ∧ z_hk J J' := by
  obtain ⟨J1, e, o1, o2⟩ := z_cpy (F := fun f x J => b_X11_help_L9 0 (fun (I3 : g_I) => b_X11_help_L30 K fu 0 0 I3) f x J) (K := fun (I3 : g_I) => b_X11_help_L30 K fu 0 0 I3) (I := J) (J0 := J) (c := 130) (d := 0) (N := 8) (fun _ => -1) (by decide)
    (fun f J => by
      show b_X11_help_L9 0 _ (f + 1) (nI 8) J = _
      unfold b_X11_help_L9
      rw [if_pos (show (8 : Int32) ≤ nI 8 from Int32.le_refl _)])
    (fun f i J hi _ _ => by
      show b_X11_help_L9 0 _ (f + 1) (nI i) J = b_X11_help_L9 0 _ f (nI (i + 1)) (am_up J 130 (0 + i) (-1))
      conv => lhs; unfold b_X11_help_L9
      rw [if_neg (show ¬ (8 : Int32) ≤ nI i from nI_ge (b := 8) hi (by omega)), if_pos (g_in_nI (by omega) (by decide)), z_gl, nI_clamp (by omega), nI_1, Nat.zero_add])
    (fun _ _ => rfl)
  obtain ⟨J', e', k⟩ := z_helpL hW hR hcu (J1 := J1) ⟨fun a _ h => o1 a h, fun k _ => by rw [o1 101 (by decide)]⟩ (fun p hp => by rw [o2 p, if_pos (by omega)]) K
  exact ⟨J', Eq.trans e e', k⟩
