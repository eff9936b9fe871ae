/-! PURE: SETS OF LOAVES AND HOUSES, GAMES -/
/-- a loop with a flag: it ends when the flag falls -/
theorem z_fl {α : Type} {F : Nat → Int32 → Int32 → Option α} {K : Int32 → Option α} {P : Nat → Bool} {N : Nat} (h1 : ∀ f a, F (f + 1) a (nI N) = K a) (h0 : ∀ f i, i < N → F (f + 1) 0 (nI i) = K 0) (h2 : ∀ f i, i < N → F (f + 1) 1 (nI i) = F f (kb (P i)) (nI (i + 1))) (b : Bool) (hN : N < 5000) : F fu (kb b) 0 = K (kb (b && lall P N)) := by
  have h := z_lpx (F := fun f (q : Int32 × Int32) => F f q.1 q.2) (K := fun q => K q.1) (N := N) (fun i q => q.2 = nI i ∧ q.1 = kb (b && lall P i)) (fun o => o = K 0 ∧ (b && lall P N) = false)
    (fun f q hP => by show F (f + 1) q.1 q.2 = K q.1; rw [hP.1, h1])
    (fun f i q hi hP => by
      show (∃ s', F (f + 1) q.1 q.2 = _ ∧ _) ∨ (F (f + 1) q.1 q.2 = _ ∧ _)
      rw [hP.1, hP.2]
      cases e : (b && lall P i)
      · refine Or.inr ⟨h0 f i hi, ?_⟩
        cases hb : b
        · rfl
        · rw [hb, Bool.true_and] at e
          cases e2 : lall P N
          · rfl
          · have : lall P i = true := lall_iff.mpr fun k hk => lall_iff.mp e2 k (by omega)
            rw [e] at this; exact Bool.noConfusion this
      · refine Or.inl ⟨(kb (P i), nI (i + 1)), h2 f i hi, rfl, ?_⟩
        show kb (P i) = kb (b && (lall P i && P i))
        rw [← Bool.and_assoc, e, Bool.true_and])
    N fu 0 (kb b, 0) (by omega) (by unfold fu; omega) ⟨rfl, by show kb b = kb (b && true); rw [Bool.and_true]⟩
  rcases h with ⟨q, e, -, e2⟩ | ⟨e, e2⟩
  · rw [show F fu (kb b) 0 = K q.1 from e, e2]
  · rw [show F fu (kb b) 0 = K 0 from e, e2]; rfl
theorem z_cuttable {J : g_I} {T : x_T} (hW : z_W T) (hR : z_R J T) {cu : Nat → Int32} (hc : ∀ l, l < T.2.1.length → cu l = z_cu T (J 114) (J 101 30) l) : b_X11_cuttable J 0 = some (f_cb (J 118) cu T.2.1.length) ∧ b_X11_cuttable J 1 = some (lfold (fun l a => if ¬ cu l = 0 then a ||| ((1 : Int32) <<< (nI l &&& 31)) else a) 0 T.2.1.length) := by
  have h6 := hW.2.1.1
  constructor
  · unfold b_X11_cuttable f_cb
    exact z_lf (F := fun f a x => b_X11_cuttable_L4 J 0 (fun (a5 : Int32) => some a5) f a x) (K := fun a => some a) (N := T.2.1.length)
      (fun f a => by show b_X11_cuttable_L4 J 0 _ (f + 1) a _ = _; unfold b_X11_cuttable_L4; simp only [g_let]; rw [hR.2.1.1, if_pos (Int32.le_refl _)])
      (fun f a i hi => by
        show b_X11_cuttable_L4 J 0 _ (f + 1) a (nI i) = b_X11_cuttable_L4 J 0 _ f _ _
        conv => lhs; unfold b_X11_cuttable_L4
        simp only [g_let]
        rw [hR.2.1.1, if_neg (nI_ge hi (by omega)), if_pos trivial, if_pos (g_in_nI (by omega) (by decide)), nI_clamp (by omega), hc i hi]
        simp only [z_cutters hW hR hi, g_bind, nI_1]
        by_cases e1 : J 118 i = -1
        · rw [if_pos e1]
          by_cases e2 : z_cu T (J 114) (J 101 30) i = 0
          · rw [if_pos e2, if_neg (fun h => h.2 e2)]
          · rw [if_neg e2, if_pos ⟨e1, e2⟩]
        · rw [if_neg e1, if_neg (fun h => e1 h.1)]) 0 (by omega)
  · unfold b_X11_cuttable
    exact z_lf (F := fun f a x => b_X11_cuttable_L4 J 1 (fun (a5 : Int32) => some a5) f a x) (K := fun a => some a) (N := T.2.1.length)
      (fun f a => by show b_X11_cuttable_L4 J 1 _ (f + 1) a _ = _; unfold b_X11_cuttable_L4; simp only [g_let]; rw [hR.2.1.1, if_pos (Int32.le_refl _)])
      (fun f a i hi => by
        show b_X11_cuttable_L4 J 1 _ (f + 1) a (nI i) = b_X11_cuttable_L4 J 1 _ f _ _
        conv => lhs; unfold b_X11_cuttable_L4
        simp only [g_let]
        rw [hR.2.1.1, if_neg (nI_ge hi (by omega)), if_neg (show ¬ (1 : Int32) = 0 by decide), hc i hi]
        simp only [z_cutters hW hR hi, g_bind, nI_1]
        by_cases e2 : z_cu T (J 114) (J 101 30) i = 0
        · rw [if_pos e2, if_neg (fun h => h e2)]
        · rw [if_neg e2, if_pos e2]) 0 (by omega)
theorem z_peopleIn {J : g_I} {T : x_T} (hW : z_W T) (hR : z_R J T) {hs : Nat → Int32} (hh : ∀ k, k < T.1.length → hs k = (z_pp T k).2.1) (S : Int32) : b_X11_peopleIn J S = some (f_dw hs S T.1.length) := by
  have h8 := hW.1.1
  unfold b_X11_peopleIn f_dw
  exact z_lf (F := fun f a x => b_X11_peopleIn_L4 J S (fun (a2 : Int32) => some a2) f a x) (K := fun a => some a) (N := T.1.length)
    (fun f a => by show b_X11_peopleIn_L4 J S _ (f + 1) a _ = _; unfold b_X11_peopleIn_L4; rw [hR.1.1, if_pos (Int32.le_refl _)])
    (fun f a i hi => by
      show b_X11_peopleIn_L4 J S _ (f + 1) a (nI i) = b_X11_peopleIn_L4 J S _ f _ _
      obtain ⟨h, h10, e⟩ := (hW.1.2 i hi).2.1
      conv => lhs; unfold b_X11_peopleIn_L4
      rw [hR.1.1, if_neg (nI_ge hi (by omega)), if_pos (g_in_nI (by omega) (by decide)), nI_clamp (by omega), (hR.1.2 i hi).2.1, hh i hi, e, z_isOf (by omega), z_has (by omega)]
      simp only [g_let, nI_1]
      split <;> rfl) 0 (by omega)
theorem z_pc9 : ∀ s, s < 1023 → z_pc s ≤ 9 := by decide +kernel
theorem z_doors {J : g_I} {T : x_T} (hW : z_W T) (hR : z_R J T) {hs cu : Nat → Int32} (hh : ∀ k, k < T.1.length → hs k = (z_pp T k).2.1) (hc : ∀ l, l < T.2.1.length → cu l = z_cu T (J 114) (J 101 30) l) (K : Int32 → Option (Int32 × g_I)) : b_X11_doors_L9 J K fu (-1) 0 = K (f_dr hs cu (f_cb (J 118) cu T.2.1.length) T.1.length T.2.1.length 1024) := by
  have h8 := hW.1.1
  have h6 := hW.2.1.1
  have hcb : ∀ l, l < T.2.1.length → f_has (f_cb (J 118) cu T.2.1.length) (nI l) = decide (J 118 l = -1 ∧ ¬ cu l = 0) := fun l hl => by
    unfold f_cb
    rw [z_has (by omega), z_fold (by omega) (by omega)]
    simp [hl]
  have inner : ∀ (K : Int32 → Option (Int32 × g_I)) (y1 : Int32) (s : Nat) (b : Bool), b_X11_doors_L41 J y1 (nI s) K fu (kb b) 0 = K (kb (b && f_oa hs cu (nI s) (f_cb (J 118) cu T.2.1.length) T.1.length T.2.1.length)) := by
    intro K y1 s b
    unfold f_oa
    exact z_fl (F := fun f a x => b_X11_doors_L41 J y1 (nI s) K f a x) (K := K) (N := T.2.1.length)
      (fun f a => by show b_X11_doors_L41 J y1 (nI s) K (f + 1) a _ = _; unfold b_X11_doors_L41; rw [hR.2.1.1, if_pos (Int32.le_refl _)])
      (fun f i hi => by show b_X11_doors_L41 J y1 (nI s) K (f + 1) 0 _ = _; unfold b_X11_doors_L41; rw [hR.2.1.1, if_neg (nI_ge hi (by omega)), if_pos rfl])
      (fun f i hi => by
        show b_X11_doors_L41 J y1 (nI s) K (f + 1) 1 (nI i) = b_X11_doors_L41 J y1 (nI s) K f _ _
        conv => lhs; unfold b_X11_doors_L41
        rw [hR.2.1.1, if_neg (nI_ge hi (by omega)), if_neg (show ¬ (1 : Int32) = 0 by decide), if_pos (g_in_nI (by omega) (by decide)), nI_clamp (by omega)]
        simp only [z_cutters hW hR hi, z_peopleIn hW hR hh, g_bind, nI_1]
        rw [hcb i hi, ← hc i hi]
        by_cases e1 : J 118 i = -1
        · by_cases e2 : cu i = 0
          · simp [e1, e2, kb]
          · by_cases e3 : cu i &&& f_dw hs (nI s) T.1.length = 0
            · simp [e1, e2, e3, kb]
            · simp [e1, e2, e3, kb]
        · simp [e1, kb]) b (by omega)
  have hfull : f_oa hs cu (nI 1023) (f_cb (J 118) cu T.2.1.length) T.1.length T.2.1.length = true := by
    unfold f_oa
    rw [lall_iff]
    intro l hl
    rw [hcb l hl]
    by_cases e : J 118 l = -1 ∧ ¬ cu l = 0
    · have e2 : ¬ cu l &&& f_dw hs (nI 1023) T.1.length = 0 := by
        intro h
        rw [z_and0] at h
        refine e.2 (z_eq0.mpr fun i hi => ?_)
        cases e3 : bt (cu l) i
        · rfl
        · have h2 := h i hi e3
          rw [hc l hl] at e3
          have h3 := ((z_cu_b hW.1 hi).mp e3).1
          obtain ⟨q, q10, eq⟩ := (hW.1.2 i h3).2.1
          unfold f_dw at h2
          rw [z_fold (by omega) hi, decide_eq_false_iff_not] at h2
          refine absurd ⟨h3, ?_⟩ h2
          rw [hh i h3, eq, z_has (by omega), show (1023 : Nat) = 2 ^ 10 - 1 from rfl, z_all (by omega) (by omega), decide_eq_true_iff]
          exact q10
      simp [e, e2]
    · simp [e]
  have h := z_lp (F := fun f (q : Int32 × Int32) => b_X11_doors_L9 J K f q.1 q.2) (K := fun q => K q.1) (N := 1024) (fun i q => q.2 = nI i ∧ ((q.1 = -1 ∧ i ≤ 1023 ∧ f_dr hs cu (f_cb (J 118) cu T.2.1.length) T.1.length T.2.1.length i = nI 1023) ∨ ∃ s, s < 1024 ∧ s < i ∧ q.1 = nI s ∧ f_dr hs cu (f_cb (J 118) cu T.2.1.length) T.1.length T.2.1.length i = nI s))
    (fun f q hP => by show b_X11_doors_L9 J K (f + 1) q.1 q.2 = K q.1; unfold b_X11_doors_L9; simp only [g_let]; rw [hP.1, if_pos (show (1024 : Int32) ≤ nI 1024 by decide)])
    (fun f i q hi hP => by
      obtain ⟨q1, q2⟩ := hP
      have hdr : f_dr hs cu (f_cb (J 118) cu T.2.1.length) T.1.length T.2.1.length (i + 1) = if ¬ f_bc (f_dr hs cu (f_cb (J 118) cu T.2.1.length) T.1.length T.2.1.length i) ≤ f_bc (nI i) ∧ f_oa hs cu (nI i) (f_cb (J 118) cu T.2.1.length) T.1.length T.2.1.length = true then nI i else f_dr hs cu (f_cb (J 118) cu T.2.1.length) T.1.length T.2.1.length i := rfl
      show ∃ s', b_X11_doors_L9 J K (f + 1) q.1 q.2 = _ ∧ _
      rcases q2 with ⟨q2, q3, q4⟩ | ⟨s, hs1, hs2, q2, q4⟩
      · have hst : b_X11_doors_L9 J K (f + 1) q.1 q.2 = if f_oa hs cu (nI i) (f_cb (J 118) cu T.2.1.length) T.1.length T.2.1.length = true then b_X11_doors_L9 J K f (nI i) (nI (i + 1)) else b_X11_doors_L9 J K f (-1) (nI (i + 1)) := by
          conv => lhs; unfold b_X11_doors_L9
          simp only [g_let]
          rw [q1, q2, if_neg (show ¬ (1024 : Int32) ≤ nI i from nI_ge (b := 1024) hi (by omega)), if_pos rfl, nI_1]
          have this := inner (fun a11 => if a11 = 0 then b_X11_doors_L9 J K f (-1) (nI (i + 1)) else b_X11_doors_L9 J K f (nI i) (nI (i + 1))) (-1) i true
          rw [Bool.true_and] at this
          refine Eq.trans this ?_
          cases f_oa hs cu (nI i) (f_cb (J 118) cu T.2.1.length) T.1.length T.2.1.length <;> rfl
        by_cases e : f_oa hs cu (nI i) (f_cb (J 118) cu T.2.1.length) T.1.length T.2.1.length = true
        · refine ⟨(nI i, nI (i + 1)), by rw [hst, if_pos e], rfl, Or.inr ⟨i, by omega, by omega, rfl, ?_⟩⟩
          rw [hdr, q4, z_bc 1023 (by decide), z_bc i (by omega)]
          by_cases e2 : i = 1023
          · subst e2; rw [if_neg (fun h => h.1 (Int32.le_refl _))]
          · rw [if_pos ⟨nI_ge (by have := z_pc9 i (by omega); rw [show z_pc 1023 = 10 by decide]; omega) (by rw [show z_pc 1023 = 10 by decide]; omega), e⟩]
        · have hi3 : i ≠ 1023 := fun e2 => e (by rw [e2]; exact hfull)
          refine ⟨(-1, nI (i + 1)), by rw [hst, if_neg e], rfl, Or.inl ⟨rfl, by omega, ?_⟩⟩
          rw [hdr, if_neg (fun h => e h.2)]; exact q4
      · have hst : b_X11_doors_L9 J K (f + 1) q.1 q.2 = if ¬ nI (z_pc s) ≤ nI (z_pc i) ∧ f_oa hs cu (nI i) (f_cb (J 118) cu T.2.1.length) T.1.length T.2.1.length = true then b_X11_doors_L9 J K f (nI i) (nI (i + 1)) else b_X11_doors_L9 J K f (nI s) (nI (i + 1)) := by
          conv => lhs; unfold b_X11_doors_L9
          simp only [g_let]
          rw [q1, q2, if_neg (show ¬ (1024 : Int32) ≤ nI i from nI_ge (b := 1024) hi (by omega)), if_neg (z_nm1 (by omega))]
          simp only [z_bo hs1, z_bo (show i < 1024 by omega), g_bind, nI_1]
          by_cases e1 : nI (z_pc s) ≤ nI (z_pc i)
          · rw [if_pos e1, if_neg (fun h => h.1 e1)]
            have := inner (fun a11 => if a11 = 0 then b_X11_doors_L9 J K f (nI s) (nI (i + 1)) else b_X11_doors_L9 J K f (nI i) (nI (i + 1))) (nI s) i false
            exact this
          · rw [if_neg e1]
            have := inner (fun a11 => if a11 = 0 then b_X11_doors_L9 J K f (nI s) (nI (i + 1)) else b_X11_doors_L9 J K f (nI i) (nI (i + 1))) (nI s) i true
            rw [Bool.true_and] at this
            refine Eq.trans this ?_
            cases e3 : f_oa hs cu (nI i) (f_cb (J 118) cu T.2.1.length) T.1.length T.2.1.length <;> simp [kb, e1]
        by_cases e : ¬ nI (z_pc s) ≤ nI (z_pc i) ∧ f_oa hs cu (nI i) (f_cb (J 118) cu T.2.1.length) T.1.length T.2.1.length = true
        · refine ⟨(nI i, nI (i + 1)), by rw [hst, if_pos e], rfl, Or.inr ⟨i, by omega, by omega, rfl, ?_⟩⟩
          rw [hdr, q4, z_bc s hs1, z_bc i (by omega), if_pos e]
        · refine ⟨(nI s, nI (i + 1)), by rw [hst, if_neg e], rfl, Or.inr ⟨s, hs1, by omega, rfl, ?_⟩⟩
          rw [hdr, q4, z_bc s hs1, z_bc i (by omega), if_neg e])
    1024 fu 0 (-1, 0) (by omega) (by unfold fu; omega) ⟨rfl, Or.inl ⟨rfl, by omega, rfl⟩⟩
  obtain ⟨q, e, -, e2⟩ := h
  rcases e2 with ⟨-, h9, -⟩ | ⟨s, -, -, e3, e4⟩
  · omega
  · rw [show b_X11_doors_L9 J K fu (-1) 0 = K q.1 from e, e3, e4]
/-- a game -/
theorem z_gain {J : g_I} {T : x_T} (hW : z_W T) (hR : z_R J T) {cu sz : Nat → Int32} (hc : ∀ l, l < T.2.1.length → cu l = z_cu T (J 114) (J 101 30) l) (hz : ∀ l, l < T.2.1.length → sz l = (z_ll T l).1.2.1) {p a b : Nat} (hp : p < T.1.length) (ha : a < T.2.1.length) (hb : b < T.2.1.length) : b_X11_gain J (nI p) (nI a) (nI b) = some (f_gn cu sz p a b) := by
  have h8 := hW.1.1
  have h6 := hW.2.1.1
  unfold b_X11_gain f_gn
  simp only [z_canCut hW.1 hW.2.1 hR hp ha, g_bind]
  by_cases e : nI a = nI b
  · rw [if_pos e, if_neg (fun h => h.1 e)]
  · rw [if_neg e]
    have e2 : f_has (cu a) (nI p) = z_can T (J 114) (J 101 30) p a := by
      rw [z_has (by omega), hc a ha]
      exact z_iff ((z_cu_b hW.1 (by omega)).trans ⟨fun h => h.2, fun h => ⟨hp, h⟩⟩)
    rw [e2]
    by_cases e3 : z_can T (J 114) (J 101 30) p a = true
    · rw [if_pos e3, if_pos (g_in_nI (by omega) (by decide)), nI_clamp (by omega), (hR.2.1.2 a ha).2.1, hz a ha, if_pos (show ¬ nI a = nI b ∧ z_can T (J 114) (J 101 30) p a = true from ⟨e, e3⟩)]
    · rw [if_neg e3, if_neg (show ¬ (¬ nI a = nI b ∧ z_can T (J 114) (J 101 30) p a = true) from fun h => e3 h.2)]
theorem z_lall2 {P Q : Nat → Bool} (n : Nat) : lall (fun k => P k && Q k) n = (lall P n && lall Q n) := by
  induction n with
  | zero => rfl
  | succ n ih =>
    show (lall (fun k => P k && Q k) n && (P n && Q n)) = ((lall P n && P n) && (lall Q n && Q n))
    rw [ih]
    cases lall P n <;> cases lall Q n <;> cases P n <;> cases Q n <;> rfl
/-- counted couples: how many, and the first -/
def z_mf (c : Nat) (q : Int32 × Int32) : Prop := (q.1 = 0 ∧ q.2 = -1) ∨ ∃ k j, 1 ≤ k ∧ k ≤ c ∧ j < 2 ^ 20 ∧ q.1 = nI k ∧ q.2 = nI j
theorem z_mf_s {P : Nat → Nat → Bool} {c a b : Nat} {q : Int32 × Int32} (hc : c < 1000) (ha : a < 10) (hb : b < 10) (h : z_mf c q) : z_mf (c + 1) (f_wm2 P a b q) ∧ f_wm2 P a b q = if P a b = true then (q.1 + 1, if q.2 = -1 then 10 * nI a + nI b else q.2) else q := by
  have e10 : (10 : Int32) * nI a + nI b = nI (10 * a + b) := by show nI 10 * nI a + nI b = _; rw [pk_mul, nI_add]
  unfold f_wm2
  cases e : P a b
  · refine ⟨?_, rfl⟩
    rcases h with h | ⟨k, j, h1, h2, h3, h4, h5⟩
    · exact Or.inl h
    · exact Or.inr ⟨k, j, h1, by omega, h3, h4, h5⟩
  · simp only [if_true]
    rcases h with ⟨h1, h2⟩ | ⟨k, j, h1, h2, h3, h4, h5⟩
    · rw [if_pos h1, if_pos h2]
      exact ⟨Or.inr ⟨1, 10 * a + b, by omega, by omega, by omega, by rw [h1]; rfl, e10⟩, rfl⟩
    · rw [if_neg (by rw [h4]; exact nI_ne0 (by omega) (by omega)), if_neg (by rw [h5]; exact z_nm1 (by omega))]
      exact ⟨Or.inr ⟨k + 1, j, by omega, by omega, h3, by rw [h4, nI_1], h5⟩, rfl⟩
theorem z_game {J : g_I} {T : x_T} (hW : z_W T) (hR : z_R J T) {cu sz : Nat → Int32} (hc : ∀ l, l < T.2.1.length → cu l = z_cu T (J 114) (J 101 30) l) (hz : ∀ l, l < T.2.1.length → sz l = (z_ll T l).1.2.1) {p q : Nat} (hp : p < T.1.length) (hq : q < T.1.length) (y3 : Int32) (K : Int32 → Int32 → Option (Int32 × g_I)) : b_X11_game_L56 J (nI p) (nI q) y3 K fu 0 (-1) 0 = K (f_gm (fun a b => f_bs cu sz p a b T.2.1.length && f_bs cu sz q b a T.2.1.length) T.2.1.length T.2.1.length).1 (f_gm (fun a b => f_bs cu sz p a b T.2.1.length && f_bs cu sz q b a T.2.1.length) T.2.1.length T.2.1.length).2 := by
  have h6 := hW.2.1.1
  have rest : ∀ (K : Int32 → Option (Int32 × g_I)) (y4 y5 : Int32) (a b : Nat), a < T.2.1.length → b < T.2.1.length → b_X11_game_L87 J (nI p) (nI q) y3 y4 y5 (nI a) (nI b) K fu 1 0 = K (kb (f_bs cu sz p a b T.2.1.length && f_bs cu sz q b a T.2.1.length)) := by
    intro K y4 y5 a b ha hb
    unfold f_bs
    rw [← z_lall2]
    have h := z_fl (F := fun f x y => b_X11_game_L87 J (nI p) (nI q) y3 y4 y5 (nI a) (nI b) K f x y) (K := K) (P := fun l => decide (f_gn cu sz p l b ≤ f_gn cu sz p a b) && decide (f_gn cu sz q l a ≤ f_gn cu sz q b a)) (N := T.2.1.length)
      (fun f x => by show b_X11_game_L87 J (nI p) (nI q) y3 y4 y5 (nI a) (nI b) K (f + 1) x _ = _; unfold b_X11_game_L87; rw [hR.2.1.1, if_pos (Int32.le_refl _)])
      (fun f i hi => by show b_X11_game_L87 J (nI p) (nI q) y3 y4 y5 (nI a) (nI b) K (f + 1) 0 _ = _; unfold b_X11_game_L87; rw [hR.2.1.1, if_neg (nI_ge hi (by omega)), if_pos rfl])
      (fun f i hi => by
        show b_X11_game_L87 J (nI p) (nI q) y3 y4 y5 (nI a) (nI b) K (f + 1) 1 (nI i) = b_X11_game_L87 J (nI p) (nI q) y3 y4 y5 (nI a) (nI b) K f _ _
        conv => lhs; unfold b_X11_game_L87
        rw [hR.2.1.1, if_neg (nI_ge hi (by omega)), if_neg (show ¬ (1 : Int32) = 0 by decide)]
        simp only [z_gain hW hR hc hz hp hi hb, z_gain hW hR hc hz hp ha hb, z_gain hW hR hc hz hq hi ha, z_gain hW hR hc hz hq hb ha, g_bind, nI_1]
        by_cases e1 : f_gn cu sz p a b < f_gn cu sz p i b
        · rw [if_pos e1, decide_eq_false (fun h => by rw [z_leI] at h; rw [z_lI] at e1; omega)]; rfl
        · rw [if_neg e1, decide_eq_true (show f_gn cu sz p i b ≤ f_gn cu sz p a b by rw [z_leI]; rw [z_lI] at e1; omega)]
          by_cases e2 : f_gn cu sz q b a < f_gn cu sz q i a
          · rw [if_pos e2, decide_eq_false (fun h => by rw [z_leI] at h; rw [z_lI] at e2; omega)]; rfl
          · rw [if_neg e2, decide_eq_true (show f_gn cu sz q i a ≤ f_gn cu sz q b a by rw [z_leI]; rw [z_lI] at e2; omega)]; rfl) true (by omega)
    rw [Bool.true_and] at h
    exact h
  have inner : ∀ (K : Int32 → Int32 → Option (Int32 × g_I)) (a c : Nat) (w : Int32 × Int32), a < T.2.1.length → c ≤ 500 → z_mf c w → b_X11_game_L70 J (nI p) (nI q) y3 (nI a) K fu w.1 w.2 0 = K (f_gm1 (fun a b => f_bs cu sz p a b T.2.1.length && f_bs cu sz q b a T.2.1.length) a T.2.1.length w).1 (f_gm1 (fun a b => f_bs cu sz p a b T.2.1.length && f_bs cu sz q b a T.2.1.length) a T.2.1.length w).2 ∧ z_mf (c + T.2.1.length) (f_gm1 (fun a b => f_bs cu sz p a b T.2.1.length && f_bs cu sz q b a T.2.1.length) a T.2.1.length w) := by
    intro K a c w ha hc5 hw
    have h := z_lp (F := fun f (s : (Int32 × Int32) × Int32) => b_X11_game_L70 J (nI p) (nI q) y3 (nI a) K f s.1.1 s.1.2 s.2) (K := fun s => K s.1.1 s.1.2) (N := T.2.1.length) (fun i s => s.2 = nI i ∧ s.1 = f_gm1 (fun a b => f_bs cu sz p a b T.2.1.length && f_bs cu sz q b a T.2.1.length) a i w ∧ z_mf (c + i) s.1)
      (fun f s hP => by show b_X11_game_L70 J (nI p) (nI q) y3 (nI a) K (f + 1) s.1.1 s.1.2 s.2 = _; unfold b_X11_game_L70; rw [hR.2.1.1, hP.1, if_pos (Int32.le_refl _)])
      (fun f i s hi hP => by
        obtain ⟨s1, s2, s3⟩ := hP
        obtain ⟨m1, m2⟩ := z_mf_s (P := fun a b => f_bs cu sz p a b T.2.1.length && f_bs cu sz q b a T.2.1.length) (a := a) (b := i) (by omega) (by omega) (by omega) s3
        refine ⟨(f_wm2 (fun a b => f_bs cu sz p a b T.2.1.length && f_bs cu sz q b a T.2.1.length) a i s.1, nI (i + 1)), ?_, rfl, by rw [s2]; rfl, m1⟩
        show b_X11_game_L70 J (nI p) (nI q) y3 (nI a) K (f + 1) s.1.1 s.1.2 s.2 = b_X11_game_L70 J (nI p) (nI q) y3 (nI a) K f (f_wm2 _ a i s.1).1 (f_wm2 _ a i s.1).2 (nI (i + 1))
        conv => lhs; unfold b_X11_game_L70
        rw [hR.2.1.1, s1, if_neg (nI_ge hi (by omega)), rest _ _ _ a i ha hi, m2]
        simp only [g_let, nI_1]
        cases (f_bs cu sz p a i T.2.1.length && f_bs cu sz q i a T.2.1.length)
        · rfl
        · by_cases e : s.1.2 = -1
          · simp [kb, e]
          · simp [kb, e])
      T.2.1.length fu 0 (w, 0) (by omega) (by unfold fu; omega) ⟨rfl, rfl, hw⟩
    obtain ⟨s, e, -, e2, e3⟩ := h
    rw [← e2]
    exact ⟨e, e3⟩
  have h := z_lp (F := fun f (s : (Int32 × Int32) × Int32) => b_X11_game_L56 J (nI p) (nI q) y3 K f s.1.1 s.1.2 s.2) (K := fun s => K s.1.1 s.1.2) (N := T.2.1.length) (fun i s => s.2 = nI i ∧ s.1 = f_gm (fun a b => f_bs cu sz p a b T.2.1.length && f_bs cu sz q b a T.2.1.length) T.2.1.length i ∧ z_mf (6 * i) s.1)
    (fun f s hP => by show b_X11_game_L56 J (nI p) (nI q) y3 K (f + 1) s.1.1 s.1.2 s.2 = _; unfold b_X11_game_L56; rw [hR.2.1.1, hP.1, if_pos (Int32.le_refl _)])
    (fun f i s hi hP => by
      obtain ⟨s1, s2, s3⟩ := hP
      obtain ⟨i1, i2⟩ := inner (fun (a25 : Int32) (a26 : Int32) => b_X11_game_L56 J (nI p) (nI q) y3 K f a25 a26 (nI (i + 1))) i (6 * i) s.1 hi (by omega) s3
      refine ⟨(f_gm1 (fun a b => f_bs cu sz p a b T.2.1.length && f_bs cu sz q b a T.2.1.length) i T.2.1.length s.1, nI (i + 1)), ?_, rfl, by rw [s2]; rfl, ?_⟩
      · show b_X11_game_L56 J (nI p) (nI q) y3 K (f + 1) s.1.1 s.1.2 s.2 = _
        conv => lhs; unfold b_X11_game_L56
        rw [hR.2.1.1, s1, if_neg (nI_ge hi (by omega)), nI_1]
        exact i1
      · rcases i2 with g | ⟨k, j, g1, g2, g3⟩
        · exact Or.inl g
        · exact Or.inr ⟨k, j, g1, by omega, g3⟩)
    T.2.1.length fu 0 ((0, -1), 0) (by omega) (by unfold fu; omega) ⟨rfl, rfl, Or.inl ⟨rfl, rfl⟩⟩
  obtain ⟨s, e, -, e2, -⟩ := h
  rw [← e2]
  exact e
