/-! PURE: WHAT IS ASKED -/
theorem z_lfo {α β : Type} {F : Nat → β → Int32 → Option α} {K : β → Option α} {g : Nat → β → β} {N s : Nat} (h1 : ∀ f a, F (f + 1) a (nI (s + N)) = K a) (h2 : ∀ f a i, i < N → F (f + 1) a (nI (s + i)) = F f (g i a) (nI (s + i + 1))) (a0 : β) (hN : N < 5000) : F fu a0 (nI s) = K (lfold g a0 N) := by
  have h := z_lp (F := fun f (q : β × Int32) => F f q.1 q.2) (K := fun q => K q.1) (N := N) (fun i q => q.2 = nI (s + i) ∧ q.1 = lfold g a0 i)
    (fun f q hP => by show F (f + 1) q.1 q.2 = K q.1; rw [hP.1, h1])
    (fun f i q hi hP => ⟨(g i q.1, nI (s + i + 1)), by show F (f + 1) q.1 q.2 = F f (g i q.1) (nI (s + i + 1)); rw [hP.1, h2 f q.1 i hi], rfl, by show g i q.1 = g i (lfold g a0 i); rw [hP.2]⟩)
    N fu 0 (a0, nI s) (by omega) (by unfold fu; omega) ⟨rfl, rfl⟩
  obtain ⟨q, e, -, e2⟩ := h
  rw [show F fu a0 (nI s) = K q.1 from e, e2]
theorem z_lf {α β : Type} {F : Nat → β → Int32 → Option α} {K : β → Option α} {g : Nat → β → β} {N : Nat} (h1 : ∀ f a, F (f + 1) a (nI N) = K a) (h2 : ∀ f a i, i < N → F (f + 1) a (nI i) = F f (g i a) (nI (i + 1))) (a0 : β) (hN : N < 5000) : F fu a0 0 = K (lfold g a0 N) := by
  have h := z_lfo (F := F) (K := K) (g := g) (N := N) (s := 0) (fun f a => by rw [Nat.zero_add]; exact h1 f a) (fun f a i hi => by rw [Nat.zero_add]; exact h2 f a i hi) a0 hN
  exact h
/-- J is the reference's world at work: its town and what is alike -/
theorem z_ge {n k : Nat} {f : Prop} (h : k < n) (hn : n ≤ 1024) : (nI n ≤ nI k) ↔ False := ⟨fun h2 => absurd h2 (nI_ge h (by omega)), False.elim⟩
theorem z_answering {J : g_I} {T : x_T} (hW : z_W T) (hR : z_R J T) {l : Nat} (hl : l < T.2.1.length) (an : Int32) : b_X11_answering J (nI l) an = some (lfold (fun p a => if z_may T (J 114) (J 101 30) (J 101 31) (J 118 l) p l = an then a ||| ((1 : Int32) <<< (nI p &&& 31)) else a) 0 T.1.length) := by
  have h8 := hW.1.1
  unfold b_X11_answering
  exact z_lf (F := fun f a x => b_X11_answering_L5 J (nI l) an (fun (a5 : Int32) => some a5) f a x) (K := fun a => some a) (N := T.1.length)
    (fun f a => by show b_X11_answering_L5 J (nI l) an _ (f + 1) a (nI T.1.length) = _; unfold b_X11_answering_L5; rw [hR.1.1, if_pos (Int32.le_refl _)])
    (fun f a i hi => by
      show b_X11_answering_L5 J (nI l) an _ (f + 1) a (nI i) = b_X11_answering_L5 J (nI l) an _ f _ _
      conv => lhs; unfold b_X11_answering_L5
      rw [hR.1.1, if_neg (nI_ge hi (by omega))]
      simp only [g_bind, z_mayNow hW.1 hW.2.1 hR hi hl, g_let, nI_1]
      split <;> rfl) 0 (by omega)
/-- those who can cut a loaf -/
def z_cu (T : x_T) (M : Nat → Int32) (dy : Int32) (l : Nat) : Int32 := lfold (fun p a => if z_can T M dy p l = true then a ||| ((1 : Int32) <<< (nI p &&& 31)) else a) 0 T.1.length
theorem z_cu_b {T : x_T} (hW : z_Wp T) {M : Nat → Int32} {dy : Int32} {l i : Nat} (hi : i < 32) : bt (z_cu T M dy l) i = true ↔ i < T.1.length ∧ z_can T M dy i l = true := by
  unfold z_cu
  rw [z_fold (by have := hW.1; omega) hi, decide_eq_true_iff]
theorem z_cutters {J : g_I} {T : x_T} (hW : z_W T) (hR : z_R J T) {l : Nat} (hl : l < T.2.1.length) : b_X11_cutters J (nI l) = some (z_cu T (J 114) (J 101 30) l) := by
  have h8 := hW.1.1
  unfold b_X11_cutters z_cu
  exact z_lf (F := fun f a x => b_X11_cutters_L4 J (nI l) (fun (a5 : Int32) => some a5) f a x) (K := fun a => some a) (N := T.1.length)
    (fun f a => by show b_X11_cutters_L4 J (nI l) _ (f + 1) a (nI T.1.length) = _; unfold b_X11_cutters_L4; rw [hR.1.1, if_pos (Int32.le_refl _)])
    (fun f a i hi => by
      show b_X11_cutters_L4 J (nI l) _ (f + 1) a (nI i) = b_X11_cutters_L4 J (nI l) _ f _ _
      conv => lhs; unfold b_X11_cutters_L4
      rw [hR.1.1, if_neg (nI_ge hi (by omega))]
      simp only [g_bind, z_canCut hW.1 hW.2.1 hR hi hl, g_let, nI_1]
      split <;> rfl) 0 (by omega)
theorem z_look92 {I : g_I} {t : Nat} {T : x_T} (hW : z_W T) (hT : k_tw I t T) {b : Nat} {r : z_Dy} (hD : z_D T (z_dc I b) r) {l : Nat} (hl : l < T.2.1.length) : f_look I 90 t b T.1.length T.2.1.length 92 l = z_cu T r.2.2.1 r.1 l := by
  apply b_ext
  intro i hi
  exact z_iff ((z_lk92 hW.1 hW.2.1 hT hD hl hi).trans (z_cu_b hW.1 hi).symm)
/-- couples who know each other both ways -/
theorem z_KRb {T : x_T} (hW : z_Wp T) {M : Nat → Int32} {dy : Int32} {kn : Nat → Int32} (hK : z_KR T M dy kn) {p q : Nat} (hp : p < T.1.length) (hq : q < T.1.length) (hne : p ≠ q) : f_has (kn p) (nI q) = z_kn T M dy p q := by
  have h8 := hW.1
  rw [z_has (by omega)]
  exact z_iff ((hK p hp q (by omega)).trans ⟨fun h => h.2.2, fun h => ⟨hq, Ne.symm hne, h⟩⟩)
theorem z_knownBoth {J : g_I} {T : x_T} (hW : z_W T) (hR : z_R J T) {kn : Nat → Int32} (hK : z_KR T (J 114) (J 101 30) kn) : b_X11_knownBoth J = some (f_cu kn T.1.length T.1.length) := by
  have h8 := hW.1.1
  unfold b_X11_knownBoth f_cu
  have inner : ∀ (K : Int32 → Option Int32) (p : Nat) (a : Int32), p < T.1.length → b_X11_knownBoth_L18 J (nI p) K fu a (nI (p + 1)) = K (f_cu1 kn p (T.1.length - (p + 1)) a) := by
    intro K p a hp
    unfold f_cu1
    exact z_lfo (F := fun f a x => b_X11_knownBoth_L18 J (nI p) K f a x) (K := K) (N := T.1.length - (p + 1)) (s := p + 1)
      (fun f a => by show b_X11_knownBoth_L18 J (nI p) K (f + 1) a _ = _; unfold b_X11_knownBoth_L18; rw [hR.1.1, show p + 1 + (T.1.length - (p + 1)) = T.1.length by omega, if_pos (Int32.le_refl _)])
      (fun f a i hi => by
        show b_X11_knownBoth_L18 J (nI p) K (f + 1) a (nI (p + 1 + i)) = b_X11_knownBoth_L18 J (nI p) K f _ _
        conv => lhs; unfold b_X11_knownBoth_L18
        rw [hR.1.1, if_neg (nI_ge (show p + 1 + i < T.1.length by omega) (by omega))]
        simp only [g_bind, z_isKnown hW.1 hR.1 hR.2.2.1 hp (show p + 1 + i < T.1.length by omega), z_isKnown hW.1 hR.1 hR.2.2.1 (show p + 1 + i < T.1.length by omega) hp, g_let, nI_1, Int32.add_zero]
        rw [z_KRb hW.1 hK hp (show p + 1 + i < T.1.length by omega) (by omega), z_KRb hW.1 hK (show p + 1 + i < T.1.length by omega) hp (by omega)]
        cases z_kn T (J 114) (J 101 30) p (p + 1 + i) <;> cases z_kn T (J 114) (J 101 30) (p + 1 + i) p <;> rfl) a (by omega)
  exact z_lf (F := fun f a x => b_X11_knownBoth_L4 J (fun (a12 : Int32) => some a12) f a x) (K := fun a => some a) (N := T.1.length)
    (fun f a => by show b_X11_knownBoth_L4 J _ (f + 1) a _ = _; unfold b_X11_knownBoth_L4; rw [hR.1.1, if_pos (Int32.le_refl _)])
    (fun f a i hi => by
      show b_X11_knownBoth_L4 J _ (f + 1) a (nI i) = b_X11_knownBoth_L4 J _ f _ _
      conv => lhs; unfold b_X11_knownBoth_L4
      rw [hR.1.1, if_neg (nI_ge hi (by omega))]
      simp only [g_let, nI_1]
      exact inner _ i a hi) 0 (by omega)
/-- whom one knows, as bits -/
theorem z_personL {J : g_I} {T : x_T} (hW : z_W T) (hR : z_R J T) {kn : Nat → Int32} (hK : z_KR T (J 114) (J 101 30) kn) {p : Nat} (hp : p < T.1.length) (K : Int32 → Option (Int32 × g_I)) : b_X11_person_L99 J (nI p) K fu 0 0 = K (kn p) := by
  have h8 := hW.1.1
  have h := z_lf (F := fun f a x => b_X11_person_L99 J (nI p) K f a x) (K := K) (g := fun q a => if q ≠ p ∧ z_kn T (J 114) (J 101 30) p q = true then a ||| ((1 : Int32) <<< (nI q &&& 31)) else a) (N := T.1.length)
    (fun f a => by show b_X11_person_L99 J (nI p) K (f + 1) a _ = _; unfold b_X11_person_L99; rw [hR.1.1, if_pos (Int32.le_refl _)])
    (fun f a i hi => by
      show b_X11_person_L99 J (nI p) K (f + 1) a (nI i) = b_X11_person_L99 J (nI p) K f _ _
      conv => lhs; unfold b_X11_person_L99
      rw [hR.1.1, if_neg (nI_ge hi (by omega))]
      simp only [g_bind, z_isKnown hW.1 hR.1 hR.2.2.1 hp hi, g_let, nI_1, nI_eq (show i < 2 ^ 31 by omega) (show p < 2 ^ 31 by omega)]
      by_cases e : i = p
      · simp [e]
      · cases e2 : z_kn T (J 114) (J 101 30) p i <;> simp [e]) 0 (by omega)
  rw [h]
  congr 1
  apply b_ext
  intro i hi
  rw [z_fold (by omega) hi]
  exact z_iff (by rw [decide_eq_true_iff, hK p hp i hi])
/-- a loop that goes on while all is well -/
theorem z_le {α : Type} {F : Nat → Int32 → Option α} {K v : Option α} {P : Nat → Bool} {N : Nat} (h1 : ∀ f, F (f + 1) (nI N) = K) (h2 : ∀ f i, i < N → F (f + 1) (nI i) = if P i = true then F f (nI (i + 1)) else v) (hN : N < 5000) : F fu 0 = if lall P N = true then K else v := by
  have h := z_lpx (F := fun f (x : Int32) => F f x) (K := fun _ => K) (N := N) (fun i x => x = nI i ∧ ∀ j, j < i → P j = true) (fun o => o = v ∧ ∃ j, j < N ∧ P j = false)
    (fun f x hP => by rw [hP.1]; exact h1 f)
    (fun f i x hi hP => by
      rw [hP.1]
      show (∃ s', F (f + 1) (nI i) = F f s' ∧ _) ∨ (F (f + 1) (nI i) = v ∧ _)
      rw [h2 f i hi]
      by_cases e : P i = true
      · rw [if_pos e]
        exact Or.inl ⟨nI (i + 1), rfl, rfl, fun j hj => by
          by_cases e2 : j = i
          · rw [e2]; exact e
          · exact hP.2 j (by omega)⟩
      · rw [if_neg e]
        exact Or.inr ⟨rfl, i, hi, by cases e2 : P i; rfl; exact absurd e2 e⟩)
    N fu 0 0 (by omega) (by unfold fu; omega) ⟨rfl, fun j hj => absurd hj (Nat.not_lt_zero j)⟩
  rcases h with ⟨x, e, -, h3⟩ | ⟨e, j, hj, h3⟩
  · rw [if_pos (lall_iff.mpr h3)]; exact e
  · rw [if_neg (fun h4 => by rw [lall_no hj h3] at h4; exact Bool.noConfusion h4)]; exact e
theorem z_all {n i : Nat} (hi : i < 32) (hn : n ≤ 10) : bt (nI (2 ^ n - 1)) i = decide (i < n) := by
  rw [z_tb hi, Nat.testBit_two_pow_sub_one]
theorem z_lallkb {P : Nat → Bool} : ∀ n : Nat, lfold (fun q (a : Int32) => if a = 0 then 0 else if P q = true then 1 else 0) 1 n = kb (lall P n) := by
  intro n
  induction n with
  | zero => rfl
  | succ n ih =>
    show (if lfold (fun q (a : Int32) => if a = 0 then 0 else if P q = true then 1 else 0) 1 n = 0 then (0 : Int32) else if P n = true then 1 else 0) = kb (lall P n && P n)
    rw [ih]
    cases lall P n <;> cases P n <;> rfl
theorem z_fm {J : g_I} {T : x_T} (hW : z_W T) (hR : z_R J T) {kn : Nat → Int32} (hK : z_KR T (J 114) (J 101 30) kn) (K : Int32 → Option (Int32 × g_I)) : b_X11_familiar_L9 J K fu 0 0 = K (f_fm kn (nI (2 ^ T.1.length - 1)) T.1.length) := by
  have h8 := hW.1.1
  have inner : ∀ (K : Int32 → Option (Int32 × g_I)) (y1 : Int32) (p : Nat), p < T.1.length → b_X11_familiar_L24 J y1 (nI p) K fu 1 0 = K (kb (lall (fun q => z_kn T (J 114) (J 101 30) p q) T.1.length)) := by
    intro K y1 p hp
    rw [← z_lallkb]
    exact z_lf (F := fun f a x => b_X11_familiar_L24 J y1 (nI p) K f a x) (K := K) (N := T.1.length)
      (fun f a => by show b_X11_familiar_L24 J y1 (nI p) K (f + 1) a _ = _; unfold b_X11_familiar_L24; rw [hR.1.1, if_pos (Int32.le_refl _)])
      (fun f a i hi => by
        show b_X11_familiar_L24 J y1 (nI p) K (f + 1) a (nI i) = b_X11_familiar_L24 J y1 (nI p) K f _ _
        conv => lhs; unfold b_X11_familiar_L24
        rw [hR.1.1, if_neg (nI_ge hi (by omega))]
        simp only [g_bind, z_isKnown hW.1 hR.1 hR.2.2.1 hp hi, nI_1]
        by_cases e : a = 0
        · rw [if_pos e, if_pos e]
        · rw [if_neg e, if_neg e]
          split <;> rfl) 1 (by omega)
  have hq : ∀ p, p < T.1.length → (lall (fun q => z_kn T (J 114) (J 101 30) p q) T.1.length = true ↔ kn p ||| ((1 : Int32) <<< (nI p &&& 31)) = nI (2 ^ T.1.length - 1)) := by
    intro p hp
    rw [lall_iff]
    constructor
    · intro h
      apply b_ext
      intro i hi
      rw [b_or, z_one (by omega) hi, z_all hi (by omega)]
      apply z_iff
      rw [Bool.or_eq_true, decide_eq_true_iff, decide_eq_true_iff, hK p hp i hi]
      constructor
      · rintro (h1 | h1)
        · exact h1.1
        · omega
      · intro h1
        by_cases e : i = p
        · exact Or.inr e
        · exact Or.inl ⟨h1, e, h i h1⟩
    · intro h q hq
      have h2 : bt (kn p ||| ((1 : Int32) <<< (nI p &&& 31))) q = bt (nI (2 ^ T.1.length - 1)) q := by rw [h]
      rw [b_or, z_one (by omega) (by omega), z_all (by omega) (by omega), decide_eq_true hq, Bool.or_eq_true, decide_eq_true_iff] at h2
      rcases h2 with h2 | h2
      · exact ((hK p hp q (by omega)).mp h2).2.2
      · rw [h2]; exact z_kn_self T _ _ p
  unfold f_fm
  exact z_lf (F := fun f a x => b_X11_familiar_L9 J K f a x) (K := K) (N := T.1.length)
    (fun f a => by show b_X11_familiar_L9 J K (f + 1) a _ = _; unfold b_X11_familiar_L9; rw [hR.1.1, if_pos (Int32.le_refl _)])
    (fun f a i hi => by
      show b_X11_familiar_L9 J K (f + 1) a (nI i) = b_X11_familiar_L9 J K f _ _
      conv => lhs; unfold b_X11_familiar_L9
      rw [hR.1.1, if_neg (nI_ge hi (by omega)), inner _ a i hi]
      simp only [g_let, nI_1, Int32.or_zero]
      by_cases e : kn i ||| ((1 : Int32) <<< (nI i &&& 31)) = nI (2 ^ T.1.length - 1)
      · rw [if_pos e, (hq i hi).mpr e]; rfl
      · rw [if_neg e]
        cases e2 : lall (fun q => z_kn T (J 114) (J 101 30) i q) T.1.length
        · rfl
        · exact absurd ((hq i hi).mp e2) e) 0 (by omega)
/-- strangers all -/
theorem z_areS {J : g_I} {T : x_T} (hW : z_W T) (hR : z_R J T) {kn : Nat → Int32} (hK : z_KR T (J 114) (J 101 30) kn) (S : Int32) : b_X11_areStrangers J S = some (f_as kn S T.1.length) := by
  have h8 := hW.1.1
  have inner : ∀ (K : Unit → Option Bool) (p : Nat), p < T.1.length → b_X11_areStrangers_L14 J S (nI p) K fu 0 = if lall (fun q => !(decide (p ≠ q) && (bt S p && (bt S q && z_kn T (J 114) (J 101 30) p q)))) T.1.length = true then K () else some false := by
    intro K p hp
    exact z_le (F := fun f x => b_X11_areStrangers_L14 J S (nI p) K f x) (K := K ()) (N := T.1.length)
      (fun f => by show b_X11_areStrangers_L14 J S (nI p) K (f + 1) _ = _; unfold b_X11_areStrangers_L14; rw [hR.1.1, if_pos (Int32.le_refl _)])
      (fun f i hi => by
        show b_X11_areStrangers_L14 J S (nI p) K (f + 1) (nI i) = if _ then b_X11_areStrangers_L14 J S (nI p) K f _ else _
        conv => lhs; unfold b_X11_areStrangers_L14
        rw [hR.1.1, if_neg (nI_ge hi (by omega)), z_isOf (by omega), z_isOf (by omega)]
        simp only [g_bind, z_isKnown hW.1 hR.1 hR.2.2.1 hp hi, nI_1, nI_eq (show p < 2 ^ 31 by omega) (show i < 2 ^ 31 by omega)]
        by_cases e : p = i
        · simp [e]
        · cases bt S p <;> cases bt S i <;> cases z_kn T (J 114) (J 101 30) p i <;> simp [e]) (by omega)
  have outer := z_le (F := fun f x => b_X11_areStrangers_L2 J S (fun (_ : Unit) => some true) f x) (K := some true) (v := some false) (P := fun p => lall (fun q => !(decide (p ≠ q) && (bt S p && (bt S q && z_kn T (J 114) (J 101 30) p q)))) T.1.length) (N := T.1.length)
    (fun f => by show b_X11_areStrangers_L2 J S _ (f + 1) _ = _; unfold b_X11_areStrangers_L2; rw [hR.1.1, if_pos (Int32.le_refl _)])
    (fun f i hi => by
      show b_X11_areStrangers_L2 J S _ (f + 1) (nI i) = if _ then b_X11_areStrangers_L2 J S _ f _ else _
      conv => lhs; unfold b_X11_areStrangers_L2
      rw [hR.1.1, if_neg (nI_ge hi (by omega)), inner _ i hi, nI_1]) (by omega)
  unfold b_X11_areStrangers f_as
  rw [outer]
  have e9 : lall (fun p => lall (fun q => !(decide (p ≠ q) && (bt S p && (bt S q && z_kn T (J 114) (J 101 30) p q)))) T.1.length) T.1.length = lall (fun p => !(f_has S (nI p) && decide (¬ kn p &&& S = 0))) T.1.length := by
    apply z_iff
    rw [lall_iff, lall_iff]
    refine forall_congr' fun p => forall_congr' fun hp => ?_
    rw [lall_iff, z_has (by omega)]
    constructor
    · intro h
      cases e : bt S p
      · rfl
      · have h0 : kn p &&& S = 0 := by
          rw [z_and0]
          intro i hi h1
          obtain ⟨h2, h3, h4⟩ := (hK p hp i hi).mp h1
          have h5 := h i h2
          cases e2 : bt S i
          · rfl
          · rw [e, e2, h4, decide_eq_true (Ne.symm h3)] at h5; exact Bool.noConfusion h5
        simp [h0]
    · intro h q hq
      cases e : bt S p
      · simp
      · rw [e] at h
        have h0 : kn p &&& S = 0 := by simpa using h
        rw [z_and0] at h0
        by_cases e2 : p = q
        · simp [e2]
        · cases e3 : bt S q
          · simp
          · cases e4 : z_kn T (J 114) (J 101 30) p q
            · simp
            · have := h0 q (by omega) ((hK p hp q (by omega)).mpr ⟨hq, Ne.symm e2, e4⟩)
              rw [e3] at this; exact Bool.noConfusion this
  rw [e9]
  cases lall (fun p => !(f_has S (nI p) && decide (¬ kn p &&& S = 0))) T.1.length <;> rfl
theorem z_ring {J : g_I} {T : x_T} (hW : z_W T) (hR : z_R J T) {kn : Nat → Int32} (hK : z_KR T (J 114) (J 101 30) kn) (K : Int32 → Option (Int32 × g_I)) : b_X11_ring_L9 J K fu 0 0 = K (f_rg kn T.1.length (2 ^ T.1.length)) := by
  have h8 := hW.1.1
  have hp := k_pow1 (n := T.1.length) (by omega)
  have hpow : (1 : Int32) <<< (J 104 0 &&& 31) = nI (2 ^ T.1.length) := by rw [hR.1.1]; exact k_pow (by omega)
  have h := z_lp (F := fun f (q : Int32 × Int32) => b_X11_ring_L9 J K f q.1 q.2) (K := fun q => K q.1) (N := 2 ^ T.1.length) (fun i q => q.2 = nI i ∧ q.1 = f_rg kn T.1.length i ∧ ∃ s, s < 1024 ∧ q.1 = nI s)
    (fun f q hP => by show b_X11_ring_L9 J K (f + 1) q.1 q.2 = K q.1; unfold b_X11_ring_L9; rw [hpow, hP.1, if_pos (Int32.le_refl _)])
    (fun f i q hi hP => by
      obtain ⟨q1, q2, s, hs, q3⟩ := hP
      have hst : b_X11_ring_L9 J K (f + 1) q.1 q.2 = if ¬ nI (z_pc i) ≤ nI (z_pc s) ∧ f_as kn (nI i) T.1.length = true then b_X11_ring_L9 J K f (nI i) (nI (i + 1)) else b_X11_ring_L9 J K f (nI s) (nI (i + 1)) := by
        conv => lhs; unfold b_X11_ring_L9
        rw [hpow, q1, q3, if_neg (nI_ge hi (by omega))]
        simp only [z_bo (show i < 1024 by omega), z_bo hs, g_bind, z_areS hW hR hK, nI_1]
        by_cases e1 : nI (z_pc i) ≤ nI (z_pc s)
        · rw [if_pos e1, if_neg (fun h => h.1 e1)]
        · rw [if_neg e1]
          by_cases e2 : f_as kn (nI i) T.1.length = true
          · rw [if_pos e2, if_pos ⟨e1, e2⟩]
          · rw [if_neg e2, if_neg (fun h => e2 h.2)]
      have hrg : f_rg kn T.1.length (i + 1) = if ¬ nI (z_pc i) ≤ nI (z_pc s) ∧ f_as kn (nI i) T.1.length = true then nI i else nI s := by
        show (if i = 0 then f_rg kn T.1.length i else if ¬ f_bc (nI i) ≤ f_bc (f_rg kn T.1.length i) ∧ f_as kn (nI i) T.1.length = true then nI i else f_rg kn T.1.length i) = _
        rw [← q2, q3, z_bc i (by omega), z_bc s hs]
        by_cases e0 : i = 0
        · subst e0
          rw [if_pos rfl, if_neg (fun h => h.1 (nI_le (by show z_pc 0 ≤ _; rw [show z_pc 0 = 0 by decide]; omega) (by have := (z_bo1 s hs).2.2; omega)))]
        · rw [if_neg e0]
      by_cases e : ¬ nI (z_pc i) ≤ nI (z_pc s) ∧ f_as kn (nI i) T.1.length = true
      · exact ⟨(nI i, nI (i + 1)), by show b_X11_ring_L9 J K (f + 1) q.1 q.2 = _; rw [hst, if_pos e], rfl, by rw [hrg, if_pos e], i, by omega, rfl⟩
      · exact ⟨(nI s, nI (i + 1)), by show b_X11_ring_L9 J K (f + 1) q.1 q.2 = _; rw [hst, if_neg e], rfl, by rw [hrg, if_neg e], s, hs, rfl⟩)
    (2 ^ T.1.length) fu 0 (0, 0) (by omega) (by unfold fu; omega) ⟨rfl, rfl, 0, by decide, rfl⟩
  obtain ⟨q, e, -, e2, -⟩ := h
  rw [show b_X11_ring_L9 J K fu 0 0 = K q.1 from e, e2]
