/-! PURE: WHO KNOWS WHOM, WHO CAN CUT, AS THE CLASS HOLDS IT -/
theorem z_lI {x y : Int32} : x < y ↔ x.toInt < y.toInt := Int32.lt_iff_toInt_lt
theorem z_leI {x y : Int32} : x ≤ y ↔ x.toInt ≤ y.toInt := Int32.le_iff_toInt_le
theorem z_iff {a b : Bool} (h : a = true ↔ b = true) : a = b := by
  cases a <;> cases b
  · rfl
  · exact absurd (h.mpr rfl) (by decide)
  · exact absurd (h.mp rfl) (by decide)
  · rfl
theorem z_pair {T : x_T} (hW : z_Wp T) {tw : Nat → Int32} {p : Nat} (hp : p < T.1.length) (ht : tw p = z_tw T p) {i : Nat} (hi : i < 32) : bt (f_pair tw (nI p)) i = true ↔ i = p ∨ z_tw T p = nI i := by
  have h8 := hW.1
  unfold f_pair
  rw [nI_clamp (by omega), ht, b_or, z_one (by omega) hi, Bool.or_eq_true, decide_eq_true_iff]
  rcases z_twv hW hp with h | ⟨q, hq, -, h, -⟩
  · rw [h, if_pos rfl, b_0]
    exact ⟨fun h => h.elim Or.inl (fun h => absurd h (by decide)), fun h => h.elim Or.inl (fun h => absurd h.symm (z_nm1 (by omega)))⟩
  · rw [h, if_neg (z_nm1 (by omega)), z_one (by omega) hi, decide_eq_true_iff, nI_eq (by omega) (by omega)]
    exact ⟨fun h => h.elim Or.inl (fun h => Or.inr h.symm), fun h => h.elim Or.inl (fun h => Or.inr h.symm)⟩
theorem z_dwh {T : x_T} (hW : z_Wp T) {hs : Nat → Int32} (hh : ∀ k, k < T.1.length → hs k = (z_pp T k).2.1) {p : Nat} (hp : p < T.1.length) {i : Nat} (hi : i < 32) : bt (f_dw hs ((1 : Int32) <<< (hs p &&& 31)) T.1.length) i = true ↔ i < T.1.length ∧ (z_pp T p).2.1 = (z_pp T i).2.1 := by
  have h8 := hW.1
  unfold f_dw
  rw [z_fold (by omega) hi, decide_eq_true_iff]
  refine and_congr_right fun h => ?_
  obtain ⟨a, ha, ea⟩ := (hW.2 p hp).2.1
  obtain ⟨b, hb, eb⟩ := (hW.2 i h).2.1
  rw [hh p hp, hh i h, ea, eb, z_has (by omega), z_one (by omega) (by omega), decide_eq_true_iff, nI_eq (by omega) (by omega)]
  exact eq_comm
/-- a day on which two have met, as the class keeps it -/
def z_cv (x : Int32) : Int32 := if x = -100000 then -1000000 else x
theorem z_knb {T : x_T} (hW : z_Wp T) {kd hs tw mt : Nat → Int32} {dy fg : Int32} (hk : ∀ k, k < T.1.length → kd k = (z_pp T k).1) (hh : ∀ k, k < T.1.length → hs k = (z_pp T k).2.1) (ht : ∀ k, k < T.1.length → tw k = z_tw T k) {p : Nat} (hp : p < T.1.length) {i : Nat} (hi : i < 32) : bt (f_kn kd hs tw mt dy fg T.1.length p) i = true ↔ i < T.1.length ∧ i ≠ p ∧ ((z_pp T p).2.1 = (z_pp T i).2.1 ∨ z_tw T p = nI i ∨ (¬ (z_pp T p).1 = 2 ∧ ¬ mt (8 * p + i) = -1000000 ∧ ¬ fg < dy - mt (8 * p + i))) := by
  have h8 := hW.1
  unfold f_kn
  rw [b_and, Bool.and_eq_true, z_com _ hi, z_one (by omega) hi, Bool.not_eq_true', decide_eq_false_iff_not, hk p hp]
  have hq : z_tw T p = nI i → i < T.1.length := fun e => by
    rcases z_twv hW hp with h | ⟨q, hq, -, h, -⟩
    · exact absurd (e.symm.trans h) (z_nm1 (by omega))
    · have := (nI_eq (by omega) (by omega)).mp (e.symm.trans h); omega
  by_cases e2 : (z_pp T p).1 = 2
  · rw [if_pos e2, b_or, Bool.or_eq_true, z_dwh hW hh hp hi, z_pair hW hp (ht p hp) hi]
    constructor
    · rintro ⟨(⟨h1, h2⟩ | h1 | h1), h3⟩
      · exact ⟨h1, h3, Or.inl h2⟩
      · exact absurd h1 h3
      · exact ⟨hq h1, h3, Or.inr (Or.inl h1)⟩
    · rintro ⟨h1, h2, (h3 | h3 | h3)⟩
      · exact ⟨Or.inl ⟨h1, h3⟩, h2⟩
      · exact ⟨Or.inr (Or.inr h3), h2⟩
      · exact absurd e2 h3.1
  · rw [if_neg e2, b_or, Bool.or_eq_true, b_or, Bool.or_eq_true, z_dwh hW hh hp hi, z_pair hW hp (ht p hp) hi]
    unfold f_rm
    rw [z_fold (by omega) hi, decide_eq_true_iff]
    constructor
    · rintro ⟨((⟨h1, h2⟩ | h1 | h1) | ⟨h1, h4, h5⟩), h3⟩
      · exact ⟨h1, h3, Or.inl h2⟩
      · exact absurd h1 h3
      · exact ⟨hq h1, h3, Or.inr (Or.inl h1)⟩
      · exact ⟨h1, h3, Or.inr (Or.inr ⟨e2, h4, h5⟩)⟩
    · rintro ⟨h1, h2, (h3 | h3 | h3)⟩
      · exact ⟨Or.inl (Or.inl ⟨h1, h3⟩), h2⟩
      · exact ⟨Or.inl (Or.inr (Or.inr h3)), h2⟩
      · exact ⟨Or.inr ⟨h1, h3.2⟩, h2⟩
/-- the class's row of who knows whom, in the reference's words -/
def z_KR (T : x_T) (M : Nat → Int32) (dy : Int32) (kn : Nat → Int32) : Prop := ∀ p, p < T.1.length → ∀ i, i < 32 → (bt (kn p) i = true ↔ i < T.1.length ∧ i ≠ p ∧ z_kn T M dy p i = true)
theorem z_knR {T : x_T} (hW : z_Wp T) {kd hs tw mt M : Nat → Int32} {dy : Int32} (hk : ∀ k, k < T.1.length → kd k = (z_pp T k).1) (hh : ∀ k, k < T.1.length → hs k = (z_pp T k).2.1) (ht : ∀ k, k < T.1.length → tw k = z_tw T k) (hm : ∀ a b, a < T.1.length → b < T.1.length → a ≠ b → mt (8 * a + b) = z_cv (z_ld M (z_tw T) a b)) (h0 : ∀ a b, a < T.1.length → b < T.1.length → ¬ z_ld M (z_tw T) a b = -1000000) : z_KR T M dy (fun p => f_kn kd hs tw mt dy T.2.2.2.1.1 T.1.length p) := by
  intro p hp i hi
  show bt (f_kn kd hs tw mt dy T.2.2.2.1.1 T.1.length p) i = true ↔ _
  rw [z_knb hW hk hh ht hp hi]
  refine and_congr_right fun h1 => and_congr_right fun h2 => ?_
  unfold z_kn
  rw [decide_eq_true_iff, hm p i hp h1 (Ne.symm h2)]
  have h9 := h0 p i hp h1
  unfold z_cv
  by_cases e : z_ld M (z_tw T) p i = -100000
  · rw [if_pos e, e]
    constructor
    · rintro (h | h | ⟨-, h, -⟩)
      · exact Or.inr (Or.inl h)
      · exact Or.inr (Or.inr (Or.inl h))
      · exact absurd rfl h
    · rintro (h | h | h | ⟨-, h, -⟩)
      · exact absurd h.symm h2
      · exact Or.inl h
      · exact Or.inr (Or.inl h)
      · exact absurd rfl h
  · rw [if_neg e]
    constructor
    · rintro (h | h | ⟨h3, h4, h5⟩)
      · exact Or.inr (Or.inl h)
      · exact Or.inr (Or.inr (Or.inl h))
      · exact Or.inr (Or.inr (Or.inr ⟨h3, e, h5⟩))
    · rintro (h | h | h | ⟨h3, h4, h5⟩)
      · exact absurd h.symm h2
      · exact Or.inl h
      · exact Or.inr (Or.inl h)
      · exact Or.inr (Or.inr ⟨h3, h9, h5⟩)
theorem z_emb {T : x_T} (hW : z_Wp T) {es : List Int32} (h : z_We T es) : ∀ e ∈ es, ∃ j, j < 32 ∧ e = nI j := fun e he => by
  have h8 := hW.1
  obtain ⟨q, hq, h⟩ := z_em h he; exact ⟨q, by omega, h⟩
/-- a set and the eaters of a loaf -/
theorem z_meet {T : x_T} (hW : z_Wp T) {es : List Int32} (h : z_We T es) {x : Int32} : x &&& x_bits es = 0 ↔ ∀ q, q < T.1.length → nI q ∈ es → bt x q = false := by
  have h8 := hW.1
  rw [z_and0]
  constructor
  · intro h1 q hq h2
    cases e : bt x q
    · rfl
    · exact absurd ((z_xb (z_emb hW h) (by omega)).mpr h2) (by rw [h1 q (by omega) e]; decide)
  · intro h1 i hi h2
    cases e : bt (x_bits es) i
    · rfl
    · have h3 := (z_xb (z_emb hW h) hi).mp e
      obtain ⟨q, hq, h4⟩ := z_em h h3
      have h5 := (nI_eq (by omega) (by omega)).mp h4
      subst h5
      exact absurd h2 (by rw [h1 i hq h3]; decide)
theorem z_canK {T : x_T} (hW : z_Wp T) (hWl : z_Wl T) {M : Nat → Int32} {dy : Int32} {p l : Nat} (hl : l < T.2.1.length) : z_can T M dy p l = true ↔ ∀ q, q < T.1.length → nI q ∈ z_es T l → z_kn T M dy p q = false := by
  have h8 := hW.1
  have hE := (hWl.2 l hl).2.2.2.2
  unfold z_can
  rw [Bool.not_eq_true', List.any_eq_false]
  constructor
  · intro h q hq h1
    have := h _ h1
    rw [nI_clamp (by omega)] at this
    cases e : z_kn T M dy p q
    · rfl
    · exact absurd e this
  · intro h e he
    obtain ⟨q, hq, rfl⟩ := z_em hE he
    rw [nI_clamp (by omega), h q hq he]
    decide
theorem z_st {T : x_T} (hW : z_Wp T) (hWl : z_Wl T) {M kn : Nat → Int32} {dy : Int32} (hK : z_KR T M dy kn) {l : Nat} (hl : l < T.2.1.length) {i : Nat} (hi : i < 32) : bt (f_st kn (x_bits (z_es T l)) T.1.length) i = true ↔ i < T.1.length ∧ z_can T M dy i l = true := by
  have h8 := hW.1
  have hE := (hWl.2 l hl).2.2.2.2
  unfold f_st
  rw [z_fold (by omega) hi, decide_eq_true_iff]
  refine and_congr_right fun h1 => ?_
  rw [z_meet hW hE, z_canK hW hWl hl]
  refine forall_congr' fun q => forall_congr' fun hq => forall_congr' fun h2 => ?_
  rw [b_or, z_one (by omega) (by omega)]
  by_cases e : q = i
  · subst e
    rw [z_kn_self, decide_eq_true rfl, Bool.or_true]
  · rw [decide_eq_false e, Bool.or_false]
    have h3 := hK i h1 q (by omega)
    cases e1 : bt (kn i) q <;> cases e2 : z_kn T M dy i q
    · exact Iff.rfl
    · exact absurd (h3.mpr ⟨hq, e, e2⟩) (by rw [e1]; decide)
    · exact absurd ((h3.mp e1).2.2) (by rw [e2]; decide)
    · exact Iff.rfl
/-- what keeps one from cutting, as the class reckons -/
theorem z_hin {I : Nat → Nat → Int32} {t : Nat} {T : x_T} (hW : z_Wp T) (hWl : z_Wl T) (hT : k_tw I t T) {M : Nat → Int32} (hK : z_KR T M (I 47 0) (I 91)) {p l : Nat} (hp : p < T.1.length) (hl : l < T.2.1.length) : f_hin I t T.1.length p l = z_may T M (I 47 0) (I 47 1) (I 49 l) p l := by
  have h8 := hW.1
  have hE := (hWl.2 l hl).2.2.2.2
  obtain ⟨hTp, hTl, -⟩ := hT
  obtain ⟨l1, l2, l3, l4, l5, l6, l7, l8⟩ := hTl.2.2 l hl
  have q1 : f_pair (I (t + 4)) (nI p) &&& I (t + 14) l = 0 ↔ z_ea T p l = false := by
    rw [l7, z_meet hW hE]
    unfold z_ea
    rw [decide_eq_false_iff_not]
    constructor
    · rintro h (h1 | h1)
      · exact absurd ((z_pair hW hp (hTp.2.2 p hp).2.2.2 (by omega)).mpr (Or.inl rfl)) (by rw [h p hp h1]; decide)
      · obtain ⟨q, hq, e⟩ := z_em hE h1
        rw [e] at h1
        exact absurd ((z_pair hW hp (hTp.2.2 p hp).2.2.2 (show q < 32 by omega)).mpr (Or.inr e)) (by rw [h q hq h1]; decide)
    · intro h q hq h1
      cases e : bt (f_pair (I (t + 4)) (nI p)) q
      · rfl
      · rcases (z_pair hW hp (hTp.2.2 p hp).2.2.2 (show q < 32 by omega)).mp e with h2 | h2
        · exact absurd (Or.inl (h2 ▸ h1)) h
        · exact absurd (Or.inr (by rw [h2]; exact h1)) h
  have q2 : f_dw (I (t + 2)) ((1 : Int32) <<< (I (t + 2) p &&& 31)) T.1.length &&& I (t + 14) l = 0 ↔ z_eh T p (z_es T l) = false := by
    rw [l7, z_meet hW hE]
    unfold z_eh
    rw [List.any_eq_false]
    have hh : ∀ k, k < T.1.length → I (t + 2) k = (z_pp T k).2.1 := fun k hk => (hTp.2.2 k hk).2.1
    constructor
    · intro h e he
      obtain ⟨q, hq, rfl⟩ := z_em hE he
      rw [nI_clamp (by omega), decide_eq_true_iff]
      intro h1
      exact absurd ((z_dwh hW hh hp (show q < 32 by omega)).mpr ⟨hq, h1.symm⟩) (by rw [h q hq he]; decide)
    · intro h q hq h1
      cases e : bt (f_dw (I (t + 2)) ((1 : Int32) <<< (I (t + 2) p &&& 31)) T.1.length) q
      · rfl
      · have h2 := ((z_dwh hW hh hp (show q < 32 by omega)).mp e).2
        have h3 := h _ h1
        rw [nI_clamp (by omega), decide_eq_true_iff] at h3
        exact absurd h2.symm h3
  have q3 : I 91 p &&& I (t + 14) l = 0 ↔ z_ke T M (I 47 0) p (z_es T l) = false := by
    rw [l7, z_meet hW hE]
    unfold z_ke
    rw [List.any_eq_false]
    constructor
    · intro h e he
      obtain ⟨q, hq, rfl⟩ := z_em hE he
      rw [nI_clamp (by omega), Bool.and_eq_true, Bool.not_eq_true', decide_eq_false_iff_not]
      rintro ⟨h1, h2⟩
      exact absurd ((hK p hp q (by omega)).mpr ⟨hq, fun e => h1 (by rw [e]), h2⟩) (by rw [h q hq he]; decide)
    · intro h q hq h1
      cases e : bt (I 91 p) q
      · rfl
      · obtain ⟨-, h2, h3⟩ := (hK p hp q (by omega)).mp e
        have h4 := h _ h1
        rw [nI_clamp (by omega), h3, Bool.and_true, Bool.not_eq_true', decide_eq_false_iff_not] at h4
        exact absurd (fun e => h2 ((nI_eq (by omega) (by omega)).mp e)) h4
  unfold f_hin z_may
  by_cases e1 : z_ea T p l = true
  · rw [if_pos (fun h => absurd ((q1.mp h).symm.trans e1) (by decide)), if_pos e1]
  · have e1' : z_ea T p l = false := by cases h : z_ea T p l; rfl; exact absurd h e1
    rw [if_neg (fun h => h (q1.mpr e1')), if_neg e1]
    by_cases e2 : z_eh T p (z_es T l) = true
    · rw [if_pos (fun h => absurd ((q2.mp h).symm.trans e2) (by decide)), if_pos e2]
    · have e2' : z_eh T p (z_es T l) = false := by cases h : z_eh T p (z_es T l); rfl; exact absurd h e2
      rw [if_neg (fun h => h (q2.mpr e2')), if_neg e2]
      by_cases e3 : z_ke T M (I 47 0) p (z_es T l) = true
      · rw [if_pos (fun h => absurd ((q3.mp h).symm.trans e3) (by decide)), if_pos e3]
      · have e3' : z_ke T M (I 47 0) p (z_es T l) = false := by cases h : z_ke T M (I 47 0) p (z_es T l); rfl; exact absurd h e3
        rw [if_neg (fun h => h (q3.mpr e3')), if_neg e3, l3, l4]
        unfold z_mb
        have c1 : (I 47 0 = 0 ∧ I 47 1 < (z_ll T l).1.2.2.1) ↔ (I 47 0 = 0 ∧ ¬ (z_ll T l).1.2.2.1 ≤ I 47 1) := by rw [z_lI, z_leI, Int.not_le]
        have c2 : (0 < I 47 0 ∨ (z_ll T l).1.2.2.1 + (z_ll T l).1.2.2.2 < I 47 1) ↔ (0 < I 47 0 ∨ ¬ I 47 1 ≤ (z_ll T l).1.2.2.1 + (z_ll T l).1.2.2.2) := by rw [z_lI (x := (z_ll T l).1.2.2.1 + (z_ll T l).1.2.2.2), z_leI (y := (z_ll T l).1.2.2.1 + (z_ll T l).1.2.2.2), Int.not_le]
        simp only [c1, c2]
