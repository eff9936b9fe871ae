/-! PURE: AS MANY AS CANNOT BE HELPED -/
theorem z_ct_p {P : Nat → Bool} {n : Nat} : 0 < z_ct P n ↔ ∃ p, p < n ∧ P p = true := by
  constructor
  · intro h
    induction n with
    | zero => exact absurd h (Nat.lt_irrefl 0)
    | succ n ih =>
      rw [z_ct_s] at h
      by_cases e : P n = true
      · exact ⟨n, by omega, e⟩
      · rw [if_neg e] at h
        obtain ⟨p, hp, h2⟩ := ih h
        exact ⟨p, by omega, h2⟩
  · rintro ⟨p, hp, h⟩
    have := z_ct_u (P := fun l => P l && decide (l ≠ p)) (Q := P) hp (fun l hl => by show (P l && decide (l ≠ p)) = P l; rw [decide_eq_true hl, Bool.and_true]) (by show (P p && decide (p ≠ p)) = false; rw [decide_eq_false (fun h => h rfl), Bool.and_false]) h
    omega
theorem z_ct_d (P Q : Nat → Bool) (n : Nat) : z_ct P n = z_ct (fun l => P l && Q l) n + z_ct (fun l => P l && !Q l) n := by
  induction n with
  | zero => rfl
  | succ n ih =>
    rw [z_ct_s, z_ct_s, z_ct_s, ih]
    cases P n <;> cases Q n <;> simp <;> omega
theorem z_inj {R : Nat → Nat → Prop} {m : Nat} : ∀ (n : Nat) (P Q : Nat → Bool), (∀ p, p < n → P p = true → ∃ b, b < m ∧ Q b = true ∧ R p b) → (∀ p p' b, p < n → p' < n → b < m → R p b → R p' b → p = p') → z_ct P n ≤ z_ct Q m := by
  intro n
  induction n with
  | zero => intro P Q _ _; exact Nat.zero_le _
  | succ n ih =>
    intro P Q h1 h2
    rw [z_ct_s]
    by_cases e : P n = true
    · rw [if_pos e]
      obtain ⟨b, hb, hQ, hR⟩ := h1 n (by omega) e
      have h3 := z_ct_u (P := fun l => Q l && decide (l ≠ b)) (Q := Q) hb (fun l hl => by show (Q l && decide (l ≠ b)) = Q l; rw [decide_eq_true hl, Bool.and_true]) (by show (Q b && decide (b ≠ b)) = false; rw [decide_eq_false (fun h => h rfl), Bool.and_false]) hQ
      have h4 := ih P (fun l => Q l && decide (l ≠ b)) (fun p hp hP => by
        obtain ⟨b', hb', hQ', hR'⟩ := h1 p (by omega) hP
        refine ⟨b', hb', ?_, hR'⟩
        show (Q b' && decide (b' ≠ b)) = true
        rw [hQ', Bool.true_and]
        refine decide_eq_true (fun e2 => ?_)
        rw [e2] at hR'
        have := h2 p n b (by omega) (by omega) hb hR' hR
        omega) (fun p p' b' hp hp' hb' => h2 p p' b' (by omega) (by omega) hb')
      omega
    · rw [if_neg e]
      exact ih P Q (fun p hp => h1 p (by omega)) (fun p p' b' hp hp' => h2 p p' b' (by omega) (by omega))
theorem z_ct_1 {P : Nat → Bool} {n p q : Nat} (h : z_ct P n ≤ 1) (hp : p < n) (hq : q < n) (h1 : P p = true) (h2 : P q = true) : p = q := by
  by_cases e : p = q
  · exact e
  · have h3 := z_ct_u (P := fun l => P l && decide (l ≠ p)) (Q := P) hp (fun l hl => by show (P l && decide (l ≠ p)) = P l; rw [decide_eq_true hl, Bool.and_true]) (by show (P p && decide (p ≠ p)) = false; rw [decide_eq_false (fun h => h rfl), Bool.and_false]) h1
    have h4 : 0 < z_ct (fun l => P l && decide (l ≠ p)) n := z_ct_p.mpr ⟨q, hq, by show (P q && decide (q ≠ p)) = true; rw [h2, decide_eq_true (show q ≠ p from fun e2 => e e2.symm)]; rfl⟩
    omega
/-- how many hold b -/
def z_cn (h : Nat → Int32) (n b : Nat) : Nat := z_ct (fun p => decide (h p = nI b)) n
theorem z_cn_p {h : Nat → Int32} {n b : Nat} : 0 < z_cn h n b ↔ ∃ p, p < n ∧ h p = nI b := by
  unfold z_cn
  rw [z_ct_p]
  constructor
  · rintro ⟨p, hp, e⟩; exact ⟨p, hp, of_decide_eq_true e⟩
  · rintro ⟨p, hp, e⟩; exact ⟨p, hp, decide_eq_true e⟩
/-- the helpers found for the loaves before i, u of them unhelped -/
def z_hI (n m : Nat) (c : Nat → Nat → Bool) (U : Nat → Bool) (i : Nat) (h : Nat → Int32) (u : Nat) (S X : Nat → Bool) : Prop :=
  z_V n m c h ∧ (∀ b, b < m → z_cn h n b ≤ 1) ∧ (∀ b, b < m → (i ≤ b ∨ U b = false) → z_cn h n b = 0) ∧ (∀ b, b < m → S b = true → b < i ∧ U b = true) ∧ z_hc n m c h S X ∧ (∀ b, b < m → b < i → U b = true → z_cn h n b = 0 → S b = true) ∧ u = z_ct (fun b => U b && (decide (b < i) && decide (z_cn h n b = 0))) m
theorem z_hI_n {n m : Nat} {c : Nat → Nat → Bool} {U : Nat → Bool} {i : Nat} {h : Nat → Int32} {u : Nat} {S X : Nat → Bool} (H : z_hI n m c U i h u S X) (hU : U i = false) : z_hI n m c U (i + 1) h u S X := by
  obtain ⟨h1, h2, h3, h4, h5, h6, h7⟩ := H
  refine ⟨h1, h2, fun b hb q => h3 b hb (by rcases q with q | q; exact Or.inl (by omega); exact Or.inr q), fun b hb hs => ⟨by have := (h4 b hb hs).1; omega, (h4 b hb hs).2⟩, h5, fun b hb hi hu hz => ?_, ?_⟩
  · by_cases e : b = i
    · rw [e, hU] at hu; exact Bool.noConfusion hu
    · exact h6 b hb (by omega) hu hz
  · rw [h7]
    refine z_ct_c fun b _ => ?_
    by_cases e : b = i
    · rw [e, hU]; rfl
    · rw [show decide (b < i) = decide (b < i + 1) by by_cases q : b < i; rw [decide_eq_true q, decide_eq_true (show b < i + 1 by omega)]; rw [decide_eq_false q, decide_eq_false (show ¬ b < i + 1 by omega)]]
theorem z_hI_t {n m : Nat} {c : Nat → Nat → Bool} {U : Nat → Bool} {i : Nat} {I I' : g_I} {u : Nat} {S X : Nat → Bool} (H : z_hI n m c U i (I 130) u S X) (hi : i < m) (hU : U i = true) (hS : z_hS n m c i I true I') : z_hI n m c U (i + 1) (I' 130) u S X := by
  obtain ⟨h1, h2, h3, h4, h5, h6, h7⟩ := H
  obtain ⟨-, q2, -, q4, q5⟩ := hS
  have hc : ∀ b, b < m → z_cn (I' 130) n b = z_cn (I 130) n b + if b = i then 1 else 0 := q4 rfl
  have hX := (q5 S X h5).2
  refine ⟨q2, fun b hb => ?_, fun b hb q => ?_, fun b hb hs => ⟨by have := (h4 b hb hs).1; omega, (h4 b hb hs).2⟩, ⟨h5.1, fun p hp hx => ?_⟩, fun b hb hi hu hz => ?_, ?_⟩
  · rw [hc b hb]
    by_cases e : b = i
    · rw [if_pos e, h3 b hb (Or.inl (by omega))]; exact Nat.le_refl _
    · rw [if_neg e]; exact h2 b hb
  · have e : ¬ b = i := fun e => by
      rcases q with q | q
      · omega
      · rw [e, hU] at q; exact Bool.noConfusion q
    rw [hc b hb, if_neg e]
    exact h3 b hb (by rcases q with q | q; exact Or.inl (by omega); exact Or.inr q)
  · rw [hX p hp hx]; exact h5.2 p hp hx
  · have e : ¬ b = i := fun e => by rw [hc b hb, if_pos e] at hz; omega
    rw [hc b hb, if_neg e] at hz
    exact h6 b hb (by omega) hu hz
  · rw [h7]
    refine z_ct_c fun b hb => ?_
    rw [hc b hb]
    by_cases e : b = i
    · rw [if_pos e, e, decide_eq_false (show ¬ i < i by omega), decide_eq_false (show ¬ z_cn (I 130) n i + 1 = 0 by omega), Bool.and_false]; rfl
    · rw [if_neg e, show decide (b < i) = decide (b < i + 1) by by_cases q : b < i; rw [decide_eq_true q, decide_eq_true (show b < i + 1 by omega)]; rw [decide_eq_false q, decide_eq_false (show ¬ b < i + 1 by omega)]]
      rfl
theorem z_hI_f {n m : Nat} {c : Nat → Nat → Bool} {U : Nat → Bool} {i : Nat} {I I' : g_I} {u : Nat} {S X : Nat → Bool} (hm : m ≤ 6) (H : z_hI n m c U i (I 130) u S X) (hi : i < m) (hU : U i = true) (h0 : I 101 50 = 0) (hS : z_hS n m c i I false I') : ∃ S' X', z_hI n m c U (i + 1) (I' 130) (u + 1) S' X' := by
  obtain ⟨h1, h2, h3, h4, h5, h6, h7⟩ := H
  obtain ⟨-, q2, q3, -, -⟩ := hS
  obtain ⟨⟨g1, g2⟩, g3⟩ := q3 rfl
  have hcn : ∀ b, z_cn (I' 130) n b = z_cn (I 130) n b := fun b => z_ct_c fun p hp => by rw [g1 p hp]
  have g2' : ∀ p, p < n → bt (I' 101 50) p = true → ∃ b1, b1 < m ∧ I 130 p = nI b1 ∧ ∀ q, q < n → c b1 q = true → bt (I' 101 50) q = true := fun p hp e => g2 p hp e (by rw [h0, b_0])
  have hS' : ∀ b, (S b || (decide (b = i) || decide (0 < z_ct (fun p => bt (I' 101 50) p && decide (I 130 p = nI b)) n))) = true ↔ S b = true ∨ b = i ∨ ∃ p, p < n ∧ bt (I' 101 50) p = true ∧ I 130 p = nI b := fun b => by
    rw [Bool.or_eq_true, Bool.or_eq_true, decide_eq_true_iff, decide_eq_true_iff, z_ct_p]
    refine or_congr Iff.rfl (or_congr Iff.rfl (exists_congr fun p => and_congr Iff.rfl ?_))
    rw [Bool.and_eq_true, decide_eq_true_iff]
  refine ⟨fun b => S b || (decide (b = i) || decide (0 < z_ct (fun p => bt (I' 101 50) p && decide (I 130 p = nI b)) n)), fun p => X p || bt (I' 101 50) p, q2, fun b hb => by rw [hcn]; exact h2 b hb, fun b hb q => by rw [hcn]; exact h3 b hb (by rcases q with q | q; exact Or.inl (by omega); exact Or.inr q), fun b hb hs => ?_, ⟨fun b hb hs q hq hcq => ?_, fun p hp hx => ?_⟩, fun b hb hbi hu hz => ?_, ?_⟩
  · rcases (hS' b).mp hs with q | q | ⟨p, hp, -, e⟩
    · exact ⟨by have := (h4 b hb q).1; omega, (h4 b hb q).2⟩
    · rw [q]; exact ⟨by omega, hU⟩
    · have hpos : 0 < z_cn (I 130) n b := z_cn_p.mpr ⟨p, hp, e⟩
      refine ⟨?_, ?_⟩
      · by_cases q : b < i
        · omega
        · rw [h3 b hb (Or.inl (by omega))] at hpos; exact absurd hpos (Nat.lt_irrefl 0)
      · cases q : U b
        · rw [h3 b hb (Or.inr q)] at hpos; exact absurd hpos (Nat.lt_irrefl 0)
        · rfl
  · show (X q || bt (I' 101 50) q) = true
    rcases (hS' b).mp hs with k | k | ⟨p, hp, e1, e⟩
    · rw [h5.1 b hb k q hq hcq]; rfl
    · rw [k] at hcq; rw [g3 q hq hcq, Bool.or_true]
    · obtain ⟨b1, hb1, e2, e3⟩ := g2' p hp e1
      have : b = b1 := (nI_eq (by omega) (by omega)).mp (e.symm.trans e2)
      rw [this] at hcq
      rw [e3 q hq hcq, Bool.or_true]
  · rw [g1 p hp]
    have hx' : (X p || bt (I' 101 50) p) = true := hx
    rw [Bool.or_eq_true] at hx'
    rcases hx' with k | k
    · obtain ⟨b, hb, e1, e2⟩ := h5.2 p hp k
      exact ⟨b, hb, (hS' b).mpr (Or.inl e1), e2⟩
    · obtain ⟨b, hb, e1, e2⟩ := g2' p hp k
      exact ⟨b, hb, (hS' b).mpr (Or.inr (Or.inr ⟨p, hp, k, e1⟩)), e1⟩
  · refine (hS' b).mpr ?_
    by_cases e : b = i
    · exact Or.inr (Or.inl e)
    · rw [hcn] at hz
      exact Or.inl (h6 b hb (by omega) hu hz)
  · rw [h7]
    refine (z_ct_u (k := i) hi (fun b hb => ?_) ?_ ?_).symm
    · show (U b && (decide (b < i) && decide (z_cn (I 130) n b = 0))) = (U b && (decide (b < i + 1) && decide (z_cn (I' 130) n b = 0)))
      rw [hcn, show decide (b < i) = decide (b < i + 1) by by_cases q : b < i; rw [decide_eq_true q, decide_eq_true (show b < i + 1 by omega)]; rw [decide_eq_false q, decide_eq_false (show ¬ b < i + 1 by omega)]]
    · show (U i && (decide (i < i) && decide (z_cn (I 130) n i = 0))) = false
      rw [decide_eq_false (Nat.lt_irrefl i), Bool.false_and, Bool.and_false]
    · show (U i && (decide (i < i + 1) && decide (z_cn (I' 130) n i = 0))) = true
      rw [hcn, hU, decide_eq_true (show i < i + 1 by omega), decide_eq_true (h3 i hi (Or.inl (Nat.le_refl i)))]; rfl
/-- never more than u, and somewhere u -/
theorem z_hall {n m : Nat} {c : Nat → Nat → Bool} {U : Nat → Bool} {h : Nat → Int32} {u : Nat} {S X : Nat → Bool} (hm : m ≤ 6) (H : z_hI n m c U m h u S X) : (∀ A N : Nat → Bool, (∀ b, b < m → A b = true → U b = true) → (∀ b, b < m → A b = true → ∀ p, p < n → c b p = true → N p = true) → z_ct A m ≤ z_ct N n + u) ∧ z_ct X n + u ≤ z_ct S m := by
  obtain ⟨h1, h2, h3, h4, h5, h6, h7⟩ := H
  constructor
  · intro A N hA hN
    rw [z_ct_d A (fun b => decide (z_cn h n b = 0)) m]
    have e1 : z_ct (fun b => A b && decide (z_cn h n b = 0)) m ≤ u := by
      rw [h7]
      refine z_ct_m fun b hb e => ?_
      have e' : (A b && decide (z_cn h n b = 0)) = true := e
      rw [Bool.and_eq_true] at e'
      show (U b && (decide (b < m) && decide (z_cn h n b = 0))) = true
      rw [hA b hb e'.1, decide_eq_true hb, e'.2]; rfl
    have e2 : z_ct (fun b => A b && !decide (z_cn h n b = 0)) m ≤ z_ct N n := by
      refine z_inj (R := fun b p => h p = nI b) m _ N (fun b hb e => ?_) (fun b b' p hb hb' hp r1 r2 => (nI_eq (by omega) (by omega)).mp (r1.symm.trans r2))
      have e' : (A b && !decide (z_cn h n b = 0)) = true := e
      rw [Bool.and_eq_true, Bool.not_eq_true', decide_eq_false_iff_not] at e'
      obtain ⟨p, hp, ep⟩ := z_cn_p.mp (show 0 < z_cn h n b by have := e'.2; omega)
      obtain ⟨b1, hb1, q1, q2⟩ := (h1 p hp).resolve_left (fun q => z_nm1 (show b < 2 ^ 31 by omega) (ep.symm.trans q))
      have : b = b1 := (nI_eq (by omega) (by omega)).mp (ep.symm.trans q1)
      exact ⟨p, hp, hN b hb e'.1 p hp (by rw [this]; exact q2), ep⟩
    omega
  · rw [z_ct_d S (fun b => decide (z_cn h n b = 0)) m]
    have e1 : u ≤ z_ct (fun b => S b && decide (z_cn h n b = 0)) m := by
      rw [h7]
      refine z_ct_m fun b hb e => ?_
      have e' : (U b && (decide (b < m) && decide (z_cn h n b = 0))) = true := e
      rw [Bool.and_eq_true, Bool.and_eq_true, decide_eq_true_iff] at e'
      show (S b && decide (z_cn h n b = 0)) = true
      rw [h6 b hb hb e'.1 (of_decide_eq_true e'.2.2), e'.2.2]; rfl
    have e2 : z_ct X n ≤ z_ct (fun b => S b && !decide (z_cn h n b = 0)) m := by
      refine z_inj (R := fun p b => h p = nI b) n X _ (fun p hp e => ?_) (fun p p' b hp hp' hb r1 r2 => z_ct_1 (h2 b hb) hp hp' (decide_eq_true r1) (decide_eq_true r2))
      obtain ⟨b, hb, q1, q2⟩ := h5.2 p hp e
      refine ⟨b, hb, ?_, q2⟩
      have := z_cn_p.mpr ⟨p, hp, q2⟩
      show (S b && !decide (z_cn h n b = 0)) = true
      rw [q1, decide_eq_false (show ¬ z_cn h n b = 0 by omega)]; rfl
    omega
