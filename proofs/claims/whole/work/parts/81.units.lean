/-! PURE: HOW MANY SLICES -/
def z_cnt (P : Nat → Bool) (n : Nat) : Nat := lfold (fun i a => if P i = true then a + 1 else a) 0 n
def z_sm (f : Nat → Nat) (n : Nat) : Nat := lfold (fun i a => a + f i) 0 n
theorem z_sm_s (f : Nat → Nat) (n : Nat) : z_sm f (n + 1) = z_sm f n + f n := rfl
theorem z_cnt_s (P : Nat → Bool) (n : Nat) : z_cnt P (n + 1) = if P n = true then z_cnt P n + 1 else z_cnt P n := rfl
theorem z_sm_c {f g : Nat → Nat} : ∀ n : Nat, (∀ i, i < n → f i = g i) → z_sm f n = z_sm g n := by
  intro n
  induction n with
  | zero => intro _; rfl
  | succ n ih => intro h; rw [z_sm_s, z_sm_s, ih (fun i hi => h i (by omega)), h n (by omega)]
theorem z_sm_a (f g : Nat → Nat) : ∀ n : Nat, z_sm (fun i => f i + g i) n = z_sm f n + z_sm g n := by
  intro n
  induction n with
  | zero => rfl
  | succ n ih => rw [z_sm_s, z_sm_s, z_sm_s, ih]; omega
theorem z_sm_0 : ∀ n : Nat, z_sm (fun _ => 0) n = 0 := by
  intro n
  induction n with
  | zero => rfl
  | succ n ih => rw [z_sm_s, ih]
theorem z_sm_x (R : Nat → Nat → Nat) (M : Nat) : ∀ N : Nat, z_sm (fun i => z_sm (fun k => R i k) M) N = z_sm (fun k => z_sm (fun i => R i k) N) M := by
  intro N
  induction N with
  | zero => exact (z_sm_0 M).symm
  | succ N ih =>
    rw [z_sm_s, ih, ← z_sm_a]
    rfl
theorem z_cnt_m (P : Nat → Bool) : ∀ n : Nat, z_cnt P n = z_sm (fun i => if P i = true then 1 else 0) n := by
  intro n
  induction n with
  | zero => rfl
  | succ n ih =>
    rw [z_cnt_s, z_sm_s, ih]
    by_cases h : P n = true
    · rw [if_pos h, if_pos h]
    · rw [if_neg h, if_neg h]; omega
theorem z_cnt_0 {P : Nat → Bool} : ∀ n : Nat, (∀ k, k < n → P k = false) → z_cnt P n = 0 := by
  intro n
  induction n with
  | zero => intro _; rfl
  | succ n ih => intro h; rw [z_cnt_s, h n (by omega), ih (fun k hk => h k (by omega))]; rfl
theorem z_cnt_1 {P : Nat → Bool} : ∀ n : Nat, (∃ k, k < n ∧ P k = true ∧ ∀ j, j < n → P j = true → j = k) → z_cnt P n = 1 := by
  intro n
  induction n with
  | zero => rintro ⟨k, h, _⟩; omega
  | succ n ih =>
    rintro ⟨k, h1, h2, h3⟩
    rw [z_cnt_s]
    by_cases e : k = n
    · subst e
      rw [if_pos h2, z_cnt_0 k (fun j hj => by cases q : P j; rfl; have := h3 j (by omega) q; omega)]
    · rw [if_neg (fun q => e (h3 n (by omega) q).symm)]
      exact ih ⟨k, by omega, h2, fun j hj q => h3 j (by omega) q⟩
theorem z_cnt_c {P Q : Nat → Bool} (n : Nat) (h : ∀ k, k < n → P k = Q k) : z_cnt P n = z_cnt Q n := by
  rw [z_cnt_m, z_cnt_m]
  exact z_sm_c n fun i hi => by rw [h i hi]
/-- two sets are as large, if each of one goes with just one of the other -/
theorem z_bij {N M : Nat} {f g : Nat → Bool} (R : Nat → Nat → Bool) (hR : ∀ i k, R i k = true → f i = true ∧ g k = true) (hf : ∀ i, i < N → f i = true → ∃ k, k < M ∧ R i k = true ∧ ∀ j, j < M → R i j = true → j = k) (hg : ∀ k, k < M → g k = true → ∃ i, i < N ∧ R i k = true ∧ ∀ j, j < N → R j k = true → j = i) : z_cnt f N = z_cnt g M := by
  have e1 : z_cnt f N = z_sm (fun i => z_sm (fun k => if R i k = true then 1 else 0) M) N := by
    rw [z_cnt_m]
    refine z_sm_c N fun i hi => ?_
    rw [← z_cnt_m]
    by_cases h : f i = true
    · rw [if_pos h, z_cnt_1 M (hf i hi h)]
    · rw [if_neg h, z_cnt_0 M (fun k _ => by cases q : R i k; rfl; exact absurd (hR i k q).1 h)]
  have e2 : z_cnt g M = z_sm (fun k => z_sm (fun i => if R i k = true then 1 else 0) N) M := by
    rw [z_cnt_m]
    refine z_sm_c M fun k hk => ?_
    rw [← z_cnt_m (fun i => R i k)]
    by_cases h : g k = true
    · rw [if_pos h, z_cnt_1 N (hg k hk h)]
    · rw [if_neg h, z_cnt_0 N (fun i _ => by cases q : R i k; rfl; exact absurd (hR i k q).2 h)]
  rw [e1, e2]
  exact z_sm_x (fun i k => if R i k = true then 1 else 0) M N
theorem z_pb1 (ea : Nat → Int32) (p : Int32) : ∀ n j : Nat, (f_pb1 ea p j n = -1 ∧ ∀ k, j ≤ k → k < j + n → ¬ ea k = p) ∨ ∃ k, j ≤ k ∧ k < j + n ∧ ea k = p ∧ f_pb1 ea p j n = nI k := by
  intro n
  induction n with
  | zero => intro j; exact Or.inl ⟨rfl, fun k h1 h2 => by omega⟩
  | succ n ih =>
    intro j
    show ((if ea j = p then nI j else f_pb1 ea p (j + 1) n) = -1 ∧ _) ∨ ∃ k, _ ∧ _ ∧ _ ∧ (if ea j = p then nI j else f_pb1 ea p (j + 1) n) = nI k
    by_cases h : ea j = p
    · rw [if_pos h]; exact Or.inr ⟨j, by omega, by omega, h, rfl⟩
    · rw [if_neg h]
      rcases ih (j + 1) with ⟨h1, h2⟩ | ⟨k, h1, h2, h3, h4⟩
      · refine Or.inl ⟨h1, fun k h3 h4 => ?_⟩
        by_cases e : k = j
        · rw [e]; exact h
        · exact h2 k (by omega) (by omega)
      · exact Or.inr ⟨k, by omega, by omega, h3, h4⟩
/-- where his twin comes behind the i-th of the eaters -/
def z_up (T : x_T) (es : List Int32) (i : Nat) : Int32 := f_pb (fun j => es.getD j 0) (z_tw T (es.getD i 0).toNatClampNeg) i es.length
theorem z_up_v {T : x_T} {es : List Int32} (h6 : es.length ≤ 6) {i : Nat} (hi : i < es.length) : (z_up T es i = -1 ∧ ∀ k, i < k → k < es.length → ¬ es.getD k 0 = z_tw T (es.getD i 0).toNatClampNeg) ∨ ∃ k, i < k ∧ k < es.length ∧ es.getD k 0 = z_tw T (es.getD i 0).toNatClampNeg ∧ z_up T es i = nI k := by
  unfold z_up f_pb
  rcases z_pb1 (fun j => es.getD j 0) (z_tw T (es.getD i 0).toNatClampNeg) (es.length - (i + 1)) (i + 1) with ⟨h1, h2⟩ | ⟨k, h1, h2, h3, h4⟩
  · exact Or.inl ⟨h1, fun k h3 h4 => h2 k (by omega) (by omega)⟩
  · exact Or.inr ⟨k, by omega, by omega, h3, h4⟩
theorem z_up_u {T : x_T} {es : List Int32} (hE : z_We T es) {i j : Nat} (hi : i < es.length) (hj : j < es.length) (h : es.getD i 0 = es.getD j 0) : i = j := by
  rcases Nat.lt_trichotomy i j with h1 | h1 | h1
  · exact absurd h (hE.2.2.2 i j h1 hj)
  · exact h1
  · exact absurd h.symm (hE.2.2.2 j i h1 hi)
/-- how many slices -/
def z_mn (T : x_T) (es : List Int32) : Nat := z_cnt (fun i => decide (z_up T es i = -1)) es.length
theorem z_mn_b {T : x_T} {es : List Int32} (hE : z_We T es) : 1 ≤ z_mn T es ∧ z_mn T es ≤ 6 := by
  have hle : ∀ (P : Nat → Bool) (n : Nat), z_cnt P n ≤ n := fun P n => by
    induction n with
    | zero => exact Nat.le_refl 0
    | succ n ih => rw [z_cnt_s]; split <;> omega
  refine ⟨?_, Nat.le_trans (hle _ _) hE.2.1⟩
  unfold z_mn
  have h1 := hE.1
  have e : es.length = (es.length - 1) + 1 := by omega
  rw [e, z_cnt_s, if_pos]
  · omega
  · rcases z_up_v hE.2.1 (T := T) (show es.length - 1 < es.length by omega) with ⟨h, -⟩ | ⟨k, h2, h3, -, -⟩
    · rw [h]; decide
    · omega
theorem z_sc {T : x_T} (hW : z_Wp T) {tw : Nat → Int32} (ht : ∀ k, k < T.1.length → tw k = z_tw T k) {es : List Int32} (hE : z_We T es) : f_sc tw (x_bits es) T.1.length = nI (z_mn T es) := by
  have h8 := hW.1
  have hmem : ∀ q, q < T.1.length → (bt (x_bits es) q = true ↔ nI q ∈ es) := fun q hq => z_xb (z_emb hW hE) (by omega)
  have hpos : ∀ q, q < T.1.length → nI q ∈ es → ∃ i, i < es.length ∧ es.getD i 0 = nI q := fun q hq h => by
    obtain ⟨i, hi, e⟩ := List.getElem_of_mem h
    exact ⟨i, hi, by rw [z_gd hi]; exact e⟩
  have hget : ∀ i, i < es.length → es.getD i 0 ∈ es := fun i hi => by rw [z_gd hi]; exact List.getElem_mem hi
  -- the class's count, by people
  have e1 : f_sc tw (x_bits es) T.1.length = nI (z_cnt (fun p => decide (nI p ∈ es ∧ ¬ ∃ q, q < p ∧ z_tw T p = nI q ∧ nI q ∈ es)) T.1.length) := by
    unfold f_sc z_cnt
    have key : ∀ n, n ≤ T.1.length → lfold (fun k (a : Int32) => if f_has (x_bits es) (nI k) && !(decide (¬ tw k = -1) && decide (tw k < nI k) && f_has (x_bits es) (tw k)) then a + 1 else a) 0 n = nI (lfold (fun p a => if decide (nI p ∈ es ∧ ¬ ∃ q, q < p ∧ z_tw T p = nI q ∧ nI q ∈ es) = true then a + 1 else a) 0 n) := by
      intro n
      induction n with
      | zero => intro _; rfl
      | succ n ih =>
        intro hn
        have ih := ih (by omega)
        show (if f_has (x_bits es) (nI n) && !(decide (¬ tw n = -1) && decide (tw n < nI n) && f_has (x_bits es) (tw n)) then _ + 1 else _) = nI (if decide (nI n ∈ es ∧ ¬ ∃ q, q < n ∧ z_tw T n = nI q ∧ nI q ∈ es) = true then _ + 1 else _)
        rw [ih]
        have hc : (f_has (x_bits es) (nI n) && !(decide (¬ tw n = -1) && decide (tw n < nI n) && f_has (x_bits es) (tw n))) = decide (nI n ∈ es ∧ ¬ ∃ q, q < n ∧ z_tw T n = nI q ∧ nI q ∈ es) := by
          apply z_iff
          rw [Bool.and_eq_true, decide_eq_true_iff, z_has (by omega), hmem n (by omega), ht n (by omega), Bool.not_eq_true']
          refine and_congr_right fun _ => ?_
          rcases z_twv hW (show n < T.1.length by omega) with h | ⟨q, hq, hne, h, -⟩
          · rw [h]
            refine ⟨fun _ => ?_, fun _ => rfl⟩
            rintro ⟨q, hq, e, -⟩
            exact z_nm1 (by omega) e.symm
          · rw [h, decide_eq_true (z_nm1 (by omega)), z_has (by omega), Bool.true_and]
            by_cases e : q < n
            · rw [decide_eq_true (nI_lt e (by omega)), Bool.true_and]
              constructor
              · rintro h2 ⟨q', hq', e', h3⟩
                have := (nI_eq (by omega) (by omega)).mp e'
                subst this
                rw [(hmem q hq).mpr h3] at h2; exact Bool.noConfusion h2
              · intro h2
                cases h3 : bt (x_bits es) q
                · rfl
                · exact absurd ⟨q, e, rfl, (hmem q hq).mp h3⟩ h2
            · rw [decide_eq_false (nI_nlt (by omega) (by omega)), Bool.false_and]
              refine ⟨fun _ => ?_, fun _ => rfl⟩
              rintro ⟨q', hq', e', -⟩
              have := (nI_eq (by omega) (by omega)).mp e'
              omega
        rw [hc]
        by_cases e : decide (nI n ∈ es ∧ ¬ ∃ q, q < n ∧ z_tw T n = nI q ∧ nI q ∈ es) = true
        · rw [if_pos e, if_pos e, nI_1]
        · rw [if_neg e, if_neg e]
    exact key _ (Nat.le_refl _)
  rw [e1]
  congr 1
  unfold z_mn
  refine z_bij (fun p i => decide (p < T.1.length ∧ i < es.length ∧ (nI p ∈ es ∧ ¬ ∃ q, q < p ∧ z_tw T p = nI q ∧ nI q ∈ es) ∧ z_up T es i = -1 ∧ (es.getD i 0 = nI p ∨ es.getD i 0 = z_tw T p))) (fun p i h => by rw [decide_eq_true_iff] at h; exact ⟨decide_eq_true h.2.2.1, decide_eq_true h.2.2.2.1⟩) ?_ ?_
  · intro p hp h
    rw [decide_eq_true_iff] at h
    obtain ⟨i, hi, ei⟩ := hpos p hp h.1
    by_cases h2 : ∃ k, k < es.length ∧ es.getD k 0 = z_tw T p
    · obtain ⟨k, hk, ek⟩ := h2
      have hne : i ≠ k := fun e => by
        subst e
        rcases z_twv hW hp with h3 | ⟨q, hq, hq2, h3, -⟩
        · rw [ei, h3] at ek; exact z_nm1 (by omega) ek
        · rw [ei, h3] at ek; exact hq2 ((nI_eq (by omega) (by omega)).mp ek.symm)
      obtain ⟨q, hq, hq2, h3, h4⟩ : ∃ q, q < T.1.length ∧ q ≠ p ∧ z_tw T p = nI q ∧ z_tw T q = nI p := by
        rcases z_twv hW hp with h3 | h3
        · obtain ⟨q, hq, e⟩ := z_em hE (hget k hk)
          rw [ek, h3] at e; exact absurd e.symm (z_nm1 (by omega))
        · exact h3
      have upi : i < k → ¬ z_up T es i = -1 := fun hik h5 => by
        rcases z_up_v hE.2.1 (T := T) hi with ⟨-, h6⟩ | ⟨k', -, hk', -, h6⟩
        · exact h6 k hik hk (by rw [ek, ei, nI_clamp (by omega)])
        · have := hE.2.1; rw [h5] at h6; exact z_nm1 (by omega) h6.symm
      have upk : k < i → ¬ z_up T es k = -1 := fun hik h5 => by
        rcases z_up_v hE.2.1 (T := T) hk with ⟨-, h6⟩ | ⟨k', -, hk', -, h6⟩
        · exact h6 i hik hi (by rw [ei, ek, h3, nI_clamp (by omega), h4])
        · have := hE.2.1; rw [h5] at h6; exact z_nm1 (by omega) h6.symm
      have upi2 : k < i → z_up T es i = -1 := fun hik => by
        rcases z_up_v hE.2.1 (T := T) hi with ⟨h5, -⟩ | ⟨k', h5, hk', h6, -⟩
        · exact h5
        · rw [ei, nI_clamp (by omega), ← ek] at h6
          have := z_up_u hE hk' hk h6; omega
      have upk2 : i < k → z_up T es k = -1 := fun hik => by
        rcases z_up_v hE.2.1 (T := T) hk with ⟨h5, -⟩ | ⟨k', h5, hk', h6, -⟩
        · exact h5
        · rw [ek, h3, nI_clamp (by omega), h4, ← ei] at h6
          have := z_up_u hE hk' hi h6; omega
      by_cases hik : i < k
      · refine ⟨k, hk, decide_eq_true ⟨hp, hk, h, upk2 hik, Or.inr ek⟩, fun j hj hj2 => ?_⟩
        rw [decide_eq_true_iff] at hj2
        obtain ⟨-, -, -, g1, g2 | g2⟩ := hj2
        · have := z_up_u hE hj hi (g2.trans ei.symm); subst this; exact absurd g1 (upi hik)
        · exact z_up_u hE hj hk (g2.trans ek.symm)
      · have hki : k < i := by omega
        refine ⟨i, hi, decide_eq_true ⟨hp, hi, h, upi2 hki, Or.inl ei⟩, fun j hj hj2 => ?_⟩
        rw [decide_eq_true_iff] at hj2
        obtain ⟨-, -, -, g1, g2 | g2⟩ := hj2
        · exact z_up_u hE hj hi (g2.trans ei.symm)
        · have := z_up_u hE hj hk (g2.trans ek.symm); subst this; exact absurd g1 (upk hki)
    · refine ⟨i, hi, decide_eq_true ⟨hp, hi, h, ?_, Or.inl ei⟩, fun j hj hj2 => ?_⟩
      · rcases z_up_v hE.2.1 (T := T) hi with ⟨h5, -⟩ | ⟨k', h5, hk', h6, -⟩
        · exact h5
        · rw [ei, nI_clamp (by omega)] at h6; exact absurd ⟨k', hk', h6⟩ h2
      · rw [decide_eq_true_iff] at hj2
        obtain ⟨-, -, -, g1, g2 | g2⟩ := hj2
        · exact z_up_u hE hj hi (g2.trans ei.symm)
        · exact absurd ⟨j, hj, g2⟩ h2
  · intro i hi h
    rw [decide_eq_true_iff] at h
    obtain ⟨p, hp, ep⟩ := hE.2.2.1 i hi
    have hmp : nI p ∈ es := by rw [← ep]; exact hget i hi
    by_cases h2 : ∃ q, q < T.1.length ∧ z_tw T p = nI q ∧ nI q ∈ es
    · obtain ⟨q, hq, e1, e2⟩ := h2
      obtain ⟨q', hq', hne, e3, e4⟩ : ∃ q, q < T.1.length ∧ q ≠ p ∧ z_tw T p = nI q ∧ z_tw T q = nI p := by
        rcases z_twv hW hp with h3 | h3
        · rw [h3] at e1; exact absurd e1.symm (z_nm1 (by omega))
        · exact h3
      have e5 := (nI_eq (by omega) (by omega)).mp (e3.symm.trans e1)
      subst e5
      have only : ∀ j, j < T.1.length → (es.getD i 0 = nI j ∨ es.getD i 0 = z_tw T j) → j = p ∨ j = q' := fun j hj g => by
        rcases g with g | g
        · exact Or.inl ((nI_eq (by omega) (by omega)).mp (g.symm.trans ep))
        · rcases z_twv hW hj with h3 | ⟨x, hx, -, h3, h4⟩
          · rw [ep, h3] at g; exact absurd g (z_nm1 (by omega))
          · rw [ep, h3] at g
            have := (nI_eq (by omega) (by omega)).mp g
            subst this
            rw [e3] at h4
            exact Or.inr ((nI_eq (by omega) (by omega)).mp h4.symm)
      by_cases hpq : p < q'
      · have hf : nI p ∈ es ∧ ¬ ∃ q, q < p ∧ z_tw T p = nI q ∧ nI q ∈ es := ⟨hmp, fun ⟨x, hx, g, _⟩ => by
          have := (nI_eq (by omega) (by omega)).mp (g.symm.trans e3); omega⟩
        refine ⟨p, hp, decide_eq_true ⟨hp, hi, hf, h, Or.inl ep⟩, fun j hj hj2 => ?_⟩
        rw [decide_eq_true_iff] at hj2
        rcases only j hj hj2.2.2.2.2 with g | g
        · exact g
        · subst g; exact absurd ⟨p, hpq, e4, hmp⟩ hj2.2.2.1.2
      · have hqp : q' < p := by omega
        have hf : nI q' ∈ es ∧ ¬ ∃ q, q < q' ∧ z_tw T q' = nI q ∧ nI q ∈ es := ⟨e2, fun ⟨x, hx, g, _⟩ => by
          have := (nI_eq (by omega) (by omega)).mp (g.symm.trans e4); omega⟩
        refine ⟨q', hq, decide_eq_true ⟨hq, hi, hf, h, Or.inr (by rw [e4]; exact ep)⟩, fun j hj hj2 => ?_⟩
        rw [decide_eq_true_iff] at hj2
        rcases only j hj hj2.2.2.2.2 with g | g
        · subst g; exact absurd ⟨q', hqp, e3, e2⟩ hj2.2.2.1.2
        · exact g
    · have hf : nI p ∈ es ∧ ¬ ∃ q, q < p ∧ z_tw T p = nI q ∧ nI q ∈ es := ⟨hmp, fun ⟨x, hx, g1, g2⟩ => h2 ⟨x, by omega, g1, g2⟩⟩
      refine ⟨p, hp, decide_eq_true ⟨hp, hi, hf, h, Or.inl ep⟩, fun j hj hj2 => ?_⟩
      rw [decide_eq_true_iff] at hj2
      obtain ⟨-, -, ⟨g0, -⟩, g1, g2 | g2⟩ := hj2
      · exact (nI_eq (by omega) (by omega)).mp (g2.symm.trans ep)
      · rcases z_twv hW hj with h3 | ⟨x, hx, -, h3, h4⟩
        · rw [ep, h3] at g2; exact absurd g2 (z_nm1 (by omega))
        · rw [ep, h3] at g2
          have := (nI_eq (by omega) (by omega)).mp g2
          subst this
          exact absurd ⟨j, hj, h4, g0⟩ h2
