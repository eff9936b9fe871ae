/-! PURE: THE CLASS'S CARRIER -/
def z_en : Option Nat → Int32
  | none => -1
  | some k => nI k
theorem z_muC {hs ta lh : Nat → Int32} {p op : Nat} {fr un : Nat → Nat} (hop : op ≤ 5) (hfr : ∀ k, k < op → (hs (5 * p + k) = -1 → 50 ≤ fr k) ∧ (¬ hs (5 * p + k) = -1 → ta (5 * p + k) = nI (fr k) ∧ fr k < 1000)) (hun : ∀ k, k < op → lh k = nI (un k) ∧ un k < 1000) {b : Int32} {h : Nat} (hh : h < 50) : ∀ j, j ≤ op → f_mu hs ta lh p b (nI h) j = z_en (z_mu fr un (bt b) h j) := by
  intro j
  induction j with
  | zero => intro _; rfl
  | succ j ih =>
    intro hj
    have hst : f_mu hs ta lh p b (nI h) (j + 1) = if (f_has b (nI j) = true ∧ ¬ hs (5 * p + j) = -1 ∧ ¬ nI h < ta (5 * p + j)) ∧ (f_mu hs ta lh p b (nI h) j = -1 ∨ lh j < lh (f_mu hs ta lh p b (nI h) j).toNatClampNeg) then nI j else f_mu hs ta lh p b (nI h) j := rfl
    rw [hst, z_mu_s, ih (by omega), z_has (by omega)]
    have hav : (¬ hs (5 * p + j) = -1 ∧ ¬ nI h < ta (5 * p + j)) ↔ fr j ≤ h := by
      obtain ⟨a1, a2⟩ := hfr j (by omega)
      by_cases q : hs (5 * p + j) = -1
      · have := a1 q
        exact ⟨fun r => absurd q r.1, fun r => by omega⟩
      · obtain ⟨e, e2⟩ := a2 q
        rw [e, nI_ltI (by omega) (by omega)]
        exact ⟨fun r => by have := r.2; omega, fun r => ⟨q, by omega⟩⟩
    have hul : (z_en (z_mu fr un (bt b) h j) = -1 ∨ lh j < lh (z_en (z_mu fr un (bt b) h j)).toNatClampNeg) ↔ z_ul un j (z_mu fr un (bt b) h j) = true := by
      rcases z_mu_c (fr := fr) (un := un) (A := bt b) (h := h) j with ⟨m, -⟩ | ⟨k, m, hk, -⟩
      · rw [m]; exact ⟨fun _ => rfl, fun _ => Or.inl rfl⟩
      · rw [m]
        show (nI k = -1 ∨ lh j < lh (nI k).toNatClampNeg) ↔ decide (un j < un k) = true
        rw [nI_clamp (by omega), (hun j (by omega)).1, (hun k (by omega)).1, nI_ltI (by have := (hun j (by omega)).2; omega) (by have := (hun k (by omega)).2; omega), decide_eq_true_iff]
        exact ⟨fun q => q.resolve_left (z_nm1 (by omega)), Or.inr⟩
    by_cases c : (bt b j && decide (fr j ≤ h) && z_ul un j (z_mu fr un (bt b) h j)) = true
    · rw [if_pos c]
      rw [Bool.and_eq_true, Bool.and_eq_true, decide_eq_true_iff] at c
      rw [if_pos ⟨⟨c.1.1, hav.mpr c.1.2⟩, hul.mpr c.2⟩]
      rfl
    · rw [if_neg c]
      rw [Bool.and_eq_true, Bool.and_eq_true, decide_eq_true_iff] at c
      rw [if_neg (fun q => c ⟨⟨q.1.1, hav.mp q.1.2⟩, hul.mp q.2⟩)]
theorem z_ciC {hs ta lh : Nat → Int32} {p op : Nat} {fr un : Nat → Nat} (hop : op ≤ 5) (hfr : ∀ k, k < op → (hs (5 * p + k) = -1 → 50 ≤ fr k) ∧ (¬ hs (5 * p + k) = -1 → ta (5 * p + k) = nI (fr k) ∧ fr k < 1000)) (hun : ∀ k, k < op → lh k = nI (un k) ∧ un k < 1000) : ∀ (f h : Nat) (b : Int32), h + f < 50 → (∀ i, op ≤ i → i < 32 → bt b i = false) → f_ci (fun b h => f_mu hs ta lh p b h op) lh f h b = z_ed fr un op f h (bt b) := by
  intro f
  induction f with
  | zero =>
    intro h b _ hb
    show decide (b = 0) = z_no (bt b) op
    rw [Bool.eq_iff_iff, decide_eq_true_iff, z_no_t, z_eq0]
    constructor
    · intro q k hk; exact q k (by omega)
    · intro q i hi
      by_cases c : i < op
      · exact q i c
      · exact hb i (by omega) hi
  | succ f ih =>
    intro h b hh hb
    have hst : f_ci (fun b h => f_mu hs ta lh p b h op) lh (f + 1) h b = if b = 0 then true else if f_mu hs ta lh p b (nI h) op = -1 then f_ci (fun b h => f_mu hs ta lh p b h op) lh f (h + 1) b else if lh (f_mu hs ta lh p b (nI h) op).toNatClampNeg < nI h then false else f_ci (fun b h => f_mu hs ta lh p b h op) lh f (h + 1) (b &&& (((1 : Int32) <<< (f_mu hs ta lh p b (nI h) op &&& 31)) ^^^ (-1))) := rfl
    rw [hst]
    by_cases c0 : b = 0
    · rw [if_pos c0, c0]
      exact (z_ed_0 _ _ _ fun k _ => b_0 k).symm
    · rw [if_neg c0, z_muC hop hfr hun (by omega) op (Nat.le_refl _)]
      rcases z_mu_c (fr := fr) (un := un) (A := bt b) (h := h) op with ⟨m, -⟩ | ⟨k, m, hk, -⟩
      · rw [m, z_ed_n m, if_pos (show z_en none = -1 from rfl)]
        exact ih (h + 1) b (by omega) hb
      · rw [m, z_ed_s m, show z_en (some k) = nI k from rfl, if_neg (z_nm1 (by omega)), nI_clamp (by omega), (hun k hk).1]
        have hlt : nI (un k) < nI h ↔ un k < h := nI_ltI (by have := (hun k hk).2; omega) (by omega)
        by_cases c : un k < h
        · rw [if_pos (hlt.mpr c), if_pos c]
        · have hbt : bt (b &&& (((1 : Int32) <<< (nI k &&& 31)) ^^^ (-1))) = z_rm (bt b) k := by
            funext j
            unfold z_rm
            rw [b_and]
            by_cases hj : j < 32
            · rw [z_com _ hj, z_one (by omega) hj]
              by_cases e : j = k
              · rw [decide_eq_true e, decide_eq_false (fun q => q e)]; rfl
              · rw [decide_eq_false e, decide_eq_true (show j ≠ k from e)]; rfl
            · rw [b_big (show 32 ≤ j by omega)]; rfl
          rw [if_neg (fun q => c (hlt.mp q)), if_neg c, ih (h + 1) _ (by omega) (fun i h1 h2 => by rw [b_and, hb i h1 h2]; rfl), hbt]
theorem z_itC {C : Nat → Bool} {N : Nat} (h0 : C 0 = true) (hC : ∀ s, s < N → ¬ s = 0 → C s = true → C (s &&& (s - 1)) = true) : ∀ k, k ≤ N → ∀ j, j < k → f_it C k j = C j := by
  intro k
  induction k with
  | zero => intro _ j hj; exact absurd hj (Nat.not_lt_zero j)
  | succ k ih =>
    intro hk j hj
    by_cases ek : k = 0
    · have ej : j = 0 := by omega
      rw [ek, ej, h0]
      rfl
    · rw [f_it_n ek]
      show (if j = k then f_it C k (k &&& (k - 1)) && C k else f_it C k j) = C j
      by_cases ej : j = k
      · rw [if_pos ej, ej]
        have hlt : k &&& (k - 1) < k := Nat.lt_of_le_of_lt Nat.and_le_right (by omega)
        rw [ih (by omega) _ hlt]
        cases q : C k
        · rw [Bool.and_false]
        · rw [hC k (by omega) ek q]; rfl
      · rw [if_neg ej]
        exact ih (by omega) j (by omega)
theorem z_tbp {x k j : Nat} (h : x < 2 ^ k) : (x + 2 ^ k).testBit j = (x.testBit j || decide (j = k)) := by
  have e : x + 2 ^ k = 2 ^ k ||| x := by
    have := Nat.two_pow_add_eq_or_of_lt h 1
    rw [Nat.mul_one] at this
    omega
  rw [e, Nat.testBit_or, Nat.testBit_two_pow, Bool.or_comm]
  congr 1
  by_cases q : j = k
  · rw [decide_eq_true q, decide_eq_true q.symm]
  · rw [decide_eq_false q, decide_eq_false (fun r => q r.symm)]
theorem z_mk_t (pre : Nat → Nat) (p : Nat) : ∀ k j, (z_mk pre k p).testBit j = decide (j < k ∧ pre j = p) := by
  intro k
  induction k with
  | zero => intro j; show Nat.testBit 0 j = _; rw [Nat.zero_testBit]; exact (decide_eq_false (fun q => absurd q.1 (Nat.not_lt_zero j))).symm
  | succ k ih =>
    intro j
    show (z_mk pre k p + if pre k = p then 2 ^ k else 0).testBit j = _
    by_cases c : pre k = p
    · rw [if_pos c, z_tbp (z_mk_b pre k p), ih]
      by_cases ej : j = k
      · rw [decide_eq_true ej, Bool.or_true]; exact (decide_eq_true ⟨by omega, by rw [ej]; exact c⟩).symm
      · rw [decide_eq_false ej, Bool.or_false]
        by_cases q : j < k ∧ pre j = p
        · rw [decide_eq_true q, decide_eq_true (show j < k + 1 ∧ pre j = p from ⟨by omega, q.2⟩)]
        · rw [decide_eq_false q, decide_eq_false (show ¬ (j < k + 1 ∧ pre j = p) from fun r => q ⟨by omega, r.2⟩)]
    · rw [if_neg c, Nat.add_zero, ih]
      by_cases q : j < k ∧ pre j = p
      · rw [decide_eq_true q, decide_eq_true (show j < k + 1 ∧ pre j = p from ⟨by omega, q.2⟩)]
      · rw [decide_eq_false q, decide_eq_false (show ¬ (j < k + 1 ∧ pre j = p) from fun r => by
          by_cases ej : j = k
          · rw [ej] at r; exact c r.2
          · exact q ⟨by omega, r.2⟩)]
