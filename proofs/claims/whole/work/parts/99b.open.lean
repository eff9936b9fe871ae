/-! PURE: THE OPEN LOAVES -/
theorem z_ct_sur {P : Nat → Bool} {m : Nat} : ∀ j, j < z_ct P m → ∃ b, b < m ∧ P b = true ∧ z_ct P b = j := by
  induction m with
  | zero => intro j hj; exact absurd hj (Nat.not_lt_zero j)
  | succ m ih =>
    intro j hj
    rw [z_ct_s] at hj
    by_cases e : P m = true
    · rw [if_pos e] at hj
      by_cases ej : j = z_ct P m
      · exact ⟨m, by omega, e, ej.symm⟩
      · obtain ⟨b, h1, h2⟩ := ih j (by omega)
        exact ⟨b, by omega, h2⟩
    · rw [if_neg e] at hj
      obtain ⟨b, h1, h2⟩ := ih j hj
      exact ⟨b, by omega, h2⟩
theorem z_ct_lt {P : Nat → Bool} {a b : Nat} (h : a < b) (ha : P a = true) : z_ct P a < z_ct P b := by
  have h1 := z_ct_mn (P := P) (show a + 1 ≤ b by omega)
  rw [z_ct_s, if_pos ha] at h1
  omega
theorem z_co {ct ba fr : Nat → Int32} {no : Int32} {lo0 lh0 : Nat → Int32} {O : Nat → Bool} {m : Nat} (hO : ∀ b, b < m → (O b = true ↔ ct b = -1)) (h5 : z_ct O m ≤ 5) : ∀ l, l ≤ m → (f_co ct ba fr no (0, lo0, lh0) l).1 = z_ct O l ∧ ∀ b, b < l → O b = true → (f_co ct ba fr no (0, lo0, lh0) l).2.1 (z_ct O b) = nI b ∧ (f_co ct ba fr no (0, lo0, lh0) l).2.2 (z_ct O b) = (if ba b + fr b < no then ba b + fr b else no) := by
  intro l
  induction l with
  | zero => intro _; exact ⟨rfl, fun b hb => absurd hb (Nat.not_lt_zero b)⟩
  | succ l ih =>
    intro hl
    obtain ⟨i1, i2⟩ := ih (by omega)
    have hst : f_co ct ba fr no (0, lo0, lh0) (l + 1) = f_co1 ct ba fr no l (f_co ct ba fr no (0, lo0, lh0) l) := rfl
    rw [hst, z_ct_s]
    unfold f_co1
    by_cases c : O l = true
    · have h6 := z_ct_mn (P := O) (show l + 1 ≤ m by omega)
      rw [z_ct_s, if_pos c] at h6
      rw [if_pos c, if_pos ⟨(hO l (by omega)).mp c, by rw [i1]; omega⟩]
      refine ⟨by show (f_co ct ba fr no (0, lo0, lh0) l).1 + 1 = _; rw [i1], fun b hb ho => ?_⟩
      show upd (f_co ct ba fr no (0, lo0, lh0) l).2.1 (f_co ct ba fr no (0, lo0, lh0) l).1 (nI l) (z_ct O b) = nI b ∧ upd (f_co ct ba fr no (0, lo0, lh0) l).2.2 (f_co ct ba fr no (0, lo0, lh0) l).1 (if ba l + fr l < no then ba l + fr l else no) (z_ct O b) = _
      rw [i1]
      by_cases eb : b = l
      · rw [eb, pk_us, pk_us]; exact ⟨rfl, rfl⟩
      · have := z_ct_lt (P := O) (show b < l by omega) ho
        rw [upd_o (by omega), upd_o (by omega)]
        exact i2 b (by omega) ho
    · rw [if_neg c, if_neg (fun q => c ((hO l (by omega)).mpr q.1))]
      refine ⟨i1, fun b hb ho => i2 b ?_ ho⟩
      have : b ≠ l := fun e => c (by rw [← e]; exact ho)
      omega
theorem z_olC {O : Nat → Bool} {m : Nat} {lo : Nat → Nat} (h : ∀ b, b < m → O b = true → lo (z_ct O b) = b) : z_ol O m (z_ct O m) lo := by
  refine ⟨rfl, fun i j hij hj => ?_, fun j hj => ?_, fun b hb ho => ⟨z_ct_lt hb ho, h b hb ho⟩⟩
  · obtain ⟨b, h1, h2, h3⟩ := z_ct_sur j hj
    obtain ⟨a, g1, g2, g3⟩ := z_ct_sur (P := O) (m := m) i (by omega)
    rw [← h3, ← g3, h b h1 h2, h a g1 g2]
    by_cases c : a < b
    · exact c
    · have := z_ct_mn (P := O) (show b ≤ a by omega)
      omega
  · obtain ⟨b, h1, h2, h3⟩ := z_ct_sur j hj
    rw [← h3, h b h1 h2]
    exact ⟨h1, h2, rfl⟩
/-- the rows kept are one -/
theorem z_rwE {O : Nat → Bool} {m : Nat} {lo : Nat → Int32} (hm : m ≤ 6) (h : ∀ b, b < m → O b = true → lo (z_ct O b) = nI b) (pre : Nat → Nat) {l : Nat} (hl : l < m) : z_rw lo (z_ct O m) pre l = if O l = true then nI (pre (z_ct O l)) else -1 := by
  have gen : ∀ k, k ≤ z_ct O m → f_kr lo (fun j => nI (pre j)) (fun _ => -1) k l = if O l = true ∧ z_ct O l < k then nI (pre (z_ct O l)) else -1 := by
    intro k
    induction k with
    | zero => intro _; rw [if_neg (fun q => absurd q.2 (Nat.not_lt_zero _))]; rfl
    | succ k ih =>
      intro hk
      obtain ⟨b, h1, h2, h3⟩ := z_ct_sur (P := O) (m := m) k (by omega)
      have hlo : lo k = nI b := by rw [← h3]; exact h b h1 h2
      show upd (f_kr lo (fun j => nI (pre j)) (fun _ => -1) k) (lo k).toNatClampNeg (nI (pre k)) l = _
      rw [hlo, nI_clamp (by omega)]
      by_cases e : l = b
      · rw [e, pk_us, if_pos ⟨h2, by omega⟩, h3]
      · rw [upd_o e, ih (by omega)]
        by_cases q : O l = true ∧ z_ct O l < k
        · rw [if_pos q, if_pos ⟨q.1, by omega⟩]
        · rw [if_neg q, if_neg (fun r => ?_)]
          have hk2 : z_ct O l = k := by
            have := r.2
            by_cases c : z_ct O l < k
            · exact absurd ⟨r.1, c⟩ q
            · omega
          by_cases c : l < b
          · have := z_ct_lt c r.1; omega
          · have := z_ct_lt (show b < l by omega) h2; omega
  unfold z_rw
  rw [gen _ (Nat.le_refl _)]
  by_cases c : O l = true
  · rw [if_pos c, if_pos ⟨c, z_ct_lt hl c⟩]
  · rw [if_neg c, if_neg (fun q => c q.1)]
