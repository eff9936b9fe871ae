/-! PURE: THE SEARCH FOR A ROW -/
def z_un (f : Nat → Nat) (k p : Nat) : Nat → Nat := fun j => if j = k then p else f j
abbrev z_Ic := Option (Nat × (Nat → Nat))
def z_l9 : z_Ic → Nat → Bool
  | none, _ => false
  | some i, c => decide (i.1 ≤ c)
/-- all rows in their order, the first of the least -/
def z_pn (n : Nat) (w : Nat → Nat → Nat) (F : (Nat → Nat) → Nat → Nat → Bool) : Nat → Nat → Nat → (Nat → Nat) → z_Ic → z_Ic
  | 0, _, c, pre, inc => if z_l9 inc c = true then inc else some (c, pre)
  | r + 1, k, c, pre, inc => lfold (fun p inc => if F pre k p = true then z_pn n w F r (k + 1) (c + w p k) (z_un pre k p) inc else inc) inc n
theorem z_l9_m {inc : z_Ic} {c d : Nat} (h : z_l9 inc c = true) (hd : c ≤ d) : z_l9 inc d = true := by
  cases inc with
  | none => exact h
  | some i => exact decide_eq_true (Nat.le_trans (of_decide_eq_true h) hd)
theorem z_lf_id {α : Type} {g : Nat → α → α} {a : α} {n : Nat} (h : ∀ p, p < n → g p a = a) : lfold g a n = a := by
  induction n with
  | zero => rfl
  | succ n ih =>
    show g n (lfold g a n) = a
    rw [ih (fun p hp => h p (by omega)), h n (by omega)]
/-- what cannot be better needs no looking -/
theorem z_pn_s {n : Nat} {w : Nat → Nat → Nat} {F : (Nat → Nat) → Nat → Nat → Bool} {op : Nat} {lb : Nat → Nat} (h0 : lb op = 0) (hl : ∀ pre k p, k < op → p < n → F pre k p = true → lb k ≤ w p k + lb (k + 1)) : ∀ (r k c : Nat) (pre : Nat → Nat) (inc : z_Ic), k + r = op → z_l9 inc (c + lb k) = true → z_pn n w F r k c pre inc = inc := by
  intro r
  induction r with
  | zero =>
    intro k c pre inc hk h
    rw [show k = op by omega, h0] at h
    show (if z_l9 inc c = true then inc else some (c, pre)) = inc
    exact if_pos h
  | succ r ih =>
    intro k c pre inc hk h
    refine z_lf_id fun p hp => ?_
    by_cases e : F pre k p = true
    · show (if F pre k p = true then z_pn n w F r (k + 1) (c + w p k) (z_un pre k p) inc else inc) = inc
      rw [if_pos e]
      refine ih (k + 1) _ _ inc (by omega) (z_l9_m h ?_)
      have := hl pre k p (by omega) hp e
      omega
    · exact if_neg e
/-- a loaf that nobody can carry -/
theorem z_pn_n {n : Nat} {w : Nat → Nat → Nat} {F : (Nat → Nat) → Nat → Nat → Bool} {k' : Nat} (hF : ∀ pre p, p < n → F pre k' p = false) : ∀ (r k c : Nat) (pre : Nat → Nat) (inc : z_Ic), k ≤ k' → k' < k + r → z_pn n w F r k c pre inc = inc := by
  intro r
  induction r with
  | zero => intro k c pre inc h1 h2; omega
  | succ r ih =>
    intro k c pre inc h1 h2
    refine z_lf_id fun p hp => ?_
    by_cases e : F pre k p = true
    · show (if F pre k p = true then z_pn n w F r (k + 1) (c + w p k) (z_un pre k p) inc else inc) = inc
      rw [if_pos e]
      have : k ≠ k' := fun q => by rw [q, hF pre p hp] at e; exact Bool.noConfusion e
      exact ih (k + 1) _ _ inc (by omega) (by omega)
    · exact if_neg e
/-- which of the first k p carries, as bits -/
def z_mk (pre : Nat → Nat) : Nat → Nat → Nat
  | 0, _ => 0
  | k + 1, p => z_mk pre k p + if pre k = p then 2 ^ k else 0
theorem z_mk_b (pre : Nat → Nat) (k p : Nat) : z_mk pre k p < 2 ^ k := by
  induction k with
  | zero => exact Nat.one_pos
  | succ k ih =>
    have : 2 ^ (k + 1) = 2 ^ k + 2 ^ k := by rw [Nat.pow_succ]; omega
    show z_mk pre k p + (if pre k = p then 2 ^ k else 0) < 2 ^ (k + 1)
    split <;> omega
theorem z_mk_c {pre pre' : Nat → Nat} {k p : Nat} (h : ∀ j, j < k → pre j = pre' j) : z_mk pre k p = z_mk pre' k p := by
  induction k with
  | zero => rfl
  | succ k ih =>
    show z_mk pre k p + _ = z_mk pre' k p + _
    rw [ih (fun j hj => h j (by omega)), h k (by omega)]
theorem z_mk_n (pre : Nat → Nat) (k p q : Nat) : z_mk (z_un pre k p) (k + 1) q = z_mk pre k q + if p = q then 2 ^ k else 0 := by
  show z_mk (z_un pre k p) k q + (if z_un pre k p k = q then 2 ^ k else 0) = _
  rw [z_mk_c (pre := z_un pre k p) (pre' := pre) (fun j hj => if_neg (by omega)), show z_un pre k p k = p from if_pos rfl]
/-- a row kept -/
def z_rw (lo : Nat → Int32) (op : Nat) (pre : Nat → Nat) (l : Nat) : Int32 := f_kr lo (fun j => nI (pre j)) (fun _ => -1) op l
theorem z_kr {lo ch ch' row row' : Nat → Int32} {op l : Nat} (h1 : ∀ j, j < op → ch j = ch' j) (h2 : row l = row' l) : f_kr lo ch row op l = f_kr lo ch' row' op l := by
  unfold f_kr
  induction op with
  | zero => exact h2
  | succ op ih =>
    show upd (lfold (fun k w => upd w (lo k).toNatClampNeg (ch k)) row op) (lo op).toNatClampNeg (ch op) l = upd (lfold (fun k w => upd w (lo k).toNatClampNeg (ch' k)) row' op) (lo op).toNatClampNeg (ch' op) l
    by_cases e : l = (lo op).toNatClampNeg
    · rw [e, pk_us, pk_us, h1 op (by omega)]
    · rw [upd_o e, upd_o e]
      exact ih fun j hj => h1 j (by omega)
def z_rs (lo : Nat → Int32) (op : Nat) : z_Ic → f_PS → Prop
  | none, s => s.1 = 1000000
  | some i, s => s.1 = nI i.1 ∧ i.1 ≤ 100 ∧ ∀ l, l < 6 → s.2.1 l = z_rw lo op i.2 l
theorem z_rs_l {lo : Nat → Int32} {op : Nat} {inc : z_Ic} {s : f_PS} {c : Nat} (h : z_rs lo op inc s) (hc : c ≤ 1000) : s.1 ≤ nI c ↔ z_l9 inc c = true := by
  cases inc with
  | none =>
    rw [show s.1 = 1000000 from h, z_leI, nI_toInt (by omega)]
    have : (1000000 : Int32).toInt = 1000000 := by decide
    exact ⟨fun q => by omega, fun q => Bool.noConfusion q⟩
  | some i =>
    rw [h.1, z_leI, nI_toInt (by have := h.2.1; omega), nI_toInt (by omega)]
    exact ⟨fun q => decide_eq_true (by omega), fun q => by have : i.1 ≤ c := of_decide_eq_true q; omega⟩
theorem z_rs_c {lo : Nat → Int32} {op : Nat} {inc : z_Ic} {s s' : f_PS} (h : z_rs lo op inc s) (h1 : s'.1 = s.1) (h2 : s'.2.1 = s.2.1) : z_rs lo op inc s' := by
  cases inc with
  | none => exact h1.trans h
  | some i => exact ⟨h1.trans h.1, h.2.1, by rw [h2]; exact h.2.2⟩
theorem z_pl {hs it ff lo : Nat → Int32} {op n : Nat} {w : Nat → Nat → Nat} {F : (Nat → Nat) → Nat → Nat → Bool} {lb : Nat → Nat} (hop : op ≤ 5) (hn : n ≤ 8) (hF : ∀ pre k p, k < op → p < n → (F pre k p = true ↔ ¬ it (32 * p + (z_mk pre k p + 2 ^ k)) = 0)) (hw : ∀ pre k p, k < op → p < n → F pre k p = true → hs (5 * p + k) = nI (w p k) ∧ w p k ≤ 20 ∧ lb k ≤ w p k + lb (k + 1)) (h0 : lb op = 0) (hff : ∀ k, k ≤ op → ff k = nI (lb k) ∧ lb k ≤ 100) : ∀ (r k c : Nat) (pre : Nat → Nat) (S : Nat → Int32) (s : f_PS) (inc : z_Ic), k + r = op → c ≤ 20 * k → (∀ p, p < n → S p = nI (z_mk pre k p)) → (∀ j, j < k → s.2.2 j = nI (pre j)) → z_rs lo op inc s → z_l9 inc (c + lb k) = false → z_rs lo op (z_pn n w F r k c pre inc) (f_pl hs it ff lo op n r k (nI c) S s) ∧ ∀ j, j < k → (f_pl hs it ff lo op n r k (nI c) S s).2.2 j = s.2.2 j := by
  intro r
  induction r with
  | zero =>
    intro k c pre S s inc hk hc hS hch hrs hl
    rw [show k = op by omega, h0] at hl
    show z_rs lo op (if z_l9 inc c = true then inc else some (c, pre)) (nI c, f_kr lo s.2.2 (f_fill s.2.1 (-1) 6) op, s.2.2) ∧ _
    rw [if_neg (by rw [show c = c + 0 from rfl, hl]; decide)]
    refine ⟨⟨rfl, by show c ≤ 100; omega, fun l hl6 => ?_⟩, fun j _ => rfl⟩
    show f_kr lo s.2.2 (f_fill s.2.1 (-1) 6) op l = z_rw lo op pre l
    refine z_kr (fun j hj => hch j (by omega)) ?_
    exact if_pos hl6
  | succ r ih =>
    intro k c pre S s inc hk hc hS hch hrs hl
    have loop : ∀ p, p ≤ n → z_rs lo op (lfold (fun p inc => if F pre k p = true then z_pn n w F r (k + 1) (c + w p k) (z_un pre k p) inc else inc) inc p) (lfold (fun p s => f_plb hs it ff (f_pl hs it ff lo op n r (k + 1)) k (nI c) S p s) s p) ∧ ∀ j, j < k → (lfold (fun p s => f_plb hs it ff (f_pl hs it ff lo op n r (k + 1)) k (nI c) S p s) s p).2.2 j = s.2.2 j := by
      intro p
      induction p with
      | zero => intro _; exact ⟨hrs, fun _ _ => rfl⟩
      | succ p ihp =>
        intro hp
        obtain ⟨q1, q2⟩ := ihp (by omega)
        show z_rs lo op (if F pre k p = true then z_pn n w F r (k + 1) (c + w p k) (z_un pre k p) (lfold (fun p inc => if F pre k p = true then z_pn n w F r (k + 1) (c + w p k) (z_un pre k p) inc else inc) inc p) else lfold (fun p inc => if F pre k p = true then z_pn n w F r (k + 1) (c + w p k) (z_un pre k p) inc else inc) inc p) (f_plb hs it ff (f_pl hs it ff lo op n r (k + 1)) k (nI c) S p (lfold (fun p s => f_plb hs it ff (f_pl hs it ff lo op n r (k + 1)) k (nI c) S p s) s p)) ∧ ∀ j, j < k → (f_plb hs it ff (f_pl hs it ff lo op n r (k + 1)) k (nI c) S p (lfold (fun p s => f_plb hs it ff (f_pl hs it ff lo op n r (k + 1)) k (nI c) S p s) s p)).2.2 j = s.2.2 j
        generalize lfold (fun p inc => if F pre k p = true then z_pn n w F r (k + 1) (c + w p k) (z_un pre k p) inc else inc) inc p = i1 at q1 ⊢
        generalize lfold (fun p s => f_plb hs it ff (f_pl hs it ff lo op n r (k + 1)) k (nI c) S p s) s p = s1 at q1 q2 ⊢
        have hset := (k_set (s := z_mk pre k p) (k := k) (by omega) (z_mk_b pre k p)).1
        have hpw : 2 ^ k ≤ 16 := by
          have : k ≤ 4 := by omega
          exact Nat.pow_le_pow_right (by decide) this
        have hmb := z_mk_b pre k p
        have hit : it (32 * p + (S p ||| ((1 : Int32) <<< (nI k &&& 31))).toNatClampNeg) = it (32 * p + (z_mk pre k p + 2 ^ k)) := by
          rw [hS p (by omega), hset, nI_clamp (by omega)]
        by_cases e : F pre k p = true
        · rw [if_pos e]
          obtain ⟨w1, w2, w3⟩ := hw pre k p (by omega) (by omega) e
          obtain ⟨f1, f2⟩ := hff (k + 1) (by omega)
          have hz : ¬ it (32 * p + (S p ||| ((1 : Int32) <<< (nI k &&& 31))).toNatClampNeg) = 0 := by rw [hit]; exact (hF pre k p (by omega) (by omega)).mp e
          have hsum : nI c + hs (5 * p + k) + ff (k + 1) = nI (c + w p k + lb (k + 1)) := by rw [w1, f1, nI_add, nI_add]
          have hle := z_rs_l q1 (c := c + w p k + lb (k + 1)) (by omega)
          by_cases c2 : z_l9 i1 (c + w p k + lb (k + 1)) = true
          · rw [f_plb_1 hz (by rw [hsum]; exact hle.mpr c2), z_pn_s h0 (fun pre k p h1 h2 h3 => (hw pre k p h1 h2 h3).2.2) r (k + 1) _ _ i1 (by omega) c2]
            exact ⟨q1, q2⟩
          · rw [f_plb_2 hz (by rw [hsum]; exact fun q => c2 (hle.mp q)), w1, nI_add]
            have hr := ih (k + 1) (c + w p k) (z_un pre k p) (upd S p (S p ||| ((1 : Int32) <<< (nI k &&& 31)))) (s1.1, s1.2.1, upd s1.2.2 k (nI p)) i1 (by omega) (by omega) (fun q hq => by
              rw [z_mk_n]
              by_cases eq : q = p
              · rw [eq, pk_us, if_pos rfl, hS p (by omega), hset]
              · rw [upd_o eq, if_neg (fun h => eq h.symm), Nat.add_zero, hS q hq]) (fun j hj => by
              show upd s1.2.2 k (nI p) j = nI (z_un pre k p j)
              by_cases ej : j = k
              · rw [ej, pk_us, show z_un pre k p k = p from if_pos rfl]
              · rw [upd_o ej, show z_un pre k p j = pre j from if_neg ej, q2 j (by omega), hch j (by omega)]) (z_rs_c q1 rfl rfl) (by cases q : z_l9 i1 (c + w p k + lb (k + 1)); rfl; exact absurd q c2)
            refine ⟨hr.1, fun j hj => (hr.2 j (by omega)).trans ?_⟩
            show upd s1.2.2 k (nI p) j = s.2.2 j
            rw [upd_o (by omega), q2 j hj]
        · have hz : it (32 * p + (S p ||| ((1 : Int32) <<< (nI k &&& 31))).toNatClampNeg) = 0 := by
            rw [hit]
            by_cases q : it (32 * p + (z_mk pre k p + 2 ^ k)) = 0
            · exact q
            · exact absurd ((hF pre k p (by omega) (by omega)).mpr q) e
          rw [if_neg e, f_plb_0 hz]
          exact ⟨q1, q2⟩
    exact loop n (Nat.le_refl n)
