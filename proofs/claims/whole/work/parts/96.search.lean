/-! PURE: WHAT THE CLASS'S SEARCH FINDS -/
theorem z_ed_f {fr un : Nat → Nat} {n : Nat} : ∀ (f h : Nat) (A : Nat → Bool), z_ed fr un n f h A = true → ∀ k, k < n → A k = true → fr k ≤ un k := by
  intro f
  induction f with
  | zero => intro h A e k hk q; rw [z_no_t.mp e k hk] at q; exact Bool.noConfusion q
  | succ f ih =>
    intro h A e k hk q
    have hl := z_ed_l _ _ _ e
    rcases z_mu_c (fr := fr) (un := un) (A := A) (h := h) n with ⟨m, -⟩ | ⟨k0, m, p1, p2, p3, -⟩
    · rw [z_ed_n m] at e
      exact ih _ _ e k hk q
    · rw [z_ed_s m, if_neg (by have := hl k0 p1 p2; omega)] at e
      by_cases ek : k = k0
      · have := hl k0 p1 p2
        rw [ek]; omega
      · exact ih _ _ e k hk (z_rm_t.mpr ⟨q, ek⟩)
theorem z_fe {hs it : Nat → Int32} {k : Nat} {w : Nat → Nat → Nat} : ∀ n, (∀ p, p < n → ¬ it (32 * p + 2 ^ k) = 0 → hs (5 * p + k) = nI (w p k) ∧ w p k ≤ 20) → (f_fe hs it k n = 1000000 ∧ ∀ p, p < n → it (32 * p + 2 ^ k) = 0) ∨ ∃ g, g ≤ 20 ∧ f_fe hs it k n = nI g ∧ ∀ p, p < n → ¬ it (32 * p + 2 ^ k) = 0 → g ≤ w p k := by
  intro n
  induction n with
  | zero => intro _; exact Or.inl ⟨rfl, fun p hp => absurd hp (Nat.not_lt_zero p)⟩
  | succ n ih =>
    intro h
    have hst : f_fe hs it k (n + 1) = if ¬ it (32 * n + 2 ^ k) = 0 then (if hs (5 * n + k) < f_fe hs it k n then hs (5 * n + k) else f_fe hs it k n) else f_fe hs it k n := rfl
    rw [hst]
    have ih' := ih (fun p hp => h p (by omega))
    by_cases c : it (32 * n + 2 ^ k) = 0
    · rw [if_neg (fun q => q c)]
      rcases ih' with ⟨e, h1⟩ | ⟨g, g1, g2, g3⟩
      · refine Or.inl ⟨e, fun p hp => ?_⟩
        by_cases ep : p = n
        · rw [ep]; exact c
        · exact h1 p (by omega)
      · refine Or.inr ⟨g, g1, g2, fun p hp q => ?_⟩
        by_cases ep : p = n
        · rw [ep] at q; exact absurd c q
        · exact g3 p (by omega) q
    · rw [if_pos c]
      obtain ⟨w1, w2⟩ := h n (by omega) c
      rw [w1]
      have hM : (1000000 : Int32).toInt = 1000000 := by decide
      rcases ih' with ⟨e, h1⟩ | ⟨g, g1, g2, g3⟩
      · rw [e, if_pos (by rw [z_lI, nI_toInt (by omega), hM]; omega)]
        refine Or.inr ⟨w n k, w2, rfl, fun p hp q => ?_⟩
        by_cases ep : p = n
        · rw [ep]; exact Nat.le_refl _
        · exact absurd (h1 p (by omega)) q
      · rw [g2]
        by_cases q9 : w n k < g
        · rw [if_pos ((nI_ltI (by omega) (by omega)).mpr q9)]
          refine Or.inr ⟨w n k, w2, rfl, fun p hp q => ?_⟩
          by_cases ep : p = n
          · rw [ep]; exact Nat.le_refl _
          · have := g3 p (by omega) q; omega
        · rw [if_neg (fun r => q9 ((nI_ltI (by omega) (by omega)).mp r))]
          refine Or.inr ⟨g, g1, rfl, fun p hp q => ?_⟩
          by_cases ep : p = n
          · rw [ep]; omega
          · exact g3 p (by omega) q
def z_lb (fe : Nat → Int32) (op : Nat) : Nat → Nat
  | 0 => 0
  | r + 1 => z_lb fe op r + (fe (op - (r + 1))).toNatClampNeg
/-- can p carry the k-th loaf as well -/
def z_F (fr : Nat → Nat → Nat) (un : Nat → Nat) (op a N : Nat) (pre : Nat → Nat) (k p : Nat) : Bool := z_ed (fr p) un op (N + 1 - a) a (fun j => decide ((j < k ∧ pre j = p) ∨ j = k))
theorem z_sear {hs ta lh it ff lo S0 row0 ch0 : Nat → Int32} {op n a9 b9 : Nat} (hop : op ≤ 5) (hn : n ≤ 8) (ha : a9 ≤ 24) (hb : b9 ≤ 24) {fr : Nat → Nat → Nat} {un : Nat → Nat} {w : Nat → Nat → Nat}
    (hit : ∀ p, p < n → ∀ s, s < 2 ^ op → it (32 * p + s) = kb (f_it (fun s => f_ci (fun b h => f_mu hs ta lh p b h op) lh (b9 + 1 - a9) a9 (nI s)) (2 ^ op) s))
    (hfr : ∀ p, p < n → ∀ k, k < op → (hs (5 * p + k) = -1 → 50 ≤ fr p k) ∧ (¬ hs (5 * p + k) = -1 → ta (5 * p + k) = nI (fr p k) ∧ fr p k < 1000 ∧ hs (5 * p + k) = nI (w p k) ∧ w p k ≤ 20)) (hun : ∀ k, k < op → lh k = nI (un k) ∧ un k < 50) (hS0 : ∀ p, p < n → S0 p = 0) (hff : f_eB (fun k => f_fe hs it k n) op op = true → ∀ r, r ≤ op → ff (op - r) = f_ff (fun k => f_fe hs it k n) op r) :
    (f_eB (fun k => f_fe hs it k n) op op = true → z_rs lo op (z_pn n w (z_F fr un op a9 b9) op 0 0 (fun _ => 0) none) (f_pl hs it ff lo op n op 0 0 S0 (1000000, row0, ch0))) ∧ (f_eB (fun k => f_fe hs it k n) op op = false → z_pn n w (z_F fr un op a9 b9) op 0 0 (fun _ => 0) none = none) := by
  have hpo : 2 ^ op ≤ 32 := Nat.pow_le_pow_right (by decide) (show op ≤ 5 from hop)
  have hlo : ∀ s, s < 2 ^ op → ∀ i, op ≤ i → i < 32 → bt (nI s) i = false := fun s hs i h1 h2 => by
    rw [z_tb h2]
    exact Nat.testBit_lt_two_pow (Nat.lt_of_lt_of_le hs (Nat.pow_le_pow_right (by decide) h1))
  have hC : ∀ p, p < n → ∀ s, s < 2 ^ op → f_ci (fun b h => f_mu hs ta lh p b h op) lh (b9 + 1 - a9) a9 (nI s) = z_ed (fr p) un op (b9 + 1 - a9) a9 (bt (nI s)) := fun p hp s hs2 => z_ciC hop (fun k hk => ⟨(hfr p hp k hk).1, fun q => ⟨((hfr p hp k hk).2 q).1, ((hfr p hp k hk).2 q).2.1⟩⟩) (fun k hk => ⟨(hun k hk).1, by have := (hun k hk).2; omega⟩) _ _ _ (by omega) (hlo s hs2)
  have hit2 : ∀ p, p < n → ∀ s, s < 2 ^ op → it (32 * p + s) = kb (z_ed (fr p) un op (b9 + 1 - a9) a9 (bt (nI s))) := fun p hp s hs2 => by
    rw [hit p hp s hs2, z_itC (N := 2 ^ op) (f_ci_0 _ _ _ _) (fun s h1 h2 h3 => ?_) (2 ^ op) (Nat.le_refl _) s hs2, hC p hp s hs2]
    have hlt : s &&& (s - 1) < 2 ^ op := Nat.lt_of_le_of_lt Nat.and_le_left h1
    show f_ci (fun b h => f_mu hs ta lh p b h op) lh (b9 + 1 - a9) a9 (nI (s &&& (s - 1))) = true
    have h3' : f_ci (fun b h => f_mu hs ta lh p b h op) lh (b9 + 1 - a9) a9 (nI s) = true := h3
    rw [hC p hp s h1] at h3'
    rw [hC p hp _ hlt]
    refine z_ed_m _ _ _ _ (fun k hk q => ?_) h3'
    rw [z_tb (by omega), Nat.testBit_and, Bool.and_eq_true] at q
    rw [z_tb (by omega)]
    exact q.1
  have hpk : ∀ k, k < op → 2 ^ (k + 1) ≤ 2 ^ op := fun k hk => Nat.pow_le_pow_right (by decide) hk
  have hp1 : ∀ k : Nat, 2 ^ (k + 1) = 2 ^ k + 2 ^ k := fun k => by rw [Nat.pow_succ]; omega
  have hset : ∀ pre k p, k < op → bt (nI (z_mk pre k p + 2 ^ k)) = fun j => decide ((j < k ∧ pre j = p) ∨ j = k) := fun pre k p hk => by
    funext j
    by_cases hj : j < 32
    · rw [z_tb hj, z_tbp (z_mk_b pre k p), z_mk_t]
      by_cases q : j < k ∧ pre j = p
      · rw [decide_eq_true q]; exact (decide_eq_true (Or.inl q)).symm
      · rw [decide_eq_false q, Bool.false_or]
        by_cases e : j = k
        · rw [decide_eq_true e]; exact (decide_eq_true (Or.inr e)).symm
        · rw [decide_eq_false e]; exact (decide_eq_false (fun r => r.elim q e)).symm
    · rw [b_big (by omega)]
      exact (decide_eq_false (fun r => r.elim (fun q => by omega) fun q => by omega)).symm
  have hF : ∀ pre k p, k < op → p < n → (z_F fr un op a9 b9 pre k p = true ↔ ¬ it (32 * p + (z_mk pre k p + 2 ^ k)) = 0) := fun pre k p hk hp => by
    have hb1 := z_mk_b pre k p
    have h2 := hpk k hk
    rw [hp1 k] at h2
    rw [hit2 p hp _ (show z_mk pre k p + 2 ^ k < 2 ^ op by omega), hset pre k p hk]
    unfold z_F
    cases z_ed (fr p) un op (b9 + 1 - a9) a9 (fun j => decide ((j < k ∧ pre j = p) ∨ j = k))
    · exact ⟨fun q => Bool.noConfusion q, fun q => absurd rfl q⟩
    · exact ⟨fun _ q => absurd q (by decide), fun _ => rfl⟩
  have h1k : ∀ k p, k < op → p < n → (¬ it (32 * p + 2 ^ k) = 0 ↔ z_ed (fr p) un op (b9 + 1 - a9) a9 (bt (nI (2 ^ k))) = true) := fun k p hk hp => by
    have h2 := hpk k hk
    rw [hp1 k] at h2
    have h3 : 0 < 2 ^ k := Nat.two_pow_pos k
    rw [hit2 p hp _ (show 2 ^ k < 2 ^ op by omega)]
    cases z_ed (fr p) un op (b9 + 1 - a9) a9 (bt (nI (2 ^ k)))
    · exact ⟨fun q => absurd rfl q, fun q => Bool.noConfusion q⟩
    · exact ⟨fun _ => rfl, fun _ q => absurd q (by decide)⟩
  have hFs : ∀ pre k p, k < op → p < n → z_F fr un op a9 b9 pre k p = true → ¬ it (32 * p + 2 ^ k) = 0 := fun pre k p hk hp q => by
    refine (h1k k p hk hp).mpr (z_ed_m _ _ _ _ (fun j hj r => ?_) q)
    rw [z_tb (by omega), Nat.testBit_two_pow, decide_eq_true_iff] at r
    exact decide_eq_true (Or.inr r.symm)
  have hw1 : ∀ k p, k < op → p < n → ¬ it (32 * p + 2 ^ k) = 0 → hs (5 * p + k) = nI (w p k) ∧ w p k ≤ 20 := fun k p hk hp q => by
    have hne : ¬ hs (5 * p + k) = -1 := fun e => by
      have h50 := (hfr p hp k hk).1 e
      have h9 := z_ed_f _ _ _ ((h1k k p hk hp).mp q) k hk (by rw [z_tb (by omega), Nat.testBit_two_pow]; exact decide_eq_true rfl)
      have := (hun k hk).2
      omega
    exact ((hfr p hp k hk).2 hne).2.2
  have hfe : ∀ k, k < op → (f_fe hs it k n = 1000000 ∧ ∀ p, p < n → it (32 * p + 2 ^ k) = 0) ∨ ∃ g, g ≤ 20 ∧ f_fe hs it k n = nI g ∧ ∀ p, p < n → ¬ it (32 * p + 2 ^ k) = 0 → g ≤ w p k := fun k hk => z_fe (w := w) n fun p hp q => hw1 k p hk hp q
  constructor
  · intro heB
    have hne : ∀ k, k < op → ∃ g, g ≤ 20 ∧ f_fe hs it k n = nI g ∧ ∀ p, p < n → ¬ it (32 * p + 2 ^ k) = 0 → g ≤ w p k := fun k hk => by
      refine (hfe k hk).resolve_left (fun q => ?_)
      unfold f_eB at heB
      have h9 := lall_iff.mp heB (op - (k + 1)) (by omega)
      rw [decide_eq_true_iff, show op - (op - (k + 1) + 1) = k by omega] at h9
      exact h9 q.1
    have hlb : ∀ r, r ≤ op → f_ff (fun k => f_fe hs it k n) op r = nI (z_lb (fun k => f_fe hs it k n) op r) ∧ z_lb (fun k => f_fe hs it k n) op r ≤ 20 * r := by
      intro r
      induction r with
      | zero => intro _; exact ⟨rfl, Nat.le_refl _⟩
      | succ r ih =>
        intro hr
        obtain ⟨i1, i2⟩ := ih (by omega)
        obtain ⟨g, g1, g2, -⟩ := hne (op - (r + 1)) (by omega)
        constructor
        · show f_ff (fun k => f_fe hs it k n) op r + f_fe hs it (op - (r + 1)) n = nI (z_lb (fun k => f_fe hs it k n) op r + (f_fe hs it (op - (r + 1)) n).toNatClampNeg)
          rw [i1, g2, nI_clamp (by omega), nI_add]
        · show z_lb (fun k => f_fe hs it k n) op r + (f_fe hs it (op - (r + 1)) n).toNatClampNeg ≤ 20 * (r + 1)
          rw [g2, nI_clamp (by omega)]; omega
    have h := z_pl (hs := hs) (it := it) (ff := ff) (lo := lo) (w := w) (F := z_F fr un op a9 b9) (lb := fun k => z_lb (fun k => f_fe hs it k n) op (op - k)) hop hn hF (fun pre k p hk hp q => by
        obtain ⟨x1, x2⟩ := hw1 k p hk hp (hFs pre k p hk hp q)
        refine ⟨x1, x2, ?_⟩
        obtain ⟨g, g1, g2, g3⟩ := hne k hk
        show z_lb (fun k => f_fe hs it k n) op (op - k) ≤ w p k + z_lb (fun k => f_fe hs it k n) op (op - (k + 1))
        rw [show op - k = op - (k + 1) + 1 by omega]
        show z_lb (fun k => f_fe hs it k n) op (op - (k + 1)) + (f_fe hs it (op - (op - (k + 1) + 1)) n).toNatClampNeg ≤ _
        rw [show op - (op - (k + 1) + 1) = k by omega, g2, nI_clamp (by omega)]
        have := g3 p hp (hFs pre k p hk hp q)
        omega) (by show z_lb (fun k => f_fe hs it k n) op (op - op) = 0; rw [Nat.sub_self]; rfl) (fun k hk => by
        obtain ⟨i1, i2⟩ := hlb (op - k) (by omega)
        refine ⟨?_, by show z_lb (fun k => f_fe hs it k n) op (op - k) ≤ 100; omega⟩
        have := hff heB (op - k) (by omega)
        rw [show op - (op - k) = k by omega] at this
        rw [this, i1])
      op 0 0 (fun _ => 0) S0 (1000000, row0, ch0) none (by omega) (Nat.le_refl _) (fun p hp => hS0 p hp) (fun j hj => absurd hj (Nat.not_lt_zero j)) rfl rfl
    exact h.1
  · intro heB
    have : ∃ k, k < op ∧ f_fe hs it k n = 1000000 := by
      refine Classical.byContradiction fun q => ?_
      have : f_eB (fun k => f_fe hs it k n) op op = true := lall_iff.mpr fun r hr => decide_eq_true (fun e => q ⟨op - (r + 1), by omega, e⟩)
      rw [heB] at this
      exact Bool.noConfusion this
    obtain ⟨k, hk, e⟩ := this
    refine z_pn_n (k' := k) (fun pre p hp => ?_) op 0 0 _ none (Nat.zero_le _) (by omega)
    cases q : z_F fr un op a9 b9 pre k p
    · rfl
    · exfalso
      rcases hfe k hk with ⟨-, h2⟩ | ⟨g, g1, g2, -⟩
      · exact hFs pre k p hk hp q (h2 p hp)
      · rw [e] at g2
        have : (1000000 : Int32).toInt = (nI g).toInt := by rw [g2]
        rw [nI_toInt (by omega), show (1000000 : Int32).toInt = 1000000 by decide] at this
        omega
