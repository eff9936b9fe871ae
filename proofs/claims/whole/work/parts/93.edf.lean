/-! PURE: HOUR BY HOUR, THE MOST URGENT FIRST -/
def z_ul (un : Nat → Nat) (k : Nat) : Option Nat → Bool
  | none => true
  | some j => decide (un k < un j)
/-- the most urgent of A that is there at h -/
def z_mu (fr un : Nat → Nat) (A : Nat → Bool) (h : Nat) (n : Nat) : Option Nat := lfold (fun k a => if (A k && decide (fr k ≤ h) && z_ul un k a) = true then some k else a) none n
theorem z_mu_s (fr un : Nat → Nat) (A : Nat → Bool) (h n : Nat) : z_mu fr un A h (n + 1) = if (A n && decide (fr n ≤ h) && z_ul un n (z_mu fr un A h n)) = true then some n else z_mu fr un A h n := rfl
def z_mP (fr un : Nat → Nat) (A : Nat → Bool) (h n k : Nat) : Prop := k < n ∧ A k = true ∧ fr k ≤ h ∧ ∀ j, j < n → A j = true → fr j ≤ h → un k < un j ∨ (un k = un j ∧ k ≤ j)
theorem z_mu_c {fr un : Nat → Nat} {A : Nat → Bool} {h : Nat} : ∀ n, (z_mu fr un A h n = none ∧ ∀ k, k < n → A k = true → ¬ fr k ≤ h) ∨ ∃ k, z_mu fr un A h n = some k ∧ z_mP fr un A h n k := by
  intro n
  induction n with
  | zero => exact Or.inl ⟨rfl, fun k hk => absurd hk (Nat.not_lt_zero k)⟩
  | succ n ih =>
    rw [z_mu_s]
    by_cases hA : A n = true ∧ fr n ≤ h
    · rcases ih with ⟨e, hn⟩ | ⟨k, e, h1, h2, h3, h4⟩
      · rw [e, if_pos (by rw [hA.1, decide_eq_true hA.2]; rfl)]
        refine Or.inr ⟨n, rfl, by omega, hA.1, hA.2, fun j hj h5 h6 => ?_⟩
        by_cases ej : j = n
        · exact Or.inr ⟨by rw [ej], by omega⟩
        · exact absurd h6 (hn j (by omega) h5)
      · rw [e]
        by_cases hu : un n < un k
        · rw [if_pos (by rw [hA.1, decide_eq_true hA.2]; exact decide_eq_true hu)]
          refine Or.inr ⟨n, rfl, by omega, hA.1, hA.2, fun j hj h5 h6 => ?_⟩
          by_cases ej : j = n
          · exact Or.inr ⟨by rw [ej], by omega⟩
          · have := h4 j (by omega) h5 h6
            omega
        · rw [if_neg (by rw [hA.1, decide_eq_true hA.2]; exact fun q => hu (of_decide_eq_true q))]
          refine Or.inr ⟨k, rfl, by omega, h2, h3, fun j hj h5 h6 => ?_⟩
          by_cases ej : j = n
          · rw [ej]; omega
          · exact h4 j (by omega) h5 h6
    · have hx : ¬ (A n && decide (fr n ≤ h) && z_ul un n (z_mu fr un A h n)) = true := fun q => by
        rw [Bool.and_eq_true, Bool.and_eq_true, decide_eq_true_iff] at q
        exact hA q.1
      rw [if_neg hx]
      rcases ih with ⟨e, hn⟩ | ⟨k, e, h1, h2, h3, h4⟩
      · refine Or.inl ⟨e, fun k hk q => ?_⟩
        by_cases ek : k = n
        · rw [ek] at q ⊢; exact fun q2 => hA ⟨q, q2⟩
        · exact hn k (by omega) q
      · refine Or.inr ⟨k, e, by omega, h2, h3, fun j hj h5 h6 => ?_⟩
        by_cases ej : j = n
        · rw [ej] at h5 h6; exact absurd ⟨h5, h6⟩ hA
        · exact h4 j (by omega) h5 h6
theorem z_mP_u {fr un : Nat → Nat} {A : Nat → Bool} {h n k k' : Nat} (h1 : z_mP fr un A h n k) (h2 : z_mP fr un A h n k') : k = k' := by
  have a := h1.2.2.2 k' h2.1 h2.2.1 h2.2.2.1
  have b := h2.2.2.2 k h1.1 h1.2.1 h1.2.2.1
  omega
def z_rm (A : Nat → Bool) (k : Nat) : Nat → Bool := fun j => A j && decide (j ≠ k)
theorem z_rm_t {A : Nat → Bool} {k j : Nat} : z_rm A k j = true ↔ A j = true ∧ j ≠ k := by unfold z_rm; rw [Bool.and_eq_true, decide_eq_true_iff]
/-- nothing left -/
def z_no (A : Nat → Bool) (n : Nat) : Bool := lall (fun k => !A k) n
theorem z_no_t {A : Nat → Bool} {n : Nat} : z_no A n = true ↔ ∀ k, k < n → A k = false := by
  unfold z_no
  rw [lall_iff]
  exact forall_congr' fun k => forall_congr' fun _ => by cases A k <;> simp
/-- the class's way -/
def z_ed (fr un : Nat → Nat) (n : Nat) : Nat → Nat → (Nat → Bool) → Bool
  | 0, _, A => z_no A n
  | f + 1, h, A => match z_mu fr un A h n with
    | none => z_ed fr un n f (h + 1) A
    | some k => if un k < h then false else z_ed fr un n f (h + 1) (z_rm A k)
/-- the reference's way -/
def z_rd (fr un : Nat → Nat) (n : Nat) : Nat → Nat → (Nat → Bool) → Bool
  | 0, _, A => z_no A n
  | f + 1, h, A => if lall (fun k => !(A k && decide (un k < h))) n = false then false else match z_mu fr un A h n with
    | none => z_rd fr un n f (h + 1) A
    | some k => z_rd fr un n f (h + 1) (z_rm A k)
theorem z_ed_n {fr un : Nat → Nat} {n f h : Nat} {A : Nat → Bool} (e : z_mu fr un A h n = none) : z_ed fr un n (f + 1) h A = z_ed fr un n f (h + 1) A := by simp only [z_ed, e]
theorem z_ed_s {fr un : Nat → Nat} {n f h k : Nat} {A : Nat → Bool} (e : z_mu fr un A h n = some k) : z_ed fr un n (f + 1) h A = if un k < h then false else z_ed fr un n f (h + 1) (z_rm A k) := by simp only [z_ed, e]
theorem z_rd_n {fr un : Nat → Nat} {n f h : Nat} {A : Nat → Bool} (e : z_mu fr un A h n = none) : z_rd fr un n (f + 1) h A = if lall (fun k => !(A k && decide (un k < h))) n = false then false else z_rd fr un n f (h + 1) A := by simp only [z_rd, e]
theorem z_rd_s {fr un : Nat → Nat} {n f h k : Nat} {A : Nat → Bool} (e : z_mu fr un A h n = some k) : z_rd fr un n (f + 1) h A = if lall (fun k => !(A k && decide (un k < h))) n = false then false else z_rd fr un n f (h + 1) (z_rm A k) := by simp only [z_rd, e]
theorem z_ed_l {fr un : Nat → Nat} {n : Nat} : ∀ (f h : Nat) (A : Nat → Bool), z_ed fr un n f h A = true → ∀ k, k < n → A k = true → h ≤ un k := by
  intro f
  induction f with
  | zero => intro h A e k hk q; rw [z_no_t.mp e k hk] at q; exact Bool.noConfusion q
  | succ f ih =>
    intro h A e k hk q
    rcases z_mu_c (fr := fr) (un := un) (A := A) (h := h) n with ⟨m, -⟩ | ⟨k0, m, -⟩
    · rw [z_ed_n m] at e
      have := ih _ _ e k hk q
      omega
    · rw [z_ed_s m] at e
      by_cases c : un k0 < h
      · rw [if_pos c] at e; exact Bool.noConfusion e
      · rw [if_neg c] at e
        by_cases ek : k = k0
        · rw [ek]; omega
        · have := ih _ _ e k hk (z_rm_t.mpr ⟨q, ek⟩)
          omega
theorem z_ok {A : Nat → Bool} {un : Nat → Nat} {h n : Nat} : lall (fun k => !(A k && decide (un k < h))) n = true ↔ ∀ k, k < n → A k = true → h ≤ un k := by
  rw [lall_iff]
  refine forall_congr' fun k => forall_congr' fun _ => ?_
  show (!(A k && decide (un k < h))) = true ↔ _
  rw [Bool.not_eq_true', ← Bool.not_eq_true, Bool.and_eq_true, decide_eq_true_iff]
  constructor
  · intro q a; by_cases c : un k < h; exact absurd ⟨a, c⟩ q; omega
  · rintro q ⟨a, b⟩; have := q a; omega
theorem z_rd_ed {fr un : Nat → Nat} {n : Nat} : ∀ (f h : Nat) (A : Nat → Bool), z_rd fr un n f h A = z_ed fr un n f h A := by
  intro f
  induction f with
  | zero => intro h A; rfl
  | succ f ih =>
    intro h A
    cases c : lall (fun k => !(A k && decide (un k < h))) n
    · have h1 : z_rd fr un n (f + 1) h A = false := by
        rcases z_mu_c (fr := fr) (un := un) (A := A) (h := h) n with ⟨m, -⟩ | ⟨k0, m, -⟩
        · rw [z_rd_n m, c, if_pos rfl]
        · rw [z_rd_s m, c, if_pos rfl]
      rw [h1]
      cases e : z_ed fr un n (f + 1) h A
      · rfl
      · rw [z_ok.mpr (z_ed_l _ _ _ e)] at c; exact Bool.noConfusion c
    · rcases z_mu_c (fr := fr) (un := un) (A := A) (h := h) n with ⟨m, -⟩ | ⟨k0, m, h1, h2, -⟩
      · rw [z_rd_n m, z_ed_n m, c, if_neg (by decide), ih]
      · have := z_ok.mp c k0 h1 h2
        rw [z_rd_s m, z_ed_s m, c, if_neg (by decide), if_neg (by omega), ih]
theorem z_ed_0 {fr un : Nat → Nat} {n : Nat} : ∀ (f h : Nat) (A : Nat → Bool), (∀ k, k < n → A k = false) → z_ed fr un n f h A = true := by
  intro f
  induction f with
  | zero => intro h A q; exact z_no_t.mpr q
  | succ f ih =>
    intro h A q
    rcases z_mu_c (fr := fr) (un := un) (A := A) (h := h) n with ⟨m, -⟩ | ⟨k0, m, h1, h2, -⟩
    · rw [z_ed_n m]; exact ih _ _ q
    · rw [q k0 h1] at h2; exact Bool.noConfusion h2
/-- past the last hour nothing more happens -/
theorem z_ed_e {fr un : Nat → Nat} {n N : Nat} (hu : ∀ k, k < n → un k ≤ N) : ∀ (g f h : Nat) (A : Nat → Bool), N + 1 ≤ h + g → z_ed fr un n (g + f) h A = z_ed fr un n g h A := by
  intro g
  induction g with
  | zero =>
    intro f h A hh
    cases e : z_no A n
    · rw [show z_ed fr un n 0 h A = z_no A n from rfl, e]
      cases e2 : z_ed fr un n (0 + f) h A
      · rfl
      · exfalso
        have : z_no A n = true := z_no_t.mpr fun k hk => by
          cases q : A k
          · rfl
          · have h1 := z_ed_l _ _ _ e2 k hk q
            have h2 := hu k hk
            omega
        rw [e] at this; exact Bool.noConfusion this
    · rw [show z_ed fr un n 0 h A = z_no A n from rfl, e]
      exact z_ed_0 _ _ _ (z_no_t.mp e)
  | succ g ih =>
    intro f h A hh
    rw [show g + 1 + f = g + f + 1 by omega]
    rcases z_mu_c (fr := fr) (un := un) (A := A) (h := h) n with ⟨m, -⟩ | ⟨k0, m, -⟩
    · rw [z_ed_n m, z_ed_n m, ih f (h + 1) A (by omega)]
    · rw [z_ed_s m, z_ed_s m, ih f (h + 1) _ (by omega)]
/-- ahead of the first hour nothing is there -/
theorem z_ed_b {fr un : Nat → Nat} {n a : Nat} (hf : ∀ k, k < n → a ≤ fr k) : ∀ (d f h : Nat) (A : Nat → Bool), h + d = a → z_ed fr un n (d + f) h A = z_ed fr un n f a A := by
  intro d
  induction d with
  | zero => intro f h A e; rw [Nat.zero_add, ← e]; rfl
  | succ d ih =>
    intro f h A e
    rw [show d + 1 + f = d + f + 1 by omega]
    rcases z_mu_c (fr := fr) (un := un) (A := A) (h := h) n with ⟨m, -⟩ | ⟨k0, m, h1, h2, h3, -⟩
    · rw [z_ed_n m, ih f (h + 1) A (by omega)]
    · have := hf k0 h1; omega
/-- the reference's day and the class's hours up to noon -/
theorem z_day {fr un : Nat → Nat} {n a N : Nat} {A : Nat → Bool} (hf : ∀ k, k < n → a ≤ fr k) (hu : ∀ k, k < n → un k ≤ N) (ha : a ≤ 24) (hN : N ≤ 23) : z_rd fr un n 24 0 A = z_ed fr un n (N + 1 - a) a A := by
  rw [z_rd_ed]
  have h1 := z_ed_b (un := un) hf a (24 - a) 0 A (by omega)
  rw [show a + (24 - a) = 24 by omega] at h1
  rw [h1]
  have h2 := z_ed_e (fr := fr) hu (N + 1 - a) (24 - a - (N + 1 - a)) a A (by omega)
  rw [show N + 1 - a + (24 - a - (N + 1 - a)) = 24 - a by omega] at h2
  exact h2
/-- fewer loaves are no harder -/
theorem z_ed_m {fr un : Nat → Nat} {n : Nat} : ∀ (f h : Nat) (A B : Nat → Bool), (∀ k, k < n → B k = true → A k = true) → z_ed fr un n f h A = true → z_ed fr un n f h B = true := by
  intro f
  induction f with
  | zero =>
    intro h A B hs e
    refine z_no_t.mpr fun k hk => ?_
    cases q : B k
    · rfl
    · have := hs k hk q
      rw [z_no_t.mp e k hk] at this; exact Bool.noConfusion this
  | succ f ih =>
    intro h A B hs e
    have hl := z_ed_l _ _ _ e
    rcases z_mu_c (fr := fr) (un := un) (A := A) (h := h) n with ⟨m, hn⟩ | ⟨k, m, p1, p2, p3, p4⟩
    · rw [z_ed_n m] at e
      rcases z_mu_c (fr := fr) (un := un) (A := B) (h := h) n with ⟨m', -⟩ | ⟨k', m', q1, q2, q3, -⟩
      · rw [z_ed_n m']; exact ih _ A B hs e
      · exact absurd q3 (hn k' q1 (hs k' q1 q2))
    · rw [z_ed_s m, if_neg (by have := hl k p1 p2; omega)] at e
      rcases z_mu_c (fr := fr) (un := un) (A := B) (h := h) n with ⟨m', hn⟩ | ⟨k', m', q1, q2, q3, q4⟩
      · rw [z_ed_n m']
        refine ih _ (z_rm A k) B (fun j hj hb => z_rm_t.mpr ⟨hs j hj hb, fun ej => ?_⟩) e
        rw [ej] at hb
        exact hn k p1 hb p3
      · rw [z_ed_s m', if_neg (by have := hl k' q1 (hs k' q1 q2); omega)]
        refine ih _ (z_rm A k) (z_rm B k') (fun j hj hb => ?_) e
        obtain ⟨b1, b2⟩ := z_rm_t.mp hb
        refine z_rm_t.mpr ⟨hs j hj b1, fun ej => b2 ?_⟩
        rw [ej] at b1 ⊢
        have c1 := p4 k' q1 (hs k' q1 q2) q3
        have c2 := q4 k p1 b1 p3
        omega
