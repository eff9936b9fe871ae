/-! PURE: SORTED SLICES -/
theorem z_ins_o : ∀ (j : Nat) (S : Nat → Int32) (a : Nat), j < a → f_ins S j a = S a := by
  intro j
  induction j with
  | zero => intro S a _; rfl
  | succ j ih =>
    intro S a ha
    show (if S j < S (j + 1) then f_ins (upd (upd S (j + 1) (S j)) j (S (j + 1))) j else S) a = S a
    split
    · rw [ih _ a (by omega), upd_o (by omega), upd_o (by omega)]
    · rfl
theorem z_ins_lb {v : Int32} : ∀ (j : Nat) (S : Nat → Int32), (∀ a, a ≤ j → v ≤ S a) → ∀ a, a ≤ j → v ≤ f_ins S j a := by
  intro j
  induction j with
  | zero => intro S h a ha; exact h a ha
  | succ j ih =>
    intro S h a ha
    show v ≤ (if S j < S (j + 1) then f_ins (upd (upd S (j + 1) (S j)) j (S (j + 1))) j else S) a
    split
    · by_cases e : a = j + 1
      · rw [e, z_ins_o j _ (j + 1) (by omega), upd_o (by omega), pk_us]; exact h j (by omega)
      · refine ih _ (fun b hb => ?_) a (by omega)
        by_cases e2 : b = j
        · rw [e2, pk_us]; exact h (j + 1) (by omega)
        · rw [upd_o e2, upd_o (by omega)]; exact h b (by omega)
    · exact h a ha
def z_sd (S : Nat → Int32) (k : Nat) : Prop := ∀ a b, a < b → b < k → S b ≤ S a
theorem z_ins_sd : ∀ (j : Nat) (S : Nat → Int32), z_sd S j → z_sd (f_ins S j) (j + 1) := by
  intro j
  induction j with
  | zero => intro S _ a b h1 h2; omega
  | succ j ih =>
    intro S h
    show z_sd (if S j < S (j + 1) then f_ins (upd (upd S (j + 1) (S j)) j (S (j + 1))) j else S) (j + 1 + 1)
    by_cases e : S j < S (j + 1)
    · rw [if_pos e]
      have hs : z_sd (upd (upd S (j + 1) (S j)) j (S (j + 1))) j := fun a b h1 h2 => by
        rw [upd_o (by omega), upd_o (by omega), upd_o (by omega), upd_o (by omega)]; exact h a b h1 (by omega)
      have h1 := ih _ hs
      have hlb := z_ins_lb (v := S j) j (upd (upd S (j + 1) (S j)) j (S (j + 1))) (fun a ha => by
        by_cases e2 : a = j
        · rw [e2, pk_us]; rw [z_lI] at e; rw [z_leI]; omega
        · rw [upd_o e2, upd_o (by omega)]; exact h a j (by omega) (by omega))
      intro a b ha hb
      by_cases e3 : b = j + 1
      · rw [e3, z_ins_o j _ (j + 1) (by omega), upd_o (by omega), pk_us]; exact hlb a (by omega)
      · exact h1 a b ha (by omega)
    · rw [if_neg e]
      intro a b ha hb
      by_cases e3 : b = j + 1
      · have hj : S (j + 1) ≤ S j := by rw [z_lI] at e; rw [z_leI]; omega
        by_cases e4 : a = j
        · rw [e3, e4]; exact hj
        · rw [e3]; exact z_le_t hj (h a j (by omega) (by omega))
      · exact h a b ha (by omega)
theorem z_srt_sd (S : Nat → Int32) : ∀ k : Nat, z_sd (f_srt S k) k := by
  intro k
  induction k with
  | zero => intro a b _ h; omega
  | succ k ih => exact z_ins_sd k _ ih
theorem z_cnt_sw {P : Int32 → Bool} {S : Nat → Int32} {j n : Nat} (hj : j + 1 < n) : z_cnt (fun k => P (upd (upd S (j + 1) (S j)) j (S (j + 1)) k)) n = z_cnt (fun k => P (S k)) n := by
  have hv : ∀ k, upd (upd S (j + 1) (S j)) j (S (j + 1)) k = S (if k = j then j + 1 else if k = j + 1 then j else k) := fun k => by
    by_cases e1 : k = j
    · rw [if_pos e1, e1, pk_us]
    · rw [if_neg e1, upd_o e1]
      by_cases e2 : k = j + 1
      · rw [if_pos e2, e2, pk_us]
      · rw [if_neg e2, upd_o e2]
  refine z_bij (fun i k => decide (k = if i = j then j + 1 else if i = j + 1 then j else i) && P (S k)) (fun i k h => ?_) (fun i hi h => ?_) (fun k hk h => ?_)
  · rw [Bool.and_eq_true, decide_eq_true_iff] at h
    refine ⟨?_, h.2⟩
    show P (upd (upd S (j + 1) (S j)) j (S (j + 1)) i) = true
    rw [hv, ← h.1]; exact h.2
  · have h' : P (S (if i = j then j + 1 else if i = j + 1 then j else i)) = true := by rw [← hv]; exact h
    refine ⟨if i = j then j + 1 else if i = j + 1 then j else i, ?_, by rw [h', decide_eq_true rfl]; rfl, fun q hq h2 => ?_⟩
    · split
      · omega
      · split <;> omega
    · rw [Bool.and_eq_true, decide_eq_true_iff] at h2; exact h2.1
  · refine ⟨if k = j then j + 1 else if k = j + 1 then j else k, ?_, ?_, fun q hq h2 => ?_⟩
    · split
      · omega
      · split <;> omega
    · rw [Bool.and_eq_true]
      refine ⟨decide_eq_true ?_, h⟩
      by_cases e1 : k = j
      · rw [if_pos e1, if_neg (by omega), if_pos rfl]; exact e1
      · rw [if_neg e1]
        by_cases e2 : k = j + 1
        · rw [if_pos e2, if_pos rfl]; exact e2
        · rw [if_neg e2, if_neg e1, if_neg e2]
    · rw [Bool.and_eq_true, decide_eq_true_iff] at h2
      obtain ⟨h3, -⟩ := h2
      by_cases e1 : q = j
      · rw [if_pos e1] at h3; rw [if_neg (by omega), if_pos h3]; exact e1
      · rw [if_neg e1] at h3
        by_cases e2 : q = j + 1
        · rw [if_pos e2] at h3; rw [if_pos h3]; exact e2
        · rw [if_neg e2] at h3; rw [if_neg (by omega), if_neg (by omega)]; exact h3.symm
theorem z_ins_c {P : Int32 → Bool} {n : Nat} : ∀ (j : Nat) (S : Nat → Int32), j < n → z_cnt (fun k => P (f_ins S j k)) n = z_cnt (fun k => P (S k)) n := by
  intro j
  induction j with
  | zero => intro S _; rfl
  | succ j ih =>
    intro S hj
    by_cases e : S j < S (j + 1)
    · have h : f_ins S (j + 1) = f_ins (upd (upd S (j + 1) (S j)) j (S (j + 1))) j := if_pos e
      rw [h, ih _ (by omega), z_cnt_sw hj]
    · have h : f_ins S (j + 1) = S := if_neg e
      rw [h]
theorem z_srt_c {P : Int32 → Bool} {n : Nat} (S : Nat → Int32) : ∀ k : Nat, k ≤ n → z_cnt (fun i => P (f_srt S k i)) n = z_cnt (fun i => P (S i)) n := by
  intro k
  induction k with
  | zero => intro _; rfl
  | succ k ih =>
    intro hk
    show z_cnt (fun i => P (f_ins (f_srt S k) k i)) n = _
    rw [z_ins_c k _ (by omega), ih (by omega)]
theorem z_cnt_le {P Q : Nat → Bool} : ∀ n : Nat, (∀ k, k < n → P k = true → Q k = true) → z_cnt P n ≤ z_cnt Q n := by
  intro n
  induction n with
  | zero => intro _; exact Nat.le_refl 0
  | succ n ih =>
    intro h
    have h1 := ih (fun k hk => h k (by omega))
    rw [z_cnt_s, z_cnt_s]
    by_cases e : P n = true
    · rw [if_pos e, if_pos (h n (by omega) e)]; omega
    · rw [if_neg e]; split <;> omega
theorem z_cnt_lt {P Q : Nat → Bool} {b : Nat} : ∀ n : Nat, b < n → (∀ k, k < n → P k = true → Q k = true) → Q b = true → P b = false → z_cnt P n < z_cnt Q n := by
  intro n
  induction n with
  | zero => intro h; omega
  | succ n ih =>
    intro hb h h1 h2
    rw [z_cnt_s, z_cnt_s]
    by_cases e : b = n
    · subst e
      rw [if_pos h1, if_neg (by rw [h2]; decide)]
      have := z_cnt_le (P := P) (Q := Q) b (fun k hk => h k (by omega)); omega
    · have h3 := ih (by omega) (fun k hk => h k (by omega)) h1 h2
      by_cases e2 : P n = true
      · rw [if_pos e2, if_pos (h n (by omega) e2)]; omega
      · rw [if_neg e2]; split <;> omega
/-- of sorted ones just the first so many are as large -/
theorem z_sd_n {S : Nat → Int32} {c : Int32} : ∀ n : Nat, z_sd S n → ∀ t, t < n → (c ≤ S t ↔ t < z_cnt (fun k => decide (c ≤ S k)) n) := by
  intro n
  induction n with
  | zero => intro _ t ht; omega
  | succ n ih =>
    intro h t ht
    have hle : ∀ m, z_cnt (fun k => decide (c ≤ S k)) m ≤ m := fun m => by
      induction m with
      | zero => exact Nat.le_refl 0
      | succ m ih => rw [z_cnt_s]; split <;> omega
    have ih := ih (fun a b h1 h2 => h a b h1 (by omega))
    rw [z_cnt_s]
    by_cases e : c ≤ S n
    · have hall : ∀ k, k < n → c ≤ S k := fun k hk => z_le_t e (h k n hk (by omega))
      have hn : z_cnt (fun k => decide (c ≤ S k)) n = n := by
        rcases Nat.eq_zero_or_pos n with h0 | h0
        · subst h0; rfl
        · have := (ih (n - 1) (by omega)).mp (hall (n - 1) (by omega))
          have := hle n; omega
      rw [if_pos (decide_eq_true e), hn]
      exact ⟨fun _ => by omega, fun _ => if h2 : t = n then by rw [h2]; exact e else hall t (by omega)⟩
    · rw [if_neg (fun h2 => e (of_decide_eq_true h2))]
      by_cases e2 : t = n
      · rw [e2]; exact ⟨fun h2 => absurd h2 e, fun h2 => by have := hle n; omega⟩
      · exact ih t (by omega)
/-- the set of those that were taken: always the largest ones -/
def z_tk (S : Nat → Int32) (mn : Nat) (B : Nat → Bool) : Prop := ∀ c : Int32, z_cnt (fun k => B k && decide (c ≤ S k)) mn = Nat.min (z_cnt B mn) (z_cnt (fun k => decide (c ≤ S k)) mn)
theorem z_cnt_p {B : Nat → Bool} {Q : Nat → Bool} {b : Nat} : ∀ n : Nat, b < n → B b = false → z_cnt (fun k => (B k || decide (k = b)) && Q k) n = z_cnt (fun k => B k && Q k) n + if Q b = true then 1 else 0 := by
  intro n
  induction n with
  | zero => intro h; omega
  | succ n ih =>
    intro hb h
    rw [z_cnt_s, z_cnt_s]
    by_cases e : b = n
    · subst e
      have hc : z_cnt (fun k => (B k || decide (k = b)) && Q k) b = z_cnt (fun k => B k && Q k) b := z_cnt_c b (fun k hk => by rw [decide_eq_false (by omega), Bool.or_false])
      rw [hc, h, decide_eq_true rfl]
      cases Q b <;> simp
    · rw [ih (by omega) h, decide_eq_false (fun h2 => e h2.symm), Bool.or_false]
      by_cases e2 : (B n && Q n) = true
      · rw [if_pos e2, if_pos e2]; omega
      · rw [if_neg e2, if_neg e2]
theorem z_pick {S : Nat → Int32} {mn : Nat} {B : Nat → Bool} (hT : z_tk S mn B) {b : Nat} (hb : b < mn) (hB : B b = false) (hm : ∀ k, k < mn → B k = false → S k ≤ S b) : S b = f_srt S mn (z_cnt B mn) ∧ z_tk S mn (fun k => B k || decide (k = b)) ∧ z_cnt (fun k => B k || decide (k = b)) mn = z_cnt B mn + 1 := by
  have hN : ∀ c : Int32, z_cnt (fun k => decide (c ≤ f_srt S mn k)) mn = z_cnt (fun k => decide (c ≤ S k)) mn := fun c => z_srt_c (P := fun x => decide (c ≤ x)) S mn (Nat.le_refl mn)
  have hlt : z_cnt B mn < mn := by
    have h1 := z_cnt_lt (P := B) (Q := fun _ => true) mn hb (fun _ _ _ => rfl) rfl hB
    have h2 : ∀ m, z_cnt (fun _ => true) m = m := fun m => by
      induction m with
      | zero => rfl
      | succ m ih => rw [z_cnt_s, if_pos rfl, ih]
    rw [h2] at h1; exact h1
  have key : ∀ c : Int32, (c ≤ S b → z_cnt B mn < z_cnt (fun k => decide (c ≤ S k)) mn) ∧ (¬ c ≤ S b → z_cnt (fun k => decide (c ≤ S k)) mn ≤ z_cnt B mn) := fun c => by
    have h0 := hT c
    refine ⟨fun h => ?_, fun h => ?_⟩
    · have h1 := z_cnt_lt (P := fun k => B k && decide (c ≤ S k)) (Q := fun k => decide (c ≤ S k)) mn hb (fun k _ h2 => (Bool.and_eq_true _ _ ▸ h2 : _ ∧ _).2) (decide_eq_true h) (by rw [hB]; rfl)
      rw [h0] at h1
      rcases Nat.le_total (z_cnt B mn) (z_cnt (fun k => decide (c ≤ S k)) mn) with h2 | h2
      · rw [show Nat.min (z_cnt B mn) (z_cnt (fun k => decide (c ≤ S k)) mn) = z_cnt B mn from Nat.min_eq_left h2] at h1; exact h1
      · rw [show Nat.min (z_cnt B mn) (z_cnt (fun k => decide (c ≤ S k)) mn) = z_cnt (fun k => decide (c ≤ S k)) mn from Nat.min_eq_right h2] at h1; omega
    · have h1 : z_cnt (fun k => decide (c ≤ S k)) mn = z_cnt (fun k => B k && decide (c ≤ S k)) mn := z_cnt_c mn (fun k hk => by
        cases e : B k
        · rw [decide_eq_false (fun h2 => h (z_le_t h2 (hm k hk e)))]; rfl
        · rfl)
      rw [h1, h0]; exact Nat.min_le_left _ _
  have hsort := z_srt_sd S mn
  refine ⟨?_, fun c => ?_, ?_⟩
  · apply z_le_a
    · rw [z_sd_n mn hsort (z_cnt B mn) hlt, hN]; exact (key (S b)).1 (Int32.le_refl _)
    · have h1 := (z_sd_n (c := f_srt S mn (z_cnt B mn)) mn hsort (z_cnt B mn) hlt).mp (Int32.le_refl _)
      rw [hN] at h1
      by_cases e : f_srt S mn (z_cnt B mn) ≤ S b
      · exact e
      · have := (key _).2 e; omega
  · have h1 : z_cnt (fun k => B k || decide (k = b)) mn = z_cnt B mn + 1 := by
      have := z_cnt_p (B := B) (Q := fun _ => true) mn hb hB
      simp only [Bool.and_true, if_true] at this; exact this
    rw [z_cnt_p (B := B) (Q := fun k => decide (c ≤ S k)) mn hb hB, hT c, h1]
    by_cases e : c ≤ S b
    · have := (key c).1 e
      rw [if_pos (decide_eq_true e), show Nat.min (z_cnt B mn) (z_cnt (fun k => decide (c ≤ S k)) mn) = z_cnt B mn from Nat.min_eq_left (by omega)]
      exact (Nat.min_eq_left (by omega)).symm
    · have := (key c).2 e
      rw [if_neg (fun h2 => e (of_decide_eq_true h2)), show Nat.min (z_cnt B mn) (z_cnt (fun k => decide (c ≤ S k)) mn) = z_cnt (fun k => decide (c ≤ S k)) mn from Nat.min_eq_right (by omega)]
      exact (Nat.min_eq_right (by omega)).symm
  · have := z_cnt_p (B := B) (Q := fun _ => true) mn hb hB
    simp only [Bool.and_true, if_true] at this; exact this
