/-! PURE: ALL LOAVES, AND THOSE OPEN -/
/-- the sets AR of loaves and A of open loaves are one -/
def z_sl (lo : Nat → Nat) (op M : Nat) (AR A : Nat → Bool) : Prop := (∀ j, j < op → A j = true → lo j < M) ∧ ∀ b, b < M → (AR b = true ↔ ∃ j, j < op ∧ lo j = b ∧ A j = true)
theorem z_lo_i {lo : Nat → Nat} {op : Nat} (hm : ∀ i j, i < j → j < op → lo i < lo j) {i j : Nat} (hi : i < op) (hj : j < op) (e : lo i = lo j) : i = j := by
  by_cases c : i < j
  · have := hm i j c hj; omega
  · by_cases c2 : j < i
    · have := hm j i c2 hi; omega
    · omega
theorem z_mu_lo {frR unR fr un : Nat → Nat} {AR A : Nat → Bool} {lo : Nat → Nat} {M op h : Nat} (hm : ∀ i j, i < j → j < op → lo i < lo j) (hs : z_sl lo op M AR A) (hu : ∀ j, j < op → A j = true → unR (lo j) = un j ∧ frR (lo j) = fr j) : z_mu frR unR AR h M = (z_mu fr un A h op).map lo := by
  rcases z_mu_c (fr := fr) (un := un) (A := A) (h := h) op with ⟨m, hn⟩ | ⟨j, m, p1, p2, p3, p4⟩
  · rw [m]
    rcases z_mu_c (fr := frR) (un := unR) (A := AR) (h := h) M with ⟨m', -⟩ | ⟨b, m', q1, q2, q3, -⟩
    · rw [m']; rfl
    · obtain ⟨j, hj, e, ha⟩ := (hs.2 b q1).mp q2
      rw [← e, (hu j hj ha).2] at q3
      exact absurd q3 (hn j hj ha)
  · rw [m]
    have hP : z_mP frR unR AR h M (lo j) := by
      refine ⟨hs.1 j p1 p2, (hs.2 _ (hs.1 j p1 p2)).mpr ⟨j, p1, rfl, p2⟩, by rw [(hu j p1 p2).2]; exact p3, fun b hb ha hf => ?_⟩
      obtain ⟨j', hj', e, ha'⟩ := (hs.2 b hb).mp ha
      rw [← e, (hu j' hj' ha').2] at hf
      rw [← e, (hu j p1 p2).1, (hu j' hj' ha').1]
      rcases p4 j' hj' ha' hf with q | ⟨q, q2⟩
      · exact Or.inl q
      · refine Or.inr ⟨q, ?_⟩
        by_cases c : j = j'
        · rw [c]; exact Nat.le_refl _
        · have := hm j j' (by omega) hj'; omega
    rcases z_mu_c (fr := frR) (un := unR) (A := AR) (h := h) M with ⟨m', hn⟩ | ⟨b, m', q⟩
    · exact absurd hP.2.2.1 (hn _ hP.1 hP.2.1)
    · rw [m', z_mP_u q hP]; rfl
theorem z_rd_lo {frR unR fr un : Nat → Nat} {lo : Nat → Nat} {M op : Nat} (hm : ∀ i j, i < j → j < op → lo i < lo j) : ∀ (f h : Nat) (AR A : Nat → Bool), z_sl lo op M AR A → (∀ j, j < op → A j = true → unR (lo j) = un j ∧ frR (lo j) = fr j) → z_rd frR unR M f h AR = z_rd fr un op f h A := by
  intro f
  induction f with
  | zero =>
    intro h AR A hs hu
    show z_no AR M = z_no A op
    rw [Bool.eq_iff_iff, z_no_t, z_no_t]
    constructor
    · intro q j hj
      cases e : A j
      · rfl
      · have := (hs.2 _ (hs.1 j hj e)).mpr ⟨j, hj, rfl, e⟩
        rw [q _ (hs.1 j hj e)] at this; exact Bool.noConfusion this
    · intro q b hb
      cases e : AR b
      · rfl
      · obtain ⟨j, hj, -, ha⟩ := (hs.2 b hb).mp e
        rw [q j hj] at ha; exact Bool.noConfusion ha
  | succ f ih =>
    intro h AR A hs hu
    have hok : lall (fun k => !(AR k && decide (unR k < h))) M = lall (fun k => !(A k && decide (un k < h))) op := by
      rw [Bool.eq_iff_iff, z_ok, z_ok]
      constructor
      · intro q j hj ha
        rw [← (hu j hj ha).1]
        exact q _ (hs.1 j hj ha) ((hs.2 _ (hs.1 j hj ha)).mpr ⟨j, hj, rfl, ha⟩)
      · intro q b hb ha
        obtain ⟨j, hj, e, ha'⟩ := (hs.2 b hb).mp ha
        rw [← e, (hu j hj ha').1]
        exact q j hj ha'
    have hmu := z_mu_lo (h := h) hm hs hu
    rcases z_mu_c (fr := fr) (un := un) (A := A) (h := h) op with ⟨m, -⟩ | ⟨j, m, p1, p2, -⟩
    · rw [m] at hmu
      rw [z_rd_n (show z_mu frR unR AR h M = none from hmu), z_rd_n m, hok, ih (h + 1) AR A hs hu]
    · rw [m] at hmu
      rw [z_rd_s (show z_mu frR unR AR h M = some (lo j) from hmu), z_rd_s m, hok, ih (h + 1) (z_rm AR (lo j)) (z_rm A j) ⟨fun i hi ha => hs.1 i hi (z_rm_t.mp ha).1, fun b hb => ?_⟩ (fun i hi ha => hu i hi (z_rm_t.mp ha).1)]
      rw [z_rm_t, hs.2 b hb]
      constructor
      · rintro ⟨⟨i, hi, e, ha⟩, hne⟩
        exact ⟨i, hi, e, z_rm_t.mpr ⟨ha, fun q => hne (by rw [← e, q])⟩⟩
      · rintro ⟨i, hi, e, ha⟩
        obtain ⟨a1, a2⟩ := z_rm_t.mp ha
        exact ⟨⟨i, hi, e, a1⟩, fun q => a2 (z_lo_i hm hi p1 (e.trans q))⟩
/-- the open loaves ahead of b -/
def z_ix (O : Nat → Bool) (b : Nat) : Nat := z_ct O b
/-- lo lists the open loaves -/
def z_ol (O : Nat → Bool) (m op : Nat) (lo : Nat → Nat) : Prop := op = z_ct O m ∧ (∀ i j, i < j → j < op → lo i < lo j) ∧ (∀ j, j < op → lo j < m ∧ O (lo j) = true ∧ z_ct O (lo j) = j) ∧ ∀ b, b < m → O b = true → z_ct O b < op ∧ lo (z_ct O b) = b
/-- what the reference has tried so far -/
def z_ty (O : Nat → Bool) (pre : Nat → Nat) (b : Nat) (f : Nat → Int32) : Prop := ∀ b', b' < b → f b' = if O b' = true then nI (pre (z_ct O b')) else -1
theorem z_ct_mn {P : Nat → Bool} {a b : Nat} (h : a ≤ b) : z_ct P a ≤ z_ct P b := by
  induction b with
  | zero => rw [show a = 0 by omega]; exact Nat.le_refl _
  | succ b ih =>
    by_cases e : a = b + 1
    · rw [e]; exact Nat.le_refl _
    · have := ih (by omega)
      rw [z_ct_s]
      split <;> omega
/-- in time, both ways -/
theorem z_FR {O : Nat → Bool} {m op : Nat} {lo : Nat → Nat} (hol : z_ol O m op lo) {frR fr : Nat → Nat → Nat} {unR un : Nat → Nat} {cc : Nat → Nat → Bool} {a9 b9 n : Nat} (hn : n ≤ 8) (hm6 : m ≤ 6) (ha : a9 ≤ 24) (hb : b9 ≤ 23) (hun : ∀ j, j < op → unR (lo j) = un j ∧ un j ≤ b9) (hfr : ∀ p j, p < n → j < op → a9 ≤ fr p j ∧ (cc (lo j) p = true → frR p (lo j) = fr p j) ∧ (cc (lo j) p = false → 50 ≤ fr p j)) {pre : Nat → Nat} {b p : Nat} (hbm : b < m) (hO : O b = true) (hp : p < n) {f : Nat → Int32} (hf : z_ty O pre b f) (hpre : ∀ j, j < z_ct O b → pre j < n ∧ cc (lo j) (pre j) = true) : (cc b p = true → f b = nI p → z_rd (frR p) unR (b + 1) 24 0 (fun b' => decide (b' < b + 1 ∧ f b' = nI p)) = z_F fr un op a9 b9 pre (z_ct O b) p) ∧ (cc b p = false → z_F fr un op a9 b9 pre (z_ct O b) p = false) := by
  obtain ⟨ho1, ho2, ho3, ho4⟩ := hol
  obtain ⟨k1, k2⟩ := ho4 b hbm hO
  constructor
  · intro hc hfb
    unfold z_F
    rw [← z_day (fr := fr p) (un := un) (n := op) (fun j hj => (hfr p j hp hj).1) (fun j hj => (hun j hj).2) ha hb]
    have hA : ∀ j, j < op → decide ((j < z_ct O b ∧ pre j = p) ∨ j = z_ct O b) = true → lo j < b + 1 ∧ cc (lo j) p = true := fun j hj q => by
      rcases of_decide_eq_true q with ⟨q1, q2⟩ | q
      · have := ho2 j (z_ct O b) q1 k1
        rw [k2] at this
        exact ⟨by omega, by rw [← q2]; exact (hpre j q1).2⟩
      · rw [q, k2]; exact ⟨by omega, hc⟩
    refine z_rd_lo ho2 24 0 _ _ ⟨fun j hj q => (hA j hj q).1, fun b' hb' => ?_⟩ (fun j hj q => ⟨(hun j hj).1, (hfr p j hp hj).2.1 (hA j hj q).2⟩)
    rw [decide_eq_true_iff]
    constructor
    · rintro ⟨-, q⟩
      by_cases e : b' = b
      · exact ⟨z_ct O b, k1, by rw [k2, e], decide_eq_true (Or.inr rfl)⟩
      · have hlt : b' < b := by omega
        rw [hf b' hlt] at q
        by_cases ho : O b' = true
        · rw [if_pos ho] at q
          obtain ⟨l1, l2⟩ := ho4 b' (by omega) ho
          have hix : z_ct O b' < z_ct O b := by
            have h1 := z_ct_mn (P := O) (show b' + 1 ≤ b by omega)
            rw [z_ct_s, if_pos ho] at h1
            omega
          have hpp := (hpre _ hix).1
          exact ⟨z_ct O b', l1, l2, decide_eq_true (Or.inl ⟨hix, (nI_eq (by omega) (by omega)).mp q⟩)⟩
        · rw [if_neg ho] at q
          exact absurd q.symm (z_nm1 (by omega))
    · rintro ⟨j, hj, e, q⟩
      refine ⟨hb', ?_⟩
      rcases of_decide_eq_true q with ⟨q1, q2⟩ | q
      · have h1 := ho2 j (z_ct O b) q1 k1
        rw [k2, e] at h1
        obtain ⟨-, x2, x3⟩ := ho3 j hj
        rw [e] at x2 x3
        rw [hf b' h1, if_pos x2, x3, q2]
      · rw [q, k2] at e
        rw [← e]; exact hfb
  · intro hc
    cases q : z_F fr un op a9 b9 pre (z_ct O b) p
    · rfl
    · exfalso
      have h1 := z_ed_f _ _ _ q (z_ct O b) k1 (decide_eq_true (Or.inr rfl))
      have h2 := (hfr p (z_ct O b) hp k1).2.2 (by rw [k2]; exact hc)
      have h3 := (hun (z_ct O b) k1).2
      omega
