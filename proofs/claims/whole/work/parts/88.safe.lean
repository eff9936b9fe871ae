/-! PURE: THE FAIR THAT IS SAFE -/
theorem z_mmF {T : x_T} (hW : z_Wp T) {J J9 : g_I} {S : Int32} (hr : ∀ x y, x < T.1.length → y < T.1.length → J 114 (8 * x + y) ≤ J 101 30) (h : z_fP J T.1.length S T.1.length 0 J9) : z_mm T (bt S) (J 101 30) (J 114) (J9 114) := by
  have h8 := hW.1
  intro x y hx hy
  have hmx : g_max (J 114 (8 * x + y)) (J 101 30) = J 101 30 := z_le_a (by rcases z_mxe (J 114 (8 * x + y)) (J 101 30) with g | g <;> rw [g]; exact hr x y hx hy; exact Int32.le_refl _) (z_mxr _ _)
  obtain ⟨h1, h2⟩ := h.2 x y (by omega) (by omega)
  by_cases e : x ≠ y ∧ bt S x = true ∧ bt S y = true
  · rw [if_pos e, hmx]
    exact h1 ⟨hx, hy, e.2.1, e.2.2, by have := e.1; omega⟩
  · rw [if_neg e]
    exact h2 (fun q => e ⟨by have := q.2.2.2.2; omega, q.2.2.1, q.2.2.2.1⟩)
theorem z_canC {T : x_T} (hW : z_W T) {kd tw kn M M' : Nat → Int32} {dy co : Int32} (hK : z_KR T M dy kn) (hka : z_KR T M' dy (fun p => f_ka kd tw kn (nI p) co)) {p l : Nat} (hp : p < T.1.length) (hl : l < T.2.1.length) : z_can T M' dy p l = true ↔ z_can T M dy p l = true ∧ f_ka kd tw kn (nI p) co &&& x_bits (z_es T l) = 0 := by
  have h8 := hW.1.1
  rw [z_canK hW.1 hW.2.1 hl, z_canK hW.1 hW.2.1 hl, z_meet hW.1 (hW.2.1.2 l hl).2.2.2.2]
  constructor
  · intro h
    have hA : ∀ q, q < T.1.length → nI q ∈ z_es T l → bt (f_ka kd tw kn (nI p) co) q = false := fun q hq hm => by
      cases e : bt (f_ka kd tw kn (nI p) co) q
      · rfl
      · have := ((hka p hp q (by omega)).mp e).2.2
        rw [h q hq hm] at this; exact Bool.noConfusion this
    refine ⟨fun q hq hm => ?_, hA⟩
    cases e : z_kn T M dy p q
    · rfl
    · have hne : q ≠ p := fun e2 => by
        have := h q hq hm
        rw [e2, z_kn_self] at this; exact Bool.noConfusion this
      have h1 := (hK p hp q (by omega)).mpr ⟨hq, hne, e⟩
      have h2 := hA q hq hm
      unfold f_ka at h2
      rw [nI_clamp (by omega), b_or, h1] at h2
      exact Bool.noConfusion h2
  · rintro ⟨h1, h2⟩ q hq hm
    cases e : z_kn T M' dy p q
    · rfl
    · have hne : q ≠ p := fun e2 => by
        have := h1 q hq hm
        rw [e2, z_kn_self] at this; exact Bool.noConfusion this
      have := (hka p hp q (by omega)).mpr ⟨hq, hne, e⟩
      rw [show bt (f_ka kd tw kn (nI p) co) q = false from h2 q hq hm] at this
      exact Bool.noConfusion this
theorem z_cu0 {T : x_T} (hW : z_Wp T) {M : Nat → Int32} {dy : Int32} {l : Nat} : ¬ z_cu T M dy l = 0 ↔ ∃ p, p < T.1.length ∧ z_can T M dy p l = true := by
  have h8 := hW.1
  constructor
  · intro h
    by_cases q : ∃ p, p < T.1.length ∧ z_can T M dy p l = true
    · exact q
    · refine absurd (z_eq0.mpr fun i hi => ?_) h
      cases e : bt (z_cu T M dy l) i
      · rfl
      · exact absurd ⟨i, (z_cu_b hW hi).mp e⟩ q
  · rintro ⟨p, hp, h1⟩ h2
    have h3 := (z_cu_b hW (show p < 32 by omega)).mpr ⟨hp, h1⟩
    rw [h2, b_0] at h3
    exact Bool.noConfusion h3
theorem z_kcE {T : x_T} (hW : z_W T) {kd tw kn M M' : Nat → Int32} {dy co : Int32} (hK : z_KR T M dy kn) (hka : z_KR T M' dy (fun p => f_ka kd tw kn (nI p) co)) {l : Nat} (hl : l < T.2.1.length) : f_kc kd tw kn (z_cu T M dy l) (x_bits (z_es T l)) co T.1.length = true ↔ ¬ z_cu T M' dy l = 0 := by
  have h8 := hW.1.1
  rw [z_cu0 hW.1]
  unfold f_kc
  rw [Bool.not_eq_true', ← Bool.not_eq_true, lall_iff]
  constructor
  · intro h
    by_cases q : ∃ p, p < T.1.length ∧ z_can T M' dy p l = true
    · exact q
    · refine absurd (fun p hp => ?_) h
      show (!(f_has (z_cu T M dy l) (nI p) && decide (f_ka kd tw kn (nI p) co &&& x_bits (z_es T l) = 0))) = true
      rw [Bool.not_eq_true', ← Bool.not_eq_true, Bool.and_eq_true, decide_eq_true_iff, z_has (by omega), z_cu_b hW.1 (by omega)]
      exact fun g => q ⟨p, hp, (z_canC hW hK hka hp hl).mpr ⟨g.1.2, g.2⟩⟩
  · rintro ⟨p, hp, h1⟩ h
    have h2 := h p hp
    obtain ⟨c1, c2⟩ := (z_canC hW hK hka hp hl).mp h1
    have h3 : (!(f_has (z_cu T M dy l) (nI p) && decide (f_ka kd tw kn (nI p) co &&& x_bits (z_es T l) = 0))) = true := h2
    rw [Bool.not_eq_true', ← Bool.not_eq_true, Bool.and_eq_true, decide_eq_true_iff, z_has (by omega), z_cu_b hW.1 (by omega)] at h3
    exact h3 ⟨⟨hp, c1⟩, c2⟩
theorem z_cbB {ct cu : Nat → Int32} {m i : Nat} (hm : m ≤ 6) (hi : i < 32) : bt (f_cb ct cu m) i = true ↔ i < m ∧ ct i = -1 ∧ ¬ cu i = 0 := by
  unfold f_cb
  rw [z_fold (by omega) hi, decide_eq_true_iff]
theorem z_lc {T : x_T} (hW : z_W T) {kd tw kn cu eb cu' ct ct' M M' : Nat → Int32} {dy S : Int32} (hK : z_KR T M dy kn) (hka : z_KR T M' dy (fun p => f_ka kd tw kn (nI p) (f_wt tw S T.1.length))) (hcu : ∀ l, l < T.2.1.length → cu l = z_cu T M dy l) (hcu' : ∀ l, l < T.2.1.length → cu' l = z_cu T M' dy l) (heb : ∀ l, l < T.2.1.length → eb l = x_bits (z_es T l)) (hct : ∀ l, l < T.2.1.length → ct' l = ct l) : f_cb ct cu T.2.1.length &&& (f_cb ct' cu' T.2.1.length ^^^ (-1)) = 0 ↔ f_lc kd tw kn cu eb S (f_cb ct cu T.2.1.length) T.1.length T.2.1.length = true := by
  have h6 := hW.2.1.1
  unfold f_lc
  rw [z_and0, lall_iff]
  constructor
  · intro h l hl
    show (!(f_has (f_cb ct cu T.2.1.length) (nI l) && !f_kc kd tw kn (cu l) (eb l) (f_wt tw S T.1.length) T.1.length)) = true
    rw [Bool.not_eq_true', ← Bool.not_eq_true, Bool.and_eq_true, z_has (by omega), Bool.not_eq_true', ← Bool.not_eq_true, hcu l hl, heb l hl, z_kcE hW hK hka hl]
    rintro ⟨g1, g2⟩
    have g3 := h l (by omega) g1
    rw [z_com _ (by omega), Bool.not_eq_false', z_cbB h6 (by omega), hcu' l hl] at g3
    exact g2 g3.2.2
  · intro h i hi g1
    obtain ⟨hl, b1, b2⟩ := (z_cbB h6 hi).mp g1
    rw [z_com _ hi, Bool.not_eq_false', z_cbB h6 hi, hct i hl, hcu' i hl]
    refine ⟨hl, b1, ?_⟩
    have h2 : (!(f_has (f_cb ct cu T.2.1.length) (nI i) && !f_kc kd tw kn (cu i) (eb i) (f_wt tw S T.1.length) T.1.length)) = true := h i hl
    rw [Bool.not_eq_true', ← Bool.not_eq_true, Bool.and_eq_true, z_has hi, Bool.not_eq_true', ← Bool.not_eq_true, hcu i hl, heb i hl, z_kcE hW hK hka hl] at h2
    exact Classical.byContradiction fun q => h2 ⟨g1, q⟩
theorem z_lfn {P : Nat → Bool} {n : Nat} (h : ∀ k, k < n → P k = false) : lfst P n = none := by
  induction n with
  | zero => rfl
  | succ n ih => exact lfst_0 (ih fun k hk => h k (by omega)) (h n (by omega))
theorem z_lfs {P : Nat → Bool} {n j : Nat} (hj : j < n) (hp : P j = true) (h : ∀ k, k < j → P k = false) : lfst P n = some j := lfst_s (lfst_1 (z_lfn h) hp) hj
theorem z_pcn : ∀ n, n < 9 → ∀ s, s < 2 ^ n → z_pc s ≤ n := by decide +kernel
/-- the best seen so far -/
def z_sb (G : Nat → Bool) (i : Nat) (x : Int32) : Prop := (x = -1 ∧ ∀ s, s < i → 2 ≤ z_pc s → G s = false) ∨ ∃ s0, x = nI s0 ∧ s0 < i ∧ 2 ≤ z_pc s0 ∧ G s0 = true ∧ (∀ s, s < i → 2 ≤ z_pc s → G s = true → z_pc s ≤ z_pc s0) ∧ ∀ s, s < s0 → 2 ≤ z_pc s → G s = true → z_pc s < z_pc s0
theorem z_se {G : Nat → Bool} {n : Nat} {Q : Nat → Nat → Bool} {x : Int32} (hn : n ≤ 8) (hQ : ∀ j s, Q j s = (decide (¬ s = 0) && (decide (f_bc (nI s) = nI j) && G s))) (h : z_sb G (2 ^ n) x) : f_se Q n (2 ^ n) = x := by
  have hN : 2 ^ n ≤ 1024 := (k_pow1 (by omega)).2
  have hq : ∀ j s, j ≤ 8 → s < 2 ^ n → (Q j s = true ↔ ¬ s = 0 ∧ z_pc s = j ∧ G s = true) := fun j s hj hs => by
    have := (z_bo1 s (by omega)).2.2
    rw [hQ, Bool.and_eq_true, Bool.and_eq_true, decide_eq_true_iff, decide_eq_true_iff, z_bc s (by omega), nI_eq (by omega) (by omega)]
  have hf : ∀ j s, j ≤ 8 → s < 2 ^ n → ¬ (¬ s = 0 ∧ z_pc s = j ∧ G s = true) → Q j s = false := fun j s hj hs h => by
    cases e : Q j s
    · rfl
    · exact absurd ((hq j s hj hs).mp e) h
  unfold f_se
  rcases h with ⟨rfl, h⟩ | ⟨s0, rfl, h1, h2, h3, h4, h5⟩
  · rw [z_lfn (n := n - 1) fun c hc => ?_]
    show (lfst (Q (n - c)) (2 ^ n)).isSome = false
    rw [z_lfn fun s hs => hf _ _ (by omega) hs fun q => by rw [h s hs (by omega)] at q; exact Bool.noConfusion q.2.2]
    rfl
  · have hp := z_pcn n (by omega) s0 h1
    have h0 : ¬ s0 = 0 := fun e => by
      rw [e, show z_pc 0 = 0 from rfl] at h2; omega
    have hi : lfst (Q (z_pc s0)) (2 ^ n) = some s0 := z_lfs h1 ((hq _ _ (by omega) h1).mpr ⟨h0, rfl, h3⟩) fun s hs => hf _ _ (by omega) (by omega) fun q => by have := h5 s hs (by omega) q.2.2; omega
    have ho : lfst (fun c => (lfst (Q (n - c)) (2 ^ n)).isSome) (n - 1) = some (n - z_pc s0) := by
      refine z_lfs (by omega) ?_ fun c hc => ?_
      · show (lfst (Q (n - (n - z_pc s0))) (2 ^ n)).isSome = true
        rw [show n - (n - z_pc s0) = z_pc s0 by omega, hi]; rfl
      · show (lfst (Q (n - c)) (2 ^ n)).isSome = false
        rw [z_lfn fun s hs => hf _ _ (by omega) hs fun q => by have := h4 s hs (by omega) q.2.2; omega]
        rfl
    rw [ho]
    show (match lfst (Q (n - (n - z_pc s0))) (2 ^ n) with
      | none => -1
      | some s => nI s) = nI s0
    rw [show n - (n - z_pc s0) = z_pc s0 by omega, hi]
theorem z_sb_n {G : Nat → Bool} {i : Nat} {x : Int32} (h : z_sb G i x) (hn : 2 ≤ z_pc i → G i = false) : z_sb G (i + 1) x := by
  rcases h with ⟨e, h⟩ | ⟨s0, e, h1, h2, h3, h4, h5⟩
  · refine Or.inl ⟨e, fun s hs h2 => ?_⟩
    by_cases es : s = i
    · rw [es] at h2 ⊢; exact hn h2
    · exact h s (by omega) h2
  · refine Or.inr ⟨s0, e, by omega, h2, h3, fun s hs g1 g2 => ?_, h5⟩
    by_cases es : s = i
    · rw [es] at g1 g2; rw [hn g1] at g2; exact Bool.noConfusion g2
    · exact h4 s (by omega) g1 g2
theorem z_sb_l {G : Nat → Bool} {i s0 : Nat} (h : z_sb G i (nI s0)) (hs : s0 < 1024) (hi : i ≤ 1024) (hn : z_pc i ≤ z_pc s0) : z_sb G (i + 1) (nI s0) := by
  rcases h with ⟨e, h⟩ | ⟨s1, e, h1, h2, h3, h4, h5⟩
  · exact absurd e (z_nm1 (by omega))
  · have := (nI_eq (by omega) (by omega)).mp e
    subst this
    refine Or.inr ⟨s0, rfl, by omega, h2, h3, fun s hs g1 g2 => ?_, h5⟩
    by_cases es : s = i
    · rw [es]; exact hn
    · exact h4 s (by omega) g1 g2
theorem z_sb_g {G : Nat → Bool} {i : Nat} {x : Int32} (h : z_sb G i x) (hi : i ≤ 1024) (h2 : 2 ≤ z_pc i) (hg : G i = true) (hx : x = -1 ∨ ∃ s0, s0 < 1024 ∧ x = nI s0 ∧ z_pc s0 < z_pc i) : z_sb G (i + 1) (nI i) := by
  have hb : ∀ s, s < i → 2 ≤ z_pc s → G s = true → z_pc s < z_pc i := by
    intro s hs g1 g2
    rcases h with ⟨e, h⟩ | ⟨s1, e, h1, k2, h3, h4, h5⟩
    · rw [h s hs g1] at g2; exact Bool.noConfusion g2
    · rcases hx with e2 | ⟨s0, q1, q2, q3⟩
      · rw [e] at e2; exact absurd e2 (z_nm1 (by omega))
      · rw [e] at q2
        have := (nI_eq (by omega) (by omega)).mp q2
        subst this
        have := h4 s hs g1 g2
        omega
  refine Or.inr ⟨i, rfl, by omega, h2, hg, fun s hs g1 g2 => ?_, hb⟩
  by_cases es : s = i
  · rw [es]; exact Nat.le_refl _
  · exact Nat.le_of_lt (hb s (by omega) g1 g2)
/-- the reference's world behind a fair that was tried and taken back -/
def z_bk (J J' : g_I) : Prop := (∀ a, a ≠ 114 → J' a = J a) ∧ ∀ k, k < 64 → J' 114 k = J 114 k
theorem z_bk_e {T : x_T} (hW : z_Wp T) {J J' : g_I} (h : z_bk J J') : z_eq T (z_dr J) (z_dr J') := ⟨by show J' 101 30 = J 101 30; rw [h.1 101 (by decide)], by show J' 101 31 = J 101 31; rw [h.1 101 (by decide)], fun a b ha hb => h.2 _ (by have := hW.1; omega), fun l _ => by show J' 118 l = J 118 l; rw [h.1 118 (by decide)], fun p _ => by show J' 119 p = J 119 p; rw [h.1 119 (by decide)]⟩
theorem z_bk_u {J J1 : g_I} (hp : ∀ j, j < 80 → J 129 j = z_pk J j) (h : ∀ a, a ≠ 101 → a ≠ 114 → a ≠ 118 → a ≠ 119 → J1 a = J a) (h1 : ∀ k, k ≠ 30 → k ≠ 31 → J1 101 k = J 101 k) (h2 : ∀ k, 6 ≤ k → J1 118 k = J 118 k) (h3 : ∀ k, 8 ≤ k → J1 119 k = J 119 k) : ∃ J2, b_X11_unpack J1 129 80 0 = some J2 ∧ z_bk J J2 := by
  obtain ⟨J2, e, u1, u2, u3, u4, u5, u6, u7⟩ := z_unpack (I := J1) (c := 129) (n := 80) (o := 0) (by decide) (by decide) (by decide)
  have hq : J1 129 = J 129 := h 129 (by decide) (by decide) (by decide) (by decide)
  rw [hq] at u3 u4 u5 u6 u7
  refine ⟨J2, e, fun a ha => ?_, fun k hk => ?_⟩
  · by_cases e1 : a = 101
    · rw [e1]
      funext k
      by_cases k1 : k = 30
      · rw [k1, u3, hp 0 (by decide)]; rfl
      · by_cases k2 : k = 31
        · rw [k2, u4, hp (0 + 1) (by decide)]; rfl
        · rw [u2 k k1 k2, h1 k k1 k2]
    · by_cases e2 : a = 118
      · rw [e2]
        funext k
        rw [u6]
        by_cases k1 : k < 6
        · rw [if_pos k1, hp _ (by omega)]
          unfold z_pk
          rw [if_neg (by omega), if_neg (by omega), if_neg (by omega), if_pos (by omega), show 0 + 66 + k - 66 = k by omega]
        · rw [if_neg k1, h2 k (by omega)]
      · by_cases e3 : a = 119
        · rw [e3]
          funext k
          rw [u7]
          by_cases k1 : k < 8
          · rw [if_pos k1, hp _ (by omega)]
            unfold z_pk
            rw [if_neg (by omega), if_neg (by omega), if_neg (by omega), if_neg (by omega), show 0 + 72 + k - 72 = k by omega]
          · rw [if_neg k1, h3 k (by omega)]
        · rw [u1 a e1 ha e2 e3, h a e1 ha e2 e3]
  · rw [u5, if_pos hk, hp _ (by omega)]
    unfold z_pk
    rw [if_neg (by omega), if_neg (by omega), if_pos (by omega), show 0 + 2 + k - 2 = k by omega]
theorem z_safe {J : g_I} {T : x_T} (hW : z_W T) (hR : z_R J T) (hpk : ∀ j, j < 80 → J 129 j = z_pk J j) {kd tw kn cu eb : Nat → Int32} (hkd : ∀ k, k < T.1.length → kd k = (z_pp T k).1) (ht : ∀ k, k < T.1.length → tw k = z_tw T k) (heb : ∀ l, l < T.2.1.length → eb l = x_bits (z_es T l)) (hD : ∀ J', z_eq T (z_dr J) (z_dr J') → z_dok T (z_dr J') ∧ z_KR T (J' 114) (J' 101 30) kn ∧ ∀ l, l < T.2.1.length → cu l = z_cu T (J' 114) (J' 101 30) l) {Q : Nat → Nat → Bool} (hQ : ∀ j s, Q j s = (decide (¬ s = 0) && (decide (f_bc (nI s) = nI j) && f_lc kd tw kn cu eb (nI s) (f_cb (J 118) cu T.2.1.length) T.1.length T.2.1.length))) (K : Int32 → g_I → Option (Int32 × g_I)) : ∃ J', b_X11_safe_L24 (f_cb (J 118) cu T.2.1.length) K fu (-1) 0 J = K (f_se Q T.1.length (2 ^ T.1.length)) J' ∧ z_bk J J' := by
  have h8 := hW.1.1
  have hN : 2 ^ T.1.length ≤ 1024 := (k_pow1 (by omega)).2
  have h := z_lp (F := fun f (s : Int32 × Int32 × g_I) => b_X11_safe_L24 (f_cb (J 118) cu T.2.1.length) K f s.1 s.2.1 s.2.2) (K := fun s => K s.1 s.2.2) (N := 2 ^ T.1.length) (fun i s => s.2.1 = nI i ∧ z_sb (fun s => f_lc kd tw kn cu eb (nI s) (f_cb (J 118) cu T.2.1.length) T.1.length T.2.1.length) i s.1 ∧ z_bk J s.2.2)
    (fun f s hP => by
      show b_X11_safe_L24 (f_cb (J 118) cu T.2.1.length) K (f + 1) s.1 s.2.1 s.2.2 = _
      unfold b_X11_safe_L24
      rw [z_gl, hP.2.2.1 104 (by decide), hR.1.1, hP.1, k_pow (by omega), if_pos (Int32.le_refl _)])
    (fun f i s hi hP => by
      obtain ⟨s1, s2, s3⟩ := hP
      obtain ⟨d1, d2, d3⟩ := hD s.2.2 (z_bk_e hW.1 s3)
      have hR' : z_R s.2.2 T := z_R_o hR fun c _ _ hc => s3.1 c hc
      obtain ⟨J1, e1, f1⟩ := z_fairOf (I := s.2.2) (n := T.1.length) hR'.1.1 h8 (nI i)
      have hmm := z_mmF hW.1 (fun x y hx hy => (d1.2.2.1 x y hx hy).2.1) f1
      have hka := z_kaR hW hkd ht d1.1 (fun x y hx hy => (d1.2.2.1 x y hx hy).2.1) d2 hmm
      have hR1 : z_R J1 T := z_R_o hR' fun c _ _ hc => f1.1 c hc
      have hc1 := (z_cuttable hW hR1 (cu := fun l => z_cu T (J1 114) (J1 101 30) l) (fun _ _ => rfl)).1
      have h30 : J1 101 30 = s.2.2 101 30 := by rw [f1.1 101 (by decide)]
      have hlc := z_lc hW (ct := J 118) (ct' := J1 118) (cu' := fun l => z_cu T (J1 114) (J1 101 30) l) (eb := eb) d2 hka d3 (fun l _ => by show z_cu T (J1 114) (J1 101 30) l = z_cu T (J1 114) (s.2.2 101 30) l; rw [h30]) heb (fun l _ => by rw [f1.1 118 (by decide), s3.1 118 (by decide)])
      obtain ⟨J2, e2, u2⟩ := z_bk_u (J := J) (J1 := J1) hpk (fun a _ h2 _ _ => (f1.1 a h2).trans (s3.1 a h2)) (fun k _ _ => by rw [f1.1 101 (by decide), s3.1 101 (by decide)]) (fun k _ => by rw [f1.1 118 (by decide), s3.1 118 (by decide)]) (fun k _ => by rw [f1.1 119 (by decide), s3.1 119 (by decide)])
      have hpc := (z_bo1 i (by omega)).2.2
      have hstep : b_X11_safe_L24 (f_cb (J 118) cu T.2.1.length) K (f + 1) s.1 s.2.1 s.2.2 = if z_pc i < 2 then b_X11_safe_L24 (f_cb (J 118) cu T.2.1.length) K f s.1 (nI (i + 1)) s.2.2 else if s.1 = -1 then (if f_lc kd tw kn cu eb (nI i) (f_cb (J 118) cu T.2.1.length) T.1.length T.2.1.length = true then b_X11_safe_L24 (f_cb (J 118) cu T.2.1.length) K f (nI i) (nI (i + 1)) J2 else b_X11_safe_L24 (f_cb (J 118) cu T.2.1.length) K f s.1 (nI (i + 1)) J2) else g_bind (b_X11_bitsOf s.1) fun a26 => if a26 < nI (z_pc i) then (if f_lc kd tw kn cu eb (nI i) (f_cb (J 118) cu T.2.1.length) T.1.length T.2.1.length = true then b_X11_safe_L24 (f_cb (J 118) cu T.2.1.length) K f (nI i) (nI (i + 1)) J2 else b_X11_safe_L24 (f_cb (J 118) cu T.2.1.length) K f s.1 (nI (i + 1)) J2) else b_X11_safe_L24 (f_cb (J 118) cu T.2.1.length) K f s.1 (nI (i + 1)) s.2.2 := by
        conv => lhs; unfold b_X11_safe_L24
        rw [z_gl, s3.1 104 (by decide), hR.1.1, s1, k_pow (by omega), if_neg (nI_ge hi (by omega)), z_bo (by omega)]
        simp only [g_bind]
        rw [e1]
        simp only []
        rw [hc1]
        simp only []
        rw [e2]
        simp only [nI_1, hlc]
        have h2 : (nI (z_pc i) < 2) = (z_pc i < 2) := propext (nI_ltI (show z_pc i < 2 ^ 31 by omega) (show 2 < 2 ^ 31 by decide))
        simp only [h2]
      show ∃ s' : Int32 × Int32 × g_I, b_X11_safe_L24 (f_cb (J 118) cu T.2.1.length) K (f + 1) s.1 s.2.1 s.2.2 = b_X11_safe_L24 (f_cb (J 118) cu T.2.1.length) K f s'.1 s'.2.1 s'.2.2 ∧ _
      rw [hstep]
      by_cases c1 : z_pc i < 2
      · rw [if_pos c1]
        exact ⟨(s.1, nI (i + 1), s.2.2), rfl, rfl, z_sb_n s2 (fun h => absurd h (by omega)), s3⟩
      · rw [if_neg c1]
        by_cases c2 : s.1 = -1
        · rw [if_pos c2]
          by_cases c3 : f_lc kd tw kn cu eb (nI i) (f_cb (J 118) cu T.2.1.length) T.1.length T.2.1.length = true
          · rw [if_pos c3]
            exact ⟨(nI i, nI (i + 1), J2), rfl, rfl, z_sb_g s2 (by omega) (by omega) c3 (Or.inl c2), u2⟩
          · rw [if_neg c3]
            exact ⟨(s.1, nI (i + 1), J2), rfl, rfl, z_sb_n s2 (fun _ => by cases e : f_lc kd tw kn cu eb (nI i) (f_cb (J 118) cu T.2.1.length) T.1.length T.2.1.length; rfl; exact absurd e c3), u2⟩
        · rw [if_neg c2]
          have s2' := s2
          rcases s2' with ⟨e, -⟩ | ⟨s0, e, g1, -⟩
          · exact absurd e c2
          · have hp0 := (z_bo1 s0 (by omega)).2.2
            rw [e, z_bo (by omega)]
            rw [e] at s2
            simp only [g_bind]
            have h2 : nI (z_pc s0) < nI (z_pc i) ↔ z_pc s0 < z_pc i := nI_ltI (by omega) (by omega)
            by_cases c4 : z_pc s0 < z_pc i
            · rw [if_pos (h2.mpr c4)]
              by_cases c3 : f_lc kd tw kn cu eb (nI i) (f_cb (J 118) cu T.2.1.length) T.1.length T.2.1.length = true
              · rw [if_pos c3]
                exact ⟨(nI i, nI (i + 1), J2), rfl, rfl, z_sb_g s2 (by omega) (by omega) c3 (Or.inr ⟨s0, by omega, rfl, c4⟩), u2⟩
              · rw [if_neg c3]
                exact ⟨(nI s0, nI (i + 1), J2), rfl, rfl, z_sb_n s2 (fun _ => by cases e : f_lc kd tw kn cu eb (nI i) (f_cb (J 118) cu T.2.1.length) T.1.length T.2.1.length; rfl; exact absurd e c3), u2⟩
            · rw [if_neg (fun q => c4 (h2.mp q))]
              exact ⟨(nI s0, nI (i + 1), s.2.2), rfl, rfl, z_sb_l s2 (by omega) (by omega) (by omega), s3⟩)
    (2 ^ T.1.length) fu 0 (-1, 0, J) (by omega) (by unfold fu; omega) ⟨rfl, Or.inl ⟨rfl, fun s hs => absurd hs (Nat.not_lt_zero s)⟩, fun _ _ => rfl, fun _ _ => rfl⟩
  obtain ⟨s, e, -, e2, e3⟩ := h
  refine ⟨s.2.2, ?_, e3⟩
  rw [z_se h8 hQ e2]
  exact e
