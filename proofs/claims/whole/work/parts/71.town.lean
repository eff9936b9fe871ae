/-! PURE: THE TOWN AS THE REFERENCE HOLDS IT -/
abbrev z_pp (T : x_T) (p : Nat) : x_P := T.1.getD p (0, 0, 0)
abbrev z_ll (T : x_T) (l : Nat) : x_L := T.2.1.getD l ((0, 0, 0, 0), [])
abbrev z_es (T : x_T) (l : Nat) : List Int32 := (z_ll T l).2
abbrev z_tw (T : x_T) (p : Nat) : Int32 := x_tw T.1 p
/-- a step of the rule, as the reference writes it -/
def z_sg (c : Int32) : Int32 := if 0 ≤ c then c else if c ≤ -10 then c + 9 else if c = -1 then -27 else if c = -2 then -26 else if c = -3 then -28 else if c = -4 then -24 else if c = -5 then -25 else if c = -6 then -20 else if c = -7 then -21 else if c = -8 then -22 else -23
def z_Rp (I : g_I) (T : x_T) : Prop := I 104 0 = nI T.1.length ∧ ∀ p, p < T.1.length → I 105 p = (z_pp T p).1 ∧ I 106 p = (z_pp T p).2.1 ∧ I 107 p = (z_pp T p).2.2
def z_Rl (I : g_I) (T : x_T) : Prop := I 104 1 = nI T.2.1.length ∧ ∀ l, l < T.2.1.length → I 108 l = (z_ll T l).1.1 ∧ I 109 l = (z_ll T l).1.2.1 ∧ I 110 l = (z_ll T l).1.2.2.1 ∧ I 111 l = (z_ll T l).1.2.2.2 ∧ I 112 l = nI (z_es T l).length ∧ ∀ i, i < (z_es T l).length → I 113 (6 * l + i) = (z_es T l).getD i 0
def z_Rr (I : g_I) (T : x_T) : Prop := I 104 5 = nI T.2.2.2.2.length ∧ ∀ k, k < T.2.2.2.2.length → I 115 k = z_sg (T.2.2.2.2.getD k 0)
/-- the reference's rows hold the town T -/
def z_R (I : g_I) (T : x_T) : Prop := z_Rp I T ∧ z_Rl I T ∧ I 104 3 = T.2.2.2.1.1 ∧ I 104 4 = T.2.2.2.1.2 ∧ z_Rr I T
theorem z_R_o {I J : g_I} {T : x_T} (h : z_R I T) (ho : ∀ a, 104 ≤ a → a ≤ 115 → a ≠ 114 → J a = I a) : z_R J T := by
  unfold z_R z_Rp z_Rl z_Rr at h ⊢
  rw [ho 104 (by omega) (by omega) (by omega), ho 105 (by omega) (by omega) (by omega), ho 106 (by omega) (by omega) (by omega), ho 107 (by omega) (by omega) (by omega), ho 108 (by omega) (by omega) (by omega), ho 109 (by omega) (by omega) (by omega), ho 110 (by omega) (by omega) (by omega), ho 111 (by omega) (by omega) (by omega), ho 112 (by omega) (by omega) (by omega), ho 113 (by omega) (by omega) (by omega), ho 115 (by omega) (by omega) (by omega)]
  exact h
/-- people as they can be told -/
def z_Wp (T : x_T) : Prop := T.1.length ≤ 8 ∧ ∀ p, p < T.1.length → (∃ k, k < 4 ∧ (z_pp T p).1 = nI k) ∧ (∃ h, h < 10 ∧ (z_pp T p).2.1 = nI h) ∧ (∃ h, h < 10 ∧ (z_pp T p).2.2 = nI h) ∧ ((z_pp T p).1 = 3 → 0 < p ∧ ¬ (z_pp T (p - 1)).1 = 3)
def z_We (T : x_T) (es : List Int32) : Prop := 1 ≤ es.length ∧ es.length ≤ 6 ∧ (∀ i, i < es.length → ∃ p, p < T.1.length ∧ es.getD i 0 = nI p) ∧ ∀ i j, i < j → j < es.length → ¬ es.getD i 0 = es.getD j 0
def z_Wl (T : x_T) : Prop := T.2.1.length ≤ 6 ∧ ∀ l, l < T.2.1.length → (∃ h, h < 10 ∧ (z_ll T l).1.1 = nI h) ∧ (∃ z, 1 ≤ z ∧ z ≤ 999 ∧ (z_ll T l).1.2.1 = nI z) ∧ (∃ b, b ≤ 23 ∧ (z_ll T l).1.2.2.1 = nI b) ∧ (∃ f, 1 ≤ f ∧ f ≤ 23 ∧ (z_ll T l).1.2.2.2 = nI f) ∧ z_We T (z_es T l)
theorem z_twin {I : g_I} {T : x_T} (hW : z_Wp T) (hR : z_Rp I T) {p : Nat} (hp : p < T.1.length) : b_X11_twinOf I (nI p) = some (z_tw T p) := by
  have h8 := hW.1
  unfold b_X11_twinOf
  rw [if_pos (g_in_nI (by omega) (by decide)), nI_clamp (by omega), (hR.2 p hp).1]
  unfold z_tw x_tw
  by_cases h3 : (z_pp T p).1 = 3
  · have h0 := ((hW.2 p hp).2.2.2 h3).1
    rw [if_pos h3, if_pos ⟨h3, h0⟩]
    exact congrArg some (nI_subI (a := 1) h0)
  · rw [if_neg h3, if_neg (show ¬ ((T.1.getD p (0, 0, 0)).1 = 3 ∧ 0 < p) from fun h => h3 h.1), hR.1, nI_1]
    by_cases hn : T.1.length ≤ p + 1
    · rw [if_pos (nI_le hn (by omega)), if_neg (fun h => absurd h.2 (by omega))]
    · rw [if_neg (fun h => hn ((nI_leI (by omega) (by omega)).mp h)), if_pos (g_in_nI (by omega) (by decide)), nI_clamp (by omega), (hR.2 (p + 1) (by omega)).1]
      by_cases h4 : (z_pp T (p + 1)).1 = 3
      · rw [if_pos h4, if_pos ⟨h4, by omega⟩]
      · rw [if_neg h4, if_neg (fun h => h4 h.1)]
theorem z_twv {T : x_T} (hW : z_Wp T) {p : Nat} (hp : p < T.1.length) : z_tw T p = -1 ∨ ∃ q, q < T.1.length ∧ q ≠ p ∧ z_tw T p = nI q ∧ z_tw T q = nI p := by
  unfold z_tw x_tw
  by_cases h3 : (z_pp T p).1 = 3
  · obtain ⟨h0, h1⟩ := (hW.2 p hp).2.2.2 h3
    refine Or.inr ⟨p - 1, by omega, by omega, by rw [if_pos ⟨h3, h0⟩], ?_⟩
    rw [if_neg (fun h => h1 h.1), show p - 1 + 1 = p by omega, if_pos ⟨h3, hp⟩]
  · rw [if_neg (fun h => h3 h.1)]
    by_cases h4 : (T.1.getD (p + 1) (0, 0, 0)).1 = 3 ∧ p + 1 < T.1.length
    · refine Or.inr ⟨p + 1, h4.2, by omega, by rw [if_pos h4], ?_⟩
      rw [if_pos ⟨h4.1, by omega⟩]; rfl
    · exact Or.inl (if_neg h4)
theorem z_nm1 {q : Nat} (h : q < 2 ^ 31) : ¬ nI q = -1 := fun e => nI_pos h (by rw [e]; decide)
theorem z_cpl (a b : Nat) : b_X11_couple (nI a) (nI b) = nI (8 * a + b) := by
  unfold b_X11_couple
  show nI 8 * nI a + nI b = _
  rw [pk_mul, nI_add]
/-- when two have met last, as the reference reckons it -/
def z_ld (M tw : Nat → Int32) (a b : Nat) : Int32 :=
  if tw a = nI b then -100000
  else if tw a = -1 then (if tw b = -1 then M (8 * a + b) else g_max (M (8 * a + b)) (M (8 * a + (tw b).toNatClampNeg)))
  else if tw b = -1 then g_max (M (8 * a + b)) (M (8 * (tw a).toNatClampNeg + b))
  else g_max (g_max (g_max (M (8 * a + b)) (M (8 * (tw a).toNatClampNeg + b))) (M (8 * a + (tw b).toNatClampNeg))) (M (8 * (tw a).toNatClampNeg + (tw b).toNatClampNeg))
theorem z_lastDay {I : g_I} {T : x_T} (hW : z_Wp T) (hR : z_Rp I T) {a b : Nat} (ha : a < T.1.length) (hb : b < T.1.length) : b_X11_lastDay I (nI a) (nI b) = some (z_ld (I 114) (z_tw T) a b) := by
  have h8 := hW.1
  have hin : ∀ x y, x < 8 → y < 8 → g_in (nI (8 * x + y)) 128 = true := fun x y _ _ => g_in_nI (by omega) (by decide)
  unfold b_X11_lastDay z_ld
  simp only [g_let, g_bind, z_twin hW hR ha, z_twin hW hR hb, z_cpl]
  rw [if_pos (hin a b (by omega) (by omega)), nI_clamp (by omega)]
  by_cases e1 : z_tw T a = nI b
  · rw [if_pos e1, if_pos e1]
  · rw [if_neg e1, if_neg e1]
    rcases z_twv hW ha with h1 | ⟨c, hc, -, h1, -⟩ <;> rcases z_twv hW hb with h2 | ⟨d, hd, -, h2, -⟩
    · simp only [h1, h2, if_true]
    · have n2 := z_nm1 (q := d) (by omega)
      simp only [h1, h2, n2, if_true, if_false, z_cpl, hin a d (by omega) (by omega), nI_clamp (show 8 * a + d < 2 ^ 31 by omega), nI_clamp (show d < 2 ^ 31 by omega)]
    · have n1 := z_nm1 (q := c) (by omega)
      simp only [h1, h2, n1, if_true, if_false, z_cpl, hin c b (by omega) (by omega), nI_clamp (show 8 * c + b < 2 ^ 31 by omega), nI_clamp (show c < 2 ^ 31 by omega)]
    · have n1 := z_nm1 (q := c) (by omega)
      have n2 := z_nm1 (q := d) (by omega)
      simp only [h1, h2, n1, n2, if_true, if_false, z_cpl, hin c b (by omega) (by omega), hin a d (by omega) (by omega), hin c d (by omega) (by omega), nI_clamp (show 8 * c + b < 2 ^ 31 by omega), nI_clamp (show 8 * a + d < 2 ^ 31 by omega), nI_clamp (show 8 * c + d < 2 ^ 31 by omega), nI_clamp (show c < 2 ^ 31 by omega), nI_clamp (show d < 2 ^ 31 by omega)]
/-- who knows whom -/
def z_kn (T : x_T) (M : Nat → Int32) (dy : Int32) (p q : Nat) : Bool := decide (p = q ∨ (z_pp T p).2.1 = (z_pp T q).2.1 ∨ z_tw T p = nI q ∨ (¬ (z_pp T p).1 = 2 ∧ ¬ z_ld M (z_tw T) p q = -100000 ∧ ¬ T.2.2.2.1.1 < dy - z_ld M (z_tw T) p q))
theorem z_isKnown {I : g_I} {T : x_T} (hW : z_Wp T) (hR : z_Rp I T) (hF : I 104 3 = T.2.2.2.1.1) {p q : Nat} (hp : p < T.1.length) (hq : q < T.1.length) : b_X11_isKnown I (nI p) (nI q) = some (z_kn T (I 114) (I 101 30) p q) := by
  have h8 := hW.1
  have gi : ∀ x, x < 8 → g_in (nI x) 16 = true := fun x _ => g_in_nI (by omega) (by decide)
  unfold b_X11_isKnown z_kn
  by_cases e : p = q
  · rw [if_pos (by rw [e]), decide_eq_true (Or.inl e)]
  · rw [if_neg (fun h => e ((nI_eq (by omega) (by omega)).mp h)), if_pos (gi p (by omega)), if_pos (gi q (by omega)), nI_clamp (by omega), nI_clamp (by omega), (hR.2 p hp).2.1, (hR.2 q hq).2.1, (hR.2 p hp).1, hF]
    by_cases e2 : (z_pp T p).2.1 = (z_pp T q).2.1
    · rw [if_pos e2, decide_eq_true (Or.inr (Or.inl e2))]
    · rw [if_neg e2]
      simp only [g_bind, z_twin hW hR hp, z_lastDay hW hR hp hq]
      by_cases e3 : z_tw T p = nI q
      · rw [if_pos e3, decide_eq_true (Or.inr (Or.inr (Or.inl e3)))]
      · rw [if_neg e3, if_pos (gi p (by omega))]
        by_cases e4 : (z_pp T p).1 = 2
        · rw [if_pos e4, decide_eq_false (fun h => h.elim e (fun h => h.elim e2 (fun h => h.elim e3 (fun h => h.1 e4))))]
        · rw [if_neg e4]
          by_cases e5 : z_ld (I 114) (z_tw T) p q = -100000
          · rw [if_pos e5, decide_eq_false (fun h => h.elim e (fun h => h.elim e2 (fun h => h.elim e3 (fun h => h.2.1 e5))))]
          · rw [if_neg e5]
            by_cases e6 : T.2.2.2.1.1 < I 101 30 - z_ld (I 114) (z_tw T) p q
            · rw [if_pos e6, decide_eq_false (fun h => h.elim e (fun h => h.elim e2 (fun h => h.elim e3 (fun h => h.2.2 e6))))]
            · rw [if_neg e6, decide_eq_true (Or.inr (Or.inr (Or.inr ⟨e4, e5, e6⟩)))]
