/-! PURE: DAYS, MEETINGS -/
theorem z_ga1 {ob wh : Int32} {p : Nat} {m : Nat → Int32} {n a b : Nat} (hn : n ≤ 8) (hb : b < 8) : f_ga1 ob wh p m n (8 * a + b) = if a = p ∧ b < n ∧ bt ob b = true then f_mx (m (8 * a + b)) wh else m (8 * a + b) := by
  induction n with
  | zero => rw [if_neg (fun h => absurd h.2.1 (Nat.not_lt_zero b))]; rfl
  | succ n ih =>
    have ih := ih (by omega)
    show (if f_has ob (nI n) = true then upd (f_ga1 ob wh p m n) (8 * p + n) (f_mx (f_ga1 ob wh p m n (8 * p + n)) wh) else f_ga1 ob wh p m n) (8 * a + b) = _
    rw [z_has (by omega)]
    by_cases h : bt ob n = true
    · rw [if_pos h]
      by_cases e : 8 * a + b = 8 * p + n
      · have e1 : a = p := by omega
        have e2 : b = n := by omega
        subst e1; subst e2
        rw [pk_us, ih, if_neg (show ¬ (a = a ∧ b < b ∧ bt ob b = true) from fun h => absurd h.2.1 (Nat.lt_irrefl b)), if_pos ⟨rfl, Nat.lt_succ_self b, h⟩]
      · rw [upd_o e, ih]
        have h2 : (a = p ∧ b < n ∧ bt ob b = true) ↔ (a = p ∧ b < n + 1 ∧ bt ob b = true) := ⟨fun ⟨q1, q2, q3⟩ => ⟨q1, by omega, q3⟩, fun ⟨q1, q2, q3⟩ => ⟨q1, by omega, q3⟩⟩
        simp only [h2]
    · rw [if_neg h, ih]
      have h2 : (a = p ∧ b < n ∧ bt ob b = true) ↔ (a = p ∧ b < n + 1 ∧ bt ob b = true) := ⟨fun ⟨q1, q2, q3⟩ => ⟨q1, by omega, q3⟩, fun ⟨q1, q2, q3⟩ => ⟨q1, by have : b ≠ n := fun e => h (e ▸ q3); omega, q3⟩⟩
      simp only [h2]
theorem z_ga {tw : Nat → Int32} {co wh : Int32} {m : Nat → Int32} {n k a b : Nat} (hn : n ≤ 8) (hb : b < 8) : f_ga tw co wh n m k (8 * a + b) = if a < k ∧ b < n ∧ bt (f_mb tw (nI a) co) b = true then f_mx (m (8 * a + b)) wh else m (8 * a + b) := by
  induction k with
  | zero => rw [if_neg (fun h => absurd h.1 (Nat.not_lt_zero a))]; rfl
  | succ k ih =>
    show f_ga1 (f_mb tw (nI k) co) wh k (f_ga tw co wh n m k) n (8 * a + b) = _
    rw [z_ga1 hn hb, ih]
    by_cases e : a = k
    · subst e
      rw [if_neg (show ¬ (a < a ∧ b < n ∧ bt (f_mb tw (nI a) co) b = true) from fun h => absurd h.1 (Nat.lt_irrefl a))]
      simp
    · rw [if_neg (show ¬ (a = k ∧ b < n ∧ bt (f_mb tw (nI k) co) b = true) from fun h => e h.1)]
      have h2 : (a < k ∧ b < n ∧ bt (f_mb tw (nI a) co) b = true) ↔ (a < k + 1 ∧ b < n ∧ bt (f_mb tw (nI a) co) b = true) := ⟨fun ⟨q1, q2, q3⟩ => ⟨by omega, q2, q3⟩, fun ⟨q1, q2, q3⟩ => ⟨by omega, q2, q3⟩⟩
      simp only [h2]
/-- x is a, or a's twin -/
def z_in (T : x_T) (x a : Nat) : Prop := x = a ∨ z_tw T a = nI x
theorem z_in_s {T : x_T} (hW : z_Wp T) {x a : Nat} (ha : a < T.1.length) (hx : x < 32) (h : z_in T x a) : x < T.1.length ∧ z_in T a x := by
  have h8 := hW.1
  rcases h with rfl | h
  · exact ⟨ha, Or.inl rfl⟩
  · rcases z_twv hW ha with h1 | ⟨q, hq, -, h1, h2⟩
    · exact absurd (h.symm.trans h1) (z_nm1 (by omega))
    · have e := (nI_eq (by omega) (by omega)).mp (h.symm.trans h1)
      subst e
      exact ⟨hq, Or.inr h2⟩
theorem z_in_ne {T : x_T} (hW : z_Wp T) {x y a b : Nat} (ha : a < T.1.length) (hb : b < T.1.length) (hx : x < 32) (hy : y < 32) (hne : a ≠ b) (hab : ¬ z_tw T a = nI b) (h1 : z_in T x a) (h2 : z_in T y b) : x ≠ y := by
  have h8 := hW.1
  intro e
  subst e
  obtain ⟨hn, h3⟩ := z_in_s hW ha hx h1
  obtain ⟨-, h4⟩ := z_in_s hW hb hx h2
  rcases h1 with rfl | h1
  · rcases h4 with rfl | h4
    · exact hne rfl
    · exact hab h4
  · rcases h2 with rfl | h2
    · exact hab h1
    · rcases h3 with rfl | h3
      · rcases h4 with rfl | h4
        · exact hne rfl
        · exact hab h4
      · rcases h4 with rfl | h4
        · exact hab h1
        · exact hne ((nI_eq (by omega) (by omega)).mp (h3.symm.trans h4))
theorem z_wt {T : x_T} (hW : z_Wp T) {tw : Nat → Int32} (ht : ∀ k, k < T.1.length → tw k = z_tw T k) {S : Int32} {i : Nat} (hi : i < 32) : bt (f_wt tw S T.1.length) i = true ↔ i < T.1.length ∧ ∃ k, k < T.1.length ∧ z_in T k i ∧ bt S k = true := by
  have h8 := hW.1
  unfold f_wt
  rw [z_foldU]
  constructor
  · rintro ⟨k, hk, h1, h2⟩
    rw [z_has (by omega)] at h1
    obtain ⟨h3, h4⟩ := z_in_s hW hk hi ((z_pair hW hk (ht k hk) hi).mp h2)
    exact ⟨h3, k, hk, h4, h1⟩
  · rintro ⟨h0, k, hk, h1, h2⟩
    obtain ⟨-, h4⟩ := z_in_s hW h0 (by omega) h1
    exact ⟨k, hk, by rw [z_has (by omega)]; exact h2, (z_pair hW hk (ht k hk) hi).mpr h4⟩
theorem z_mb2 {T : x_T} (hW : z_Wp T) {tw : Nat → Int32} {p : Nat} (hp : p < T.1.length) (ht : tw p = z_tw T p) {co : Int32} {q : Nat} (hq : q < 32) : bt (f_mb tw (nI p) co) q = true ↔ bt co p = true ∧ bt co q = true ∧ ¬ z_in T q p := by
  have h8 := hW.1
  unfold f_mb
  rw [z_has (by omega)]
  by_cases h : bt co p = true
  · rw [if_pos h, b_and, Bool.and_eq_true, z_com _ hq, Bool.not_eq_true']
    have h2 := z_pair hW hp ht hq
    unfold z_in
    rw [← h2]
    cases bt (f_pair tw (nI p)) q <;> simp [h]
  · rw [if_neg h, b_0]
    exact ⟨fun h => absurd h (by decide), fun h2 => absurd h2.1 h⟩
theorem z_mxl (x y : Int32) : x ≤ g_max x y := by
  unfold g_max
  split
  · next h => rw [z_lI] at h; rw [z_leI]; omega
  · exact Int32.le_refl x
theorem z_mxr (x y : Int32) : y ≤ g_max x y := by
  unfold g_max
  split
  · exact Int32.le_refl y
  · next h => rw [z_lI] at h; rw [z_leI]; omega
theorem z_mxe (x y : Int32) : g_max x y = x ∨ g_max x y = y := by
  unfold g_max
  split
  · exact Or.inr rfl
  · exact Or.inl rfl
theorem z_le_t {x y z : Int32} (h1 : x ≤ y) (h2 : y ≤ z) : x ≤ z := by rw [z_leI] at *; omega
theorem z_le_a {x y : Int32} (h1 : x ≤ y) (h2 : y ≤ x) : x = y := by rw [z_leI] at *; exact Int32.toInt_inj.mp (by omega)
theorem z_mxm {a b c d : Int32} (h1 : a ≤ c) (h2 : b ≤ d) : g_max a b ≤ g_max c d := by
  rcases z_mxe a b with h | h <;> rw [h]
  · exact z_le_t h1 (z_mxl c d)
  · exact z_le_t h2 (z_mxr c d)
theorem z_ld_le {T : x_T} (hW : z_Wp T) {M : Nat → Int32} {a b x y : Nat} (ha : a < T.1.length) (hb : b < T.1.length) (hab : ¬ z_tw T a = nI b) (hx : z_in T x a) (hy : z_in T y b) (hx8 : x < 32) (hy8 : y < 32) : M (8 * x + y) ≤ z_ld M (z_tw T) a b := by
  have h8 := hW.1
  unfold z_ld
  rw [if_neg hab]
  rcases z_twv hW ha with h1 | ⟨c, hc, -, h1, -⟩ <;> rcases z_twv hW hb with h2 | ⟨d, hd, -, h2, -⟩
  · simp only [h1, h2, if_true]
    rcases hx with rfl | hx
    · rcases hy with rfl | hy
      · exact Int32.le_refl _
      · exact absurd (hy.symm.trans h2) (z_nm1 (by omega))
    · exact absurd (hx.symm.trans h1) (z_nm1 (by omega))
  · have n2 := z_nm1 (q := d) (by omega)
    simp only [h1, h2, n2, if_true, if_false, nI_clamp (show d < 2 ^ 31 by omega)]
    rcases hx with rfl | hx
    · rcases hy with rfl | hy
      · exact z_mxl _ _
      · have e := (nI_eq (by omega) (by omega)).mp (hy.symm.trans h2); subst e; exact z_mxr _ _
    · exact absurd (hx.symm.trans h1) (z_nm1 (by omega))
  · have n1 := z_nm1 (q := c) (by omega)
    simp only [h1, h2, n1, if_true, if_false, nI_clamp (show c < 2 ^ 31 by omega)]
    rcases hy with rfl | hy
    · rcases hx with rfl | hx
      · exact z_mxl _ _
      · have e := (nI_eq (by omega) (by omega)).mp (hx.symm.trans h1); subst e; exact z_mxr _ _
    · exact absurd (hy.symm.trans h2) (z_nm1 (by omega))
  · have n1 := z_nm1 (q := c) (by omega)
    have n2 := z_nm1 (q := d) (by omega)
    simp only [h1, h2, n1, n2, if_false, nI_clamp (show c < 2 ^ 31 by omega), nI_clamp (show d < 2 ^ 31 by omega)]
    rcases hx with rfl | hx
    · rcases hy with rfl | hy
      · exact z_le_t (z_mxl _ _) (z_le_t (z_mxl _ _) (z_mxl _ _))
      · have e := (nI_eq (by omega) (by omega)).mp (hy.symm.trans h2); subst e
        exact z_le_t (z_mxr _ _) (z_mxl _ _)
    · have e := (nI_eq (by omega) (by omega)).mp (hx.symm.trans h1); subst e
      rcases hy with rfl | hy
      · exact z_le_t (z_mxr _ _) (z_le_t (z_mxl _ _) (z_mxl _ _))
      · have e := (nI_eq (by omega) (by omega)).mp (hy.symm.trans h2); subst e
        exact z_mxr _ _
theorem z_ld_ex {T : x_T} (hW : z_Wp T) (M : Nat → Int32) {a b : Nat} (ha : a < T.1.length) (hb : b < T.1.length) (hab : ¬ z_tw T a = nI b) : ∃ x y, x < T.1.length ∧ y < T.1.length ∧ z_in T x a ∧ z_in T y b ∧ z_ld M (z_tw T) a b = M (8 * x + y) := by
  have h8 := hW.1
  unfold z_ld
  rw [if_neg hab]
  rcases z_twv hW ha with h1 | ⟨c, hc, -, h1, -⟩ <;> rcases z_twv hW hb with h2 | ⟨d, hd, -, h2, -⟩
  · simp only [h1, h2, if_true]
    exact ⟨a, b, ha, hb, Or.inl rfl, Or.inl rfl, rfl⟩
  · have n2 := z_nm1 (q := d) (by omega)
    simp only [h1, h2, n2, if_true, if_false, nI_clamp (show d < 2 ^ 31 by omega)]
    rcases z_mxe (M (8 * a + b)) (M (8 * a + d)) with h | h
    · exact ⟨a, b, ha, hb, Or.inl rfl, Or.inl rfl, h⟩
    · exact ⟨a, d, ha, hd, Or.inl rfl, Or.inr h2, h⟩
  · have n1 := z_nm1 (q := c) (by omega)
    simp only [h1, h2, n1, if_true, if_false, nI_clamp (show c < 2 ^ 31 by omega)]
    rcases z_mxe (M (8 * a + b)) (M (8 * c + b)) with h | h
    · exact ⟨a, b, ha, hb, Or.inl rfl, Or.inl rfl, h⟩
    · exact ⟨c, b, hc, hb, Or.inr h1, Or.inl rfl, h⟩
  · have n1 := z_nm1 (q := c) (by omega)
    have n2 := z_nm1 (q := d) (by omega)
    simp only [h1, h2, n1, n2, if_false, nI_clamp (show c < 2 ^ 31 by omega), nI_clamp (show d < 2 ^ 31 by omega)]
    rcases z_mxe (g_max (g_max (M (8 * a + b)) (M (8 * c + b))) (M (8 * a + d))) (M (8 * c + d)) with h | h
    · rcases z_mxe (g_max (M (8 * a + b)) (M (8 * c + b))) (M (8 * a + d)) with g | g
      · rcases z_mxe (M (8 * a + b)) (M (8 * c + b)) with k | k
        · exact ⟨a, b, ha, hb, Or.inl rfl, Or.inl rfl, h.trans (g.trans k)⟩
        · exact ⟨c, b, hc, hb, Or.inr h1, Or.inl rfl, h.trans (g.trans k)⟩
      · exact ⟨a, d, ha, hd, Or.inl rfl, Or.inr h2, h.trans g⟩
    · exact ⟨c, d, hc, hd, Or.inr h1, Or.inr h2, h⟩
/-- what a meeting of the set S on the day wh makes of the reference's table -/
def z_mm (T : x_T) (S : Nat → Bool) (wh : Int32) (M M' : Nat → Int32) : Prop := ∀ x y, x < T.1.length → y < T.1.length → M' (8 * x + y) = if x ≠ y ∧ S x = true ∧ S y = true then g_max (M (8 * x + y)) wh else M (8 * x + y)
theorem z_ldS_in {T : x_T} (hW : z_Wp T) {S : Nat → Bool} {wh : Int32} {M M' : Nat → Int32} (hM : z_mm T S wh M M') {a b : Nat} (ha : a < T.1.length) (hb : b < T.1.length) (hne : a ≠ b) (hab : ¬ z_tw T a = nI b) (h1 : ∃ x, x < T.1.length ∧ z_in T x a ∧ S x = true) (h2 : ∃ y, y < T.1.length ∧ z_in T y b ∧ S y = true) : z_ld M' (z_tw T) a b = g_max (z_ld M (z_tw T) a b) wh := by
  have h8 := hW.1
  obtain ⟨x0, hx0, i1, s1⟩ := h1
  obtain ⟨y0, hy0, i2, s2⟩ := h2
  have n0 := z_in_ne hW ha hb (by omega) (by omega) hne hab i1 i2
  apply z_le_a
  · obtain ⟨x, y, hx, hy, j1, j2, e⟩ := z_ld_ex hW M' ha hb hab
    rw [e, hM x y hx hy]
    have hle := z_ld_le hW (M := M) ha hb hab j1 j2 (by omega) (by omega)
    split
    · exact z_mxm hle (Int32.le_refl _)
    · exact z_le_t hle (z_mxl _ _)
  · rcases z_mxe (z_ld M (z_tw T) a b) wh with h | h
    · rw [h]
      obtain ⟨x, y, hx, hy, j1, j2, e⟩ := z_ld_ex hW M ha hb hab
      rw [e]
      refine z_le_t ?_ (z_ld_le hW (M := M') ha hb hab j1 j2 (by omega) (by omega))
      rw [hM x y hx hy]
      split
      · exact z_mxl _ _
      · exact Int32.le_refl _
    · rw [h]
      refine z_le_t ?_ (z_ld_le hW (M := M') ha hb hab i1 i2 (by omega) (by omega))
      rw [hM x0 y0 hx0 hy0, if_pos ⟨n0, s1, s2⟩]
      exact z_mxr _ _
theorem z_ldS_out {T : x_T} (hW : z_Wp T) {S : Nat → Bool} {wh : Int32} {M M' : Nat → Int32} (hM : z_mm T S wh M M') {a b : Nat} (ha : a < T.1.length) (hb : b < T.1.length) (hab : ¬ z_tw T a = nI b) (h1 : ¬ ((∃ x, x < T.1.length ∧ z_in T x a ∧ S x = true) ∧ ∃ y, y < T.1.length ∧ z_in T y b ∧ S y = true)) : z_ld M' (z_tw T) a b = z_ld M (z_tw T) a b := by
  have h8 := hW.1
  have key : ∀ x y, x < T.1.length → y < T.1.length → z_in T x a → z_in T y b → M' (8 * x + y) = M (8 * x + y) := fun x y hx hy i1 i2 => by
    rw [hM x y hx hy, if_neg (fun h => h1 ⟨⟨x, hx, i1, h.2.1⟩, ⟨y, hy, i2, h.2.2⟩⟩)]
  apply z_le_a
  · obtain ⟨x, y, hx, hy, j1, j2, e⟩ := z_ld_ex hW M' ha hb hab
    rw [e, key x y hx hy j1 j2]
    exact z_ld_le hW ha hb hab j1 j2 (by omega) (by omega)
  · obtain ⟨x, y, hx, hy, j1, j2, e⟩ := z_ld_ex hW M ha hb hab
    rw [e, ← key x y hx hy j1 j2]
    exact z_ld_le hW ha hb hab j1 j2 (by omega) (by omega)
theorem z_ld_ge {T : x_T} (hW : z_Wp T) {M : Nat → Int32} (hM : ∀ x y, x < T.1.length → y < T.1.length → -100000 ≤ M (8 * x + y)) {a b : Nat} (ha : a < T.1.length) (hb : b < T.1.length) : -100000 ≤ z_ld M (z_tw T) a b := by
  by_cases hab : z_tw T a = nI b
  · unfold z_ld; rw [if_pos hab]; exact Int32.le_refl _
  · obtain ⟨x, y, hx, hy, -, -, e⟩ := z_ld_ex hW M ha hb hab
    rw [e]; exact hM x y hx hy
theorem z_cvm {v wh : Int32} (hv : -100000 ≤ v) (hw : -100000 < wh) : f_mx (z_cv v) wh = z_cv (g_max v wh) := by
  rw [z_leI] at hv
  rw [z_lI] at hw
  have e1 : (-100000 : Int32).toInt = -100000 := by decide
  have e2 : (-1000000 : Int32).toInt = -1000000 := by decide
  rw [e1] at hv hw
  unfold z_cv
  by_cases e : v = -100000
  · rw [if_pos e]
    have h1 : f_mx (-1000000) wh = wh := by unfold f_mx; rw [if_pos (by rw [z_lI, e2]; omega)]
    have h2 : g_max v wh = wh := by unfold g_max; rw [if_pos (by rw [z_lI, e, e1]; omega)]
    rw [h1, h2, if_neg (fun h => by rw [h, e1] at hw; omega)]
  · rw [if_neg e]
    have h3 : wh ≤ g_max v wh := z_mxr v wh
    rw [if_neg (fun h => by rw [h, z_leI, e1] at h3; omega)]
    rfl
/-- a meeting, in the class's table and in the reference's -/
theorem z_gaD {T : x_T} (hW : z_Wp T) {tw cM M M' : Nat → Int32} (ht : ∀ k, k < T.1.length → tw k = z_tw T k) {S wh : Int32} (hc : ∀ a b, a < T.1.length → b < T.1.length → a ≠ b → cM (8 * a + b) = z_cv (z_ld M (z_tw T) a b)) (hM : z_mm T (bt S) wh M M') (hr : ∀ x y, x < T.1.length → y < T.1.length → -100000 ≤ M (8 * x + y)) (hw : -100000 < wh) : ∀ a b, a < T.1.length → b < T.1.length → a ≠ b → f_ga tw (f_wt tw S T.1.length) wh T.1.length cM T.1.length (8 * a + b) = z_cv (z_ld M' (z_tw T) a b) := by
  intro a b ha hb hne
  have h8 := hW.1
  rw [z_ga h8 (by omega), hc a b ha hb hne]
  have hmb := z_mb2 hW (co := f_wt tw S T.1.length) ha (ht a ha) (show b < 32 by omega)
  rw [z_wt hW ht (by omega), z_wt hW ht (by omega)] at hmb
  by_cases hab : z_tw T a = nI b
  · rw [if_neg (fun h => (hmb.mp h.2.2).2.2 (Or.inr hab))]
    unfold z_ld
    rw [if_pos hab, if_pos hab]
  · by_cases hb2 : (∃ x, x < T.1.length ∧ z_in T x a ∧ bt S x = true) ∧ ∃ y, y < T.1.length ∧ z_in T y b ∧ bt S y = true
    · rw [if_pos ⟨ha, hb, hmb.mpr ⟨⟨ha, hb2.1⟩, ⟨hb, hb2.2⟩, fun h => h.elim (fun e => hne e.symm) hab⟩⟩, z_cvm (z_ld_ge hW hr ha hb) hw, z_ldS_in hW hM ha hb hne hab hb2.1 hb2.2]
    · rw [if_neg (fun h => hb2 ⟨(hmb.mp h.2.2).1.2, (hmb.mp h.2.2).2.1.2⟩), z_ldS_out hW hM ha hb hab hb2]
