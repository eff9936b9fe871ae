/-! PURE: DAYS OF BOTH, ACTS, STORIES -/
/-- a day: its number, the hour, who met when, by whom loaves were cut, thanks -/
abbrev z_Dy := Int32 × Int32 × (Nat → Int32) × (Nat → Int32) × (Nat → Int32)
def z_dc (I : g_I) (b : Nat) : z_Dy := (I b 0, I b 1, I (b + 1), I (b + 2), I (b + 3))
def z_dr (I : g_I) : z_Dy := (I 101 30, I 101 31, I 114, I 118, I 119)
def z_dp (f : Nat → Int32) (o : Nat) : z_Dy := (f o, f (o + 1), fun k => f (o + 2 + k), fun k => f (o + 66 + k), fun k => f (o + 72 + k))
def z_dok (T : x_T) (r : z_Dy) : Prop := (∃ dd, dd ≤ 1059 ∧ r.1 = nI dd) ∧ (∃ hh, hh < 24 ∧ r.2.1 = nI hh) ∧ (∀ x y, x < T.1.length → y < T.1.length → -100000 ≤ r.2.2.1 (8 * x + y) ∧ r.2.2.1 (8 * x + y) ≤ r.1 ∧ r.2.2.1 (8 * x + y) = r.2.2.1 (8 * y + x)) ∧ ∀ l, l < T.2.1.length → r.2.2.2.1 l = -1 ∨ ∃ p, p < T.1.length ∧ r.2.2.2.1 l = nI p
/-- the class's day and the reference's are one -/
def z_D (T : x_T) (c r : z_Dy) : Prop := c.1 = r.1 ∧ c.2.1 = r.2.1 ∧ (∀ a b, a < T.1.length → b < T.1.length → a ≠ b → c.2.2.1 (8 * a + b) = z_cv (z_ld r.2.2.1 (z_tw T) a b)) ∧ (∀ l, l < T.2.1.length → c.2.2.2.1 l = r.2.2.2.1 l) ∧ (∀ p, p < T.1.length → c.2.2.2.2 p = r.2.2.2.2 p) ∧ z_dok T r
/-- two days alike, as far as the town asks -/
def z_eq (T : x_T) (r r' : z_Dy) : Prop := r'.1 = r.1 ∧ r'.2.1 = r.2.1 ∧ (∀ a b, a < T.1.length → b < T.1.length → r'.2.2.1 (8 * a + b) = r.2.2.1 (8 * a + b)) ∧ (∀ l, l < T.2.1.length → r'.2.2.2.1 l = r.2.2.2.1 l) ∧ ∀ p, p < T.1.length → r'.2.2.2.2 p = r.2.2.2.2 p
theorem z_eq_r (T : x_T) (r : z_Dy) : z_eq T r r := ⟨rfl, rfl, fun _ _ _ _ => rfl, fun _ _ => rfl, fun _ _ => rfl⟩
theorem z_eq_t {T : x_T} {a b c : z_Dy} (h1 : z_eq T a b) (h2 : z_eq T b c) : z_eq T a c := ⟨h2.1.trans h1.1, h2.2.1.trans h1.2.1, fun x y hx hy => (h2.2.2.1 x y hx hy).trans (h1.2.2.1 x y hx hy), fun l hl => (h2.2.2.2.1 l hl).trans (h1.2.2.2.1 l hl), fun p hp => (h2.2.2.2.2 p hp).trans (h1.2.2.2.2 p hp)⟩
theorem z_eq_s {T : x_T} {a b : z_Dy} (h : z_eq T a b) : z_eq T b a := ⟨h.1.symm, h.2.1.symm, fun x y hx hy => (h.2.2.1 x y hx hy).symm, fun l hl => (h.2.2.2.1 l hl).symm, fun p hp => (h.2.2.2.2 p hp).symm⟩
theorem z_ld_c {T : x_T} (hW : z_Wp T) {M M' : Nat → Int32} (h : ∀ a b, a < T.1.length → b < T.1.length → M' (8 * a + b) = M (8 * a + b)) {a b : Nat} (ha : a < T.1.length) (hb : b < T.1.length) : z_ld M' (z_tw T) a b = z_ld M (z_tw T) a b := by
  by_cases hab : z_tw T a = nI b
  · unfold z_ld; rw [if_pos hab, if_pos hab]
  · exact z_ldS_out hW (S := fun _ => false) (wh := 0) (fun x y hx hy => by rw [if_neg (fun q => Bool.noConfusion q.2.1)]; exact h x y hx hy) ha hb hab (fun q => by obtain ⟨⟨x, _, _, q⟩, _⟩ := q; exact Bool.noConfusion q)
theorem z_D_c {T : x_T} (hW : z_Wp T) {c c' r r' : z_Dy} (h : z_D T c r) (hc : z_eq T c c') (hr : z_eq T r r') : z_D T c' r' := by
  obtain ⟨h1, h2, h3, h4, h5, ⟨d1, d2, d3, d4⟩⟩ := h
  refine ⟨by rw [hc.1, hr.1, h1], by rw [hc.2.1, hr.2.1, h2], fun a b ha hb hne => ?_, fun l hl => by rw [hc.2.2.2.1 l hl, hr.2.2.2.1 l hl, h4 l hl], fun p hp => by rw [hc.2.2.2.2 p hp, hr.2.2.2.2 p hp, h5 p hp], by rw [hr.1]; exact d1, by rw [hr.2.1]; exact d2, fun x y hx hy => ?_, fun l hl => by rw [hr.2.2.2.1 l hl]; exact d4 l hl⟩
  · rw [hc.2.2.1 a b ha hb, h3 a b ha hb hne, z_ld_c hW hr.2.2.1 ha hb]
  · rw [hr.2.2.1 x y hx hy, hr.2.2.1 y x hy hx, hr.1]; exact d3 x y hx hy
theorem z_D_cut {T : x_T} {c r : z_Dy} (h : z_D T c r) {p l : Nat} (hp : p < T.1.length) : z_D T (c.1, c.2.1, c.2.2.1, upd c.2.2.2.1 l (nI p), c.2.2.2.2) (r.1, r.2.1, r.2.2.1, upd r.2.2.2.1 l (nI p), r.2.2.2.2) := by
  obtain ⟨h1, h2, h3, h4, h5, ⟨d1, d2, d3, d4⟩⟩ := h
  refine ⟨h1, h2, h3, fun j hj => ?_, h5, d1, d2, d3, fun j hj => ?_⟩
  · show upd c.2.2.2.1 l (nI p) j = upd r.2.2.2.1 l (nI p) j
    by_cases e : j = l
    · rw [e, pk_us, pk_us]
    · rw [upd_o e, upd_o e]; exact h4 j hj
  · show upd r.2.2.2.1 l (nI p) j = -1 ∨ ∃ q, q < T.1.length ∧ upd r.2.2.2.1 l (nI p) j = nI q
    by_cases e : j = l
    · rw [e, pk_us]; exact Or.inr ⟨p, hp, rfl⟩
    · rw [upd_o e]; exact d4 j hj
theorem z_D_thank {T : x_T} {c r : z_Dy} (h : z_D T c r) {b : Nat} (hb : b < T.1.length) : z_D T (c.1, c.2.1, c.2.2.1, c.2.2.2.1, upd c.2.2.2.2 b (c.2.2.2.2 b + 1)) (r.1, r.2.1, r.2.2.1, r.2.2.2.1, upd r.2.2.2.2 b (r.2.2.2.2 b + 1)) := by
  obtain ⟨h1, h2, h3, h4, h5, d⟩ := h
  refine ⟨h1, h2, h3, h4, fun j hj => ?_, d⟩
  show upd c.2.2.2.2 b (c.2.2.2.2 b + 1) j = upd r.2.2.2.2 b (r.2.2.2.2 b + 1) j
  by_cases e : j = b
  · rw [e, pk_us, pk_us, h5 b hb]
  · rw [upd_o e, upd_o e]; exact h5 j hj
theorem z_D_meet {T : x_T} (hW : z_Wp T) {tw : Nat → Int32} (ht : ∀ k, k < T.1.length → tw k = z_tw T k) {c r : z_Dy} (h : z_D T c r) {S wh : Int32} {M' : Nat → Int32} (hw : -100000 < wh) (hw2 : wh ≤ r.1) (hM : z_mm T (bt S) wh r.2.2.1 M') : z_D T (c.1, c.2.1, f_ga tw (f_wt tw S T.1.length) wh T.1.length c.2.2.1 T.1.length, c.2.2.2) (r.1, r.2.1, M', r.2.2.2) := by
  obtain ⟨h1, h2, h3, h4, h5, ⟨d1, d2, d3, d4⟩⟩ := h
  refine ⟨h1, h2, z_gaD hW ht h3 hM (fun x y hx hy => (d3 x y hx hy).1) hw, h4, h5, d1, d2, fun x y hx hy => ?_, d4⟩
  show -100000 ≤ M' (8 * x + y) ∧ M' (8 * x + y) ≤ r.1 ∧ M' (8 * x + y) = M' (8 * y + x)
  obtain ⟨e1, e2, e3⟩ := d3 x y hx hy
  rw [hM x y hx hy, hM y x hy hx, ← e3]
  by_cases q : x ≠ y ∧ bt S x = true ∧ bt S y = true
  · rw [if_pos q, if_pos ⟨Ne.symm q.1, q.2.2, q.2.1⟩]
    refine ⟨z_le_t e1 (z_mxl _ _), ?_, rfl⟩
    rcases z_mxe (r.2.2.1 (8 * x + y)) wh with g | g <;> rw [g]
    · exact e2
    · exact hw2
  · rw [if_neg q, if_neg (fun q' => q ⟨Ne.symm q'.1, q'.2.2, q'.2.1⟩)]
    exact ⟨e1, e2, rfl⟩
theorem z_hrs {dd hh h : Nat} (hd : dd ≤ 2000) (hh2 : hh < 24) (h9 : h ≤ 99) : nI dd + (nI hh + nI h) / 24 = nI (dd + (hh + h) / 24) ∧ (nI hh + nI h) - (nI hh + nI h) / 24 * 24 = nI ((hh + h) % 24) := by
  have e1 : (nI hh + nI h) / 24 = nI ((hh + h) / 24) := by rw [nI_add]; exact pk_div (d := 24) (by omega) (by omega) (by omega)
  refine ⟨by rw [e1, nI_add], ?_⟩
  rw [nI_add]
  exact pk_rem (d := 24) (by omega) (by omega) (by omega)
theorem z_D_hours {T : x_T} {c r : z_Dy} (h : z_D T c r) {dd hh h9 : Nat} (e1 : r.1 = nI dd) (e2 : r.2.1 = nI hh) (hh2 : hh < 24) (h99 : h9 ≤ 99) (hd : dd + (hh + h9) / 24 ≤ 1059) : z_D T (c.1 + (c.2.1 + nI h9) / 24, (c.2.1 + nI h9) - (c.2.1 + nI h9) / 24 * 24, c.2.2) (r.1 + (r.2.1 + nI h9) / 24, (r.2.1 + nI h9) - (r.2.1 + nI h9) / 24 * 24, r.2.2) := by
  obtain ⟨h1, h2, h3, h4, h5, ⟨d1, d2, d3, d4⟩⟩ := h
  obtain ⟨g1, g2⟩ := z_hrs (dd := dd) (hh := hh) (h := h9) (by omega) hh2 h99
  have f1 : r.1 + (r.2.1 + nI h9) / 24 = nI (dd + (hh + h9) / 24) := by rw [e1, e2]; exact g1
  have f2 : (r.2.1 + nI h9) - (r.2.1 + nI h9) / 24 * 24 = nI ((hh + h9) % 24) := by rw [e2]; exact g2
  refine ⟨by rw [h1, h2], by rw [h2], h3, h4, h5, ⟨_, hd, f1⟩, ⟨_, Nat.mod_lt _ (by decide), f2⟩, fun x y hx hy => ?_, d4⟩
  obtain ⟨q1, q2, q3⟩ := d3 x y hx hy
  refine ⟨q1, z_le_t q2 ?_, q3⟩
  show r.1 ≤ r.1 + (r.2.1 + nI h9) / 24
  rw [f1, e1]
  exact nI_le (by omega) (by omega)
theorem z_D_next {T : x_T} {c r : z_Dy} (h : z_D T c r) {dd : Nat} (e1 : r.1 = nI dd) (hd : dd + 1 ≤ 1059) : z_D T (c.1 + 1, c.2) (r.1 + 1, r.2) := by
  obtain ⟨h1, h2, h3, h4, h5, ⟨d1, d2, d3, d4⟩⟩ := h
  have f1 : r.1 + 1 = nI (dd + 1) := by rw [e1, nI_1]
  refine ⟨by rw [h1], h2, h3, h4, h5, ⟨_, hd, f1⟩, d2, fun x y hx hy => ?_, d4⟩
  obtain ⟨q1, q2, q3⟩ := d3 x y hx hy
  refine ⟨q1, z_le_t q2 ?_, q3⟩
  show r.1 ≤ r.1 + 1
  rw [f1, e1]
  exact nI_le (by omega) (by omega)
/-- an act, on a day of the class -/
def z_ac (tw : Nat → Int32) (n : Nat) (kd fi se : Int32) (c : z_Dy) : z_Dy :=
  if kd = 0 then (c.1, c.2.1, c.2.2.1, upd c.2.2.2.1 se.toNatClampNeg fi, c.2.2.2.2)
  else if kd = 1 then (c.1, c.2.1, f_ga tw (f_wt tw (((1 : Int32) <<< (fi &&& 31)) ||| ((1 : Int32) <<< (se &&& 31))) n) c.1 n c.2.2.1 n, c.2.2.2.1, upd c.2.2.2.2 se.toNatClampNeg (c.2.2.2.2 se.toNatClampNeg + 1))
  else if kd = 2 then (c.1, c.2.1, f_ga tw (f_wt tw fi n) c.1 n c.2.2.1 n, c.2.2.2.1, c.2.2.2.2)
  else (c.1 + (c.2.1 + fi) / 24, (c.2.1 + fi) - (c.2.1 + fi) / 24 * 24, c.2.2)
theorem z_dcp {I : g_I} {t n b : Nat} {kd fi se : Int32} : z_dc (f_perf I t n b kd fi se) b = z_ac (I (t + 4)) n kd fi se (z_dc I b) := by
  unfold f_perf z_ac z_dc
  by_cases e0 : kd = 0
  · rw [if_pos e0, if_pos e0]
    simp (disch := omega) only [am_uA_o, am_uA_s]
  · rw [if_neg e0, if_neg e0]
    by_cases e1 : kd = 1
    · rw [if_pos e1, if_pos e1]
      simp (disch := omega) only [am_uA_o, am_uA_s]
    · rw [if_neg e1, if_neg e1]
      by_cases e2 : kd = 2
      · rw [if_pos e2, if_pos e2]
        simp (disch := omega) only [am_uA_o, am_uA_s]
      · rw [if_neg e2, if_neg e2]
        simp (disch := omega) only [am_uA_o, am_uA_s]
        rfl
theorem z_lfc {α : Type} {f g : Nat → α → α} {a : α} : ∀ k : Nat, (∀ i, i < k → ∀ x, f i x = g i x) → lfold f a k = lfold g a k := by
  intro k
  induction k with
  | zero => intro _; rfl
  | succ k ih =>
    intro h
    show f k (lfold f a k) = g k (lfold g a k)
    rw [ih (fun i hi x => h i (by omega) x), h k (by omega)]
theorem z_pairc {tw tw' : Nat → Int32} {p : Nat} (hp : p < 2 ^ 31) (h : tw p = tw' p) : f_pair tw (nI p) = f_pair tw' (nI p) := by
  unfold f_pair
  rw [nI_clamp hp, h]
theorem z_wtc {tw tw' : Nat → Int32} {n : Nat} (hn : n ≤ 8) (h : ∀ k, k < n → tw k = tw' k) (S : Int32) : f_wt tw S n = f_wt tw' S n := by
  unfold f_wt
  exact z_lfc n fun i hi x => by rw [z_pairc (by omega) (h i hi)]
theorem z_gac {tw tw' : Nat → Int32} {n : Nat} (hn : n ≤ 8) (h : ∀ k, k < n → tw k = tw' k) (co wh : Int32) (m : Nat → Int32) : f_ga tw co wh n m n = f_ga tw' co wh n m n := by
  unfold f_ga
  exact z_lfc n fun i hi x => by unfold f_mb; rw [z_pairc (by omega) (h i hi)]
theorem z_acc {tw tw' : Nat → Int32} {n : Nat} (hn : n ≤ 8) (h : ∀ k, k < n → tw k = tw' k) (kd fi se : Int32) (c : z_Dy) : z_ac tw n kd fi se c = z_ac tw' n kd fi se c := by
  unfold z_ac
  rw [z_wtc hn h, z_wtc hn h, z_gac hn h, z_gac hn h]
theorem z_ace {T : x_T} (hW : z_Wp T) {tw : Nat → Int32} {kd fi se : Int32} {c c' : z_Dy} (h : z_eq T c c') : z_eq T (z_ac tw T.1.length kd fi se c) (z_ac tw T.1.length kd fi se c') := by
  have h8 := hW.1
  obtain ⟨h1, h2, h3, h4, h5⟩ := h
  have hm : ∀ co a b, a < T.1.length → b < T.1.length → f_ga tw co c'.1 T.1.length c'.2.2.1 T.1.length (8 * a + b) = f_ga tw co c.1 T.1.length c.2.2.1 T.1.length (8 * a + b) := fun co a b ha hb => by
    rw [z_ga h8 (by omega), z_ga h8 (by omega), h1, h3 a b ha hb]
  unfold z_ac
  by_cases e0 : kd = 0
  · rw [if_pos e0, if_pos e0]
    refine ⟨h1, h2, h3, fun l hl => ?_, h5⟩
    show upd c'.2.2.2.1 se.toNatClampNeg fi l = upd c.2.2.2.1 se.toNatClampNeg fi l
    unfold upd
    rw [h4 l hl]
  · rw [if_neg e0, if_neg e0]
    by_cases e1 : kd = 1
    · rw [if_pos e1, if_pos e1]
      refine ⟨h1, h2, fun a b ha hb => hm _ a b ha hb, h4, fun p hp => ?_⟩
      show upd c'.2.2.2.2 se.toNatClampNeg (c'.2.2.2.2 se.toNatClampNeg + 1) p = upd c.2.2.2.2 se.toNatClampNeg (c.2.2.2.2 se.toNatClampNeg + 1) p
      by_cases e : p = se.toNatClampNeg
      · rw [← e, pk_us, pk_us, h5 p hp]
      · rw [upd_o e, upd_o e, h5 p hp]
    · rw [if_neg e1, if_neg e1]
      by_cases e2 : kd = 2
      · rw [if_pos e2, if_pos e2]
        exact ⟨h1, h2, fun a b ha hb => hm _ a b ha hb, h4, h5⟩
      · rw [if_neg e2, if_neg e2]
        exact ⟨by show c'.1 + _ = c.1 + _; rw [h1, h2], by show c'.2.1 + fi - _ = c.2.1 + fi - _; rw [h2], h3, h4, h5⟩
/-- the class's day behind the first j acts -/
def z_rp (T : x_T) (bef : z_Dy) (kd fi se : Nat → Int32) (j : Nat) : z_Dy := lfold (fun i c => z_ac (z_tw T) T.1.length (kd i) (fi i) (se i) c) bef j
theorem z_rp_c {T : x_T} (hW : z_Wp T) {bef bef' : z_Dy} {kd fi se kd' fi' se' : Nat → Int32} (hb : z_eq T bef bef') : ∀ j : Nat, (∀ i, i < j → kd' i = kd i ∧ fi' i = fi i ∧ se' i = se i) → z_eq T (z_rp T bef kd fi se j) (z_rp T bef' kd' fi' se' j) := by
  intro j
  induction j with
  | zero => intro _; exact hb
  | succ j ih =>
    intro h
    show z_eq T (z_ac _ _ (kd j) (fi j) (se j) (z_rp T bef kd fi se j)) (z_ac _ _ (kd' j) (fi' j) (se' j) (z_rp T bef' kd' fi' se' j))
    obtain ⟨e1, e2, e3⟩ := h j (by omega)
    rw [e1, e2, e3]
    exact z_ace hW (ih (fun i hi => h i (by omega)))
theorem z_rp_s {T : x_T} {bef : z_Dy} {kd fi se : Nat → Int32} : ∀ j : Nat, z_rp T (z_ac (z_tw T) T.1.length (kd 0) (fi 0) (se 0) bef) (fun i => kd (i + 1)) (fun i => fi (i + 1)) (fun i => se (i + 1)) j = z_rp T bef kd fi se (j + 1) := by
  intro j
  induction j with
  | zero => rfl
  | succ j ih =>
    show z_ac _ _ (kd (j + 1)) (fi (j + 1)) (se (j + 1)) (z_rp T _ _ _ _ j) = z_ac _ _ (kd (j + 1)) (fi (j + 1)) (se (j + 1)) (z_rp T bef kd fi se (j + 1))
    rw [ih]
/-- the class's story: acts, the day before, the day now, how many are kept -/
abbrev z_Sy := (Nat → Int32) × (Nat → Int32) × (Nat → Int32) × z_Dy × z_Dy × Int32
def z_sy (I : g_I) (s : Nat) : z_Sy := (I (s + 9), I (s + 10), I (s + 11), z_dc I (s + 1), z_dc I (s + 5), I s 5)
/-- the class's story and the reference's rows are one -/
def z_So (T : x_T) (s : z_Sy) (rk : Int32) (past : Nat → Int32) (rn : z_Dy) : Prop := ∃ k, k ≤ 40 ∧ s.2.2.2.2.2 = nI k ∧ rk = nI k ∧ (∀ i, i < k → (s.1 i = 0 → vp_in (s.2.2.1 i) 6) ∧ (s.1 i = 1 → vp_in (s.2.2.1 i) 8)) ∧ z_eq T (z_rp T s.2.2.2.1 s.1 s.2.1 s.2.2.1 k) s.2.2.2.2.1 ∧ (∀ j, j < k → z_D T (z_rp T s.2.2.2.1 s.1 s.2.1 s.2.2.1 j) (z_dp past (80 * j))) ∧ z_D T (z_rp T s.2.2.2.1 s.1 s.2.1 s.2.2.1 k) rn
theorem z_So_c {T : x_T} (hW : z_Wp T) {s s' : z_Sy} {rk rk' : Int32} {past past' : Nat → Int32} {rn rn' : z_Dy} (h : z_So T s rk past rn) (h1 : ∀ i, i < 40 → s'.1 i = s.1 i ∧ s'.2.1 i = s.2.1 i ∧ s'.2.2.1 i = s.2.2.1 i) (h2 : z_eq T s.2.2.2.1 s'.2.2.2.1) (h3 : z_eq T s.2.2.2.2.1 s'.2.2.2.2.1) (h4 : s'.2.2.2.2.2 = s.2.2.2.2.2) (h5 : rk' = rk) (h6 : ∀ j, j < 40 → z_eq T (z_dp past (80 * j)) (z_dp past' (80 * j))) (h7 : z_eq T rn rn') : z_So T s' rk' past' rn' := by
  obtain ⟨k, hk, e1, e2, ha, hn, hp, hr⟩ := h
  have hrp : ∀ j, j ≤ k → z_eq T (z_rp T s.2.2.2.1 s.1 s.2.1 s.2.2.1 j) (z_rp T s'.2.2.2.1 s'.1 s'.2.1 s'.2.2.1 j) := fun j hj => z_rp_c hW h2 j (fun i hi => h1 i (by omega))
  refine ⟨k, hk, h4.trans e1, h5.trans e2, fun i hi => ?_, z_eq_t (z_eq_s (hrp k (by omega))) (z_eq_t hn h3), fun j hj => z_D_c hW (hp j hj) (hrp j (by omega)) (h6 j (by omega)), z_D_c hW hr (hrp k (by omega)) h7⟩
  obtain ⟨q1, q2, q3⟩ := h1 i (by omega)
  rw [q1, q3]
  exact ha i hi
theorem z_So_now {T : x_T} (hW : z_Wp T) {s : z_Sy} {rk : Int32} {past : Nat → Int32} {rn : z_Dy} (h : z_So T s rk past rn) : z_D T s.2.2.2.2.1 rn := by
  obtain ⟨k, hk, e1, e2, ha, hn, hp, hr⟩ := h
  exact z_D_c hW hr hn (z_eq_r T rn)
theorem z_eq_dp {T : x_T} (hW : z_Wp T) (h6 : T.2.1.length ≤ 6) {f f' : Nat → Int32} {o o' : Nat} (q : ∀ i, i < 80 → f' (o' + i) = f (o + i)) : z_eq T (z_dp f o) (z_dp f' o') := by
  have h8 := hW.1
  refine ⟨q 0 (by omega), q 1 (by omega), fun a b ha hb => ?_, fun l hl => ?_, fun p hp => ?_⟩
  · show f' (o' + 2 + (8 * a + b)) = f (o + 2 + (8 * a + b))
    rw [Nat.add_assoc, Nat.add_assoc]; exact q _ (by omega)
  · show f' (o' + 66 + l) = f (o + 66 + l)
    rw [Nat.add_assoc, Nat.add_assoc]; exact q _ (by omega)
  · show f' (o' + 72 + p) = f (o + 72 + p)
    rw [Nat.add_assoc, Nat.add_assoc]; exact q _ (by omega)
/-- one more act; the oldest one goes if there are 40 -/
theorem z_So_act {T : x_T} (hW : z_Wp T) (h6 : T.2.1.length ≤ 6) {s s' : z_Sy} {rk rk' : Int32} {past past' : Nat → Int32} {rn rn' : z_Dy} {kd fi se : Int32} {k : Nat} (h : z_So T s rk past rn) (hk : s.2.2.2.2.2 = nI k) (hk40 : k ≤ 40) (ho : (kd = 0 → vp_in se 6) ∧ (kd = 1 → vp_in se 8))
    (a1 : ∀ i, i < (if k = 40 then 39 else k) → s'.1 i = s.1 (if k = 40 then i + 1 else i) ∧ s'.2.1 i = s.2.1 (if k = 40 then i + 1 else i) ∧ s'.2.2.1 i = s.2.2.1 (if k = 40 then i + 1 else i))
    (a2 : s'.1 (if k = 40 then 39 else k) = kd ∧ s'.2.1 (if k = 40 then 39 else k) = fi ∧ s'.2.2.1 (if k = 40 then 39 else k) = se)
    (a3 : z_eq T (if k = 40 then z_ac (z_tw T) T.1.length (s.1 0) (s.2.1 0) (s.2.2.1 0) s.2.2.2.1 else s.2.2.2.1) s'.2.2.2.1)
    (a4 : z_eq T (z_ac (z_tw T) T.1.length kd fi se s.2.2.2.2.1) s'.2.2.2.2.1) (a5 : s'.2.2.2.2.2 = nI ((if k = 40 then 39 else k) + 1)) (a6 : rk' = nI ((if k = 40 then 39 else k) + 1))
    (a7 : ∀ j, j < 80 * (if k = 40 then 39 else k) → past' j = past (if k = 40 then j + 80 else j)) (a8 : z_eq T rn (z_dp past' (80 * (if k = 40 then 39 else k))))
    (a9 : z_D T (z_ac (z_tw T) T.1.length kd fi se s.2.2.2.2.1) rn') : z_So T s' rk' past' rn' := by
  obtain ⟨k0, hk0, e1, e2, ha, hn, hp, hr⟩ := h
  have ek : k0 = k := (nI_eq (by omega) (by omega)).mp (e1.symm.trans hk)
  subst ek
  by_cases e40 : k0 = 40
  · subst e40
    simp only [if_true] at a1 a2 a3 a5 a6 a7 a8
    have hrp : ∀ j, j ≤ 39 → z_eq T (z_rp T s.2.2.2.1 s.1 s.2.1 s.2.2.1 (j + 1)) (z_rp T s'.2.2.2.1 s'.1 s'.2.1 s'.2.2.1 j) := fun j hj => by
      rw [← z_rp_s]
      exact z_rp_c hW a3 j (fun i hi => a1 i (by omega))
    have hlast : z_eq T (z_ac (z_tw T) T.1.length kd fi se s.2.2.2.2.1) (z_rp T s'.2.2.2.1 s'.1 s'.2.1 s'.2.2.1 40) := by
      show z_eq T _ (z_ac _ _ (s'.1 39) (s'.2.1 39) (s'.2.2.1 39) (z_rp T s'.2.2.2.1 s'.1 s'.2.1 s'.2.2.1 39))
      rw [a2.1, a2.2.1, a2.2.2]
      exact z_ace hW (z_eq_t (z_eq_s hn) (hrp 39 (by omega)))
    refine ⟨40, by omega, a5, a6, fun i hi => ?_, z_eq_t (z_eq_s hlast) a4, fun j hj => ?_, z_D_c hW a9 hlast (z_eq_r T rn')⟩
    · by_cases e : i = 39
      · subst e; rw [a2.1, a2.2.2]; exact ho
      · obtain ⟨q1, q2, q3⟩ := a1 i (by omega)
        rw [q1, q3]; exact ha (i + 1) (by omega)
    · by_cases e : j = 39
      · subst e
        exact z_D_c hW hr (hrp 39 (by omega)) a8
      · refine z_D_c hW (hp (j + 1) (by omega)) (hrp j (by omega)) ?_
        exact z_eq_dp hW h6 fun i hi => by rw [a7 _ (by omega)]; congr 1; omega
  · simp only [e40, if_false] at a1 a2 a3 a5 a6 a7 a8
    have hrp : ∀ j, j ≤ k0 → z_eq T (z_rp T s.2.2.2.1 s.1 s.2.1 s.2.2.1 j) (z_rp T s'.2.2.2.1 s'.1 s'.2.1 s'.2.2.1 j) := fun j hj => z_rp_c hW a3 j (fun i hi => a1 i (by omega))
    have hlast : z_eq T (z_ac (z_tw T) T.1.length kd fi se s.2.2.2.2.1) (z_rp T s'.2.2.2.1 s'.1 s'.2.1 s'.2.2.1 (k0 + 1)) := by
      show z_eq T _ (z_ac _ _ (s'.1 k0) (s'.2.1 k0) (s'.2.2.1 k0) (z_rp T s'.2.2.2.1 s'.1 s'.2.1 s'.2.2.1 k0))
      rw [a2.1, a2.2.1, a2.2.2]
      exact z_ace hW (z_eq_t (z_eq_s hn) (hrp k0 (by omega)))
    refine ⟨k0 + 1, by omega, a5, a6, fun i hi => ?_, z_eq_t (z_eq_s hlast) a4, fun j hj => ?_, z_D_c hW a9 hlast (z_eq_r T rn')⟩
    · by_cases e : i = k0
      · subst e; rw [a2.1, a2.2.2]; exact ho
      · obtain ⟨q1, q2, q3⟩ := a1 i (by omega)
        rw [q1, q3]; exact ha i (by omega)
    · by_cases e : j = k0
      · subst e
        exact z_D_c hW hr (hrp j (by omega)) a8
      · refine z_D_c hW (hp j (by omega)) (hrp j (by omega)) ?_
        exact z_eq_dp hW h6 fun i hi => a7 _ (by omega)
