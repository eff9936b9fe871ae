/-! PURE: NOON -/
def z_nH (T : x_T) (p : Nat) : Nat := ((z_pp T p).2.1).toNatClampNeg
def z_nA (T : x_T) (b : Nat) : Nat := ((z_ll T b).1.1).toNatClampNeg
def z_nB (T : x_T) (b : Nat) : Nat := ((z_ll T b).1.2.2.1).toNatClampNeg
def z_nF (T : x_T) (b : Nat) : Nat := ((z_ll T b).1.2.2.2).toNatClampNeg
def z_nw (T : x_T) (p b : Nat) : Nat := if z_nH T p ≤ z_nA T b then z_nA T b - z_nH T p else z_nH T p - z_nA T b
def z_nf (T : x_T) (a9 p b : Nat) : Nat := (if a9 < z_nB T b then z_nB T b else a9) + z_nw T p b
def z_nu (T : x_T) (b9 b : Nat) : Nat := if z_nB T b + z_nF T b < b9 then z_nB T b + z_nF T b else b9
theorem z_ab1 : ∀ x, x < 10 → ∀ y, y < 10 → g_abs (nI x - nI y) = nI (if x ≤ y then y - x else x - y) ∧ f_ab (nI y - nI x) = nI (if x ≤ y then y - x else x - y) ∧ (if x ≤ y then y - x else x - y) ≤ 9 := by decide +kernel
theorem z_nP {T : x_T} (hW : z_W T) {p : Nat} (hp : p < T.1.length) : z_nH T p < 10 ∧ (z_pp T p).2.1 = nI (z_nH T p) := by
  obtain ⟨-, ⟨h, h1, h2⟩, -⟩ := hW.1.2 p hp
  unfold z_nH
  rw [h2, nI_clamp (by omega)]
  exact ⟨h1, rfl⟩
theorem z_nL {T : x_T} (hW : z_W T) {b : Nat} (hb : b < T.2.1.length) : (z_nA T b < 10 ∧ (z_ll T b).1.1 = nI (z_nA T b)) ∧ (z_nB T b ≤ 23 ∧ (z_ll T b).1.2.2.1 = nI (z_nB T b)) ∧ z_nF T b ≤ 23 ∧ (z_ll T b).1.2.2.2 = nI (z_nF T b) := by
  obtain ⟨⟨x, x1, x2⟩, -, ⟨y, y1, y2⟩, ⟨z, z1, z2, z3⟩, -⟩ := hW.2.1.2 b hb
  unfold z_nA z_nB z_nF
  rw [x2, y2, z3, nI_clamp (by omega), nI_clamp (by omega), nI_clamp (by omega)]
  exact ⟨⟨x1, rfl⟩, ⟨y1, rfl⟩, z2, rfl⟩
theorem z_nwB {T : x_T} (hW : z_W T) {p b : Nat} (hp : p < T.1.length) (hb : b < T.2.1.length) : g_abs ((z_pp T p).2.1 - (z_ll T b).1.1) = nI (z_nw T p b) ∧ f_ab ((z_ll T b).1.1 - (z_pp T p).2.1) = nI (z_nw T p b) ∧ z_nw T p b ≤ 9 := by
  obtain ⟨h1, h2⟩ := z_nP hW hp
  obtain ⟨⟨a1, a2⟩, -⟩ := z_nL hW hb
  rw [h2, a2]
  exact z_ab1 _ h1 _ a1
theorem z_nfB {T : x_T} (hW : z_W T) {a9 : Nat} (ha : a9 < 24) {p b : Nat} (hp : p < T.1.length) (hb : b < T.2.1.length) : a9 ≤ z_nf T a9 p b ∧ z_nf T a9 p b ≤ 40 := by
  obtain ⟨-, -, w3⟩ := z_nwB hW hp hb
  obtain ⟨-, ⟨b1, -⟩, -⟩ := z_nL hW hb
  unfold z_nf
  split <;> omega
theorem z_fromR {T : x_T} (hW : z_W T) {K : g_I} (hR : z_R K T) {a9 : Nat} (ha : a9 < 24) (h31 : K 101 31 = nI a9) {p b : Nat} (hp : p < T.1.length) (hb : b < T.2.1.length) : b_X11_from K (nI p) (nI b) = some (nI (z_nf T a9 p b)) := by
  have h8 := hW.1.1
  have h6 := hW.2.1.1
  obtain ⟨w1, -, -⟩ := z_nwB hW hp hb
  obtain ⟨-, ⟨b1, b2⟩, -⟩ := z_nL hW hb
  unfold b_X11_from
  rw [if_pos (g_in_nI (by omega) (by decide)), if_pos (g_in_nI (by omega) (by decide)), if_pos (g_in_nI (by omega) (by decide)), nI_clamp (by omega), nI_clamp (by omega), (hR.1.2 p hp).2.1, (hR.2.1.2 b hb).1, (hR.2.1.2 b hb).2.2.1, w1, h31, b2]
  congr 1
  unfold g_max z_nf
  by_cases c : a9 < z_nB T b
  · rw [if_pos ((nI_ltI (by omega) (by omega)).mpr c), if_pos c, nI_add]
  · rw [if_neg (fun q => c ((nI_ltI (by omega) (by omega)).mp q)), if_neg c, nI_add]
theorem z_untilR {T : x_T} (hW : z_W T) {K : g_I} (hR : z_R K T) {b9 : Nat} (hb9 : b9 ≤ 23) (h4 : T.2.2.2.1.2 = nI b9) {b : Nat} (hb : b < T.2.1.length) : b_X11_until K (nI b) = some (nI (z_nu T b9 b)) := by
  have h6 := hW.2.1.1
  obtain ⟨-, ⟨b1, b2⟩, f1, f2⟩ := z_nL hW hb
  unfold b_X11_until
  rw [if_pos (g_in_nI (by omega) (by decide)), if_pos (g_in_nI (by omega) (by decide)), nI_clamp (by omega), hR.2.2.2.1, h4, (hR.2.1.2 b hb).2.2.1, (hR.2.1.2 b hb).2.2.2.1, b2, f2, nI_add]
  congr 1
  unfold g_min z_nu
  by_cases c : z_nB T b + z_nF T b < b9
  · rw [if_pos ((nI_ltI (by omega) (by omega)).mpr c), if_pos c]
  · rw [if_neg (fun q => c ((nI_ltI (by omega) (by omega)).mp q)), if_neg c]
