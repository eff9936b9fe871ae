/-! PURE: THE REFERENCE'S TOKENS -/
theorem z_upup (I : g_I) (c k : Nat) (x y : Int32) : am_up (am_up I c k x) c k y = am_up I c k y := by
  funext a
  by_cases h : a = c
  · rw [h, am_up_s, am_up_s, am_up_s]
    funext j
    by_cases e : j = k
    · rw [e, pk_us, pk_us]
    · rw [upd_o e, upd_o e, upd_o e]
  · rw [am_up_o _ _ _ _ h, am_up_o _ _ _ _ h, am_up_o _ _ _ _ h]
theorem z_upid {I : g_I} {c k : Nat} {x : Int32} (hx : I c k = x) : am_up I c k x = I := by
  funext a
  by_cases h : a = c
  · rw [h, am_up_s]
    funext j
    by_cases e : j = k
    · rw [e, pk_us, hx]
    · rw [upd_o e]
  · rw [am_up_o _ _ _ _ h]
theorem z_byx {x : Int32} (h1 : -128 ≤ x) (h2 : x < 128) : ∃ k, k < 256 ∧ x = nI k - nI 128 := by
  rw [z_leI, show (-128 : Int32).toInt = -128 by decide] at h1
  rw [z_lI, show (128 : Int32).toInt = 128 by decide] at h2
  refine ⟨(x.toInt + 128).toNat, by omega, Int32.toInt_inj.mp ?_⟩
  rw [pk_sub_toInt (by omega) (by omega)]
  omega
theorem z_byU : ∀ k, k < 256 → ((nI k - nI 128) &&& 255) = nI (if 128 ≤ k then k - 128 else k + 128) := by decide +kernel
theorem z_byA : ∀ k, k < 256 → (decide (((nI k - nI 128) &&& 255) = 32) || decide (((nI k - nI 128) &&& 255) = 10)) = x_bl (nI k - nI 128) ∧ b_X11_isLetter ((nI k - nI 128) &&& 255) = x_le (nI k - nI 128) ∧ b_X11_isDigit ((nI k - nI 128) &&& 255) = x_di (nI k - nI 128) ∧ b_X11_isMark ((nI k - nI 128) &&& 255) = x_mk (nI k - nI 128) ∧ ¬ ((nI k - nI 128) &&& 255) = -1 ∧ (x_di (nI k - nI 128) = true → ∃ d, d < 10 ∧ nI k - nI 128 = nI (48 + d)) := by decide +kernel
section ZTOK
variable {tp : Nat → Int32} {n : Nat}
/-- a byte, in both -/
theorem z_byC {x : Int32} (h1 : -128 ≤ x) (h2 : x < 128) {c : Nat} (hc : c < 128) : x &&& 255 = nI c ↔ x = nI c := by
  obtain ⟨k, hk, rfl⟩ := z_byx h1 h2
  rw [z_byU k hk]
  by_cases e : 128 ≤ k
  · rw [if_pos e, nI_subI e]
  · rw [if_neg e]
    constructor
    · intro q
      have := (nI_eq (by omega) (by omega)).mp q
      omega
    · intro q
      have := congrArg Int32.toInt q
      rw [pk_sub_toInt (by omega) (by omega), nI_toInt (by omega)] at this
      omega
def z_tpr (tp : Nat → Int32) (n : Nat) (J : g_I) : Prop := J 101 19 = nI n ∧ n ≤ 600 ∧ (∀ j, j < n → J 117 j = tp j &&& 255) ∧ ∀ j, j < 600 → -128 ≤ tp j ∧ tp j < 128
theorem z_tpr_o {J J' : g_I} (h : z_tpr tp n J) (h1 : J' 101 19 = J 101 19) (h2 : J' 117 = J 117) : z_tpr tp n J' := by
  unfold z_tpr at h ⊢
  rw [h1, h2]
  exact h
theorem z_tpr_u {J : g_I} {k : Nat} {x : Int32} (h : z_tpr tp n J) (hk : 19 ≠ k) : z_tpr tp n (am_up J 101 k x) := z_tpr_o h (up_ne hk) (am_up_o _ _ _ _ (by decide))
theorem z_byteAt {J : g_I} (hT : z_tpr tp n J) {p : Nat} (hp : p ≤ n) : b_X11_byteAt J (nI p) = some (if p < n then tp p &&& 255 else -1) := by
  obtain ⟨h1, h2, h3, h4⟩ := hT
  unfold b_X11_byteAt
  rw [h1]
  by_cases e : p < n
  · rw [if_neg (nI_ge e (by omega)), if_pos (g_in_nI (by omega) (by decide)), if_pos e, nI_clamp (by omega), h3 p e]
  · rw [if_pos (nI_le (by omega) (by omega)), if_neg e]
theorem z_byK {J : g_I} (hT : z_tpr tp n J) {p : Nat} (hp : p < n) : ∃ k, k < 256 ∧ tp p = nI k - nI 128 := z_byx (hT.2.2.2 p (by have := hT.2.1; omega)).1 (hT.2.2.2 p (by have := hT.2.1; omega)).2
theorem z_skip {K : g_I → Option g_I} : ∀ (r f p : Nat) (J : g_I), z_tpr tp n J → p + r = n → r < f → J 101 18 = nI p → b_X11_stepOn_L0 K f J = K (am_up J 101 18 (nI (x_run x_bl tp r p))) := by
  intro r
  induction r with
  | zero =>
    intro f p J hT hp hf h18
    obtain ⟨f', rfl⟩ : ∃ f', f = f' + 1 := ⟨f - 1, by omega⟩
    unfold b_X11_stepOn_L0
    rw [h18, z_byteAt hT (by omega), if_neg (by omega)]
    simp only [g_bind]
    rw [if_neg (by decide), if_neg (by decide)]
    show K J = K (am_up J 101 18 (nI p))
    rw [z_upid h18]
  | succ r ih =>
    intro f p J hT hp hf h18
    obtain ⟨f', rfl⟩ : ∃ f', f = f' + 1 := ⟨f - 1, by omega⟩
    have hpn : p < n := by omega
    obtain ⟨k, hk, ek⟩ := z_byK hT hpn
    have hA := (z_byA k hk).1
    rw [← ek] at hA
    have hst := ih f' (p + 1) (am_up J 101 18 (nI (p + 1))) (z_tpr_u hT (by decide)) (by omega) (by omega) up_eq
    rw [z_upup] at hst
    unfold b_X11_stepOn_L0
    rw [h18, z_byteAt hT (by omega), if_pos hpn]
    simp only [g_bind]
    rw [z_gl, nI_1, hst]
    show _ = K (am_up J 101 18 (nI (if x_bl (tp p) then x_run x_bl tp r (p + 1) else p)))
    rw [← hA]
    by_cases c1 : tp p &&& 255 = 32
    · rw [if_pos c1, decide_eq_true c1]; rfl
    · rw [if_neg c1, decide_eq_false c1]
      by_cases c2 : tp p &&& 255 = 10
      · rw [if_pos c2, decide_eq_true c2]; rfl
      · rw [if_neg c2, decide_eq_false c2]
        show K J = K (am_up J 101 18 (nI p))
        rw [z_upid h18]
theorem z_lets {K : g_I → Option g_I} : ∀ (r f p : Nat) (J : g_I), z_tpr tp n J → p + r = n → r < f → J 101 18 = nI p → b_X11_stepOn_L76 K f J = K (am_up J 101 18 (nI (x_run x_le tp r p))) := by
  intro r
  induction r with
  | zero =>
    intro f p J hT hp hf h18
    obtain ⟨f', rfl⟩ : ∃ f', f = f' + 1 := ⟨f - 1, by omega⟩
    unfold b_X11_stepOn_L76
    rw [h18, z_byteAt hT (by omega), if_neg (by omega)]
    simp only [g_bind]
    rw [if_neg (by decide)]
    show K J = K (am_up J 101 18 (nI p))
    rw [z_upid h18]
  | succ r ih =>
    intro f p J hT hp hf h18
    obtain ⟨f', rfl⟩ : ∃ f', f = f' + 1 := ⟨f - 1, by omega⟩
    have hpn : p < n := by omega
    obtain ⟨k, hk, ek⟩ := z_byK hT hpn
    have hA := (z_byA k hk).2.1
    rw [← ek] at hA
    have hst := ih f' (p + 1) (am_up J 101 18 (nI (p + 1))) (z_tpr_u hT (by decide)) (by omega) (by omega) up_eq
    rw [z_upup] at hst
    unfold b_X11_stepOn_L76
    rw [h18, z_byteAt hT (by omega), if_pos hpn]
    simp only [g_bind]
    rw [z_gl, nI_1, hst, hA]
    show _ = K (am_up J 101 18 (nI (if x_le (tp p) then x_run x_le tp r (p + 1) else p)))
    by_cases c1 : x_le (tp p) = true
    · rw [if_pos c1, if_pos c1]
    · rw [if_neg c1, if_neg c1, z_upid h18]
/-- the reference's number, digit by digit -/
def z_dv (tp : Nat → Int32) (v : Int32) : Nat → Nat → Int32
  | 0, _ => v
  | r + 1, p => if x_di (tp p) then z_dv tp (g_min 100000 (10 * v + (tp p &&& 255) - 48)) r (p + 1) else v
theorem z_digs {K : g_I → Option g_I} : ∀ (r f p : Nat) (J : g_I) (v : Int32), z_tpr tp n J → p + r = n → r < f → J 101 18 = nI p → J 101 21 = v → b_X11_stepOn_L123 K f J = K (am_up (am_up J 101 21 (z_dv tp v r p)) 101 18 (nI (x_run x_di tp r p))) := by
  intro r
  induction r with
  | zero =>
    intro f p J v hT hp hf h18 h21
    obtain ⟨f', rfl⟩ : ∃ f', f = f' + 1 := ⟨f - 1, by omega⟩
    unfold b_X11_stepOn_L123
    rw [h18, z_byteAt hT (by omega), if_neg (by omega)]
    simp only [g_bind]
    rw [if_neg (by decide)]
    show K J = K (am_up (am_up J 101 21 v) 101 18 (nI p))
    rw [z_upid h21, z_upid h18]
  | succ r ih =>
    intro f p J v hT hp hf h18 h21
    obtain ⟨f', rfl⟩ : ∃ f', f = f' + 1 := ⟨f - 1, by omega⟩
    have hpn : p < n := by omega
    obtain ⟨k, hk, ek⟩ := z_byK hT hpn
    have hA := (z_byA k hk).2.2.1
    rw [← ek] at hA
    have hst := ih f' (p + 1) (am_up (am_up J 101 21 (g_min 100000 (10 * v + (tp p &&& 255) - 48))) 101 18 (nI (p + 1))) _ (z_tpr_u (z_tpr_u hT (by decide)) (by decide)) (by omega) (by omega) up_eq (by rw [up_ne (by decide), up_eq])
    have hsw : am_up (am_up (am_up (am_up J 101 21 (g_min 100000 (10 * v + (tp p &&& 255) - 48))) 101 18 (nI (p + 1))) 101 21 (z_dv tp (g_min 100000 (10 * v + (tp p &&& 255) - 48)) r (p + 1))) 101 18 (nI (x_run x_di tp r (p + 1))) = am_up (am_up J 101 21 (z_dv tp (g_min 100000 (10 * v + (tp p &&& 255) - 48)) r (p + 1))) 101 18 (nI (x_run x_di tp r (p + 1))) := by
      funext a
      by_cases h : a = 101
      · rw [h]
        simp only [am_up_s]
        funext j
        by_cases e : j = 18
        · rw [e, pk_us, pk_us]
        · rw [upd_o e, upd_o e]
          by_cases e2 : j = 21
          · rw [e2, pk_us, pk_us]
          · rw [upd_o e2, upd_o e2, upd_o e, upd_o e2]
      · simp only [am_up_o _ _ _ _ h]
    rw [hsw] at hst
    unfold b_X11_stepOn_L123
    rw [h18, z_byteAt hT (by omega), if_pos hpn]
    simp only [g_bind]
    rw [z_gl, h21, z_gl, up_ne (show 18 ≠ 21 by decide), h18, nI_1, hst, hA]
    show _ = K (am_up (am_up J 101 21 (if x_di (tp p) then z_dv tp (g_min 100000 (10 * v + (tp p &&& 255) - 48)) r (p + 1) else v)) 101 18 (nI (if x_di (tp p) then x_run x_di tp r (p + 1) else p)))
    by_cases c1 : x_di (tp p) = true
    · rw [if_pos c1, if_pos c1, if_pos c1]
    · rw [if_neg c1, if_neg c1, if_neg c1, z_upid h21, z_upid h18]
theorem z_lfS {g : Nat → Int32 → Int32} (a : Int32) : ∀ k : Nat, lfold g a (k + 1) = lfold (fun i => g (i + 1)) (g 0 a) k := by
  intro k
  induction k with
  | zero => rfl
  | succ k ih =>
    show g (k + 1) (lfold g a (k + 1)) = g (k + 1) (lfold (fun i => g (i + 1)) (g 0 a) k)
    rw [ih]
theorem z_dvE : ∀ (r p w : Nat) (m : Nat), (∀ j, j < 600 → -128 ≤ tp j ∧ tp j < 128) → p + r ≤ 600 → w + (x_run x_di tp r p - p) ≤ 4 → m < 10 ^ w → z_dv tp (nI m) r p = lfold (fun i v => 10 * v + tp (p + i) - 48) (nI m) (x_run x_di tp r p - p) ∧ ∃ x, x < 10 ^ (w + (x_run x_di tp r p - p)) ∧ z_dv tp (nI m) r p = nI x := by
  intro r
  induction r with
  | zero =>
    intro p w m hB hp hw hm
    have e0 : x_run x_di tp 0 p - p = 0 := by show p - p = 0; omega
    rw [e0]
    exact ⟨rfl, m, by simpa using hm, rfl⟩
  | succ r ih =>
    intro p w m hB hp hw hm
    by_cases c : x_di (tp p) = true
    · have hr : x_run x_di tp (r + 1) p = x_run x_di tp r (p + 1) := if_pos c
      have hv : z_dv tp (nI m) (r + 1) p = z_dv tp (g_min 100000 (10 * nI m + (tp p &&& 255) - 48)) r (p + 1) := if_pos c
      have hb := (x_run_b x_di tp r (p + 1)).1
      obtain ⟨k, hk, ek⟩ := z_byx (hB p (by omega)).1 (hB p (by omega)).2
      obtain ⟨d, hd, ed⟩ := (z_byA k hk).2.2.2.2.2 (by rw [← ek]; exact c)
      rw [← ek] at ed
      have hu : tp p &&& 255 = nI (48 + d) := (z_byC (hB p (by omega)).1 (hB p (by omega)).2 (by omega)).mpr ed
      have hmw : m < 1000 := by
        have h3 : 10 ^ w ≤ 10 ^ 3 := Nat.pow_le_pow_right (by decide) (by rw [hr] at hw; omega)
        omega
      have hval : 10 * nI m + nI (48 + d) - 48 = nI (10 * m + d) := by
        rw [show (10 : Int32) = nI 10 from rfl, pk_mul, nI_add, show (48 : Int32) = nI 48 from rfl, nI_subI (by omega)]
        congr 1
        omega
      have hmin : g_min 100000 (nI (10 * m + d)) = nI (10 * m + d) := by
        unfold g_min
        rw [if_pos]
        rw [show (100000 : Int32) = nI 100000 from rfl]
        exact (nI_ltI (by omega) (by omega)).mpr (by omega)
      have hpw : 10 ^ (w + 1) = 10 ^ w * 10 := Nat.pow_succ ..
      obtain ⟨i1, x, i2, i3⟩ := ih (p + 1) (w + 1) (10 * m + d) hB (by omega) (by rw [hr] at hw; omega) (by omega)
      have hk1 : x_run x_di tp (r + 1) p - p = (x_run x_di tp r (p + 1) - (p + 1)) + 1 := by rw [hr]; omega
      rw [hv, hu, hval, hmin, hk1]
      refine ⟨?_, x, by rw [show w + (x_run x_di tp r (p + 1) - (p + 1) + 1) = w + 1 + (x_run x_di tp r (p + 1) - (p + 1)) by omega]; exact i2, i3⟩
      rw [i1, z_lfS]
      show lfold (fun i v => 10 * v + tp (p + 1 + i) - 48) (nI (10 * m + d)) _ = lfold (fun i v => 10 * v + tp (p + (i + 1)) - 48) (10 * nI m + tp p - 48) _
      rw [ed, hval]
      congr 1
      funext i v
      rw [show p + 1 + i = p + (i + 1) by omega]
    · have hr : x_run x_di tp (r + 1) p = p := if_neg c
      have hv : z_dv tp (nI m) (r + 1) p = nI m := if_neg c
      rw [hr, hv, Nat.sub_self]
      exact ⟨rfl, m, by simpa using hm, rfl⟩
def z_nn (tp : Nat → Int32) (n a : Nat) : Nat := if n ≤ a then n else x_nx tp n a
theorem z_nn_b {a : Nat} (h : a ≤ n) : a ≤ z_nn tp n a ∧ z_nn tp n a ≤ n := by
  unfold z_nn
  by_cases c : n ≤ a
  · rw [if_pos c]; omega
  · rw [if_neg c]
    have := x_nx_b tp (show a < n by omega)
    omega
theorem z_nn_av (a : Nat) : x_run x_bl tp (n - z_nn tp n a) (z_nn tp n a) = x_av tp n a := by
  unfold z_nn x_av
  by_cases c : n ≤ a
  · rw [if_pos c, if_pos c, Nat.sub_self]; rfl
  · rw [if_neg c, if_neg c]
def z_tok (tp : Nat → Int32) (n : Nat) (J : g_I) (a : Nat) : Prop := J 101 22 = nI a ∧ J 101 20 = nI (x_tk tp n a) ∧ J 101 18 = nI (z_nn tp n a) ∧ J 101 23 = nI (z_nn tp n a) ∧ (x_tk tp n a = 2 → x_nx tp n a - a ≤ 4 → J 101 21 = x_nu tp n a ∧ ∃ x, x < 10000 ∧ x_nu tp n a = nI x)
def z_ps (tp : Nat → Int32) (n : Nat) (J : g_I) (s : Int32 × Nat) : Prop := z_tpr tp n J ∧ J 101 24 = s.1 ∧ s.2 ≤ n ∧ (s.1 = 0 → z_tok tp n J s.2) ∧ (¬ s.1 = 0 → J 101 25 = nI s.2)
/-- what a token's reading may change -/
def z_f1 (J J' : g_I) : Prop := (∀ a, a ≠ 101 → J' a = J a) ∧ ∀ k, (k < 18 ∨ k = 19 ∨ 25 < k) → J' 101 k = J 101 k
theorem z_f1_r (J : g_I) : z_f1 J J := ⟨fun _ _ => rfl, fun _ _ => rfl⟩
theorem z_f1_t {J K M : g_I} (h1 : z_f1 J K) (h2 : z_f1 K M) : z_f1 J M := ⟨fun a h => (h2.1 a h).trans (h1.1 a h), fun k h => (h2.2 k h).trans (h1.2 k h)⟩
theorem z_f1_u {J : g_I} {k : Nat} {x : Int32} (hk : 18 ≤ k ∧ k ≤ 25 ∧ k ≠ 19) : z_f1 J (am_up J 101 k x) := ⟨fun a h => am_up_o _ _ _ _ h, fun j h => up_ne (by omega)⟩
set_option maxHeartbeats 1000000 in
theorem z_stepOn {J : g_I} {p : Nat} (hT : z_tpr tp n J) (hp : p ≤ n) (h18 : J 101 18 = nI p) : ∃ J', b_X11_stepOn J = some J' ∧ z_f1 J J' ∧ J' 101 24 = J 101 24 ∧ J' 101 25 = J 101 25 ∧ z_tok tp n J' (x_run x_bl tp (n - p) p) ∧ z_tpr tp n J' := by
  have hn6 := hT.2.1
  have hB := hT.2.2.2
  have hrb := x_run_b x_bl tp (n - p) p
  generalize hb : x_run x_bl tp (n - p) p = b at hrb
  have hbn : b ≤ n := by omega
  unfold b_X11_stepOn
  rw [z_gl, z_skip (n - p) fu p J hT (by omega) (by unfold fu; omega) h18, hb]
  dsimp only
  rw [z_gl, up_eq]
  generalize hM : am_up (am_up J 101 18 (nI b)) 101 22 (nI b) = M
  have hTM : z_tpr tp n M := by rw [← hM]; exact z_tpr_u (z_tpr_u hT (by decide)) (by decide)
  have m18 : M 101 18 = nI b := by rw [← hM, up_ne (by decide), up_eq]
  have m22 : M 101 22 = nI b := by rw [← hM, up_eq]
  have mf : z_f1 J M := by rw [← hM]; exact z_f1_t (z_f1_u (by decide)) (z_f1_u (by decide))
  have m24 : M 101 24 = J 101 24 := by rw [← hM, up_ne (by decide), up_ne (by decide)]
  have m25 : M 101 25 = J 101 25 := by rw [← hM, up_ne (by decide), up_ne (by decide)]
  rw [m18, z_byteAt hTM hbn]
  simp only [g_bind]
  by_cases c0 : b < n
  · rw [if_pos c0]
    obtain ⟨k, hk, ek⟩ := z_byK hT c0
    obtain ⟨a1, a2, a3, a4, a5, -⟩ := z_byA k hk
    rw [← ek] at a2 a3 a4 a5
    have hnn : z_nn tp n b = x_nx tp n b := if_neg (by omega)
    have hxb := x_nx_b tp c0
    rw [if_neg a5, a2]
    by_cases c1 : x_le (tp b) = true
    · have htk : x_tk tp n b = 1 := by unfold x_tk; rw [if_neg (by omega), if_pos c1]
      have hnx : x_nx tp n b = x_run x_le tp (n - b) b := by unfold x_nx; rw [if_pos c1]
      rw [if_pos c1, z_lets (n - b) fu b M hTM (by omega) (by unfold fu; omega) m18]
      rw [z_gl, z_gl, ← hnx, up_ne (show 18 ≠ 20 by decide), up_eq]
      refine ⟨_, rfl, z_f1_t mf (z_f1_t (z_f1_u (by decide)) (z_f1_t (z_f1_u (by decide)) (z_f1_u (by decide)))), by rw [up_ne (by decide), up_ne (by decide), up_ne (by decide), m24], by rw [up_ne (by decide), up_ne (by decide), up_ne (by decide), m25], ⟨?_, ?_, ?_, ?_, fun q => absurd q (by rw [htk]; decide)⟩, z_tpr_u (z_tpr_u (z_tpr_u hTM (by decide)) (by decide)) (by decide)⟩
      · rw [up_ne (by decide), up_ne (by decide), up_ne (by decide), m22]
      · rw [up_ne (by decide), up_eq, htk]; rfl
      · rw [up_ne (by decide), up_ne (by decide), up_eq, hnn]
      · rw [up_eq, hnn]
    · rw [if_neg c1, a3]
      by_cases c2 : x_di (tp b) = true
      · have htk : x_tk tp n b = 2 := by unfold x_tk; rw [if_neg (by omega), if_neg c1, if_pos c2]
        have hnx : x_nx tp n b = x_run x_di tp (n - b) b := by unfold x_nx; rw [if_neg c1, if_pos c2]
        rw [if_pos c2, z_gl, z_digs (n - b) fu b (am_up M 101 21 0) 0 (z_tpr_u hTM (by decide)) (by omega) (by unfold fu; omega) (by rw [up_ne (by decide), m18]) up_eq]
        rw [z_gl, z_gl, ← hnx, z_upup, up_ne (show 18 ≠ 20 by decide), up_eq]
        refine ⟨_, rfl, z_f1_t mf (z_f1_t (z_f1_u (by decide)) (z_f1_t (z_f1_u (by decide)) (z_f1_t (z_f1_u (by decide)) (z_f1_u (by decide))))), by rw [up_ne (by decide), up_ne (by decide), up_ne (by decide), up_ne (by decide), m24], by rw [up_ne (by decide), up_ne (by decide), up_ne (by decide), up_ne (by decide), m25], ⟨?_, ?_, ?_, ?_, fun _ q => ?_⟩, z_tpr_u (z_tpr_u (z_tpr_u (z_tpr_u hTM (by decide)) (by decide)) (by decide)) (by decide)⟩
        · rw [up_ne (by decide), up_ne (by decide), up_ne (by decide), up_ne (by decide), m22]
        · rw [up_ne (by decide), up_eq, htk]; rfl
        · rw [up_ne (by decide), up_ne (by decide), up_eq, hnn]
        · rw [up_eq, hnn]
        · have hd := z_dvE (tp := tp) (n - b) b 0 0 hB (by omega) (by rw [← hnx]; omega) (by decide)
          obtain ⟨d1, x, d2, d3⟩ := hd
          rw [← hnx] at d1 d2
          have hxn : x_nu tp n b = z_dv tp (nI 0) (n - b) b := by
            unfold x_nu f_nb
            rw [if_neg (by omega), d1]
            rfl
          rw [hxn]
          refine ⟨by rw [up_ne (by decide), up_ne (by decide), up_ne (by decide), up_eq]; rfl, x, ?_, d3⟩
          have h4 : 10 ^ (0 + (x_nx tp n b - b)) ≤ 10 ^ 4 := Nat.pow_le_pow_right (by decide) (by omega)
          omega
      · rw [if_neg c2, z_gl, nI_1, a4]
        have hnx : x_nx tp n b = b + 1 := by unfold x_nx; rw [if_neg c1, if_neg c2]
        by_cases c3 : x_mk (tp b) = true
        · have htk : x_tk tp n b = 3 := by unfold x_tk; rw [if_neg (by omega), if_neg c1, if_neg c2, if_pos c3]
          rw [if_pos c3, z_gl, z_gl, up_ne (show 18 ≠ 20 by decide), up_eq]
          refine ⟨_, rfl, z_f1_t mf (z_f1_t (z_f1_u (by decide)) (z_f1_t (z_f1_u (by decide)) (z_f1_u (by decide)))), by rw [up_ne (by decide), up_ne (by decide), up_ne (by decide), m24], by rw [up_ne (by decide), up_ne (by decide), up_ne (by decide), m25], ⟨?_, ?_, ?_, ?_, fun q => absurd q (by rw [htk]; decide)⟩, z_tpr_u (z_tpr_u (z_tpr_u hTM (by decide)) (by decide)) (by decide)⟩
          · rw [up_ne (by decide), up_ne (by decide), up_ne (by decide), m22]
          · rw [up_ne (by decide), up_eq, htk]; rfl
          · rw [up_ne (by decide), up_ne (by decide), up_eq, hnn, hnx]
          · rw [up_eq, hnn, hnx]
        · have htk : x_tk tp n b = 4 := by unfold x_tk; rw [if_neg (by omega), if_neg c1, if_neg c2, if_neg c3]
          rw [if_neg c3, z_gl, z_gl, up_ne (show 18 ≠ 20 by decide), up_eq]
          refine ⟨_, rfl, z_f1_t mf (z_f1_t (z_f1_u (by decide)) (z_f1_t (z_f1_u (by decide)) (z_f1_u (by decide)))), by rw [up_ne (by decide), up_ne (by decide), up_ne (by decide), m24], by rw [up_ne (by decide), up_ne (by decide), up_ne (by decide), m25], ⟨?_, ?_, ?_, ?_, fun q => absurd q (by rw [htk]; decide)⟩, z_tpr_u (z_tpr_u (z_tpr_u hTM (by decide)) (by decide)) (by decide)⟩
          · rw [up_ne (by decide), up_ne (by decide), up_ne (by decide), m22]
          · rw [up_ne (by decide), up_eq, htk]; rfl
          · rw [up_ne (by decide), up_ne (by decide), up_eq, hnn, hnx]
          · rw [up_eq, hnn, hnx]
  · rw [if_neg c0, if_pos rfl, z_gl, z_gl, up_ne (show 18 ≠ 20 by decide), m18]
    have htk : x_tk tp n b = 0 := by unfold x_tk; rw [if_pos (by omega)]
    have hnn : z_nn tp n b = b := by unfold z_nn; rw [if_pos (by omega)]; omega
    refine ⟨_, rfl, z_f1_t mf (z_f1_t (z_f1_u (by decide)) (z_f1_u (by decide))), by rw [up_ne (by decide), up_ne (by decide), m24], by rw [up_ne (by decide), up_ne (by decide), m25], ⟨?_, ?_, ?_, ?_, fun q => absurd q (by rw [htk]; decide)⟩, z_tpr_u (z_tpr_u hTM (by decide)) (by decide)⟩
    · rw [up_ne (by decide), up_ne (by decide), m22]
    · rw [up_ne (by decide), up_eq, htk]; rfl
    · rw [up_ne (by decide), up_ne (by decide), m18, hnn]
    · rw [up_eq, hnn]
end ZTOK
