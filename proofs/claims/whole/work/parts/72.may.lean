/-! PURE: EATERS, WHO MAY CUT, AS THE REFERENCE RECKONS -/
theorem z_gd {l : List Int32} {i : Nat} (h : i < l.length) : l.getD i 0 = l[i] := by simp [List.getD, h]
theorem z_six (l i : Nat) : (6 : Int32) * nI l + nI i = nI (6 * l + i) := by
  show nI 6 * nI l + nI i = _
  rw [pk_mul, nI_add]
theorem z_em {T : x_T} {es : List Int32} (h : z_We T es) {e : Int32} (he : e ∈ es) : ∃ p, p < T.1.length ∧ e = nI p := by
  obtain ⟨i, hi, rfl⟩ := List.getElem_of_mem he
  obtain ⟨p, hp, e⟩ := h.2.2.1 i hi
  exact ⟨p, hp, by rw [← z_gd hi]; exact e⟩
theorem z_xbf {es : List Int32} (h : ∀ e ∈ es, ∃ j, j < 32 ∧ e = nI j) {i : Nat} (hi : i < 32) : ∀ a : Int32, bt (es.foldl (fun b e => b ||| ((1 : Int32) <<< (e &&& 31))) a) i = true ↔ bt a i = true ∨ nI i ∈ es := by
  induction es with
  | nil => intro a; exact ⟨Or.inl, fun h => h.elim id (fun h => absurd h List.not_mem_nil)⟩
  | cons e es ih =>
    intro a
    rw [List.foldl_cons, ih (fun e he => h e (List.mem_cons_of_mem _ he))]
    obtain ⟨j, hj, rfl⟩ := h e List.mem_cons_self
    rw [b_or, z_one hj hi, Bool.or_eq_true, decide_eq_true_iff, List.mem_cons, nI_eq (by omega) (by omega)]
    constructor
    · rintro ((h | h) | h)
      · exact Or.inl h
      · exact Or.inr (Or.inl h)
      · exact Or.inr (Or.inr h)
    · rintro (h | h | h)
      · exact Or.inl (Or.inl h)
      · exact Or.inl (Or.inr h)
      · exact Or.inr h
theorem z_xb {es : List Int32} (h : ∀ e ∈ es, ∃ j, j < 32 ∧ e = nI j) {i : Nat} (hi : i < 32) : bt (x_bits es) i = true ↔ nI i ∈ es := by
  unfold x_bits
  rw [z_xbf h hi, b_0]
  exact ⟨fun h => h.elim (fun h => absurd h (by decide)) id, Or.inr⟩
theorem z_eoL {I : g_I} {T : x_T} (hW : z_Wl T) (hR : z_Rl I T) {l : Nat} (hl : l < T.2.1.length) {K : Int32 → Option Int32} : ∀ (r f i : Nat) (a : Int32), i + r = (z_es T l).length → r < f → b_X11_eatersOf_L4 I (nI l) K f a (nI i) = K (((z_es T l).drop i).foldl (fun b e => b ||| ((1 : Int32) <<< (e &&& 31))) a) := by
  have h6 := hW.1
  have hE := (hW.2 l hl).2.2.2.2
  have hr := (hR.2 l hl).2.2.2.2
  intro r
  induction r with
  | zero =>
    intro f i a hi hf
    match f, hf with
    | f + 1, _ =>
      unfold b_X11_eatersOf_L4
      rw [if_pos (g_in_nI (by omega) (by decide)), nI_clamp (by omega), hr.1, if_pos (nI_le (by omega) (by have := hE.2.1; omega)), show i = (z_es T l).length by omega, List.drop_length]
      rfl
  | succ r ih =>
    intro f i a hi hf
    have h1 := hE.2.1
    have hlt : i < (z_es T l).length := by omega
    match f, hf with
    | f + 1, hf =>
      unfold b_X11_eatersOf_L4
      rw [if_pos (g_in_nI (by omega) (by decide)), nI_clamp (by omega), hr.1, if_neg (nI_ge hlt (by omega)), z_six, if_pos (g_in_nI (by omega) (by decide)), nI_clamp (by omega), hr.2 i hlt, nI_1]
      show b_X11_eatersOf_L4 I (nI l) K f _ _ = _
      rw [ih f (i + 1) _ (by omega) (by omega), List.drop_eq_getElem_cons hlt, List.foldl_cons, z_gd hlt]
theorem z_eatersOf {I : g_I} {T : x_T} (hW : z_Wl T) (hR : z_Rl I T) {l : Nat} (hl : l < T.2.1.length) : b_X11_eatersOf I (nI l) = some (x_bits (z_es T l)) := by
  have h := z_eoL hW hR hl (K := fun a2 => some a2) (z_es T l).length fu 0 0 (by omega) (by have := (hW.2 l hl).2.2.2.2.2.1; unfold fu; omega)
  exact h
/-- he eats of it, or his twin does -/
def z_ea (T : x_T) (p l : Nat) : Bool := decide (nI p ∈ z_es T l ∨ z_tw T p ∈ z_es T l)
theorem z_eats {I : g_I} {T : x_T} (hWp : z_Wp T) (hRp : z_Rp I T) (hW : z_Wl T) (hR : z_Rl I T) {p l : Nat} (hp : p < T.1.length) (hl : l < T.2.1.length) : b_X11_eats I (nI p) (nI l) = some (z_ea T p l) := by
  have h8 := hWp.1
  have hE := (hW.2 l hl).2.2.2.2
  have hb : ∀ e ∈ z_es T l, ∃ j, j < 32 ∧ e = nI j := fun e he => by obtain ⟨q, hq, h⟩ := z_em hE he; exact ⟨q, by omega, h⟩
  unfold b_X11_eats z_ea
  simp only [g_bind, z_eatersOf hW hR hl, z_twin hWp hRp hp]
  rw [z_isOf (by omega)]
  by_cases e1 : nI p ∈ z_es T l
  · rw [if_pos ((z_xb hb (by omega)).mpr e1), decide_eq_true (Or.inl e1)]
  · rw [if_neg (fun h => e1 ((z_xb hb (by omega)).mp h))]
    rcases z_twv hWp hp with h | ⟨q, hq, -, h, -⟩
    · rw [if_pos h, decide_eq_false]
      rintro (h1 | h1)
      · exact e1 h1
      · rw [h] at h1
        obtain ⟨q, hq, e⟩ := z_em hE h1
        exact z_nm1 (by omega) e.symm
    · rw [h, if_neg (z_nm1 (by omega)), z_isOf (by omega)]
      by_cases e2 : nI q ∈ z_es T l
      · rw [if_pos ((z_xb hb (by omega)).mpr e2), decide_eq_true (Or.inr e2)]
      · rw [if_neg (fun h => e2 ((z_xb hb (by omega)).mp h)), decide_eq_false (fun h => h.elim e1 e2)]
/-- he knows an eater -/
def z_ke (T : x_T) (M : Nat → Int32) (dy : Int32) (p : Nat) (es : List Int32) : Bool := es.any fun e => !decide (e = nI p) && z_kn T M dy p e.toNatClampNeg
theorem z_keL {I : g_I} {T : x_T} (hWp : z_Wp T) (hRp : z_Rp I T) (hF : I 104 3 = T.2.2.2.1.1) (hW : z_Wl T) (hR : z_Rl I T) {p l : Nat} (hp : p < T.1.length) (hl : l < T.2.1.length) {K : Unit → Option Bool} : ∀ (r f i : Nat), i + r = (z_es T l).length → r < f → b_X11_knowsEater_L2 I (nI p) (nI l) K f (nI i) = if z_ke T (I 114) (I 101 30) p ((z_es T l).drop i) = true then some true else K () := by
  have h8 := hWp.1
  have h6 := hW.1
  have hE := (hW.2 l hl).2.2.2.2
  have hr := (hR.2 l hl).2.2.2.2
  intro r
  induction r with
  | zero =>
    intro f i hi hf
    match f, hf with
    | f + 1, _ =>
      unfold b_X11_knowsEater_L2
      rw [if_pos (g_in_nI (by omega) (by decide)), nI_clamp (by omega), hr.1, if_pos (nI_le (by omega) (by have := hE.2.1; omega)), show i = (z_es T l).length by omega, List.drop_length]
      rfl
  | succ r ih =>
    intro f i hi hf
    have h1 := hE.2.1
    have hlt : i < (z_es T l).length := by omega
    obtain ⟨q, hq, he⟩ := hE.2.2.1 i hlt
    match f, hf with
    | f + 1, hf =>
      unfold b_X11_knowsEater_L2
      rw [if_pos (g_in_nI (by omega) (by decide)), nI_clamp (by omega), hr.1, if_neg (nI_ge hlt (by omega)), z_six, if_pos (g_in_nI (by omega) (by decide)), nI_clamp (by omega), hr.2 i hlt, nI_1]
      simp only [g_let]
      have e9 : z_ke T (I 114) (I 101 30) p ((z_es T l).drop i) = ((!decide (nI q = nI p) && z_kn T (I 114) (I 101 30) p q) || z_ke T (I 114) (I 101 30) p ((z_es T l).drop (i + 1))) := by
        unfold z_ke
        rw [List.drop_eq_getElem_cons hlt, List.any_cons, ← z_gd hlt, he, nI_clamp (by omega)]
      rw [e9, he]
      by_cases e1 : nI q = nI p
      · rw [if_pos e1, ih f (i + 1) (by omega) (by omega), decide_eq_true e1]
        rfl
      · rw [if_neg e1, decide_eq_false e1]
        simp only [g_bind, z_isKnown hWp hRp hF hp hq]
        by_cases e2 : z_kn T (I 114) (I 101 30) p q = true
        · rw [if_pos e2, e2]; rfl
        · rw [if_neg e2, ih f (i + 1) (by omega) (by omega)]
          cases e3 : z_kn T (I 114) (I 101 30) p q
          · rfl
          · exact absurd e3 e2
theorem z_knowsEater {I : g_I} {T : x_T} (hWp : z_Wp T) (hRp : z_Rp I T) (hF : I 104 3 = T.2.2.2.1.1) (hW : z_Wl T) (hR : z_Rl I T) {p l : Nat} (hp : p < T.1.length) (hl : l < T.2.1.length) : b_X11_knowsEater I (nI p) (nI l) = some (z_ke T (I 114) (I 101 30) p (z_es T l)) := by
  have h := z_keL hWp hRp hF hW hR hp hl (K := fun _ => some false) (z_es T l).length fu 0 (by omega) (by have := (hW.2 l hl).2.2.2.2.2.1; unfold fu; omega)
  unfold b_X11_knowsEater
  rw [show (0 : Int32) = nI 0 from rfl, h]
  show (if z_ke T (I 114) (I 101 30) p (z_es T l) = true then some true else some false) = _
  cases z_ke T (I 114) (I 101 30) p (z_es T l) <;> rfl
/-- an eater lives in his house -/
def z_eh (T : x_T) (p : Nat) (es : List Int32) : Bool := es.any fun e => decide ((z_pp T e.toNatClampNeg).2.1 = (z_pp T p).2.1)
theorem z_mayL {I : g_I} {T : x_T} (hWp : z_Wp T) (hRp : z_Rp I T) (hW : z_Wl T) (hR : z_Rl I T) {p l : Nat} (hp : p < T.1.length) (hl : l < T.2.1.length) {K : Unit → Option Int32} : ∀ (r f i : Nat), i + r = (z_es T l).length → r < f → b_X11_mayNow_L13 I (nI p) (nI l) K f (nI i) = if z_eh T p ((z_es T l).drop i) = true then some 2 else K () := by
  have h8 := hWp.1
  have h6 := hW.1
  have hE := (hW.2 l hl).2.2.2.2
  have hr := (hR.2 l hl).2.2.2.2
  intro r
  induction r with
  | zero =>
    intro f i hi hf
    match f, hf with
    | f + 1, _ =>
      unfold b_X11_mayNow_L13
      rw [if_pos (g_in_nI (by omega) (by decide)), nI_clamp (by omega), hr.1, if_pos (nI_le (by omega) (by have := hE.2.1; omega)), show i = (z_es T l).length by omega, List.drop_length]
      rfl
  | succ r ih =>
    intro f i hi hf
    have h1 := hE.2.1
    have hlt : i < (z_es T l).length := by omega
    obtain ⟨q, hq, he⟩ := hE.2.2.1 i hlt
    match f, hf with
    | f + 1, hf =>
      unfold b_X11_mayNow_L13
      rw [if_pos (g_in_nI (by omega) (by decide)), nI_clamp (by omega), hr.1, if_neg (nI_ge hlt (by omega)), z_six, if_pos (g_in_nI (by omega) (by decide)), nI_clamp (by omega), hr.2 i hlt, nI_1, he, if_pos (g_in_nI (by omega) (by decide)), if_pos (g_in_nI (by omega) (by decide)), nI_clamp (by omega), nI_clamp (by omega), (hRp.2 q hq).2.1, (hRp.2 p hp).2.1]
      have e9 : z_eh T p ((z_es T l).drop i) = (decide ((z_pp T q).2.1 = (z_pp T p).2.1) || z_eh T p ((z_es T l).drop (i + 1))) := by
        unfold z_eh
        rw [List.drop_eq_getElem_cons hlt, List.any_cons, ← z_gd hlt, he, nI_clamp (by omega)]
      rw [e9]
      by_cases e1 : (z_pp T q).2.1 = (z_pp T p).2.1
      · rw [if_pos e1, decide_eq_true e1]; rfl
      · rw [if_neg e1, ih f (i + 1) (by omega) (by omega), decide_eq_false e1]; rfl
/-- what keeps him from cutting: behind 1, 2, 3 -/
def z_mb (T : x_T) (dy hr ct : Int32) (l : Nat) : Int32 := if dy = 0 ∧ ¬ (z_ll T l).1.2.2.1 ≤ hr then 4 else if 0 < dy ∨ ¬ hr ≤ (z_ll T l).1.2.2.1 + (z_ll T l).1.2.2.2 then 5 else if ct = -1 then 0 else 6
def z_may (T : x_T) (M : Nat → Int32) (dy hr ct : Int32) (p l : Nat) : Int32 := if z_ea T p l = true then 1 else if z_eh T p (z_es T l) = true then 2 else if z_ke T M dy p (z_es T l) = true then 3 else z_mb T dy hr ct l
theorem z_mayNow {I : g_I} {T : x_T} (hWp : z_Wp T) (hW : z_Wl T) (hR : z_R I T) {p l : Nat} (hp : p < T.1.length) (hl : l < T.2.1.length) : b_X11_mayNow I (nI p) (nI l) = some (z_may T (I 114) (I 101 30) (I 101 31) (I 118 l) p l) := by
  obtain ⟨hRp, hRl, hF, -, -⟩ := hR
  have h6 := hW.1
  have hr := hRl.2 l hl
  unfold b_X11_mayNow z_may
  simp only [g_let, g_bind, z_eats hWp hRp hW hRl hp hl]
  by_cases e1 : z_ea T p l = true
  · rw [if_pos e1, if_pos e1]
  · rw [if_neg e1, if_neg e1, show (0 : Int32) = nI 0 from rfl, z_mayL hWp hRp hW hRl hp hl (z_es T l).length fu 0 (by omega) (by have := (hW.2 l hl).2.2.2.2.2.1; unfold fu; omega)]
    show (if z_eh T p (z_es T l) = true then some 2 else _) = _
    by_cases e2 : z_eh T p (z_es T l) = true
    · rw [if_pos e2, if_pos e2]
    · rw [if_neg e2, if_neg e2]
      simp only [z_knowsEater hWp hRp hF hW hRl hp hl]
      by_cases e3 : z_ke T (I 114) (I 101 30) p (z_es T l) = true
      · rw [if_pos e3, if_pos e3]
      · rw [if_neg e3, if_neg e3]
        unfold z_mb
        simp only [g_in_nI (show l < 12 by omega) (by decide), g_in_nI (show l < 6 by omega) (by decide), nI_clamp (show l < 2 ^ 31 by omega), hr.2.2.1, hr.2.2.2.1, if_true]
        rw [nI_0]
        have key : ∀ (A B C D E : Prop) [Decidable A] [Decidable B] [Decidable C] [Decidable D] [Decidable E], (if A then (if B then (if C then some (5 : Int32) else if D then (if E then some 0 else some 6) else some 5) else some 4) else (if C then some 5 else if D then (if E then some 0 else some 6) else some 5)) = some (if A ∧ ¬ B then 4 else if C ∨ ¬ D then 5 else if E then 0 else 6) := by
          intro A B C D E _ _ _ _ _
          by_cases a : A <;> by_cases b : B <;> by_cases c : C <;> by_cases d : D <;> by_cases e : E <;> simp [a, b, c, d, e]
        exact key _ _ _ _ _
/-- he can cut it: he knows no eater (himself he knows) -/
def z_can (T : x_T) (M : Nat → Int32) (dy : Int32) (p l : Nat) : Bool := !(z_es T l).any fun e => z_kn T M dy p e.toNatClampNeg
theorem z_kn_self (T : x_T) (M : Nat → Int32) (dy : Int32) (p : Nat) : z_kn T M dy p p = true := decide_eq_true (Or.inl rfl)
theorem z_mb_v (T : x_T) (dy hr ct : Int32) (l : Nat) : z_mb T dy hr ct l = 0 ∨ ¬ z_mb T dy hr ct l ≤ 3 := by
  unfold z_mb
  split
  · exact Or.inr (by decide)
  · split
    · exact Or.inr (by decide)
    · split
      · exact Or.inl rfl
      · exact Or.inr (by decide)
theorem z_can_iff {T : x_T} (hWp : z_Wp T) (hW : z_Wl T) {M : Nat → Int32} {dy : Int32} {p l : Nat} (hp : p < T.1.length) (hl : l < T.2.1.length) : z_can T M dy p l = true ↔ z_ea T p l = false ∧ z_eh T p (z_es T l) = false ∧ z_ke T M dy p (z_es T l) = false := by
  have h8 := hWp.1
  have hE := (hW.2 l hl).2.2.2.2
  unfold z_can
  rw [Bool.not_eq_true']
  constructor
  · intro h
    have h0 : ∀ q, q < T.1.length → nI q ∈ z_es T l → z_kn T M dy p q = false := fun q hq he => by
      have := List.any_eq_false.mp h _ he
      rw [nI_clamp (by omega)] at this
      cases e : z_kn T M dy p q
      · rfl
      · exact absurd e this
    refine ⟨decide_eq_false ?_, List.any_eq_false.mpr fun e he => ?_, List.any_eq_false.mpr fun e he => ?_⟩
    · rintro (h1 | h1)
      · exact absurd ((z_kn_self T M dy p).symm.trans (h0 p hp h1)) (by decide)
      · obtain ⟨q, hq, e⟩ := z_em hE h1
        rw [e] at h1
        exact absurd ((show z_kn T M dy p q = true from decide_eq_true (Or.inr (Or.inr (Or.inl e)))).symm.trans (h0 q hq h1)) (by decide)
    · obtain ⟨q, hq, rfl⟩ := z_em hE he
      rw [nI_clamp (by omega), decide_eq_true_iff]
      intro h1
      exact absurd ((show z_kn T M dy p q = true from decide_eq_true (Or.inr (Or.inl h1.symm))).symm.trans (h0 q hq he)) (by decide)
    · obtain ⟨q, hq, rfl⟩ := z_em hE he
      rw [nI_clamp (by omega), h0 q hq he, Bool.and_false]
      decide
  · rintro ⟨h1, h2, h3⟩
    refine List.any_eq_false.mpr fun e he h4 => ?_
    obtain ⟨q, hq, rfl⟩ := z_em hE he
    rw [nI_clamp (by omega)] at h4
    by_cases e1 : q = p
    · subst e1; exact of_decide_eq_false h1 (Or.inl he)
    · have h5 := List.any_eq_false.mp h3 _ he
      rw [nI_clamp (by omega), h4, decide_eq_false (fun h => e1 ((nI_eq (by omega) (by omega)).mp h))] at h5
      exact h5 rfl
theorem z_canCut {I : g_I} {T : x_T} (hWp : z_Wp T) (hW : z_Wl T) (hR : z_R I T) {p l : Nat} (hp : p < T.1.length) (hl : l < T.2.1.length) : b_X11_canCut I (nI p) (nI l) = some (z_can T (I 114) (I 101 30) p l) := by
  have hi := z_can_iff hWp hW (M := I 114) (dy := I 101 30) hp hl
  unfold b_X11_canCut
  simp only [g_bind, z_mayNow hWp hW hR hp hl]
  unfold z_may
  by_cases e1 : z_ea T p l = true
  · have e9 : z_can T (I 114) (I 101 30) p l = false := by cases e : z_can T (I 114) (I 101 30) p l; rfl; exact absurd ((hi.mp e).1.symm.trans e1) (by decide)
    rw [if_pos e1, e9]; rfl
  · rw [if_neg e1]
    by_cases e2 : z_eh T p (z_es T l) = true
    · have e9 : z_can T (I 114) (I 101 30) p l = false := by cases e : z_can T (I 114) (I 101 30) p l; rfl; exact absurd ((hi.mp e).2.1.symm.trans e2) (by decide)
      rw [if_pos e2, e9]; rfl
    · rw [if_neg e2]
      by_cases e3 : z_ke T (I 114) (I 101 30) p (z_es T l) = true
      · have e9 : z_can T (I 114) (I 101 30) p l = false := by cases e : z_can T (I 114) (I 101 30) p l; rfl; exact absurd ((hi.mp e).2.2.symm.trans e3) (by decide)
        rw [if_pos e3, e9]; rfl
      · have e9 : z_can T (I 114) (I 101 30) p l = true := hi.mpr ⟨by cases e : z_ea T p l; rfl; exact absurd e e1, by cases e : z_eh T p (z_es T l); rfl; exact absurd e e2, by cases e : z_ke T (I 114) (I 101 30) p (z_es T l); rfl; exact absurd e e3⟩
        rw [if_neg e3, e9]
        rcases z_mb_v T (I 101 30) (I 101 31) (I 118 l) l with h | h
        · rw [if_pos h]
        · by_cases h0 : z_mb T (I 101 30) (I 101 31) (I 118 l) l = 0
          · rw [if_pos h0]
          · rw [if_neg h0, if_neg h]
