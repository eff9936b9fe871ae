/-! PURE: LOOPS OF THE REFERENCE; MEETINGS, ROWS THAT ARE KEPT -/
/-- a loop that counts -/
theorem z_lp {α σ : Type} {F : Nat → σ → Option α} {K : σ → Option α} {N : Nat} (P : Nat → σ → Prop) (h1 : ∀ f s, P N s → F (f + 1) s = K s) (h2 : ∀ f i s, i < N → P i s → ∃ s', F (f + 1) s = F f s' ∧ P (i + 1) s') : ∀ (r f i : Nat) (s : σ), i + r = N → r < f → P i s → ∃ s', F f s = K s' ∧ P N s' := by
  intro r
  induction r with
  | zero =>
    intro f i s hi hf hP
    match f, hf with
    | f + 1, _ =>
      have e : i = N := by omega
      subst e
      exact ⟨s, h1 f s hP, hP⟩
  | succ r ih =>
    intro f i s hi hf hP
    match f, hf with
    | f + 1, hf =>
      obtain ⟨s', e, hP'⟩ := h2 f i s (by omega) hP
      obtain ⟨s2, e2, hP2⟩ := ih f (i + 1) s' (by omega) (by omega) hP'
      exact ⟨s2, e.trans e2, hP2⟩
/-- a loop that counts, and may end before -/
theorem z_lpx {α σ : Type} {F : Nat → σ → Option α} {K : σ → Option α} {N : Nat} (P : Nat → σ → Prop) (Q : Option α → Prop) (h1 : ∀ f s, P N s → F (f + 1) s = K s) (h2 : ∀ f i s, i < N → P i s → (∃ s', F (f + 1) s = F f s' ∧ P (i + 1) s') ∨ Q (F (f + 1) s)) : ∀ (r f i : Nat) (s : σ), i + r = N → r < f → P i s → (∃ s', F f s = K s' ∧ P N s') ∨ Q (F f s) := by
  intro r
  induction r with
  | zero =>
    intro f i s hi hf hP
    match f, hf with
    | f + 1, _ =>
      have e : i = N := by omega
      subst e
      exact Or.inl ⟨s, h1 f s hP, hP⟩
  | succ r ih =>
    intro f i s hi hf hP
    match f, hf with
    | f + 1, hf =>
      rcases h2 f i s (by omega) hP with ⟨s', e, hP'⟩ | h
      · rw [e]; exact ih f (i + 1) s' (by omega) (by omega) hP'
      · exact Or.inr h
theorem z_rmeet {I : g_I} {a b : Nat} (ha : a < 8) (hb : b < 8) (d : Int32) : b_X11_meet I (nI a) (nI b) d = some (am_up (am_up I 114 (8 * a + b) d) 114 (8 * b + a) d) := by
  unfold b_X11_meet
  simp only [g_let, z_cpl]
  rw [if_pos (g_in_nI (by omega) (by decide)), if_pos (g_in_nI (by omega) (by decide)), nI_clamp (by omega), nI_clamp (by omega)]
theorem z_up2 {I : g_I} {a b x y : Nat} {d : Int32} (ha : a < 8) (hb : b < 8) (hx : x < 8) (hy : y < 8) : am_up (am_up I 114 (8 * a + b) d) 114 (8 * b + a) d 114 (8 * x + y) = if (x = a ∧ y = b) ∨ (x = b ∧ y = a) then d else I 114 (8 * x + y) := by
  rw [am_up_s, am_up_s]
  by_cases h1 : x = b ∧ y = a
  · rw [if_pos (Or.inr h1), h1.1, h1.2, pk_us]
  · rw [upd_o (fun e => h1 ⟨by omega, by omega⟩)]
    by_cases h2 : x = a ∧ y = b
    · rw [if_pos (Or.inl h2), h2.1, h2.2, pk_us]
    · rw [upd_o (fun e => h2 ⟨by omega, by omega⟩), if_neg (fun h => h.elim h2 h1)]
def z_fr (n : Nat) (S : Int32) (a j x y : Nat) : Prop := x < n ∧ y < n ∧ bt S x = true ∧ bt S y = true ∧ ((x < y ∧ (x < a ∨ (x = a ∧ y < j))) ∨ (y < x ∧ (y < a ∨ (y = a ∧ x < j))))
def z_fP (I : g_I) (n : Nat) (S : Int32) (a j : Nat) (J : g_I) : Prop := (∀ c, c ≠ 114 → J c = I c) ∧ ∀ x y, x < 8 → y < 8 → (z_fr n S a j x y → J 114 (8 * x + y) = I 101 30) ∧ (¬ z_fr n S a j x y → J 114 (8 * x + y) = I 114 (8 * x + y))
theorem z_fP_c {I J : g_I} {n : Nat} {S : Int32} {a j a' j' : Nat} (h : z_fP I n S a j J) (hc : ∀ x y, x < 8 → y < 8 → (z_fr n S a j x y ↔ z_fr n S a' j' x y)) : z_fP I n S a' j' J := ⟨h.1, fun x y hx hy => ⟨fun q => (h.2 x y hx hy).1 ((hc x y hx hy).mpr q), fun q => (h.2 x y hx hy).2 (fun q' => q ((hc x y hx hy).mp q'))⟩⟩
theorem z_fP_m {I J : g_I} {n : Nat} {S : Int32} {a j : Nat} (hn : n ≤ 8) (haj : a < j) (hj : j < n) (h : z_fP I n S a j J) (h1 : bt S a = true) (h2 : bt S j = true) : z_fP I n S a (j + 1) (am_up (am_up J 114 (8 * a + j) (I 101 30)) 114 (8 * j + a) (I 101 30)) := by
  refine ⟨fun c hc => by rw [am_up_o _ _ _ _ hc, am_up_o _ _ _ _ hc]; exact h.1 c hc, fun x y hx hy => ?_⟩
  rw [z_up2 (by omega) (by omega) hx hy]
  by_cases e : (x = a ∧ y = j) ∨ (x = j ∧ y = a)
  · rw [if_pos e]
    refine ⟨fun _ => rfl, fun q => absurd ?_ q⟩
    rcases e with ⟨rfl, rfl⟩ | ⟨rfl, rfl⟩
    · exact ⟨by omega, hj, h1, h2, Or.inl ⟨haj, Or.inr ⟨rfl, by omega⟩⟩⟩
    · exact ⟨hj, by omega, h2, h1, Or.inr ⟨haj, Or.inr ⟨rfl, by omega⟩⟩⟩
  · rw [if_neg e]
    have hc : z_fr n S a j x y ↔ z_fr n S a (j + 1) x y := by
      unfold z_fr
      constructor
      · rintro ⟨q1, q2, q3, q4, q5⟩; exact ⟨q1, q2, q3, q4, by omega⟩
      · rintro ⟨q1, q2, q3, q4, q5⟩; exact ⟨q1, q2, q3, q4, by omega⟩
    exact ⟨fun q => (h.2 x y hx hy).1 (hc.mpr q), fun q => (h.2 x y hx hy).2 (fun q' => q (hc.mp q'))⟩
theorem z_fP_n {I J : g_I} {n : Nat} {S : Int32} {a j : Nat} (h : z_fP I n S a j J) (h1 : ¬ (bt S a = true ∧ bt S j = true)) : z_fP I n S a (j + 1) J := z_fP_c h fun x y hx hy => by
  unfold z_fr
  constructor
  · rintro ⟨q1, q2, q3, q4, q5⟩; exact ⟨q1, q2, q3, q4, by omega⟩
  · rintro ⟨q1, q2, q3, q4, q5⟩
    refine ⟨q1, q2, q3, q4, ?_⟩
    by_cases e : (x = a ∧ y = j) ∨ (x = j ∧ y = a)
    · rcases e with ⟨rfl, rfl⟩ | ⟨rfl, rfl⟩
      · exact absurd ⟨q3, q4⟩ h1
      · exact absurd ⟨q4, q3⟩ h1
    · omega
theorem z_fairOf {I : g_I} {n : Nat} (hn : I 104 0 = nI n) (hn8 : n ≤ 8) (S : Int32) : ∃ J, b_X11_fairOf I S = some J ∧ z_fP I n S n 0 J := by
  unfold b_X11_fairOf
  have inner : ∀ (K : g_I → Option g_I) (a : Nat) (J : g_I), a < n → z_fP I n S a (a + 1) J → ∃ J', b_X11_fairOf_L16 S (nI a) K fu (nI (a + 1)) J = K J' ∧ z_fP I n S a n J' := by
    intro K a J ha hJ
    have h := z_lp (F := fun f (s : Int32 × g_I) => b_X11_fairOf_L16 S (nI a) K f s.1 s.2) (K := fun s => K s.2) (N := n - (a + 1)) (fun i s => s.1 = nI (a + 1 + i) ∧ z_fP I n S a (a + 1 + i) s.2)
      (fun f s hP => by
        obtain ⟨h1, h2⟩ := hP
        show b_X11_fairOf_L16 S (nI a) K (f + 1) s.1 s.2 = K s.2
        unfold b_X11_fairOf_L16
        rw [h1, h2.1 104 (by decide), hn, if_pos (nI_le (by omega) (by omega))])
      (fun f i s hi hP => by
        obtain ⟨h1, h2⟩ := hP
        have hd : s.2 101 30 = I 101 30 := by rw [h2.1 101 (by decide)]
        have hst : b_X11_fairOf_L16 S (nI a) K (f + 1) s.1 s.2 = if bt S a = true ∧ bt S (a + 1 + i) = true then b_X11_fairOf_L16 S (nI a) K f (nI (a + 1 + i + 1)) (am_up (am_up s.2 114 (8 * a + (a + 1 + i)) (I 101 30)) 114 (8 * (a + 1 + i) + a) (I 101 30)) else b_X11_fairOf_L16 S (nI a) K f (nI (a + 1 + i + 1)) s.2 := by
          conv => lhs; unfold b_X11_fairOf_L16
          rw [h1, h2.1 104 (by decide), hn, if_neg (nI_ge (by omega) (by omega)), z_isOf (by omega), z_isOf (by omega), hd, z_rmeet (by omega) (by omega), nI_1]
          simp only [g_bind]
          by_cases q1 : bt S a = true <;> by_cases q2 : bt S (a + 1 + i) = true <;> simp [q1, q2]
        by_cases q : bt S a = true ∧ bt S (a + 1 + i) = true
        · exact ⟨(nI (a + 1 + i + 1), am_up (am_up s.2 114 (8 * a + (a + 1 + i)) (I 101 30)) 114 (8 * (a + 1 + i) + a) (I 101 30)), by show b_X11_fairOf_L16 S (nI a) K (f + 1) s.1 s.2 = _; rw [hst, if_pos q], rfl, z_fP_m (j := a + 1 + i) hn8 (by omega) (by omega) h2 q.1 q.2⟩
        · exact ⟨(nI (a + 1 + i + 1), s.2), by show b_X11_fairOf_L16 S (nI a) K (f + 1) s.1 s.2 = _; rw [hst, if_neg q], rfl, z_fP_n (j := a + 1 + i) h2 q⟩)
      (n - (a + 1)) fu 0 (nI (a + 1), J) (by omega) (by unfold fu; omega) ⟨rfl, hJ⟩
    obtain ⟨s', e, -, h3⟩ := h
    refine ⟨s'.2, e, ?_⟩
    rw [show a + 1 + (n - (a + 1)) = n by omega] at h3
    exact h3
  have h := z_lp (F := fun f (s : Int32 × g_I) => b_X11_fairOf_L2 S (fun (I6 : g_I) => some I6) f s.1 s.2) (K := fun s => some s.2) (N := n) (fun i s => s.1 = nI i ∧ z_fP I n S i 0 s.2)
    (fun f s hP => by
      obtain ⟨h1, h2⟩ := hP
      show b_X11_fairOf_L2 S _ (f + 1) s.1 s.2 = some s.2
      unfold b_X11_fairOf_L2
      rw [h1, h2.1 104 (by decide), hn, if_pos (nI_le (by omega) (by omega))])
    (fun f i s hi hP => by
      obtain ⟨h1, h2⟩ := hP
      have h3 : z_fP I n S i (i + 1) s.2 := z_fP_c h2 fun x y hx hy => by
        unfold z_fr
        constructor
        · rintro ⟨q1, q2, q3, q4, q5⟩; exact ⟨q1, q2, q3, q4, by omega⟩
        · rintro ⟨q1, q2, q3, q4, q5⟩; exact ⟨q1, q2, q3, q4, by omega⟩
      obtain ⟨J', e, h4⟩ := inner (fun (I5 : g_I) => b_X11_fairOf_L2 S (fun (I6 : g_I) => some I6) f (nI i + 1) I5) i s.2 hi h3
      refine ⟨(nI (i + 1), J'), ?_, rfl, z_fP_c h4 fun x y hx hy => ?_⟩
      · show b_X11_fairOf_L2 S _ (f + 1) s.1 s.2 = b_X11_fairOf_L2 S _ f (nI (i + 1)) J'
        conv => lhs; unfold b_X11_fairOf_L2
        rw [h1, h2.1 104 (by decide), hn, if_neg (nI_ge (by omega) (by omega))]
        simp only [g_let]
        rw [nI_1] at e ⊢
        exact e
      · unfold z_fr
        constructor
        · rintro ⟨q1, q2, q3, q4, q5⟩; exact ⟨q1, q2, q3, q4, by omega⟩
        · rintro ⟨q1, q2, q3, q4, q5⟩; exact ⟨q1, q2, q3, q4, by omega⟩)
    n fu 0 (0, I) (by omega) (by unfold fu; omega) ⟨rfl, fun c _ => rfl, fun x y hx hy => ⟨fun q => by obtain ⟨_, _, _, _, q5⟩ := q; omega, fun _ => rfl⟩⟩
  obtain ⟨s', e, -, h3⟩ := h
  exact ⟨s'.2, e, h3⟩
/-- the row that the reference keeps of a day -/
def z_pk (I : g_I) (k : Nat) : Int32 := if k = 0 then I 101 30 else if k = 1 then I 101 31 else if k < 66 then I 114 (k - 2) else if k < 72 then I 118 (k - 66) else I 119 (k - 72)
/-- a loop that writes one row from d on -/
theorem z_cpy {α : Type} {F : Nat → Int32 → g_I → Option α} {K : g_I → Option α} {I J0 : g_I} {c d N : Nat} (v : Nat → Int32) (hN : N < 5000) (h1 : ∀ f J, F (f + 1) (nI N) J = K J) (h2 : ∀ f i J, i < N → (∀ a, a ≠ c → J a = I a) → (∀ j, d + i ≤ j → J c j = J0 c j) → F (f + 1) (nI i) J = F f (nI (i + 1)) (am_up J c (d + i) (v i))) (h0 : ∀ a, a ≠ c → J0 a = I a) : ∃ J, F fu 0 J0 = K J ∧ (∀ a, a ≠ c → J a = I a) ∧ ∀ j, J c j = if d ≤ j ∧ j < d + N then v (j - d) else J0 c j := by
  have h := z_lp (F := fun f (s : Int32 × g_I) => F f s.1 s.2) (K := fun s => K s.2) (N := N) (fun i s => s.1 = nI i ∧ (∀ a, a ≠ c → s.2 a = I a) ∧ ∀ j, s.2 c j = if d ≤ j ∧ j < d + i then v (j - d) else J0 c j)
    (fun f s hP => by
      show F (f + 1) s.1 s.2 = K s.2
      rw [hP.1, h1])
    (fun f i s hi hP => by
      obtain ⟨q1, q2, q3⟩ := hP
      refine ⟨(nI (i + 1), am_up s.2 c (d + i) (v i)), ?_, rfl, fun a ha => ?_, fun j => ?_⟩
      · show F (f + 1) s.1 s.2 = F f (nI (i + 1)) (am_up s.2 c (d + i) (v i))
        rw [q1]
        exact h2 f i s.2 hi q2 (fun j hj => by rw [q3 j, if_neg (by omega)])
      · show am_up s.2 c (d + i) (v i) a = I a
        rw [am_up_o _ _ _ _ ha]; exact q2 a ha
      · show am_up s.2 c (d + i) (v i) c j = _
        rw [am_up_s]
        by_cases e : j = d + i
        · subst e; rw [pk_us, if_pos (by omega), show d + i - d = i by omega]
        · rw [upd_o e, q3 j]
          by_cases e2 : d ≤ j ∧ j < d + i
          · rw [if_pos e2, if_pos (by omega)]
          · rw [if_neg e2, if_neg (by omega)])
    N fu 0 (0, J0) (by omega) (by unfold fu; omega) ⟨rfl, h0, fun j => by rw [if_neg (by omega)]⟩
  obtain ⟨s', e, -, q2, q3⟩ := h
  exact ⟨s'.2, e, q2, q3⟩
theorem z_pack {I : g_I} {c n o : Nat} (hc : c ≠ 101 ∧ c ≠ 114 ∧ c ≠ 118 ∧ c ≠ 119) (ho : o + 80 ≤ n) (hn : n < 2 ^ 30) : ∃ J, b_X11_pack I c n (nI o) = some J ∧ (∀ a, a ≠ c → J a = I a) ∧ ∀ j, J c j = if o ≤ j ∧ j < o + 80 then z_pk I (j - o) else I c j := by
  unfold b_X11_pack
  simp only [g_let]
  rw [if_pos (g_in_nI (by omega) (by omega)), nI_1, if_pos (g_in_nI (by omega) (by omega)), nI_clamp (by omega), nI_clamp (by omega), show nI o + 2 = nI (o + 2) from nI_add o 2, show nI (o + 2) + 64 = nI (o + 66) from nI_add (o + 2) 64, am_up_o _ _ _ _ (Ne.symm hc.1)]
  have i0 := fun K : g_I → Option g_I => z_cpy (F := b_X11_pack_L23 c n (nI (o + 2)) K) (K := K) (I := I) (J0 := am_up (am_up I c o (I 101 30)) c (o + 1) (I 101 31)) (c := c) (d := o + 2) (N := 64) (I 114) (by decide)
    (fun f J => by unfold b_X11_pack_L23; rw [if_pos (show (64 : Int32) ≤ nI 64 by decide)])
    (fun f i J hi q1 q2 => by
      conv => lhs; unfold b_X11_pack_L23
      rw [if_neg (show ¬ (64 : Int32) ≤ nI i from nI_ge (b := 64) hi (by omega)), if_pos (g_in_nI (by omega) (by decide)), nI_add, if_pos (g_in_nI (by omega) (by omega)), nI_clamp (by omega), nI_clamp (by omega), q1 114 (Ne.symm hc.2.1), nI_1]
      rfl)
    (fun a ha => by rw [am_up_o _ _ _ _ ha, am_up_o _ _ _ _ ha])
  have i1 := fun (K : g_I → Option g_I) (J0 : g_I) (h0 : ∀ a, a ≠ c → J0 a = I a) => z_cpy (F := b_X11_pack_L55 c n (nI (o + 66)) K) (K := K) (I := I) (J0 := J0) (c := c) (d := o + 66) (N := 6) (I 118) (by decide)
    (fun f J => by unfold b_X11_pack_L55; rw [if_pos (show (6 : Int32) ≤ nI 6 by decide)])
    (fun f i J hi q1 q2 => by
      conv => lhs; unfold b_X11_pack_L55
      rw [if_neg (show ¬ (6 : Int32) ≤ nI i from nI_ge (b := 6) hi (by omega)), if_pos (g_in_nI (by omega) (by decide)), nI_add, if_pos (g_in_nI (by omega) (by omega)), nI_clamp (by omega), nI_clamp (by omega), q1 118 (Ne.symm hc.2.2.1), nI_1]
      rfl) h0
  have i2 := fun (K : g_I → Option g_I) (J0 : g_I) (h0 : ∀ a, a ≠ c → J0 a = I a) => z_cpy (F := b_X11_pack_L84 c n (nI (o + 66)) K) (K := K) (I := I) (J0 := J0) (c := c) (d := o + 72) (N := 8) (I 119) (by decide)
    (fun f J => by unfold b_X11_pack_L84; rw [if_pos (show (8 : Int32) ≤ nI 8 by decide)])
    (fun f i J hi q1 q2 => by
      conv => lhs; unfold b_X11_pack_L84
      rw [if_neg (show ¬ (8 : Int32) ≤ nI i from nI_ge (b := 8) hi (by omega)), if_pos (g_in_nI (by omega) (by decide)), show nI (o + 66) + 6 = nI (o + 72) from nI_add (o + 66) 6, nI_add, if_pos (g_in_nI (by omega) (by omega)), nI_clamp (by omega), nI_clamp (by omega), q1 119 (Ne.symm hc.2.2.2), nI_1]
      rfl) h0
  obtain ⟨J0, e0, a0, b0⟩ := i0 (fun (I5 : g_I) => b_X11_pack_L55 c n (nI (o + 66)) (fun (I7 : g_I) => b_X11_pack_L84 c n (nI (o + 66)) (fun (I9 : g_I) => some I9) fu 0 I7) fu 0 I5)
  obtain ⟨J1, e1, a1, b1⟩ := i1 (fun (I7 : g_I) => b_X11_pack_L84 c n (nI (o + 66)) (fun (I9 : g_I) => some I9) fu 0 I7) J0 a0
  obtain ⟨J2, e2, a2, b2⟩ := i2 (fun (I9 : g_I) => some I9) J1 a1
  refine ⟨J2, e0.trans (e1.trans e2), a2, fun j => ?_⟩
  rw [b2 j]
  by_cases q1 : o + 72 ≤ j ∧ j < o + 72 + 8
  · rw [if_pos q1, if_pos (by omega)]
    unfold z_pk
    rw [if_neg (by omega), if_neg (by omega), if_neg (by omega), if_neg (by omega)]
    congr 1
  · rw [if_neg q1, b1 j]
    by_cases q2 : o + 66 ≤ j ∧ j < o + 66 + 6
    · rw [if_pos q2, if_pos (by omega)]
      unfold z_pk
      rw [if_neg (by omega), if_neg (by omega), if_neg (by omega), if_pos (by omega)]
      congr 1
    · rw [if_neg q2, b0 j]
      by_cases q3 : o + 2 ≤ j ∧ j < o + 2 + 64
      · rw [if_pos q3, if_pos (by omega)]
        unfold z_pk
        rw [if_neg (by omega), if_neg (by omega), if_pos (by omega)]
        congr 1
      · rw [if_neg q3, am_up_s, am_up_s]
        by_cases q4 : j = o + 1
        · subst q4; rw [pk_us, if_pos (by omega), show o + 1 - o = 1 by omega]; rfl
        · rw [upd_o q4]
          by_cases q5 : j = o
          · subst q5; rw [pk_us, if_pos (by omega), Nat.sub_self]; rfl
          · rw [upd_o q5, if_neg (by omega)]
/-- the day as it was kept in a row -/
theorem z_unpack {I : g_I} {c n o : Nat} (hc : c ≠ 101 ∧ c ≠ 114 ∧ c ≠ 118 ∧ c ≠ 119) (ho : o + 80 ≤ n) (hn : n < 2 ^ 30) : ∃ J, b_X11_unpack I c n (nI o) = some J ∧ (∀ a, a ≠ 101 → a ≠ 114 → a ≠ 118 → a ≠ 119 → J a = I a) ∧ (∀ k, k ≠ 30 → k ≠ 31 → J 101 k = I 101 k) ∧ J 101 30 = I c o ∧ J 101 31 = I c (o + 1) ∧ (∀ k, J 114 k = if k < 64 then I c (o + 2 + k) else I 114 k) ∧ (∀ k, J 118 k = if k < 6 then I c (o + 66 + k) else I 118 k) ∧ ∀ k, J 119 k = if k < 8 then I c (o + 72 + k) else I 119 k := by
  unfold b_X11_unpack
  simp only [g_let]
  rw [if_pos (g_in_nI (by omega) (by omega)), nI_1, if_pos (g_in_nI (by omega) (by omega)), nI_clamp (by omega), nI_clamp (by omega), show nI o + 2 = nI (o + 2) from nI_add o 2, show nI (o + 2) + 64 = nI (o + 66) from nI_add (o + 2) 64, am_up_o _ _ _ _ hc.1]
  have hI : ∃ I0, I0 = am_up (am_up I 101 30 (I c o)) 101 31 (I c (o + 1)) := ⟨_, rfl⟩
  obtain ⟨I0, hI⟩ := hI
  rw [← hI]
  have hIc : I0 c = I c := by rw [hI, am_up_o _ _ _ _ hc.1, am_up_o _ _ _ _ hc.1]
  have i0 := fun K : g_I → Option g_I => z_cpy (F := b_X11_unpack_L23 c n (nI (o + 2)) K) (K := K) (I := I0) (J0 := I0) (c := 114) (d := 0) (N := 64) (fun k => I c (o + 2 + k)) (by decide)
    (fun f J => by unfold b_X11_unpack_L23; rw [if_pos (show (64 : Int32) ≤ nI 64 by decide)])
    (fun f i J hi q1 q2 => by
      conv => lhs; unfold b_X11_unpack_L23
      rw [if_neg (show ¬ (64 : Int32) ≤ nI i from nI_ge (b := 64) hi (by omega)), nI_add, if_pos (g_in_nI (by omega) (by omega)), if_pos (g_in_nI (by omega) (by decide)), nI_clamp (by omega), nI_clamp (by omega), q1 c hc.2.1, hIc, nI_1, Nat.zero_add]
      rfl) (fun _ _ => rfl)
  have i1 := fun (K : g_I → Option g_I) (J0 : g_I) (h0 : J0 c = I c) => z_cpy (F := b_X11_unpack_L55 c n (nI (o + 66)) K) (K := K) (I := J0) (J0 := J0) (c := 118) (d := 0) (N := 6) (fun k => I c (o + 66 + k)) (by decide)
    (fun f J => by unfold b_X11_unpack_L55; rw [if_pos (show (6 : Int32) ≤ nI 6 by decide)])
    (fun f i J hi q1 q2 => by
      conv => lhs; unfold b_X11_unpack_L55
      rw [if_neg (show ¬ (6 : Int32) ≤ nI i from nI_ge (b := 6) hi (by omega)), nI_add, if_pos (g_in_nI (by omega) (by omega)), if_pos (g_in_nI (by omega) (by decide)), nI_clamp (by omega), nI_clamp (by omega), q1 c hc.2.2.1, h0, nI_1, Nat.zero_add]
      rfl) (fun _ _ => rfl)
  have i2 := fun (K : g_I → Option g_I) (J0 : g_I) (h0 : J0 c = I c) => z_cpy (F := b_X11_unpack_L84 c n (nI (o + 66)) K) (K := K) (I := J0) (J0 := J0) (c := 119) (d := 0) (N := 8) (fun k => I c (o + 72 + k)) (by decide)
    (fun f J => by unfold b_X11_unpack_L84; rw [if_pos (show (8 : Int32) ≤ nI 8 by decide)])
    (fun f i J hi q1 q2 => by
      conv => lhs; unfold b_X11_unpack_L84
      rw [if_neg (show ¬ (8 : Int32) ≤ nI i from nI_ge (b := 8) hi (by omega)), show nI (o + 66) + 6 = nI (o + 72) from nI_add (o + 66) 6, nI_add, if_pos (g_in_nI (by omega) (by omega)), if_pos (g_in_nI (by omega) (by decide)), nI_clamp (by omega), nI_clamp (by omega), q1 c hc.2.2.2, h0, nI_1, Nat.zero_add]
      rfl) (fun _ _ => rfl)
  obtain ⟨J0, e0, a0, b0⟩ := i0 (fun (I5 : g_I) => b_X11_unpack_L55 c n (nI (o + 66)) (fun (I7 : g_I) => b_X11_unpack_L84 c n (nI (o + 66)) (fun (I9 : g_I) => some I9) fu 0 I7) fu 0 I5)
  obtain ⟨J1, e1, a1, b1⟩ := i1 (fun (I7 : g_I) => b_X11_unpack_L84 c n (nI (o + 66)) (fun (I9 : g_I) => some I9) fu 0 I7) J0 ((a0 c hc.2.1).trans hIc)
  obtain ⟨J2, e2, a2, b2⟩ := i2 (fun (I9 : g_I) => some I9) J1 ((a1 c hc.2.2.1).trans ((a0 c hc.2.1).trans hIc))
  have h101 : J2 101 = I0 101 := by rw [a2 101 (by decide), a1 101 (by decide), a0 101 (by decide)]
  refine ⟨J2, e0.trans (e1.trans e2), fun a x1 x2 x3 x4 => ?_, fun k k1 k2 => ?_, ?_, ?_, fun k => ?_, fun k => ?_, fun k => ?_⟩
  · rw [a2 a x4, a1 a x3, a0 a x2, hI, am_up_o _ _ _ _ x1, am_up_o _ _ _ _ x1]
  · rw [h101, hI, up_ne k2, up_ne k1]
  · rw [h101, hI, up_ne (by decide), up_eq]
  · rw [h101, hI, up_eq]
  · rw [a2 114 (by decide), a1 114 (by decide), b0 k]
    by_cases q : k < 64
    · rw [if_pos ⟨Nat.zero_le k, by omega⟩, if_pos q]; rfl
    · rw [if_neg (fun h => q (by omega)), if_neg q, hI, am_up_o _ _ _ _ (by decide), am_up_o _ _ _ _ (by decide)]
  · rw [a2 118 (by decide), b1 k]
    by_cases q : k < 6
    · rw [if_pos ⟨Nat.zero_le k, by omega⟩, if_pos q]; rfl
    · rw [if_neg (fun h => q (by omega)), if_neg q, a0 118 (by decide), hI, am_up_o _ _ _ _ (by decide), am_up_o _ _ _ _ (by decide)]
  · rw [b2 k]
    by_cases q : k < 8
    · rw [if_pos ⟨Nat.zero_le k, by omega⟩, if_pos q]; rfl
    · rw [if_neg (fun h => q (by omega)), if_neg q, a1 119 (by decide), a0 119 (by decide), hI, am_up_o _ _ _ _ (by decide), am_up_o _ _ _ _ (by decide)]
/-- one more act is kept -/
theorem z_keep {I : g_I} {k : Nat} (hk : I 101 32 = nI k) (hk40 : k ≤ 40) : ∃ J, b_X11_keep I = some J ∧ (∀ a, a ≠ 101 → a ≠ 120 → J a = I a) ∧ (∀ x, x ≠ 32 → J 101 x = I 101 x) ∧ J 101 32 = nI ((if k = 40 then 39 else k) + 1) ∧ (∀ j, j < 80 * (if k = 40 then 39 else k) → J 120 j = I 120 (if k = 40 then j + 80 else j)) ∧ ∀ j, j < 80 → J 120 (80 * (if k = 40 then 39 else k) + j) = z_pk I j := by
  unfold b_X11_keep
  simp only [g_let]
  have fin : ∀ (I1 : g_I) (q : Nat), q ≤ 39 → I1 101 32 = nI q → (∀ a, a ≠ 101 → a ≠ 120 → I1 a = I a) → (∀ x, x ≠ 32 → I1 101 x = I 101 x) → ∃ J, (g_bind (b_X11_pack I1 120 3200 ((80 : Int32) * (I1 101 32))) fun I2 => some (am_up I2 101 32 ((I2 101 32) + 1))) = some J ∧ (∀ a, a ≠ 101 → a ≠ 120 → J a = I a) ∧ (∀ x, x ≠ 32 → J 101 x = I 101 x) ∧ J 101 32 = nI (q + 1) ∧ (∀ j, j < 80 * q → J 120 j = I1 120 j) ∧ ∀ j, j < 80 → J 120 (80 * q + j) = z_pk I j := by
    intro I1 q hq h32 ho1 ho2
    obtain ⟨J, e, a, b⟩ := z_pack (I := I1) (c := 120) (n := 3200) (o := 80 * q) (by decide) (by omega) (by decide)
    rw [h32, show (80 : Int32) * nI q = nI (80 * q) from pk_mul 80 q, e]
    refine ⟨am_up J 101 32 (J 101 32 + 1), rfl, fun x x1 x2 => ?_, fun x x1 => ?_, ?_, fun j hj => ?_, fun j hj => ?_⟩
    · rw [am_up_o _ _ _ _ x1, a x x2]; exact ho1 x x1 x2
    · rw [up_ne x1, a 101 (by decide)]; exact ho2 x x1
    · rw [up_eq, a 101 (by decide), h32, nI_1]
    · rw [am_up_o _ _ _ _ (by decide), b j, if_neg (by omega)]
    · rw [am_up_o _ _ _ _ (by decide), b (80 * q + j), if_pos (by omega), show 80 * q + j - 80 * q = j by omega]
      unfold z_pk
      rw [ho1 114 (by decide) (by decide), ho1 118 (by decide) (by decide), ho1 119 (by decide) (by decide), ho2 30 (by decide), ho2 31 (by decide)]
  by_cases e40 : k = 40
  · subst e40
    rw [if_pos (show I 101 32 = 40 from hk)]
    obtain ⟨J0, e0, a0, b0⟩ := z_lp (F := fun f (s : Int32 × g_I) => b_X11_keep_L12 (fun (I6 : g_I) => g_bind (b_X11_pack (am_up I6 101 32 ((I6 101 32) - 1)) 120 3200 ((80 : Int32) * ((am_up I6 101 32 ((I6 101 32) - 1)) 101 32))) fun I2 => some (am_up I2 101 32 ((I2 101 32) + 1))) f s.1 s.2) (K := fun s => (fun (I6 : g_I) => g_bind (b_X11_pack (am_up I6 101 32 ((I6 101 32) - 1)) 120 3200 ((80 : Int32) * ((am_up I6 101 32 ((I6 101 32) - 1)) 101 32))) fun I2 => some (am_up I2 101 32 ((I2 101 32) + 1))) s.2) (N := 3120) (fun i s => s.1 = nI (80 + i) ∧ (∀ a, a ≠ 120 → s.2 a = I a) ∧ ∀ j, s.2 120 j = if j < i then I 120 (j + 80) else I 120 j)
      (fun f s hP => by
        show b_X11_keep_L12 _ (f + 1) s.1 s.2 = _
        unfold b_X11_keep_L12
        rw [hP.1, if_pos (show (3200 : Int32) ≤ nI (80 + 3120) by decide)])
      (fun f i s hi hP => by
        obtain ⟨q1, q2, q3⟩ := hP
        refine ⟨(nI (80 + (i + 1)), am_up s.2 120 i (I 120 (i + 80))), ?_, rfl, fun a ha => ?_, fun j => ?_⟩
        · show b_X11_keep_L12 _ (f + 1) s.1 s.2 = b_X11_keep_L12 _ f (nI (80 + (i + 1))) (am_up s.2 120 i (I 120 (i + 80)))
          conv => lhs; unfold b_X11_keep_L12
          rw [q1, if_neg (show ¬ (3200 : Int32) ≤ nI (80 + i) from nI_ge (b := 3200) (by omega) (by omega)), if_pos (g_in_nI (by omega) (by decide)), show nI (80 + i) - 80 = nI i from (nI_subI (a := 80) (by omega)).trans (congrArg nI (by omega)), if_pos (g_in_nI (by omega) (by decide)), nI_clamp (by omega), nI_clamp (by omega), q3 (80 + i), if_neg (by omega), nI_1, show I 120 (80 + i) = I 120 (i + 80) by rw [Nat.add_comm]]
          rfl
        · show am_up s.2 120 i _ a = I a
          rw [am_up_o _ _ _ _ ha]; exact q2 a ha
        · show am_up s.2 120 i _ 120 j = _
          rw [am_up_s]
          by_cases e : j = i
          · subst e; rw [pk_us, if_pos (by omega)]
          · rw [upd_o e, q3 j]
            by_cases e2 : j < i
            · rw [if_pos e2, if_pos (by omega)]
            · rw [if_neg e2, if_neg (by omega)])
      3120 fu 0 (80, I) (by omega) (by unfold fu; omega) ⟨rfl, fun _ _ => rfl, fun j => by rw [if_neg (by omega)]⟩
    obtain ⟨q2, q3⟩ := b0
    obtain ⟨J, e, j1, j2, j3, j4, j5⟩ := fin (am_up J0.2 101 32 (J0.2 101 32 - 1)) 39 (by omega) (by rw [up_eq, q2 101 (by decide), hk]; rfl) (fun a x1 x2 => by rw [am_up_o _ _ _ _ x1]; exact q2 a x2) (fun x x1 => by rw [up_ne x1, q2 101 (by decide)])
    refine ⟨J, e0.trans e, j1, j2, j3, fun j hj => ?_, j5⟩
    rw [j4 j hj, am_up_o _ _ _ _ (by decide), q3 j, if_pos (by rw [if_pos rfl] at hj; omega), if_pos rfl]
  · rw [if_neg (show ¬ I 101 32 = 40 from fun h => e40 ((nI_eq (b := 40) (by omega) (by decide)).mp (hk.symm.trans h)))]
    obtain ⟨J, e, j1, j2, j3, j4, j5⟩ := fin I k (by omega) hk (fun _ _ _ => rfl) (fun _ _ => rfl)
    refine ⟨J, e, j1, j2, ?_, fun j hj => ?_, fun j hj => ?_⟩
    · rw [if_neg e40]; exact j3
    · rw [if_neg e40] at hj ⊢; exact j4 j hj
    · rw [if_neg e40]; exact j5 j hj
