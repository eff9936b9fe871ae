/-! PURE: UNITS, WEIGHTS, SLICES -/
theorem z_gl {α β : Type} (x : α) (f : α → β) : g_let x f = f x := rfl
def z_vv (M : Nat → Bool) (i : Nat) (n : Nat) : Nat := lfold (fun k v => if M k = true then Nat.max i k else v) i n
theorem z_vv_i {M : Nat → Bool} {i : Nat} : ∀ n : Nat, (∀ k, k < n → M k = true → k ≤ i) → z_vv M i n = i := by
  intro n
  induction n with
  | zero => intro _; rfl
  | succ n ih =>
    intro h
    show (if M n = true then Nat.max i n else z_vv M i n) = i
    by_cases e : M n = true
    · rw [if_pos e]; exact Nat.max_eq_left (h n (by omega) e)
    · rw [if_neg e]; exact ih (fun k hk => h k (by omega))
theorem z_vv_k {M : Nat → Bool} {i k : Nat} (hik : i < k) (hk : M k = true) (hu : ∀ j, M j = true → j = k) : ∀ n : Nat, z_vv M i n = if k < n then k else i := by
  intro n
  induction n with
  | zero => rw [if_neg (by omega)]; rfl
  | succ n ih =>
    show (if M n = true then Nat.max i n else z_vv M i n) = _
    by_cases e : M n = true
    · have := hu n e
      subst this
      rw [if_pos e, if_pos (by omega)]; exact Nat.max_eq_right (by omega)
    · have hne : n ≠ k := fun h => e (h ▸ hk)
      rw [if_neg e, ih]
      by_cases e2 : k < n
      · rw [if_pos e2, if_pos (by omega)]
      · rw [if_neg e2, if_neg (by omega)]
theorem z_gmax {a b : Nat} (ha : a < 2 ^ 31) (hb : b < 2 ^ 31) : g_max (nI a) (nI b) = nI (Nat.max a b) := by
  unfold g_max
  by_cases h : a < b
  · rw [if_pos (nI_lt h hb)]; congr 1; exact (Nat.max_eq_right (by omega)).symm
  · rw [if_neg (nI_nlt (by omega) ha)]; congr 1; exact (Nat.max_eq_left (by omega)).symm
theorem z_tuI {J : g_I} {T : x_T} (hW : z_W T) (hR : z_R J T) {l : Nat} (hl : l < T.2.1.length) : ∀ (K : g_I → Option g_I) (i : Nat) (I : g_I), i < (z_es T l).length → (∀ a, a ≠ 101 → a ≠ 124 → I a = J a) → I 124 i = nI i → ∃ I', b_X11_tellUnits_L26 (nI l) (nI i) K fu 0 I = K I' ∧ (∀ a, a ≠ 124 → I' a = I a) ∧ (∀ j, j ≠ i → I' 124 j = I 124 j) ∧ I' 124 i = nI (z_vv (fun k => decide (k < (z_es T l).length ∧ z_tw T ((z_es T l).getD i 0).toNatClampNeg = (z_es T l).getD k 0)) i (z_es T l).length) := by
  have h8 := hW.1.1
  have h6 := hW.2.1.1
  have hE := (hW.2.1.2 l hl).2.2.2.2
  have he6 := hE.2.1
  intro K i I hi hI h0
  obtain ⟨p, hp, ep⟩ := hE.2.2.1 i hi
  have h := z_lp (F := fun f (s : Int32 × g_I) => b_X11_tellUnits_L26 (nI l) (nI i) K f s.1 s.2) (K := fun s => K s.2) (N := (z_es T l).length) (fun k s => s.1 = nI k ∧ (∀ a, a ≠ 124 → s.2 a = I a) ∧ (∀ j, j ≠ i → s.2 124 j = I 124 j) ∧ s.2 124 i = nI (z_vv (fun k => decide (k < (z_es T l).length ∧ z_tw T ((z_es T l).getD i 0).toNatClampNeg = (z_es T l).getD k 0)) i k))
    (fun f s hP => by
      show b_X11_tellUnits_L26 (nI l) (nI i) K (f + 1) s.1 s.2 = K s.2
      unfold b_X11_tellUnits_L26
      rw [if_pos (g_in_nI (by omega) (by decide)), nI_clamp (by omega), hP.2.1 112 (by decide), hI 112 (by decide) (by decide), (hR.2.1.2 l hl).2.2.2.2.1, hP.1, if_pos (Int32.le_refl _)])
    (fun f k s hk hP => by
      obtain ⟨s1, s2, s3, s4⟩ := hP
      have hJ : ∀ a, a ≠ 101 → a ≠ 124 → s.2 a = J a := fun a x1 x2 => (s2 a x2).trans (hI a x1 x2)
      have hRp : z_Rp s.2 T := by
        unfold z_Rp
        rw [hJ 104 (by decide) (by decide), hJ 105 (by decide) (by decide), hJ 106 (by decide) (by decide), hJ 107 (by decide) (by decide)]
        exact hR.1
      have hst : b_X11_tellUnits_L26 (nI l) (nI i) K (f + 1) s.1 s.2 = if z_tw T p = (z_es T l).getD k 0 then b_X11_tellUnits_L26 (nI l) (nI i) K f (nI (k + 1)) (am_up s.2 124 i (g_max (nI i) (nI k))) else b_X11_tellUnits_L26 (nI l) (nI i) K f (nI (k + 1)) s.2 := by
        conv => lhs; unfold b_X11_tellUnits_L26
        rw [if_pos (g_in_nI (by omega) (by decide)), nI_clamp (by omega), hJ 112 (by decide) (by decide), (hR.2.1.2 l hl).2.2.2.2.1, s1, if_neg (nI_ge hk (by omega)), z_six, z_six, if_pos (g_in_nI (by omega) (by decide)), nI_clamp (by omega), nI_clamp (by omega), nI_clamp (by omega), hJ 113 (by decide) (by decide), (hR.2.1.2 l hl).2.2.2.2.2 i hi, (hR.2.1.2 l hl).2.2.2.2.2 k hk, ep]
        simp only [g_bind, g_let, z_twin hW.1 hRp hp, nI_1]
        rw [if_pos (g_in_nI (by omega) (by decide)), if_pos (g_in_nI (by omega) (by decide))]
      have hv : z_vv (fun k => decide (k < (z_es T l).length ∧ z_tw T ((z_es T l).getD i 0).toNatClampNeg = (z_es T l).getD k 0)) i (k + 1) = if z_tw T p = (z_es T l).getD k 0 then Nat.max i k else z_vv (fun k => decide (k < (z_es T l).length ∧ z_tw T ((z_es T l).getD i 0).toNatClampNeg = (z_es T l).getD k 0)) i k := by
        show (if decide (k < (z_es T l).length ∧ z_tw T ((z_es T l).getD i 0).toNatClampNeg = (z_es T l).getD k 0) = true then Nat.max i k else _) = _
        rw [ep, nI_clamp (by omega)]
        by_cases e : z_tw T p = (z_es T l).getD k 0
        · rw [if_pos e, if_pos (decide_eq_true ⟨hk, e⟩)]
        · rw [if_neg e, if_neg (fun h => e (of_decide_eq_true h).2)]; rfl
      show ∃ s', b_X11_tellUnits_L26 (nI l) (nI i) K (f + 1) s.1 s.2 = _ ∧ _
      rw [hst]
      by_cases e : z_tw T p = (z_es T l).getD k 0
      · rw [if_pos e] at hv
        refine ⟨(nI (k + 1), am_up s.2 124 i (g_max (nI i) (nI k))), by rw [if_pos e], rfl, fun a ha => ?_, fun j hj => ?_, ?_⟩
        · show am_up s.2 124 i _ a = I a
          rw [am_up_o _ _ _ _ ha]; exact s2 a ha
        · show am_up s.2 124 i _ 124 j = I 124 j
          rw [up_ne hj]; exact s3 j hj
        · show am_up s.2 124 i _ 124 i = _
          rw [up_eq, hv, z_gmax (by omega) (by omega)]
      · rw [if_neg e] at hv
        exact ⟨(nI (k + 1), s.2), by rw [if_neg e], rfl, s2, s3, by rw [hv]; exact s4⟩)
    (z_es T l).length fu 0 (0, I) (by omega) (by unfold fu; omega) ⟨rfl, fun _ _ => rfl, fun _ _ => rfl, h0⟩
  obtain ⟨s, e, -, s2, s3, s4⟩ := h
  exact ⟨s.2, e, s2, s3, s4⟩
theorem z_tuV {T : x_T} (hW : z_W T) {l : Nat} (hl : l < T.2.1.length) : ∀ i, i < (z_es T l).length → nI (z_vv (fun k => decide (k < (z_es T l).length ∧ z_tw T ((z_es T l).getD i 0).toNatClampNeg = (z_es T l).getD k 0)) i (z_es T l).length) = if z_up T (z_es T l) i = -1 then nI i else z_up T (z_es T l) i := by
  have hE := (hW.2.1.2 l hl).2.2.2.2
  have he6 := hE.2.1
  intro i hi
  rcases z_up_v he6 (T := T) hi with ⟨h1, h2⟩ | ⟨k, h1, h2, h3, h4⟩
  · rw [if_pos h1, z_vv_i _ (fun k hk hm => by
      rcases Nat.lt_or_ge i k with h | h
      · exact absurd (of_decide_eq_true hm).2.symm (h2 k h hk)
      · exact h)]
  · rw [if_neg (by rw [h4]; exact z_nm1 (by omega)), h4, z_vv_k h1 (decide_eq_true ⟨h2, h3.symm⟩) (fun j hj => z_up_u hE (of_decide_eq_true hj).1 h2 ((of_decide_eq_true hj).2.symm.trans h3.symm)) _, if_pos h2]
theorem z_tellUnits {J : g_I} {T : x_T} (hW : z_W T) (hR : z_R J T) {l : Nat} (hl : l < T.2.1.length) : ∃ J', b_X11_tellUnits J (nI l) = some J' ∧ (∀ a, a ≠ 101 → a ≠ 124 → J' a = J a) ∧ (∀ k, k ≠ 40 → J' 101 k = J 101 k) ∧ J' 101 40 = nI (z_mn T (z_es T l)) ∧ ∀ i, i < (z_es T l).length → J' 124 i = if z_up T (z_es T l) i = -1 then nI i else z_up T (z_es T l) i := by
  have h8 := hW.1.1
  have h6 := hW.2.1.1
  have hE := (hW.2.1.2 l hl).2.2.2.2
  have he6 := hE.2.1
  unfold b_X11_tellUnits
  rw [z_gl]
  have inner := fun K i I hi hI h0 => z_tuI hW hR hl K i I hi hI h0
  have hvv := z_tuV hW hl
  have h := z_lp (F := fun f (s : Int32 × g_I) => b_X11_tellUnits_L7 (nI l) (fun (I9 : g_I) => some I9) f s.1 s.2) (K := fun s => some s.2) (N := (z_es T l).length) (fun i s => s.1 = nI i ∧ (∀ a, a ≠ 101 → a ≠ 124 → s.2 a = J a) ∧ (∀ k, k ≠ 40 → s.2 101 k = J 101 k) ∧ s.2 101 40 = nI (z_cnt (fun i => decide (z_up T (z_es T l) i = -1)) i) ∧ ∀ j, j < i → s.2 124 j = if z_up T (z_es T l) j = -1 then nI j else z_up T (z_es T l) j)
    (fun f s hP => by
      show b_X11_tellUnits_L7 (nI l) _ (f + 1) s.1 s.2 = some s.2
      unfold b_X11_tellUnits_L7
      rw [if_pos (g_in_nI (by omega) (by decide)), nI_clamp (by omega), hP.2.1 112 (by decide) (by decide), (hR.2.1.2 l hl).2.2.2.2.1, hP.1, if_pos (Int32.le_refl _)])
    (fun f i s hi hP => by
      obtain ⟨s1, s2, s3, s4, s5⟩ := hP
      obtain ⟨I', e1, q1, q2, q3⟩ := inner (fun (I7 : g_I) => if g_in (nI i) 6 = true then if (I7 124 (nI i).toNatClampNeg) = nI i then g_let (am_up I7 101 40 ((I7 101 40) + 1)) fun I8 => b_X11_tellUnits_L7 (nI l) (fun (I9 : g_I) => some I9) f (nI i + 1) I8 else b_X11_tellUnits_L7 (nI l) (fun (I9 : g_I) => some I9) f (nI i + 1) I7 else none) i (am_up s.2 124 i (nI i)) hi (fun a x1 x2 => by rw [am_up_o _ _ _ _ x2]; exact s2 a x1 x2) up_eq
      rw [hvv i hi] at q3
      have hst : b_X11_tellUnits_L7 (nI l) (fun (I9 : g_I) => some I9) (f + 1) s.1 s.2 = if z_up T (z_es T l) i = -1 then b_X11_tellUnits_L7 (nI l) (fun (I9 : g_I) => some I9) f (nI (i + 1)) (am_up I' 101 40 ((I' 101 40) + 1)) else b_X11_tellUnits_L7 (nI l) (fun (I9 : g_I) => some I9) f (nI (i + 1)) I' := by
        conv => lhs; unfold b_X11_tellUnits_L7
        rw [if_pos (g_in_nI (by omega) (by decide)), nI_clamp (by omega), s2 112 (by decide) (by decide), (hR.2.1.2 l hl).2.2.2.2.1, s1, if_neg (nI_ge hi (by omega)), if_pos (g_in_nI (by omega) (by decide)), nI_clamp (by omega), z_gl]
        rw [nI_clamp (show i < 2 ^ 31 by omega)] at e1
        rw [e1, if_pos (g_in_nI (by omega) (by decide)), q3, z_gl, nI_1]
        rcases z_up_v he6 (T := T) hi with ⟨h1, h2⟩ | ⟨k, h1, h2, h3, h4⟩
        · rw [if_pos h1, if_pos h1, if_pos rfl]
        · rw [h4, if_neg (z_nm1 (by omega)), if_neg (z_nm1 (by omega)), if_neg (fun h => by have := (nI_eq (by omega) (by omega)).mp h; omega)]
      have r1 : ∀ a, a ≠ 101 → a ≠ 124 → I' a = J a := fun a x1 x2 => by rw [q1 a x2, am_up_o _ _ _ _ x2]; exact s2 a x1 x2
      have r2 : ∀ k, I' 101 k = s.2 101 k := fun k => by rw [q1 101 (by decide), am_up_o _ _ _ _ (by decide)]
      have r3 : ∀ j, j < i + 1 → I' 124 j = if z_up T (z_es T l) j = -1 then nI j else z_up T (z_es T l) j := fun j hj => by
        by_cases e : j = i
        · rw [e]; exact q3
        · rw [q2 j e, up_ne e]; exact s5 j (by omega)
      show ∃ s', b_X11_tellUnits_L7 (nI l) _ (f + 1) s.1 s.2 = _ ∧ _
      rw [hst]
      by_cases e : z_up T (z_es T l) i = -1
      · refine ⟨(nI (i + 1), am_up I' 101 40 ((I' 101 40) + 1)), by rw [if_pos e], rfl, fun a x1 x2 => ?_, fun k hk => ?_, ?_, fun j hj => ?_⟩
        · show am_up I' 101 40 _ a = J a
          rw [am_up_o _ _ _ _ x1]; exact r1 a x1 x2
        · show am_up I' 101 40 _ 101 k = J 101 k
          rw [up_ne hk, r2]; exact s3 k hk
        · show am_up I' 101 40 ((I' 101 40) + 1) 101 40 = nI (z_cnt (fun i => decide (z_up T (z_es T l) i = -1)) (i + 1))
          rw [up_eq, r2, s4, z_cnt_s, if_pos (decide_eq_true e), nI_1]
        · show am_up I' 101 40 ((I' 101 40) + 1) 124 j = _
          rw [am_up_o _ _ _ _ (by decide)]; exact r3 j hj
      · exact ⟨(nI (i + 1), I'), by rw [if_neg e], rfl, r1, fun k hk => (r2 k).trans (s3 k hk), by show I' 101 40 = nI (z_cnt (fun i => decide (z_up T (z_es T l) i = -1)) (i + 1)); rw [r2, s4, z_cnt_s, if_neg (fun h => e (of_decide_eq_true h))], r3⟩)
    (z_es T l).length fu 0 (0, am_up J 101 40 0) (by omega) (by unfold fu; omega) ⟨rfl, fun a x1 _ => am_up_o _ _ _ _ x1, fun k hk => (show am_up J 101 40 0 101 k = J 101 k from up_ne hk), (show am_up J 101 40 0 101 40 = nI 0 from up_eq), fun j hj => absurd hj (Nat.not_lt_zero j)⟩
  obtain ⟨s, e, -, s2, s3, s4, s5⟩ := h
  have e' : b_X11_tellUnits_L7 (nI l) (fun (I9 : g_I) => some I9) fu 0 (am_up J 101 40 0) = some s.2 := e
  exact ⟨s.2, e', s2, s3, s4, s5⟩
theorem z_wg_s {ss : Nat → Int32} {len : Nat} {rl : Bool} {kd : Int32} {mn : Nat} {q0 : (Nat → Int32) × (Nat → Int32) × (Nat → Int32)} {j k : Nat} (h : j < k) : ∀ n, k ≤ n → (f_wg ss len rl kd mn q0 n).2.2 j = (f_wg ss len rl kd mn q0 k).2.2 j := by
  intro n
  induction n with
  | zero => intro hn; omega
  | succ n ih =>
    intro hn
    by_cases e : k = n + 1
    · rw [e]
    · rw [← ih (by omega)]
      show (f_wg1 ss len rl kd mn n (f_wg ss len rl kd mn q0 n)).2.2 j = _
      unfold f_wg1
      cases rl
      · show upd _ n _ j = _
        rw [upd_o (by omega)]
      · show upd _ n _ j = _
        rw [upd_o (by omega)]
theorem z_wg_v {ss : Nat → Int32} {len : Nat} {rl : Bool} {kd : Int32} {mn : Nat} {q0 : (Nat → Int32) × (Nat → Int32) × (Nat → Int32)} {i : Nat} (h : i ≠ 0) : ∀ n, (f_wg ss len rl kd mn q0 n).1 i = q0.1 i := by
  intro n
  induction n with
  | zero => rfl
  | succ n ih =>
    show (f_wg1 ss len rl kd mn n (f_wg ss len rl kd mn q0 n)).1 i = _
    unfold f_wg1
    cases rl
    · show upd _ 0 _ i = _
      rw [upd_o h]; exact ih
    · show upd _ 0 _ i = _
      rw [upd_o h]; exact ih
theorem z_cl (v : Int32) : g_max 1 (g_min 99 v) = f_cl v := rfl
theorem z_cl_b (v : Int32) : ∃ w, 1 ≤ w ∧ w ≤ 99 ∧ f_cl v = nI w := by
  have h : 1 ≤ (f_cl v).toInt ∧ (f_cl v).toInt ≤ 99 := by
    unfold f_cl f_mx
    have e1 : (1 : Int32).toInt = 1 := by decide
    have e99 : (99 : Int32).toInt = 99 := by decide
    by_cases h1 : v < 99
    · rw [if_pos h1]
      rw [z_lI, e99] at h1
      by_cases h2 : 1 < v
      · rw [if_pos h2]; rw [z_lI, e1] at h2; omega
      · rw [if_neg h2, e1]; omega
    · rw [if_neg h1]
      rw [if_pos (by decide), e99]; omega
  refine ⟨(f_cl v).toInt.toNat, by omega, by omega, Int32.toInt_inj.mp ?_⟩
  rw [nI_toInt (by omega)]; omega
/-- one share -/
theorem z_share {I J : g_I} {t : Nat} {T : x_T} (hW : z_W T) (hT : k_tw I t T) (hR : z_R J T) {p l mn k : Nat} (hp : p < T.1.length) (hl : l < T.2.1.length) (hth : I 50 p = J 119 p) (hmn : J 101 40 = nI mn) (hk : k < mn) (hmn6 : mn ≤ 6) : ∃ J', b_X11_shareOf J (nI p) (nI l) (nI k) = some ((f_W3 I 93 t 47 p l T.2.2.2.2.length mn (k + 1)).2.2 k, J') ∧ ∀ a, a ≠ 121 → a ≠ 122 → J' a = J a := by
  have h8 := hW.1.1
  have h6 := hW.2.1.1
  have h600 := hW.2.2.2.1
  obtain ⟨t1, t2, t3, t4⟩ := hT.1.2.2 p hp
  obtain ⟨l1, l2, l3, l4, l5, l6, l7, l8⟩ := hT.2.1.2.2 l hl
  have hst := hT.2.2.2.2.2
  have hlen : I (t + 16) 2 = nI T.2.2.2.2.length := hst.1
  obtain ⟨kd, hkd4, hkd⟩ := (hW.1.2 p hp).1
  have hw : (f_W3 I 93 t 47 p l T.2.2.2.2.length mn (k + 1)).2.2 k = if f_rl (nI T.2.2.2.2.length) (z_pp T p).1 = true then f_cl ((f_ev (upd (f_W3 I 93 t 47 p l T.2.2.2.2.length mn k).1 0 (if ¬ (z_pp T p).1 = 1 then nI k else nI mn - 1 - nI k)) (I (t + 17)) (f_W3 I 93 t 47 p l T.2.2.2.2.length mn k).2.1 T.2.2.2.2.length).2 0) else f_cl 1 := by
    show (f_wg1 (I (t + 17)) T.2.2.2.2.length (f_rl (I (t + 16) 2) (I (t + 1) p)) (I (t + 1) p) mn k (f_W3 I 93 t 47 p l T.2.2.2.2.length mn k)).2.2 k = _
    unfold f_wg1
    rw [hlen, t1]
    cases f_rl (nI T.2.2.2.2.length) (z_pp T p).1
    · show upd _ k _ k = _
      rw [pk_us]; rfl
    · show upd _ k _ k = _
      rw [pk_us]; rfl
  rw [hw]
  unfold b_X11_shareOf
  simp only [g_let]
  rw [hR.2.2.2.2.1]
  by_cases e0 : T.2.2.2.2.length = 0
  · refine ⟨J, ?_, fun _ _ _ => rfl⟩
    rw [e0, if_pos nI_0]
    have : f_rl (nI 0) (z_pp T p).1 = false := by unfold f_rl; rw [decide_eq_false (fun h => h (by decide))]; rfl
    rw [this]; rfl
  · rw [if_neg (nI_ne0 (by omega) (by omega)), if_pos (g_in_nI (by omega) (by decide)), nI_clamp (show p < 2 ^ 31 by omega), (hR.1.2 p hp).1]
    by_cases e2 : (z_pp T p).1 = 2
    · refine ⟨J, ?_, fun _ _ _ => rfl⟩
      rw [if_pos e2]
      have : f_rl (nI T.2.2.2.2.length) (z_pp T p).1 = false := by unfold f_rl; rw [decide_eq_false (show ¬ ¬ (z_pp T p).1 = 2 from fun h => h e2), Bool.and_false]
      rw [this]; rfl
    · have hrl : f_rl (nI T.2.2.2.2.length) (z_pp T p).1 = true := by
        unfold f_rl
        rw [decide_eq_true (show ¬ nI T.2.2.2.2.length ≤ 0 from nI_nle (by omega) (by omega)), decide_eq_true e2]; rfl
      rw [if_neg e2, if_pos (g_in_nI (by omega) (by decide)), hrl, if_pos rfl]
      have key : ∀ (X : g_I), (∀ a, a ≠ 121 → X a = J a) → (∀ i, i < 6 → X 121 i = (upd (f_W3 I 93 t 47 p l T.2.2.2.2.length mn k).1 0 (if ¬ (z_pp T p).1 = 1 then nI k else nI mn - 1 - nI k)) i) → ∃ J', (g_bind2 (b_X11_valueNow X) fun a7 I8 => some (g_max 1 (g_min 99 a7), I8)) = some (f_cl ((f_ev (upd (f_W3 I 93 t 47 p l T.2.2.2.2.length mn k).1 0 (if ¬ (z_pp T p).1 = 1 then nI k else nI mn - 1 - nI k)) (I (t + 17)) (f_W3 I 93 t 47 p l T.2.2.2.2.length mn k).2.1 T.2.2.2.2.length).2 0), J') ∧ ∀ a, a ≠ 121 → a ≠ 122 → J' a = J a := by
        intro X hX hV
        have hRr : z_Rr X T := by
          unfold z_Rr
          rw [hX 104 (by decide), hX 115 (by decide)]
          exact hR.2.2.2.2
        obtain ⟨J', e, hJ'⟩ := z_value (S0 := (f_W3 I 93 t 47 p l T.2.2.2.2.length mn k).2.1) (ss := I (t + 17)) hW.2.2.2 hRr hV (fun k hk => hst.2.2 k hk) (by omega)
        refine ⟨J', ?_, fun a x1 x2 => (hJ' a x2).trans (hX a x1)⟩
        rw [e]
        rfl
      have hV : ∀ i, i ≠ 0 → (f_W3 I 93 t 47 p l T.2.2.2.2.length mn k).1 i = f_v0 (I 96) (nI mn) (I (t + 10) l) (I (t + 1) p) (I (t + 3) p) (I 50 p) i := fun i hi => z_wg_v hi k
      have v1 : (f_W3 I 93 t 47 p l T.2.2.2.2.length mn k).1 1 = nI mn := (hV 1 (by decide)).trans rfl
      have v2 : (f_W3 I 93 t 47 p l T.2.2.2.2.length mn k).1 2 = (z_ll T l).1.2.1 := (hV 2 (by decide)).trans l2
      have v3 : (f_W3 I 93 t 47 p l T.2.2.2.2.length mn k).1 3 = (z_pp T p).1 := (hV 3 (by decide)).trans t1
      have v4 : (f_W3 I 93 t 47 p l T.2.2.2.2.length mn k).1 4 = (z_pp T p).2.2 := (hV 4 (by decide)).trans t3
      have v5 : (f_W3 I 93 t 47 p l T.2.2.2.2.length mn k).1 5 = J 119 p := (hV 5 (by decide)).trans hth
      simp only [show g_in 0 6 = true by decide, g_in_nI (show l < 12 by omega) (by decide), g_in_nI (show p < 16 by omega) (by decide), g_in_nI (show p < 8 by omega) (by decide), if_true, nI_clamp (show l < 2 ^ 31 by omega), hmn]
      by_cases e1 : (z_pp T p).1 = 1
      · rw [if_pos e1]
        refine key _ (fun a ha => ?_) (fun i hi => ?_)
        · simp (disch := assumption) only [am_up_o]
        · match i, hi with
          | 0, _ => simp (disch := decide) only [up_ne, up_eq, am_up_o, pk_us, show Int32.toNatClampNeg 0 = 0 from rfl]; rw [if_neg (fun h => h e1)]
          | 1, _ => simp (disch := decide) only [up_ne, up_eq, am_up_o, upd_o, show Int32.toNatClampNeg 0 = 0 from rfl]; rw [v1]; exact hmn
          | 2, _ => simp (disch := decide) only [up_ne, up_eq, am_up_o, upd_o, show Int32.toNatClampNeg 0 = 0 from rfl]; rw [v2]; exact (hR.2.1.2 l hl).2.1
          | 3, _ => simp (disch := decide) only [up_ne, up_eq, am_up_o, upd_o, show Int32.toNatClampNeg 0 = 0 from rfl]; rw [v3]; exact (hR.1.2 p hp).1
          | 4, _ => simp (disch := decide) only [up_ne, up_eq, am_up_o, upd_o, show Int32.toNatClampNeg 0 = 0 from rfl]; rw [v4]; exact (hR.1.2 p hp).2.2
          | 5, _ => simp (disch := decide) only [up_ne, up_eq, am_up_o, upd_o, show Int32.toNatClampNeg 0 = 0 from rfl]; rw [v5]
      · rw [if_neg e1]
        refine key _ (fun a ha => ?_) (fun i hi => ?_)
        · simp (disch := assumption) only [am_up_o]
        · match i, hi with
          | 0, _ => simp (disch := decide) only [up_ne, up_eq, am_up_o, pk_us, show Int32.toNatClampNeg 0 = 0 from rfl]; rw [if_pos e1]
          | 1, _ => simp (disch := decide) only [up_ne, up_eq, am_up_o, upd_o, show Int32.toNatClampNeg 0 = 0 from rfl]; rw [v1]; exact hmn
          | 2, _ => simp (disch := decide) only [up_ne, up_eq, am_up_o, upd_o, show Int32.toNatClampNeg 0 = 0 from rfl]; rw [v2]; exact (hR.2.1.2 l hl).2.1
          | 3, _ => simp (disch := decide) only [up_ne, up_eq, am_up_o, upd_o, show Int32.toNatClampNeg 0 = 0 from rfl]; rw [v3]; exact (hR.1.2 p hp).1
          | 4, _ => simp (disch := decide) only [up_ne, up_eq, am_up_o, upd_o, show Int32.toNatClampNeg 0 = 0 from rfl]; rw [v4]; exact (hR.1.2 p hp).2.2
          | 5, _ => simp (disch := decide) only [up_ne, up_eq, am_up_o, upd_o, show Int32.toNatClampNeg 0 = 0 from rfl]; rw [v5]
