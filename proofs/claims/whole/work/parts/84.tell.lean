/-! PURE: SLICES ARE TOLD -/
theorem z_tsW {I J : g_I} {t : Nat} {T : x_T} (hW : z_W T) (hT : k_tw I t T) (hR : z_R J T) {p l mn : Nat} (hp : p < T.1.length) (hl : l < T.2.1.length) (hth : I 50 p = J 119 p) (hmn : J 101 40 = nI mn) (hmn6 : mn ≤ 6) (K : Int32 → g_I → Option g_I) : ∃ J', b_X11_tellSlices_L10 (nI p) (nI l) K fu 0 0 J = K (f_sum (f_W3 I 93 t 47 p l T.2.2.2.2.length mn mn).2.2 mn) J' ∧ (∀ a, a ≠ 121 → a ≠ 122 → a ≠ 123 → J' a = J a) ∧ ∀ j, j < mn → J' 123 j = (f_W3 I 93 t 47 p l T.2.2.2.2.length mn mn).2.2 j := by
  have h := z_lp (F := fun f (s : Int32 × Int32 × g_I) => b_X11_tellSlices_L10 (nI p) (nI l) K f s.1 s.2.1 s.2.2) (K := fun s => K s.1 s.2.2) (N := mn) (fun k s => s.2.1 = nI k ∧ s.1 = f_sum (f_W3 I 93 t 47 p l T.2.2.2.2.length mn mn).2.2 k ∧ (∀ a, a ≠ 121 → a ≠ 122 → a ≠ 123 → s.2.2 a = J a) ∧ ∀ j, j < k → s.2.2 123 j = (f_W3 I 93 t 47 p l T.2.2.2.2.length mn mn).2.2 j)
    (fun f s hP => by
      show b_X11_tellSlices_L10 (nI p) (nI l) K (f + 1) s.1 s.2.1 s.2.2 = K s.1 s.2.2
      unfold b_X11_tellSlices_L10
      rw [hP.2.2.1 101 (by decide) (by decide) (by decide), hmn, hP.1, if_pos (Int32.le_refl _)])
    (fun f k s hk hP => by
      obtain ⟨s1, s2, s3, s4⟩ := hP
      have hR' : z_R s.2.2 T := z_R_o hR (fun a h1 h2 h3 => s3 a (by omega) (by omega) (by omega))
      obtain ⟨J1, e1, q1⟩ := z_share (I := I) (J := s.2.2) (t := t) hW hT hR' hp hl (by rw [s3 119 (by decide) (by decide) (by decide)]; exact hth) (by rw [s3 101 (by decide) (by decide) (by decide)]; exact hmn) hk hmn6
      rw [show (f_W3 I 93 t 47 p l T.2.2.2.2.length mn (k + 1)).2.2 k = (f_W3 I 93 t 47 p l T.2.2.2.2.length mn mn).2.2 k from (z_wg_s (Nat.lt_succ_self k) mn hk).symm] at e1
      refine ⟨(f_sum (f_W3 I 93 t 47 p l T.2.2.2.2.length mn mn).2.2 (k + 1), nI (k + 1), am_up J1 123 k ((f_W3 I 93 t 47 p l T.2.2.2.2.length mn mn).2.2 k)), ?_, rfl, rfl, fun a x1 x2 x3 => ?_, fun j hj => ?_⟩
      · show b_X11_tellSlices_L10 (nI p) (nI l) K (f + 1) s.1 s.2.1 s.2.2 = b_X11_tellSlices_L10 (nI p) (nI l) K f _ _ _
        conv => lhs; unfold b_X11_tellSlices_L10
        rw [s3 101 (by decide) (by decide) (by decide), hmn, s1, if_neg (nI_ge hk (by omega)), e1]
        simp only [g_bind2]
        rw [if_pos (g_in_nI (by omega) (by decide)), z_gl, if_pos (g_in_nI (by omega) (by decide)), z_gl, nI_clamp (by omega), up_eq, nI_1, s2]
        rfl
      · show am_up J1 123 k _ a = J a
        rw [am_up_o _ _ _ _ x3, q1 a x1 x2]; exact s3 a x1 x2 x3
      · show am_up J1 123 k _ 123 j = _
        by_cases e : j = k
        · rw [e, up_eq]
        · rw [up_ne e, q1 123 (by decide) (by decide)]; exact s4 j (by omega))
    mn fu 0 (0, 0, J) (by omega) (by unfold fu; omega) ⟨rfl, rfl, fun _ _ _ _ => rfl, fun j hj => absurd hj (Nat.not_lt_zero j)⟩
  obtain ⟨s, e, -, s2, s3, s4⟩ := h
  rw [s2] at e
  exact ⟨s.2.2, e, s3, s4⟩
theorem z_tsQ {J : g_I} {T : x_T} (hW : z_W T) (hR : z_R J T) {l mn : Nat} (hl : l < T.2.1.length) (hmn : J 101 40 = nI mn) (hmn6 : mn ≤ 6) {W : Nat → Int32} (hw : ∀ j, j < mn → J 123 j = W j) {sm : Int32} (hs : 0 < sm) (h41 : J 101 41 = (z_ll T l).1.2.1) (K : g_I → Option g_I) : ∃ J', b_X11_tellSlices_L63 (nI l) sm K fu 0 J = K J' ∧ (∀ a, a ≠ 101 → a ≠ 123 → J' a = J a) ∧ (∀ k, k ≠ 41 → J' 101 k = J 101 k) ∧ J' 101 41 = f_cr (z_ll T l).1.2.1 sm W mn ∧ ∀ j, j < mn → J' 123 j = f_q (z_ll T l).1.2.1 sm (W j) := by
  have h6 := hW.2.1.1
  have hs0 : ¬ sm = 0 := fun e => by rw [e] at hs; exact absurd hs (by decide)
  have h := z_lp (F := fun f (s : Int32 × g_I) => b_X11_tellSlices_L63 (nI l) sm K f s.1 s.2) (K := fun s => K s.2) (N := mn) (fun k s => s.1 = nI k ∧ (∀ a, a ≠ 101 → a ≠ 123 → s.2 a = J a) ∧ (∀ k, k ≠ 41 → s.2 101 k = J 101 k) ∧ s.2 101 41 = f_cr (z_ll T l).1.2.1 sm W k ∧ (∀ j, j < k → s.2 123 j = f_q (z_ll T l).1.2.1 sm (W j)) ∧ ∀ j, k ≤ j → s.2 123 j = J 123 j)
    (fun f s hP => by
      show b_X11_tellSlices_L63 (nI l) sm K (f + 1) s.1 s.2 = K s.2
      unfold b_X11_tellSlices_L63
      rw [hP.2.2.1 40 (by decide), hmn, hP.1, if_pos (Int32.le_refl _)])
    (fun f k s hk hP => by
      obtain ⟨s1, s2, s3, s4, s5, s6⟩ := hP
      have hfq : (z_ll T l).1.2.1 * W k / sm = f_q (z_ll T l).1.2.1 sm (W k) := by unfold f_q; rw [if_pos hs]
      refine ⟨(nI (k + 1), am_up (am_up s.2 123 k (f_q (z_ll T l).1.2.1 sm (W k))) 101 41 (f_cr (z_ll T l).1.2.1 sm W (k + 1))), ?_, rfl, fun a x1 x2 => ?_, fun q hq => ?_, ?_, fun j hj => ?_, fun j hj => ?_⟩
      · show b_X11_tellSlices_L63 (nI l) sm K (f + 1) s.1 s.2 = b_X11_tellSlices_L63 (nI l) sm K f _ _
        conv => lhs; unfold b_X11_tellSlices_L63
        rw [s3 40 (by decide), hmn, s1, if_neg (nI_ge hk (by omega)), if_pos (g_in_nI (by omega) (by decide)), if_pos (g_in_nI (by omega) (by decide)), if_pos hs0, if_pos (g_in_nI (by omega) (by decide)), z_gl, if_pos (g_in_nI (by omega) (by decide)), z_gl, nI_clamp (by omega), nI_clamp (by omega), s2 109 (by decide) (by decide), (hR.2.1.2 l hl).2.1, s6 k (Nat.le_refl k), hw k hk, up_eq, hfq, am_up_o _ _ _ _ (show (101 : Nat) ≠ 123 by decide), s4, nI_1]
        rfl
      · show am_up (am_up s.2 123 k _) 101 41 _ a = J a
        rw [am_up_o _ _ _ _ x1, am_up_o _ _ _ _ x2]; exact s2 a x1 x2
      · show am_up (am_up s.2 123 k _) 101 41 _ 101 q = J 101 q
        rw [up_ne hq, am_up_o _ _ _ _ (by decide)]; exact s3 q hq
      · show am_up (am_up s.2 123 k (f_q (z_ll T l).1.2.1 sm (W k))) 101 41 (f_cr (z_ll T l).1.2.1 sm W (k + 1)) 101 41 = _
        rw [up_eq]
      · show am_up (am_up s.2 123 k (f_q (z_ll T l).1.2.1 sm (W k))) 101 41 (f_cr (z_ll T l).1.2.1 sm W (k + 1)) 123 j = _
        rw [am_up_o _ _ _ _ (by decide)]
        by_cases e : j = k
        · rw [e, up_eq]
        · rw [up_ne e]; exact s5 j (by omega)
      · show am_up (am_up s.2 123 k (f_q (z_ll T l).1.2.1 sm (W k))) 101 41 (f_cr (z_ll T l).1.2.1 sm W (k + 1)) 123 j = _
        rw [am_up_o _ _ _ _ (by decide), up_ne (by omega)]; exact s6 j (by omega))
    mn fu 0 (0, J) (by omega) (by unfold fu; omega) ⟨rfl, fun _ _ _ => rfl, fun _ _ => rfl, h41, fun j hj => absurd hj (Nat.not_lt_zero j), fun _ _ => rfl⟩
  obtain ⟨s, e, -, s2, s3, s4, s5, -⟩ := h
  exact ⟨s.2, e, s2, s3, s4, s5⟩
/-- the largest that is left -/
theorem z_tsB {I : g_I} {mn : Nat} (hmn : I 101 40 = nI mn) (hmn6 : mn ≤ 6) {y4 y5 : Int32} (hf : ∃ q, q < mn ∧ bt y4 q = false) (K : Int32 → Option g_I) : ∃ b, b < mn ∧ bt y4 b = false ∧ (∀ q, q < mn → bt y4 q = false → I 123 q ≤ I 123 b) ∧ b_X11_tellSlices_L175 I y4 y5 K fu (-1) 0 = K (nI b) := by
  have h := z_lp (F := fun f (s : Int32 × Int32) => b_X11_tellSlices_L175 I y4 y5 K f s.1 s.2) (K := fun s => K s.1) (N := mn) (fun k s => s.2 = nI k ∧ ((s.1 = -1 ∧ ∀ q, q < k → bt y4 q = true) ∨ ∃ b, b < k ∧ s.1 = nI b ∧ bt y4 b = false ∧ ∀ q, q < k → bt y4 q = false → I 123 q ≤ I 123 b))
    (fun f s hP => by
      show b_X11_tellSlices_L175 I y4 y5 K (f + 1) s.1 s.2 = K s.1
      unfold b_X11_tellSlices_L175
      rw [hmn, hP.1, if_pos (Int32.le_refl _)])
    (fun f k s hk hP => by
      obtain ⟨s1, s2⟩ := hP
      show ∃ s', b_X11_tellSlices_L175 I y4 y5 K (f + 1) s.1 s.2 = _ ∧ _
      have hst : b_X11_tellSlices_L175 I y4 y5 K (f + 1) s.1 s.2 = if bt y4 k = true then b_X11_tellSlices_L175 I y4 y5 K f s.1 (nI (k + 1)) else if s.1 = (-1) then b_X11_tellSlices_L175 I y4 y5 K f (nI k) (nI (k + 1)) else if g_in s.1 6 = true then if (I 123 k) ≤ (I 123 s.1.toNatClampNeg) then b_X11_tellSlices_L175 I y4 y5 K f s.1 (nI (k + 1)) else b_X11_tellSlices_L175 I y4 y5 K f (nI k) (nI (k + 1)) else none := by
        conv => lhs; unfold b_X11_tellSlices_L175
        rw [hmn, s1, if_neg (nI_ge hk (by omega)), z_isOf (by omega), nI_1, if_pos (g_in_nI (show k < 6 by omega) (by decide)), nI_clamp (show k < 2 ^ 31 by omega)]
      rw [hst]
      by_cases e1 : bt y4 k = true
      · rw [if_pos e1]
        refine ⟨(s.1, nI (k + 1)), rfl, rfl, ?_⟩
        rcases s2 with ⟨g1, g2⟩ | ⟨b, g1, g2, g3, g4⟩
        · exact Or.inl ⟨g1, fun q hq => if h : q = k then by rw [h]; exact e1 else g2 q (by omega)⟩
        · exact Or.inr ⟨b, by omega, g2, g3, fun q hq h => if h2 : q = k then by rw [h2, e1] at h; exact Bool.noConfusion h else g4 q (by omega) h⟩
      · rw [if_neg e1]
        have e1' : bt y4 k = false := by cases h : bt y4 k; rfl; exact absurd h e1
        rcases s2 with ⟨g1, g2⟩ | ⟨b, g1, g2, g3, g4⟩
        · rw [if_pos g1]
          exact ⟨(nI k, nI (k + 1)), rfl, rfl, Or.inr ⟨k, by omega, rfl, e1', fun q hq h => if h2 : q = k then by rw [h2]; exact Int32.le_refl _ else by rw [g2 q (by omega)] at h; exact Bool.noConfusion h⟩⟩
        · rw [g2, if_neg (z_nm1 (by omega)), if_pos (g_in_nI (by omega) (by decide)), nI_clamp (by omega)]
          by_cases e2 : I 123 k ≤ I 123 b
          · rw [if_pos e2]
            exact ⟨(nI b, nI (k + 1)), rfl, rfl, Or.inr ⟨b, by omega, rfl, g3, fun q hq h => if h2 : q = k then by rw [h2]; exact e2 else g4 q (by omega) h⟩⟩
          · rw [if_neg e2]
            have e3 : I 123 b ≤ I 123 k := by rw [z_leI] at e2 ⊢; omega
            exact ⟨(nI k, nI (k + 1)), rfl, rfl, Or.inr ⟨k, by omega, rfl, e1', fun q hq h => if h2 : q = k then by rw [h2]; exact Int32.le_refl _ else z_le_t (g4 q (by omega) h) e3⟩⟩)
    mn fu 0 (-1, 0) (by omega) (by unfold fu; omega) ⟨rfl, Or.inl ⟨rfl, fun q hq => absurd hq (Nat.not_lt_zero q)⟩⟩
  obtain ⟨s, e, -, s2⟩ := h
  rcases s2 with ⟨-, g2⟩ | ⟨b, g1, g2, g3, g4⟩
  · obtain ⟨q, hq, h⟩ := hf
    rw [g2 q hq] at h; exact Bool.noConfusion h
  · rw [show b_X11_tellSlices_L175 I y4 y5 K fu (-1) 0 = K s.1 from e, g2]
    exact ⟨b, g1, g3, g4, rfl⟩
theorem z_tk_c {S S' : Nat → Int32} {mn : Nat} {B B' : Nat → Bool} (h : z_tk S mn B) (hB : ∀ k, k < mn → B' k = B k) (hS : ∀ k, k < mn → S' k = S k) : z_tk S' mn B' := fun c => by
  rw [z_cnt_c (P := fun k => B' k && decide (c ≤ S' k)) (Q := fun k => B k && decide (c ≤ S k)) mn (fun k hk => by rw [hB k hk, hS k hk]), z_cnt_c (P := B') (Q := B) mn hB, z_cnt_c (P := fun k => decide (c ≤ S' k)) (Q := fun k => decide (c ≤ S k)) mn (fun k hk => by rw [hS k hk])]
  exact h c
theorem z_pb1c {ea ea' : Nat → Int32} {p : Int32} : ∀ n j : Nat, (∀ k, j ≤ k → k < j + n → ea k = ea' k) → f_pb1 ea p j n = f_pb1 ea' p j n := by
  intro n
  induction n with
  | zero => intro j _; rfl
  | succ n ih =>
    intro j h
    show (if ea j = p then nI j else f_pb1 ea p (j + 1) n) = (if ea' j = p then nI j else f_pb1 ea' p (j + 1) n)
    rw [h j (by omega) (by omega), ih (j + 1) (fun k h1 h2 => h k (by omega) (by omega))]
theorem z_tsH {J : g_I} {T : x_T} (hW : z_W T) {l : Nat} (hl : l < T.2.1.length) (hmn : J 101 40 = nI (z_mn T (z_es T l))) (hu : ∀ i, i < (z_es T l).length → J 124 i = if z_up T (z_es T l) i = -1 then nI i else z_up T (z_es T l) i) {tw ea S1 g0 : Nat → Int32} (ht : ∀ k, k < T.1.length → tw k = z_tw T k) (hea : ∀ j, j < (z_es T l).length → ea j = (z_es T l).getD j 0) (hS : ∀ j, j < z_mn T (z_es T l) → J 123 j = S1 j) (K : g_I → Option g_I) : ∃ J', b_X11_tellSlices_L130 K fu 0 (nI (z_es T l).length - 1) J = K J' ∧ (∀ a, a ≠ 125 → J' a = J a) ∧ ∀ i, i < (z_es T l).length → J' 125 i = (f_ho tw ea (f_srt S1 (z_mn T (z_es T l))) (z_mn T (z_es T l)) (z_es T l).length g0 (z_es T l).length).2 i := by
  have h8 := hW.1.1
  have hE := (hW.2.1.2 l hl).2.2.2.2
  have he6 := hE.2.1
  obtain ⟨hm1, hm6⟩ := z_mn_b hE
  have hpb : ∀ i, i < (z_es T l).length → f_pb ea (tw (ea i).toNatClampNeg) i (z_es T l).length = z_up T (z_es T l) i := fun i hi => by
    obtain ⟨p, hp, ep⟩ := hE.2.2.1 i hi
    unfold z_up f_pb
    rw [hea i hi, ep, nI_clamp (by omega), ht p hp]
    exact z_pb1c _ _ (fun k h1 h2 => hea k (by omega))
  have h := z_lp (F := fun f (s : Int32 × Int32 × g_I) => b_X11_tellSlices_L130 K f s.1 s.2.1 s.2.2) (K := fun s => K s.2.2) (N := (z_es T l).length) (fun j s => s.2.1 = nI ((z_es T l).length - j) - 1 ∧ (∀ a, a ≠ 125 → s.2.2 a = J a) ∧ z_tk S1 (z_mn T (z_es T l)) (bt s.1) ∧ ∃ q, f_ho tw ea (f_srt S1 (z_mn T (z_es T l))) (z_mn T (z_es T l)) (z_es T l).length g0 j = q ∧ z_cnt (bt s.1) (z_mn T (z_es T l)) = q.1 ∧ q.1 + z_cnt (fun i => decide (z_up T (z_es T l) i = -1)) ((z_es T l).length - j) = z_mn T (z_es T l) ∧ ∀ i, (z_es T l).length - j ≤ i → i < (z_es T l).length → s.2.2 125 i = q.2 i)
    (fun f s hP => by
      show b_X11_tellSlices_L130 K (f + 1) s.1 s.2.1 s.2.2 = K s.2.2
      unfold b_X11_tellSlices_L130
      rw [hP.1, Nat.sub_self, if_pos (show nI 0 - 1 < 0 by decide)])
    (fun f j s hj hP => by
      obtain ⟨s1, s2, s3, q, s4, s5, s6, s7⟩ := hP
      obtain ⟨i, hi⟩ : ∃ i, (z_es T l).length - j = i + 1 := ⟨(z_es T l).length - j - 1, by omega⟩
      have hil : i < (z_es T l).length := by omega
      have hx5 : s.2.1 = nI i := by rw [s1, hi]; exact nI_pred i
      have hnext : nI i + (-1) = nI ((z_es T l).length - (j + 1)) - 1 := by rw [show (z_es T l).length - (j + 1) = i by omega, Int32.sub_eq_add_neg]
      have hho : f_ho tw ea (f_srt S1 (z_mn T (z_es T l))) (z_mn T (z_es T l)) (z_es T l).length g0 (j + 1) = f_ho1 tw ea (f_srt S1 (z_mn T (z_es T l))) (z_mn T (z_es T l)) (z_es T l).length i q := by
        show f_ho1 _ _ _ _ _ ((z_es T l).length - 1 - j) (f_ho tw ea (f_srt S1 (z_mn T (z_es T l))) (z_mn T (z_es T l)) (z_es T l).length g0 j) = _
        rw [s4, show (z_es T l).length - 1 - j = i by omega]
      have h124 : s.2.2 124 i = if z_up T (z_es T l) i = -1 then nI i else z_up T (z_es T l) i := by rw [s2 124 (by decide)]; exact hu i hil
      show ∃ s', b_X11_tellSlices_L130 K (f + 1) s.1 s.2.1 s.2.2 = _ ∧ _
      rw [hi] at s6 s7
      rcases z_up_v he6 (T := T) hil with ⟨h1, h2⟩ | ⟨k, h1, h2, h3, h4⟩
      · -- he takes the largest that is left
        rw [if_pos h1] at h124
        rw [z_cnt_s, if_pos (decide_eq_true h1)] at s6
        have hfree : ∃ q, q < z_mn T (z_es T l) ∧ bt s.1 q = false := by
          by_cases e : ∃ q, q < z_mn T (z_es T l) ∧ bt s.1 q = false
          · exact e
          · exfalso
            have hall : ∀ m, m ≤ z_mn T (z_es T l) → z_cnt (bt s.1) m = m := fun m => by
              induction m with
              | zero => intro _; rfl
              | succ m ih =>
                intro hm
                rw [z_cnt_s, ih (by omega), if_pos]
                cases e2 : bt s.1 m
                · exact absurd ⟨m, by omega, e2⟩ e
                · rfl
            have := hall _ (Nat.le_refl _)
            omega
        obtain ⟨b, b1, b2, b3, b4⟩ := z_tsB (I := s.2.2) (y4 := s.1) (y5 := nI i) (by rw [s2 101 (by decide)]; exact hmn) hm6 hfree (fun (a16 : Int32) => g_let (s.1 ||| ((1 : Int32) <<< (a16 &&& 31))) fun a17 => if g_in a16 6 = true then if g_in (nI i) 6 = true then g_let (am_up s.2.2 125 (nI i).toNatClampNeg (s.2.2 123 a16.toNatClampNeg)) fun I18 => b_X11_tellSlices_L130 K f a17 (nI i + (-1)) I18 else none else none)
        have hS' : ∀ q, q < z_mn T (z_es T l) → s.2.2 123 q = S1 q := fun q hq => by rw [s2 123 (by decide)]; exact hS q hq
        obtain ⟨p1, p2, p3⟩ := z_pick s3 b1 b2 (fun k hk hk2 => by rw [← hS' k hk, ← hS' b b1]; exact b3 k hk hk2)
        have hbits : ∀ k, k < z_mn T (z_es T l) → bt (s.1 ||| ((1 : Int32) <<< (nI b &&& 31))) k = (bt s.1 k || decide (k = b)) := fun k hk => by rw [b_or, z_one (by omega) (by omega)]
        have hst : b_X11_tellSlices_L130 K (f + 1) s.1 s.2.1 s.2.2 = b_X11_tellSlices_L130 K f (s.1 ||| ((1 : Int32) <<< (nI b &&& 31))) (nI i + (-1)) (am_up s.2.2 125 i (S1 b)) := by
          conv => lhs; unfold b_X11_tellSlices_L130
          rw [hx5, if_neg (nI_pos (by omega)), if_pos (g_in_nI (by omega) (by decide)), nI_clamp (by omega), h124, if_pos rfl]
          rw [nI_clamp (show i < 2 ^ 31 by omega)] at b4
          rw [b4, z_gl, if_pos (g_in_nI (by omega) (by decide)), if_pos (g_in_nI (by omega) (by decide)), z_gl, nI_clamp (by omega), hS' b b1]
        have hq1 : f_ho1 tw ea (f_srt S1 (z_mn T (z_es T l))) (z_mn T (z_es T l)) (z_es T l).length i q = (q.1 + 1, upd q.2 i (f_srt S1 (z_mn T (z_es T l)) q.1)) := by
          unfold f_ho1
          rw [hpb i hil, if_pos h1, if_neg (nI_ge (by omega) (by omega))]
        refine ⟨(s.1 ||| ((1 : Int32) <<< (nI b &&& 31)), nI i + (-1), am_up s.2.2 125 i (S1 b)), hst, hnext, fun a ha => ?_, z_tk_c p2 hbits (fun _ _ => rfl), _, hho.trans hq1, ?_, ?_, fun i' h5 h6 => ?_⟩
        · show am_up s.2.2 125 i (S1 b) a = J a
          rw [am_up_o _ _ _ _ ha]; exact s2 a ha
        · show z_cnt (bt (s.1 ||| ((1 : Int32) <<< (nI b &&& 31)))) _ = q.1 + 1
          rw [z_cnt_c _ hbits, p3, s5]
        · show q.1 + 1 + z_cnt _ ((z_es T l).length - (j + 1)) = _
          rw [show (z_es T l).length - (j + 1) = i by omega]; omega
        · show am_up s.2.2 125 i (S1 b) 125 i' = upd q.2 i _ i'
          by_cases e : i' = i
          · rw [e, up_eq, pk_us, p1, s5]
          · rw [up_ne e, upd_o e]; exact s7 i' (by omega) h6
      · -- he shares his twin's
        rw [h4, if_neg (z_nm1 (by omega))] at h124
        have hcn : z_cnt (fun i => decide (z_up T (z_es T l) i = -1)) (i + 1) = z_cnt (fun i => decide (z_up T (z_es T l) i = -1)) i := by rw [z_cnt_s, if_neg (fun h => by have := of_decide_eq_true h; rw [h4] at this; exact z_nm1 (by omega) this)]
        rw [hcn] at s6
        have hst : b_X11_tellSlices_L130 K (f + 1) s.1 s.2.1 s.2.2 = b_X11_tellSlices_L130 K f s.1 (nI i + (-1)) (am_up s.2.2 125 i (q.2 k)) := by
          conv => lhs; unfold b_X11_tellSlices_L130
          rw [hx5, if_neg (nI_pos (by omega)), if_pos (g_in_nI (by omega) (by decide)), nI_clamp (by omega), h124, if_neg (fun h => by have := (nI_eq (by omega) (by omega)).mp h; omega), if_pos (g_in_nI (by omega) (by decide)), if_pos (g_in_nI (by omega) (by decide)), if_pos (g_in_nI (by omega) (by decide)), z_gl, nI_clamp (by omega), s7 k (by omega) h2]
        have hq1 : f_ho1 tw ea (f_srt S1 (z_mn T (z_es T l))) (z_mn T (z_es T l)) (z_es T l).length i q = (q.1, upd q.2 i (q.2 k)) := by
          unfold f_ho1
          rw [hpb i hil, h4, if_neg (z_nm1 (by omega)), nI_clamp (by omega)]
        refine ⟨(s.1, nI i + (-1), am_up s.2.2 125 i (q.2 k)), by show b_X11_tellSlices_L130 K (f + 1) s.1 s.2.1 s.2.2 = b_X11_tellSlices_L130 K f s.1 (nI i + (-1)) (am_up s.2.2 125 i (q.2 k)); exact hst, hnext, fun a ha => ?_, s3, _, hho.trans hq1, s5, ?_, fun i' h5 h6 => ?_⟩
        · show am_up s.2.2 125 i (q.2 k) a = J a
          rw [am_up_o _ _ _ _ ha]; exact s2 a ha
        · show q.1 + z_cnt _ ((z_es T l).length - (j + 1)) = _
          rw [show (z_es T l).length - (j + 1) = i by omega]; exact s6
        · show am_up s.2.2 125 i (q.2 k) 125 i' = upd q.2 i _ i'
          by_cases e : i' = i
          · rw [e, up_eq, pk_us]
          · rw [up_ne e, upd_o e]; exact s7 i' (by omega) h6)
    (z_es T l).length fu 0 (0, nI (z_es T l).length - 1, J) (by omega) (by unfold fu; omega) ⟨rfl, fun _ _ => rfl, fun c => by
      have e0 : ∀ Q : Nat → Bool, z_cnt (fun k => bt 0 k && Q k) (z_mn T (z_es T l)) = 0 := fun Q => z_cnt_0 _ (fun k _ => by rw [b_0]; rfl)
      have e1 : z_cnt (bt 0) (z_mn T (z_es T l)) = 0 := z_cnt_0 _ (fun k _ => b_0 k)
      show z_cnt (fun k => bt 0 k && decide (c ≤ S1 k)) _ = Nat.min (z_cnt (bt 0) _) _
      rw [e0, e1]; exact (Nat.zero_min _).symm, (0, g0), rfl, z_cnt_0 _ (fun k _ => b_0 k), by show 0 + z_cnt _ ((z_es T l).length - 0) = _; rw [Nat.sub_zero, Nat.zero_add]; rfl, fun i h1 h2 => by omega⟩
  obtain ⟨s, e, -, s2, -, q, s4, -, -, s7⟩ := h
  rw [s4]
  exact ⟨s.2.2, e, s2, fun i hi => s7 i (by omega) hi⟩
