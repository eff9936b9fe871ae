/-! PURE: PORTIONS, WHO CUT, THE FAIREST -/
theorem z_W_b {I : g_I} {t p l len mn j k : Nat} (hj : j < k) : ∃ w, 1 ≤ w ∧ w ≤ 99 ∧ (f_W3 I 93 t 47 p l len mn k).2.2 j = nI w := by
  have h : (f_W3 I 93 t 47 p l len mn k).2.2 j = (f_W3 I 93 t 47 p l len mn (j + 1)).2.2 j := z_wg_s (Nat.lt_succ_self j) k hj
  rw [h]
  show ∃ w, 1 ≤ w ∧ w ≤ 99 ∧ (f_wg1 (I (t + 17)) len (f_rl (I (t + 16) 2) (I (t + 1) p)) (I (t + 1) p) mn j (f_W3 I 93 t 47 p l len mn j)).2.2 j = nI w
  unfold f_wg1
  cases f_rl (I (t + 16) 2) (I (t + 1) p)
  · show ∃ w, 1 ≤ w ∧ w ≤ 99 ∧ upd _ j (f_cl _) j = nI w
    rw [pk_us]; exact z_cl_b _
  · show ∃ w, 1 ≤ w ∧ w ≤ 99 ∧ upd _ j (f_cl _) j = nI w
    rw [pk_us]; exact z_cl_b _
theorem z_sum_b {W : Nat → Int32} : ∀ n : Nat, (∀ j, j < n → ∃ w, 1 ≤ w ∧ w ≤ 99 ∧ W j = nI w) → ∃ s, n ≤ s ∧ s ≤ 99 * n ∧ f_sum W n = nI s := by
  intro n
  induction n with
  | zero => intro _; exact ⟨0, by omega, by omega, rfl⟩
  | succ n ih =>
    intro h
    obtain ⟨s, h1, h2, h3⟩ := ih (fun j hj => h j (by omega))
    obtain ⟨w, w1, w2, w3⟩ := h n (by omega)
    refine ⟨s + w, by omega, by omega, ?_⟩
    show f_sum W n + W n = _
    rw [h3, w3, nI_add]
theorem z_tellSlices {I J : g_I} {t : Nat} {T : x_T} (hW : z_W T) (hT : k_tw I t T) (hR : z_R J T) {p l : Nat} (hp : p < T.1.length) (hl : l < T.2.1.length) (hth : I 50 p = J 119 p) : ∃ J', b_X11_tellSlices J (nI p) (nI l) = some J' ∧ (∀ a, a ≠ 101 → (a < 121 ∨ 125 < a) → J' a = J a) ∧ (∀ k, k ≠ 40 → k ≠ 41 → J' 101 k = J 101 k) ∧ J' 101 40 = nI (z_mn T (z_es T l)) ∧ J' 101 41 = f_c1 I 93 t 47 p l T.2.2.2.2.length (z_mn T (z_es T l)) (z_mn T (z_es T l)) ∧ (∀ j, j < z_mn T (z_es T l) → J' 123 j = f_S1 I 93 t 47 p l T.2.2.2.2.length (z_mn T (z_es T l)) (z_mn T (z_es T l)) j) ∧ ∀ i, i < (z_es T l).length → J' 125 i = f_G2 I 93 t 47 p l T.2.2.2.2.length (z_mn T (z_es T l)) (z_es T l).length i := by
  have h8 := hW.1.1
  have h6 := hW.2.1.1
  have hE := (hW.2.1.2 l hl).2.2.2.2
  obtain ⟨hm1, hm6⟩ := z_mn_b hE
  obtain ⟨l1, l2, l3, l4, l5, l6, l7, l8⟩ := hT.2.1.2.2 l hl
  obtain ⟨J1, e1, a1, b1, c1, d1⟩ := z_tellUnits hW hR hl
  have hR1 : z_R J1 T := z_R_o hR (fun a h1 h2 h3 => a1 a (by omega) (by omega))
  obtain ⟨sm, sm1, sm2, sm3⟩ := z_sum_b (W := (f_W3 I 93 t 47 p l T.2.2.2.2.length (z_mn T (z_es T l)) (z_mn T (z_es T l))).2.2) (z_mn T (z_es T l)) (fun j hj => z_W_b hj)
  have hs0 : 0 < f_sum (f_W3 I 93 t 47 p l T.2.2.2.2.length (z_mn T (z_es T l)) (z_mn T (z_es T l))).2.2 (z_mn T (z_es T l)) := by rw [sm3]; exact nI_lt (a := 0) (by omega) (by omega)
  unfold b_X11_tellSlices
  rw [e1]
  simp only [g_bind]
  obtain ⟨J2, e2, a2, b2⟩ := z_tsW (I := I) (J := J1) (t := t) hW hT hR1 hp hl (by rw [a1 119 (by decide) (by decide)]; exact hth) c1 hm6 (fun (a9 : Int32) (I10 : g_I) => if g_in (nI l) 12 = true then g_let (am_up I10 101 41 (I10 109 (nI l).toNatClampNeg)) fun I11 => b_X11_tellSlices_L63 (nI l) a9 (fun (I14 : g_I) => if g_in (nI l) 12 = true then g_let ((I14 112 (nI l).toNatClampNeg) - 1) fun a15 => b_X11_tellSlices_L130 (fun (I20 : g_I) => some I20) fu 0 a15 I14 else none) fu 0 I11 else none)
  rw [e2, if_pos (g_in_nI (by omega) (by decide)), z_gl, nI_clamp (by omega)]
  have hR2 : z_R (am_up J2 101 41 (J2 109 l)) T := z_R_o hR1 (fun a h1 h2 h3 => by rw [am_up_o _ _ _ _ (by omega)]; exact a2 a (by omega) (by omega) (by omega))
  have h109 : J2 109 l = (z_ll T l).1.2.1 := by rw [a2 109 (by decide) (by decide) (by decide)]; exact (hR1.2.1.2 l hl).2.1
  obtain ⟨J4, e4, a4, b4, c4, d4⟩ := z_tsQ (J := am_up J2 101 41 (J2 109 l)) hW hR2 hl (mn := z_mn T (z_es T l)) (by rw [up_ne (by decide), a2 101 (by decide) (by decide) (by decide)]; exact c1) hm6 (W := (f_W3 I 93 t 47 p l T.2.2.2.2.length (z_mn T (z_es T l)) (z_mn T (z_es T l))).2.2) (fun j hj => by rw [am_up_o _ _ _ _ (by decide)]; exact b2 j hj) hs0 (by rw [up_eq]; exact h109) (fun (I14 : g_I) => if g_in (nI l) 12 = true then g_let ((I14 112 (nI l).toNatClampNeg) - 1) fun a15 => b_X11_tellSlices_L130 (fun (I20 : g_I) => some I20) fu 0 a15 I14 else none)
  rw [nI_clamp (show l < 2 ^ 31 by omega)] at e4
  have h112 : J4 112 l = nI (z_es T l).length := by rw [a4 112 (by decide) (by decide)]; exact (hR2.2.1.2 l hl).2.2.2.2.1
  rw [e4, if_pos (g_in_nI (by omega) (by decide)), z_gl, h112]
  have hS1 : ∀ j, j < z_mn T (z_es T l) → f_S1 I 93 t 47 p l T.2.2.2.2.length (z_mn T (z_es T l)) (z_mn T (z_es T l)) j = f_q (z_ll T l).1.2.1 (f_sum (f_W3 I 93 t 47 p l T.2.2.2.2.length (z_mn T (z_es T l)) (z_mn T (z_es T l))).2.2 (z_mn T (z_es T l))) ((f_W3 I 93 t 47 p l T.2.2.2.2.length (z_mn T (z_es T l)) (z_mn T (z_es T l))).2.2 j) := fun j hj => by
    unfold f_S1
    rw [f_row_in hj, l2]
  obtain ⟨J5, e5, a5, b5⟩ := z_tsH (J := J4) hW hl (by rw [b4 40 (by decide), up_ne (by decide), a2 101 (by decide) (by decide) (by decide)]; exact c1) (fun i hi => by rw [a4 124 (by decide) (by decide), am_up_o _ _ _ _ (by decide), a2 124 (by decide) (by decide) (by decide)]; exact d1 i hi) (tw := I (t + 4)) (ea := fun j => I (t + 15) (6 * l + j)) (S1 := f_S1 I 93 t 47 p l T.2.2.2.2.length (z_mn T (z_es T l)) (z_mn T (z_es T l))) (g0 := I 95) (fun k hk => (hT.1.2.2 k hk).2.2.2) (fun j hj => l8 j hj) (fun j hj => by rw [d4 j hj, hS1 j hj]) (fun (I20 : g_I) => some I20)
  refine ⟨J5, e5, fun a x1 x2 => ?_, fun k k1 k2 => ?_, ?_, ?_, fun j hj => ?_, b5⟩
  · rw [a5 a (by omega), a4 a x1 (by omega), am_up_o _ _ _ _ x1, a2 a (by omega) (by omega) (by omega), a1 a x1 (by omega)]
  · rw [a5 101 (by decide), b4 k k2, up_ne k2, a2 101 (by decide) (by decide) (by decide), b1 k k1]
  · rw [a5 101 (by decide), b4 40 (by decide), up_ne (by decide), a2 101 (by decide) (by decide) (by decide)]; exact c1
  · rw [a5 101 (by decide), c4]
    unfold f_c1
    rw [l2]
  · rw [a5 123 (by decide), d4 j hj, hS1 j hj]
theorem z_cnt_ex {P : Nat → Bool} : ∀ n : Nat, 0 < z_cnt P n → ∃ k, k < n ∧ P k = true := by
  intro n
  induction n with
  | zero => intro h; exact absurd h (Nat.lt_irrefl 0)
  | succ n ih =>
    intro h
    rw [z_cnt_s] at h
    by_cases e : P n = true
    · exact ⟨n, by omega, e⟩
    · rw [if_neg e] at h
      obtain ⟨k, hk, h2⟩ := ih h
      exact ⟨k, by omega, h2⟩
theorem z_cnt_all {P : Nat → Bool} : ∀ n : Nat, (z_cnt P n = n ↔ ∀ k, k < n → P k = true) ∧ z_cnt P n ≤ n := by
  intro n
  induction n with
  | zero => exact ⟨⟨fun _ k hk => absurd hk (Nat.not_lt_zero k), fun _ => rfl⟩, Nat.le_refl 0⟩
  | succ n ih =>
    rw [z_cnt_s]
    by_cases e : P n = true
    · rw [if_pos e]
      refine ⟨⟨fun h k hk => ?_, fun h => ?_⟩, by omega⟩
      · by_cases e2 : k = n
        · rw [e2]; exact e
        · exact ih.1.mp (by omega) k (by omega)
      · have := ih.1.mpr (fun k hk => h k (by omega)); omega
    · rw [if_neg e]
      exact ⟨⟨fun h => by omega, fun h => absurd (h n (by omega)) e⟩, by omega⟩
theorem z_spread {I : g_I} {mn : Nat} (hmn : I 101 40 = nI mn) (h1 : 1 ≤ mn) (h6 : mn ≤ 6) {S : Nat → Int32} (hS : ∀ j, j < mn → I 123 j = S j) (K : Int32 → Int32 → Option (Int32 × g_I)) : b_X11_goodFor_L37 I K fu (I 123 0) (I 123 0) 1 = K (f_srt S mn 0) (f_srt S mn (mn - 1)) := by
  have h := z_lp (F := fun f (s : (Int32 × Int32) × Int32) => b_X11_goodFor_L37 I K f s.1.1 s.1.2 s.2) (K := fun s => K s.1.1 s.1.2) (N := mn - 1) (fun i s => s.2 = nI (1 + i) ∧ (∀ j, j < 1 + i → S j ≤ s.1.1) ∧ (∃ j, j < 1 + i ∧ s.1.1 = S j) ∧ (∀ j, j < 1 + i → s.1.2 ≤ S j) ∧ ∃ j, j < 1 + i ∧ s.1.2 = S j)
    (fun f s hP => by
      show b_X11_goodFor_L37 I K (f + 1) s.1.1 s.1.2 s.2 = _
      unfold b_X11_goodFor_L37
      rw [hmn, hP.1, show 1 + (mn - 1) = mn by omega, if_pos (Int32.le_refl _)])
    (fun f i s hi hP => by
      obtain ⟨s1, s2, ⟨j1, q1, q2⟩, s4, ⟨j2, q3, q4⟩⟩ := hP
      refine ⟨((g_max s.1.1 (S (1 + i)), g_min s.1.2 (S (1 + i))), nI (1 + (i + 1))), ?_, rfl, fun j hj => ?_, ?_, fun j hj => ?_, ?_⟩
      · show b_X11_goodFor_L37 I K (f + 1) s.1.1 s.1.2 s.2 = b_X11_goodFor_L37 I K f _ _ _
        conv => lhs; unfold b_X11_goodFor_L37
        rw [hmn, s1, if_neg (nI_ge (by omega) (by omega)), if_pos (g_in_nI (by omega) (by decide)), z_gl, if_pos (g_in_nI (by omega) (by decide)), z_gl, nI_clamp (by omega), hS (1 + i) (by omega), nI_1]
        rfl
      · by_cases e : j = 1 + i
        · rw [e]; exact z_mxr _ _
        · exact z_le_t (s2 j (by omega)) (z_mxl _ _)
      · rcases z_mxe s.1.1 (S (1 + i)) with h | h
        · exact ⟨j1, by omega, h.trans q2⟩
        · exact ⟨1 + i, by omega, h⟩
      · show g_min s.1.2 (S (1 + i)) ≤ S j
        unfold g_min
        by_cases e : j = 1 + i
        · rw [e]; split
          · exact Int32.le_refl _
          · next h => rw [z_lI] at h; rw [z_leI]; omega
        · have := s4 j (by omega)
          split
          · next h => rw [z_lI] at h; rw [z_leI] at this ⊢; omega
          · exact this
      · show ∃ j, j < 1 + (i + 1) ∧ g_min s.1.2 (S (1 + i)) = S j
        unfold g_min
        split
        · exact ⟨1 + i, by omega, rfl⟩
        · exact ⟨j2, by omega, q4⟩)
    (mn - 1) fu 0 ((I 123 0, I 123 0), 1) (by omega) (by unfold fu; omega) ⟨rfl, fun j hj => by rw [show j = 0 by omega, hS 0 (by omega)]; exact Int32.le_refl _, ⟨0, by omega, hS 0 (by omega)⟩, fun j hj => by rw [show j = 0 by omega, hS 0 (by omega)]; exact Int32.le_refl _, ⟨0, by omega, hS 0 (by omega)⟩⟩
  obtain ⟨s, e, -, s2, ⟨j1, q1, q2⟩, s4, ⟨j2, q3, q4⟩⟩ := h
  rw [show b_X11_goodFor_L37 I K fu (I 123 0) (I 123 0) 1 = K s.1.1 s.1.2 from e]
  have hN : ∀ c : Int32, z_cnt (fun k => decide (c ≤ f_srt S mn k)) mn = z_cnt (fun k => decide (c ≤ S k)) mn := fun c => z_srt_c (P := fun x => decide (c ≤ x)) S mn (Nat.le_refl mn)
  have hsort := z_srt_sd S mn
  have m1 : s.1.1 = f_srt S mn 0 := by
    apply z_le_a
    · rw [z_sd_n mn hsort 0 (by omega), hN]
      rcases Nat.eq_zero_or_pos (z_cnt (fun k => decide (s.1.1 ≤ S k)) mn) with h | h
      · have := z_cnt_lt (P := fun _ => false) (Q := fun k => decide (s.1.1 ≤ S k)) (b := j1) mn (by omega) (fun _ _ h => Bool.noConfusion h) (decide_eq_true (by rw [q2]; exact Int32.le_refl _)) rfl
        omega
      · exact h
    · have h := (z_sd_n (c := f_srt S mn 0) mn hsort 0 (by omega)).mp (Int32.le_refl _)
      rw [hN] at h
      obtain ⟨k, hk, h2⟩ := z_cnt_ex mn h
      exact z_le_t (of_decide_eq_true h2) (s2 k (by omega))
  have m2 : s.1.2 = f_srt S mn (mn - 1) := by
    apply z_le_a
    · rw [z_sd_n mn hsort (mn - 1) (by omega), hN]
      have := (z_cnt_all (P := fun k => decide (s.1.2 ≤ S k)) mn).1.mpr (fun k hk => decide_eq_true (s4 k (by omega)))
      omega
    · have h := (z_sd_n (c := f_srt S mn (mn - 1)) mn hsort (mn - 1) (by omega)).mp (Int32.le_refl _)
      rw [hN] at h
      have h2 := (z_cnt_all (P := fun k => decide (f_srt S mn (mn - 1) ≤ S k)) mn)
      have h3 := h2.1.mp (by have := h2.2; omega) j2 (by omega)
      rw [q4]; exact of_decide_eq_true h3
  rw [m1, m2]
/-- what one gets by somebody's cutting, or how even it is -/
theorem z_goodFor {I J : g_I} {t : Nat} {T : x_T} (hW : z_W T) (hT : k_tw I t T) (hR : z_R J T) {p l : Nat} (hp : p < T.1.length) (hl : l < T.2.1.length) (hth : I 50 p = J 119 p) (x : Int32) (hx : x = -1 ∨ ∃ i, i < (z_es T l).length ∧ x = nI i) : ∃ J', b_X11_goodFor J (nI p) (nI l) x = some ((if x = -1 then -((f_div I 93 t 47 p l T.2.2.2.2.length (z_mn T (z_es T l)) (z_es T l).length) 94 0 - (f_div I 93 t 47 p l T.2.2.2.2.length (z_mn T (z_es T l)) (z_es T l).length) 94 (z_mn T (z_es T l) - 1)) else (f_div I 93 t 47 p l T.2.2.2.2.length (z_mn T (z_es T l)) (z_es T l).length) 95 x.toNatClampNeg), J') ∧ (∀ a, a ≠ 101 → (a < 121 ∨ 125 < a) → J' a = J a) ∧ (∀ k, k ≠ 40 → k ≠ 41 → J' 101 k = J 101 k) := by
  have hE := (hW.2.1.2 l hl).2.2.2.2
  have he6 := hE.2.1
  obtain ⟨hm1, hm6⟩ := z_mn_b hE
  obtain ⟨J', e, a1, b1, c1, d1, f1, g1⟩ := z_tellSlices (I := I) (J := J) (t := t) hW hT hR hp hl hth
  refine ⟨J', ?_, a1, b1⟩
  unfold b_X11_goodFor
  rw [e]
  simp only [g_bind]
  have hD : f_div I 93 t 47 p l T.2.2.2.2.length (z_mn T (z_es T l)) (z_es T l).length 94 = f_srt (f_S1 I 93 t 47 p l T.2.2.2.2.length (z_mn T (z_es T l)) (z_mn T (z_es T l))) (z_mn T (z_es T l)) := f_w5_D
  have hC : f_div I 93 t 47 p l T.2.2.2.2.length (z_mn T (z_es T l)) (z_es T l).length 95 = f_G2 I 93 t 47 p l T.2.2.2.2.length (z_mn T (z_es T l)) (z_es T l).length := f_w5_C
  by_cases ex : x = -1
  · rw [if_pos ex, if_pos ex, z_gl, z_gl, z_spread c1 hm1 hm6 f1, hD]
    congr 2
    exact (Int32.neg_sub).symm
  · obtain ⟨i, hi, rfl⟩ := hx.resolve_left ex
    rw [if_neg ex, if_neg ex, if_pos (g_in_nI (by omega) (by decide)), nI_clamp (by omega), g1 i hi, hC]
