/-! PURE: THE REFERENCE'S ROW -/
def z_rK (J I : g_I) : Prop := (∀ a, a ≠ 101 → a ≠ 126 → a ≠ 127 → I a = J a) ∧ ∀ k, k ≠ 44 → k ≠ 46 → I 101 k = J 101 k
def z_rr (O : Nat → Bool) (m : Nat) : z_Ic → g_I → Prop
  | none, I => I 101 46 = 0
  | some i, I => I 101 46 = 1 ∧ I 101 44 = nI i.1 ∧ i.1 ≤ 100 ∧ ∀ b, b < m → I 127 b = if O b = true then nI (i.2 (z_ct O b)) else -1
theorem z_rr_o {O : Nat → Bool} {m : Nat} {inc : z_Ic} {I I' : g_I} (h : z_rr O m inc I) (h1 : I' 101 = I 101) (h2 : I' 127 = I 127) : z_rr O m inc I' := by
  cases inc with
  | none => show I' 101 46 = 0; rw [h1]; exact h
  | some i => obtain ⟨a, b, c, d⟩ := h; exact ⟨by rw [h1]; exact a, by rw [h1]; exact b, c, by rw [h2]; exact d⟩
theorem z_rowOn {J : g_I} {n m op : Nat} {O : Nat → Bool} {lo : Nat → Nat} (hol : z_ol O m op lo) (hn8 : n ≤ 8) (hm6 : m ≤ 6) (hop : op ≤ 5) (hO : ∀ b, b < m → (O b = true ↔ J 118 b = -1)) (h1040 : J 104 0 = nI n) (h1041 : J 104 1 = nI m) (hday : (∃ b, b < m ∧ O b = true) → J 101 30 = 0) {cc : Nat → Nat → Bool} {frR fr wR w : Nat → Nat → Nat} {unR un : Nat → Nat} {a9 b9 : Nat} (ha : a9 ≤ 24) (hb9 : b9 ≤ 23)
    (hcc : ∀ I, z_rK J I → ∀ p b, p < n → b < m → b_X11_canCut I (nI p) (nI b) = some (cc b p) ∧ b_X11_from I (nI p) (nI b) = some (nI (frR p b)) ∧ frR p b < 1000 ∧ b_X11_until I (nI b) = some (nI (unR b)) ∧ unR b < 1000) (habs : ∀ p b, p < n → b < m → g_abs (J 106 p - J 108 b) = nI (wR p b) ∧ wR p b ≤ 20)
    (hun : ∀ j, j < op → unR (lo j) = un j ∧ un j ≤ b9) (hfr : ∀ p j, p < n → j < op → a9 ≤ fr p j ∧ (cc (lo j) p = true → frR p (lo j) = fr p j) ∧ (cc (lo j) p = false → 50 ≤ fr p j)) (hw : ∀ p j, p < n → j < op → w p j = wR p (lo j)) :
    ∀ (f b c : Nat) (pre : Nat → Nat) (inc : z_Ic) (I : g_I), m - b < f → b ≤ m → c ≤ 20 * z_ct O b → z_rK J I → z_ty O pre b (I 126) → (∀ j, j < z_ct O b → pre j < n ∧ cc (lo j) (pre j) = true) → z_rr O m inc I → ∃ I', c_X11_rowOn f I (nI b) (nI c) = some I' ∧ z_rK J I' ∧ (∀ b', b' < b → I' 126 b' = I 126 b') ∧ z_rr O m (z_pn n w (z_F fr un op a9 b9) (op - z_ct O b) (z_ct O b) c pre inc) I' := by
  intro f
  induction f with
  | zero => intro b c pre inc I h; exact absurd h (Nat.not_lt_zero _)
  | succ f ih =>
    intro b c pre inc I hf hb hc hI hty hpre hrr
    have hop1 : op = z_ct O m := hol.1
    have hkop : z_ct O b ≤ op := by rw [hop1]; exact z_ct_mn hb
    have hunf : c_X11_rowOn (f + 1) I (nI b) (nI c) = b_X11_rowOn (c_X11_rowOn f) I (nI b) (nI c) := rfl
    -- behind the guard
    have main : z_l9 inc c = false → ∃ I', (if nI b = I 104 1 then g_let (am_up I 101 46 1) fun I16 => g_let (am_up I16 101 44 (nI c)) fun I17 => b_X11_rowOn_L38 (c_X11_rowOn f) (fun (I19 : g_I) => some I19) fu 0 I17 else if g_in (nI b) 6 = true then g_let (am_up I 126 (nI b).toNatClampNeg (-1)) fun I1 => if g_in (nI b) 6 = true then if (I1 118 (nI b).toNatClampNeg) = (-1) then b_X11_rowOn_L91 (c_X11_rowOn f) (nI b) (nI c) (fun (I12 : g_I) => some I12) fu 0 I1 else g_bind (c_X11_rowOn f I1 (nI b + 1) (nI c)) fun I14 => some I14 else none else none) = some I' ∧ z_rK J I' ∧ (∀ b', b' < b → I' 126 b' = I 126 b') ∧ z_rr O m (z_pn n w (z_F fr un op a9 b9) (op - z_ct O b) (z_ct O b) c pre inc) I' := by
      intro hl9
      by_cases hbm : b = m
      · rw [if_pos (by rw [hI.1 104 (by decide) (by decide) (by decide), h1041, hbm]), z_gl, z_gl]
        obtain ⟨I', e, o1, o2⟩ := z_cpy (F := fun f' x I => b_X11_rowOn_L38 (c_X11_rowOn f) (fun (I19 : g_I) => some I19) f' x I) (K := fun (I19 : g_I) => some I19) (I := am_up (am_up I 101 46 1) 101 44 (nI c)) (J0 := am_up (am_up I 101 46 1) 101 44 (nI c)) (c := 127) (d := 0) (N := 6) (fun i => I 126 i) (by decide)
          (fun f' I => by
            show b_X11_rowOn_L38 (c_X11_rowOn f) _ (f' + 1) (nI 6) I = _
            unfold b_X11_rowOn_L38
            rw [if_pos (show (6 : Int32) ≤ nI 6 from Int32.le_refl _)])
          (fun f' i I2 hi ho _ => by
            show b_X11_rowOn_L38 (c_X11_rowOn f) _ (f' + 1) (nI i) I2 = b_X11_rowOn_L38 (c_X11_rowOn f) _ f' (nI (i + 1)) (am_up I2 127 (0 + i) (I 126 i))
            conv => lhs; unfold b_X11_rowOn_L38
            rw [if_neg (show ¬ (6 : Int32) ≤ nI i from nI_ge (b := 6) hi (by omega)), if_pos (g_in_nI (by omega) (by decide)), if_pos (g_in_nI (by omega) (by decide)), z_gl, nI_clamp (by omega), nI_1, Nat.zero_add, ho 126 (by decide), am_up_o _ _ _ _ (show 126 ≠ 101 by decide), am_up_o _ _ _ _ (show 126 ≠ 101 by decide)])
          (fun _ _ => rfl)
        have e101 : I' 101 = am_up (am_up I 101 46 1) 101 44 (nI c) 101 := o1 101 (by decide)
        refine ⟨I', e, ⟨fun a h1 h2 h3 => by rw [o1 a h3, am_up_o _ _ _ _ h1, am_up_o _ _ _ _ h1]; exact hI.1 a h1 h2 h3, fun k h1 h2 => by rw [e101, up_ne h1, up_ne h2]; exact hI.2 k h1 h2⟩, fun b' _ => by rw [o1 126 (by decide), am_up_o _ _ _ _ (show 126 ≠ 101 by decide), am_up_o _ _ _ _ (show 126 ≠ 101 by decide)], ?_⟩
        rw [hbm, ← hop1, Nat.sub_self]
        show z_rr O m (if z_l9 inc c = true then inc else some (c, pre)) I'
        rw [if_neg (by rw [hl9]; decide)]
        refine ⟨by rw [e101, up_ne (by decide), up_eq], by rw [e101, up_eq], by show c ≤ 100; rw [hbm, ← hop1] at hc; omega, fun b' hb' => ?_⟩
        rw [o2 b', if_pos (by omega)]
        show I 126 (b' - 0) = _
        rw [Nat.sub_zero]
        exact hty b' (by omega)
      · have hlt : b < m := by omega
        rw [if_neg (by rw [hI.1 104 (by decide) (by decide) (by decide), h1041]; exact fun e => hbm ((nI_eq (by omega) (by omega)).mp e)), if_pos (g_in_nI (by omega) (by decide)), z_gl, if_pos (g_in_nI (by omega) (by decide)), nI_clamp (by omega)]
        have hk1 : z_rK J (am_up I 126 b (-1)) := ⟨fun a h1 h2 h3 => by rw [am_up_o _ _ _ _ h2]; exact hI.1 a h1 h2 h3, fun k h1 h2 => by rw [am_up_o _ _ _ _ (show 101 ≠ 126 by decide)]; exact hI.2 k h1 h2⟩
        have e118 : am_up I 126 b (-1) 118 = J 118 := hk1.1 118 (by decide) (by decide) (by decide)
        have hrr1 : z_rr O m inc (am_up I 126 b (-1)) := z_rr_o hrr (am_up_o _ _ _ _ (by decide)) (am_up_o _ _ _ _ (by decide))
        rw [e118]
        by_cases hOb : O b = true
        · rw [if_pos ((hO b hlt).mp hOb)]
          obtain ⟨k1, k2⟩ := hol.2.2.2 b hlt hOb
          have hct : z_ct O (b + 1) = z_ct O b + 1 := by rw [z_ct_s, if_pos hOb]
          have hsub : op - z_ct O b = (op - (z_ct O b + 1)) + 1 := by omega
          rw [hsub]
          have h := z_lp (F := fun f' (s : Int32 × g_I) => b_X11_rowOn_L91 (c_X11_rowOn f) (nI b) (nI c) (fun (I12 : g_I) => some I12) f' s.1 s.2) (K := fun s => some s.2) (N := n) (fun p s => s.1 = nI p ∧ z_rK J s.2 ∧ (∀ b', b' < b → s.2 126 b' = I 126 b') ∧ z_rr O m (lfold (fun p inc => if z_F fr un op a9 b9 pre (z_ct O b) p = true then z_pn n w (z_F fr un op a9 b9) (op - (z_ct O b + 1)) (z_ct O b + 1) (c + w p (z_ct O b)) (z_un pre (z_ct O b) p) inc else inc) inc p) s.2)
            (fun f' s hP => by
              show b_X11_rowOn_L91 (c_X11_rowOn f) (nI b) (nI c) _ (f' + 1) s.1 s.2 = some s.2
              unfold b_X11_rowOn_L91
              rw [hP.2.1.1 104 (by decide) (by decide) (by decide), h1040, hP.1, if_pos (Int32.le_refl _)])
            (fun f' p s hp hP => by
              obtain ⟨s1, s2, s3, s4⟩ := hP
              have hlf : lfold (fun p inc => if z_F fr un op a9 b9 pre (z_ct O b) p = true then z_pn n w (z_F fr un op a9 b9) (op - (z_ct O b + 1)) (z_ct O b + 1) (c + w p (z_ct O b)) (z_un pre (z_ct O b) p) inc else inc) inc (p + 1) = if z_F fr un op a9 b9 pre (z_ct O b) p = true then z_pn n w (z_F fr un op a9 b9) (op - (z_ct O b + 1)) (z_ct O b + 1) (c + w p (z_ct O b)) (z_un pre (z_ct O b) p) (lfold (fun p inc => if z_F fr un op a9 b9 pre (z_ct O b) p = true then z_pn n w (z_F fr un op a9 b9) (op - (z_ct O b + 1)) (z_ct O b + 1) (c + w p (z_ct O b)) (z_un pre (z_ct O b) p) inc else inc) inc p) else lfold (fun p inc => if z_F fr un op a9 b9 pre (z_ct O b) p = true then z_pn n w (z_F fr un op a9 b9) (op - (z_ct O b + 1)) (z_ct O b + 1) (c + w p (z_ct O b)) (z_un pre (z_ct O b) p) inc else inc) inc p := rfl
              generalize lfold (fun p inc => if z_F fr un op a9 b9 pre (z_ct O b) p = true then z_pn n w (z_F fr un op a9 b9) (op - (z_ct O b + 1)) (z_ct O b + 1) (c + w p (z_ct O b)) (z_un pre (z_ct O b) p) inc else inc) inc (p + 1) = i2 at hlf ⊢
              generalize lfold (fun p inc => if z_F fr un op a9 b9 pre (z_ct O b) p = true then z_pn n w (z_F fr un op a9 b9) (op - (z_ct O b + 1)) (z_ct O b + 1) (c + w p (z_ct O b)) (z_un pre (z_ct O b) p) inc else inc) inc p = i1 at hlf s4
              obtain ⟨d1, -⟩ := hcc s.2 s2 p b hp hlt
              have hk5 : z_rK J (am_up s.2 126 b (nI p)) := ⟨fun a h1 h2 h3 => by rw [am_up_o _ _ _ _ h2]; exact s2.1 a h1 h2 h3, fun k h1 h2 => by rw [am_up_o _ _ _ _ (show 101 ≠ 126 by decide)]; exact s2.2 k h1 h2⟩
              have hty5 : z_ty O pre b (am_up s.2 126 b (nI p) 126) := fun b' hb' => by rw [up_ne (by omega), s3 b' hb']; exact hty b' hb'
              obtain ⟨fr1, fr2⟩ := z_FR (frR := frR) (unR := unR) hol hn8 hm6 ha hb9 hun hfr hlt hOb hp hty5 hpre
              have hit := z_inTime (J := am_up s.2 126 b (nI p)) (p := p) (M := b + 1) (fr := frR p) (un := unR) (by omega) (fun b' hb' => by obtain ⟨-, x2, x3, -⟩ := hcc _ hk5 p b' hp (by omega); exact ⟨x2, x3⟩) (fun b' hb' => by obtain ⟨-, -, -, x4, x5⟩ := hcc _ hk5 p b' hp (by omega); exact ⟨x4, x5⟩)
              have e106 : am_up s.2 126 b (nI p) 106 = J 106 := hk5.1 106 (by decide) (by decide) (by decide)
              have e108 : am_up s.2 126 b (nI p) 108 = J 108 := hk5.1 108 (by decide) (by decide) (by decide)
              obtain ⟨w1, w2⟩ := habs p b hp hlt
              have hst : b_X11_rowOn_L91 (c_X11_rowOn f) (nI b) (nI c) (fun (I12 : g_I) => some I12) (f' + 1) s.1 s.2 = if cc b p = true then (if z_rd (frR p) unR (b + 1) 24 0 (fun b' => decide (b' < b + 1 ∧ am_up s.2 126 b (nI p) 126 b' = nI p)) = true then g_bind (c_X11_rowOn f (am_up s.2 126 b (nI p)) (nI (b + 1)) (nI (c + wR p b))) fun I10 => b_X11_rowOn_L91 (c_X11_rowOn f) (nI b) (nI c) (fun (I12 : g_I) => some I12) f' (nI (p + 1)) I10 else b_X11_rowOn_L91 (c_X11_rowOn f) (nI b) (nI c) (fun (I12 : g_I) => some I12) f' (nI (p + 1)) (am_up s.2 126 b (nI p))) else b_X11_rowOn_L91 (c_X11_rowOn f) (nI b) (nI c) (fun (I12 : g_I) => some I12) f' (nI (p + 1)) s.2 := by
                conv => lhs; unfold b_X11_rowOn_L91
                rw [s2.1 104 (by decide) (by decide) (by decide), h1040, s1, if_neg (nI_ge hp (by omega)), if_pos (by rw [s2.2 30 (by decide) (by decide)]; exact hday ⟨b, hlt, hOb⟩), d1]
                simp only [g_bind]
                rw [if_pos (g_in_nI (by omega) (by decide)), z_gl, nI_clamp (show b < 2 ^ 31 by omega), nI_1 b, hit]
                simp only []
                rw [if_pos (g_in_nI (by omega) (by decide)), if_pos (g_in_nI (by omega) (by decide)), nI_clamp (show p < 2 ^ 31 by omega), e106, e108, w1, nI_add, nI_1]
              show ∃ s' : Int32 × g_I, b_X11_rowOn_L91 (c_X11_rowOn f) (nI b) (nI c) (fun (I12 : g_I) => some I12) (f' + 1) s.1 s.2 = b_X11_rowOn_L91 (c_X11_rowOn f) (nI b) (nI c) (fun (I12 : g_I) => some I12) f' s'.1 s'.2 ∧ _
              rw [hst]
              cases hcb : cc b p
              · rw [if_neg (by decide)]
                rw [fr2 hcb, if_neg (by decide)] at hlf
                exact ⟨(nI (p + 1), s.2), rfl, rfl, s2, s3, by rw [hlf]; exact s4⟩
              · rw [if_pos rfl, fr1 hcb up_eq]
                cases hFF : z_F fr un op a9 b9 pre (z_ct O b) p
                · rw [if_neg (by decide)]
                  rw [hFF, if_neg (by decide)] at hlf
                  exact ⟨(nI (p + 1), am_up s.2 126 b (nI p)), rfl, rfl, hk5, fun b' hb' => by show am_up s.2 126 b (nI p) 126 b' = _; rw [up_ne (by omega), s3 b' hb'], by rw [hlf]; exact z_rr_o (I' := am_up s.2 126 b (nI p)) s4 (am_up_o _ _ _ _ (show 101 ≠ 126 by decide)) (am_up_o _ _ _ _ (show 127 ≠ 126 by decide))⟩
                · rw [if_pos rfl]
                  rw [hFF, if_pos rfl, hw p _ hp k1, k2] at hlf
                  obtain ⟨I', e, r1, r2, r3⟩ := ih (b + 1) (c + wR p b) (z_un pre (z_ct O b) p) i1 (am_up s.2 126 b (nI p)) (by omega) (by omega) (by rw [hct]; omega) hk5 (fun b' hb' => by
                      by_cases eb : b' = b
                      · rw [eb, up_eq, if_pos hOb, show z_un pre (z_ct O b) p (z_ct O b) = p from if_pos rfl]
                      · rw [hty5 b' (by omega)]
                        by_cases ho : O b' = true
                        · have hix : z_ct O b' < z_ct O b := by
                            have h1 := z_ct_mn (P := O) (show b' + 1 ≤ b by omega)
                            rw [z_ct_s, if_pos ho] at h1
                            omega
                          rw [if_pos ho, if_pos ho, show z_un pre (z_ct O b) p (z_ct O b') = pre (z_ct O b') from if_neg (by omega)]
                        · rw [if_neg ho, if_neg ho]) (fun j hj => by
                      rw [hct] at hj
                      by_cases ej : j = z_ct O b
                      · rw [ej, show z_un pre (z_ct O b) p (z_ct O b) = p from if_pos rfl, k2]; exact ⟨hp, hcb⟩
                      · rw [show z_un pre (z_ct O b) p j = pre j from if_neg ej]; exact hpre j (by omega)) (z_rr_o s4 (am_up_o _ _ _ _ (by decide)) (am_up_o _ _ _ _ (by decide)))
                  rw [e]
                  rw [hct] at r3
                  exact ⟨(nI (p + 1), I'), rfl, rfl, r1, fun b' hb' => (r2 b' (by omega)).trans (by rw [up_ne (by omega), s3 b' hb']), by rw [hlf]; exact r3⟩)
            n fu 0 (0, am_up I 126 b (-1)) (by omega) (by unfold fu; omega) ⟨rfl, hk1, fun b' hb' => (show am_up I 126 b (-1) 126 b' = I 126 b' from up_ne (by omega)), hrr1⟩
          obtain ⟨s, e, -, e2, e3, e4⟩ := h
          exact ⟨s.2, e, e2, e3, e4⟩
        · rw [if_neg (fun q => hOb ((hO b hlt).mpr q)), nI_1]
          have hct : z_ct O (b + 1) = z_ct O b := by rw [z_ct_s, if_neg hOb]
          obtain ⟨I', e, r1, r2, r3⟩ := ih (b + 1) c pre inc (am_up I 126 b (-1)) (by omega) (by omega) (by rw [hct]; exact hc) hk1 (fun b' hb' => by
            by_cases eb : b' = b
            · rw [eb, up_eq, if_neg hOb]
            · rw [up_ne eb]; exact hty b' (by omega)) (by rw [hct]; exact hpre) hrr1
          rw [hct] at r3
          exact ⟨I', by rw [e]; rfl, r1, fun b' hb' => (r2 b' (by omega)).trans (up_ne (by omega)), r3⟩
    rw [hunf]
    unfold b_X11_rowOn
    rw [z_gl]
    cases inc with
    | none =>
      rw [if_pos (show I 101 46 = 0 from hrr)]
      exact main rfl
    | some i =>
      obtain ⟨g1, g2, g3, g4⟩ := hrr
      rw [if_neg (by rw [g1]; decide), g2]
      have hlt : nI c < nI i.1 ↔ c < i.1 := nI_ltI (by omega) (by omega)
      by_cases c1 : c < i.1
      · rw [if_pos (hlt.mpr c1)]
        exact main (decide_eq_false (by omega))
      · rw [if_neg (fun q => c1 (hlt.mp q))]
        refine ⟨I, rfl, hI, fun _ _ => rfl, ?_⟩
        rw [z_pn_s (n := n) (w := w) (F := z_F fr un op a9 b9) (lb := fun _ => 0) (op := op) rfl (fun _ _ _ _ _ _ => Nat.zero_le _) (op - z_ct O b) (z_ct O b) c pre (some i) (by omega) (show z_l9 (some i) (c + 0) = true from decide_eq_true (show i.1 ≤ c + 0 by omega))]
        exact ⟨g1, g2, g3, g4⟩
