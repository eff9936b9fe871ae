/-! PURE: THE RULE'S VALUE -/
theorem z_nine {c : Int32} (h : ¬ (0 ≤ c ∨ c ≤ -10)) : c = -1 ∨ c = -2 ∨ c = -3 ∨ c = -4 ∨ c = -5 ∨ c = -6 ∨ c = -7 ∨ c = -8 ∨ c = -9 := by
  rw [z_leI, z_leI, show (0 : Int32).toInt = 0 by decide, show (-10 : Int32).toInt = -10 by decide] at h
  have e : ∀ d : Int32, c.toInt = d.toInt → c = d := fun d h => Int32.toInt_inj.mp h
  have h2 : c.toInt = -1 ∨ c.toInt = -2 ∨ c.toInt = -3 ∨ c.toInt = -4 ∨ c.toInt = -5 ∨ c.toInt = -6 ∨ c.toInt = -7 ∨ c.toInt = -8 ∨ c.toInt = -9 := by omega
  rcases h2 with h | h | h | h | h | h | h | h | h
  · exact Or.inl (e (-1) h)
  · exact Or.inr (Or.inl (e (-2) h))
  · exact Or.inr (Or.inr (Or.inl (e (-3) h)))
  · exact Or.inr (Or.inr (Or.inr (Or.inl (e (-4) h))))
  · exact Or.inr (Or.inr (Or.inr (Or.inr (Or.inl (e (-5) h)))))
  · exact Or.inr (Or.inr (Or.inr (Or.inr (Or.inr (Or.inl (e (-6) h))))))
  · exact Or.inr (Or.inr (Or.inr (Or.inr (Or.inr (Or.inr (Or.inl (e (-7) h)))))))
  · exact Or.inr (Or.inr (Or.inr (Or.inr (Or.inr (Or.inr (Or.inr (Or.inl (e (-8) h))))))))
  · exact Or.inr (Or.inr (Or.inr (Or.inr (Or.inr (Or.inr (Or.inr (Or.inr (e (-9) h))))))))
theorem z_rk {c : Int32} (h : c = -1 ∨ c = -2 ∨ c = -4 ∨ c = -5 ∨ c = -6 ∨ c = -7 ∨ c = -8 ∨ c = -9) (a b : Int32) : b_X11_reckon (z_sg c) a b = f_jn c a b ∧ z_sg c ≤ -20 ∧ ¬ z_sg c = -28 := by
  have hn : ∀ x y : Int32, (if y ≤ x then (0 : Int32) else 1) = kb (decide (x < y)) := fun x y => by
    by_cases q : y ≤ x
    · rw [if_pos q, decide_eq_false (fun h => by rw [z_leI] at q; rw [z_lI] at h; omega)]; rfl
    · rw [if_neg q, decide_eq_true (show x < y by rw [z_leI] at q; rw [z_lI]; omega)]; rfl
  rcases h with rfl | rfl | rfl | rfl | rfl | rfl | rfl | rfl
  · refine ⟨?_, by decide, by decide⟩
    show (if a = 0 then (if b = 0 then (0 : Int32) else 1) else 1) = kb (decide (¬ a = 0) || decide (¬ b = 0))
    by_cases x : a = 0 <;> by_cases y : b = 0 <;> simp [x, y, kb]
  · refine ⟨?_, by decide, by decide⟩
    show (if a = 0 then (0 : Int32) else if b = 0 then 0 else 1) = kb (decide (¬ a = 0) && decide (¬ b = 0))
    by_cases x : a = 0 <;> by_cases y : b = 0 <;> simp [x, y, kb]
  · refine ⟨?_, by decide, by decide⟩
    show (if b ≤ a then (0 : Int32) else 1) = kb (decide (a < b))
    exact hn a b
  · refine ⟨?_, by decide, by decide⟩
    show (if a = b then (1 : Int32) else 0) = kb (decide (a = b))
    by_cases x : a = b <;> simp [x, kb]
  · exact ⟨rfl, by decide, by decide⟩
  · exact ⟨rfl, by decide, by decide⟩
  · exact ⟨rfl, by decide, by decide⟩
  · exact ⟨rfl, by decide, by decide⟩
/-- the value of the rule, in the class's stack and in the reference's -/
theorem z_value {J : g_I} {T : x_T} (hW : z_Wr T) (hR : z_Rr J T) {vs ss S0 : Nat → Int32} (hv : ∀ i, i < 6 → J 121 i = vs i) (hs : ∀ k, k < T.2.2.2.2.length → ss k = T.2.2.2.2.getD k 0) (hne : 0 < T.2.2.2.2.length) : ∃ J', b_X11_valueNow J = some ((f_ev vs ss S0 T.2.2.2.2.length).2 0, J') ∧ ∀ a, a ≠ 122 → J' a = J a := by
  obtain ⟨h600, h15, hf, hht⟩ := hW
  unfold b_X11_valueNow
  have h := z_lp (F := fun f (s : Int32 × Int32 × g_I) => b_X11_valueNow_L4 (fun (I7 : g_I) => some (I7 122 0, I7)) f s.1 s.2.1 s.2.2) (K := fun s => some (s.2.2 122 0, s.2.2)) (N := T.2.2.2.2.length) (fun i s => s.2.1 = nI i ∧ (∀ a, a ≠ 122 → s.2.2 a = J a) ∧ ∃ q, f_ev vs ss S0 i = q ∧ s.1 = nI q.1 ∧ q.1 ≤ 64 ∧ (0 < i → 1 ≤ q.1) ∧ (∃ z, z_ht (T.2.2.2.2.drop i) q.1 = some z) ∧ ∀ k, k < q.1 → s.2.2 122 k = q.2 k)
    (fun f s hP => by
      show b_X11_valueNow_L4 _ (f + 1) s.1 s.2.1 s.2.2 = _
      unfold b_X11_valueNow_L4
      rw [hP.2.1 104 (by decide), hR.1, hP.1, if_pos (Int32.le_refl _)])
    (fun f i s hi hP => by
      obtain ⟨s1, s2, q, s3, s4, s5, s6, ⟨z, s7⟩, s8⟩ := hP
      have hev : f_ev vs ss S0 (i + 1) = f_ev1 vs (T.2.2.2.2.getD i 0) q := by
        show f_ev1 vs (ss i) (f_ev vs ss S0 i) = _
        rw [hs i hi, s3]
      have hc : (T.2.2.2.2.getD i 0) ∈ T.2.2.2.2 := by rw [z_gd hi]; exact List.getElem_mem hi
      have hd : T.2.2.2.2.drop i = (T.2.2.2.2.getD i 0) :: T.2.2.2.2.drop (i + 1) := by rw [List.drop_eq_getElem_cons hi, z_gd hi]
      have h15c := h15 _ hc
      generalize T.2.2.2.2.getD i 0 = c at hev hd h15c
      have hsg : s.2.2 115 i = z_sg c ∨ True := Or.inr trivial
      rw [hd] at s7
      have h115 : s.2.2 115 i = z_sg (T.2.2.2.2.getD i 0) := by rw [s2 115 (by decide)]; exact hR.2 i hi
      have hcc : T.2.2.2.2.getD i 0 = c := by rw [z_gd hi]; have := hd; rw [List.drop_eq_getElem_cons hi] at this; exact (List.cons.inj this).1
      rw [hcc] at h115
      have hstep : b_X11_valueNow_L4 (fun (I7 : g_I) => some (I7 122 0, I7)) (f + 1) s.1 s.2.1 s.2.2 = (if z_sg c ≤ (-20) then if z_sg c = (-28) then if g_in (s.1 - 1) 64 = true then if (s.2.2 122 (s.1 - 1).toNatClampNeg) = 0 then if g_in (s.1 - 1) 64 = true then b_X11_valueNow_L4 (fun (I7 : g_I) => some (I7 122 0, I7)) f s.1 (nI (i + 1)) (am_up s.2.2 122 (s.1 - 1).toNatClampNeg 1) else none else if g_in (s.1 - 1) 64 = true then b_X11_valueNow_L4 (fun (I7 : g_I) => some (I7 122 0, I7)) f s.1 (nI (i + 1)) (am_up s.2.2 122 (s.1 - 1).toNatClampNeg 0) else none else none else if g_in ((s.1 + (-1)) - 1) 64 = true then if g_in (s.1 + (-1)) 64 = true then if g_in ((s.1 + (-1)) - 1) 64 = true then b_X11_valueNow_L4 (fun (I7 : g_I) => some (I7 122 0, I7)) f (s.1 + (-1)) (nI (i + 1)) (am_up s.2.2 122 ((s.1 + (-1)) - 1).toNatClampNeg (b_X11_reckon (z_sg c) (s.2.2 122 ((s.1 + (-1)) - 1).toNatClampNeg) (s.2.2 122 (s.1 + (-1)).toNatClampNeg))) else none else none else none else if z_sg c < 0 then if g_in (((-1) : Int32) - z_sg c) 6 = true then if g_in s.1 64 = true then b_X11_valueNow_L4 (fun (I7 : g_I) => some (I7 122 0, I7)) f (s.1 + 1) (nI (i + 1)) (am_up s.2.2 122 s.1.toNatClampNeg (s.2.2 121 (((-1) : Int32) - z_sg c).toNatClampNeg)) else none else none else if g_in s.1 64 = true then b_X11_valueNow_L4 (fun (I7 : g_I) => some (I7 122 0, I7)) f (s.1 + 1) (nI (i + 1)) (am_up s.2.2 122 s.1.toNatClampNeg (z_sg c)) else none) := by
        conv => lhs; unfold b_X11_valueNow_L4
        simp only [g_let]
        rw [s2 104 (by decide), hR.1, s1, if_neg (nI_ge hi (by omega)), if_pos (g_in_nI (by omega) (by decide)), nI_clamp (by omega), h115, nI_1]
      show ∃ s', b_X11_valueNow_L4 _ (f + 1) s.1 s.2.1 s.2.2 = _ ∧ _
      rw [hstep, s4]
      by_cases e1 : 0 ≤ c ∨ c ≤ -10
      · -- a number or a value is put on the stack
        have e64 : q.1 < 64 := by
          unfold z_ht at s7
          rw [if_pos e1] at s7
          by_cases e : q.1 < 64
          · exact e
          · rw [if_neg e] at s7; cases s7
        have s7' : z_ht (T.2.2.2.2.drop (i + 1)) (q.1 + 1) = some z := by
          unfold z_ht at s7
          rw [if_pos e1, if_pos e64] at s7; exact s7
        have hev2 : f_ev vs ss S0 (i + 1) = (q.1 + 1, upd q.2 q.1 (if c < 0 then f_vo vs (-10 - c) else c)) := by
          rw [hev]
          unfold f_ev1
          rw [if_pos (show 0 ≤ c ∨ ¬ -10 < c from e1.imp id (fun h h2 => by rw [z_leI] at h; rw [z_lI] at h2; omega)), if_neg (show ¬ (64 : Int32) ≤ nI q.1 from nI_ge (b := 64) e64 (by omega))]
        have fin : ∀ v : Int32, v = (if c < 0 then f_vo vs (-10 - c) else c) → ∃ s', b_X11_valueNow_L4 (fun (I7 : g_I) => some (I7 122 0, I7)) f (nI q.1 + 1) (nI (i + 1)) (am_up s.2.2 122 (nI q.1).toNatClampNeg v) = (fun f (s : Int32 × Int32 × g_I) => b_X11_valueNow_L4 (fun (I7 : g_I) => some (I7 122 0, I7)) f s.1 s.2.1 s.2.2) f s' ∧ (s'.2.1 = nI (i + 1) ∧ (∀ a, a ≠ 122 → s'.2.2 a = J a) ∧ ∃ q, f_ev vs ss S0 (i + 1) = q ∧ s'.1 = nI q.1 ∧ q.1 ≤ 64 ∧ (0 < i + 1 → 1 ≤ q.1) ∧ (∃ z, z_ht (T.2.2.2.2.drop (i + 1)) q.1 = some z) ∧ ∀ k, k < q.1 → s'.2.2 122 k = q.2 k) := by
          intro v hv9
          refine ⟨(nI (q.1 + 1), nI (i + 1), am_up s.2.2 122 q.1 v), by rw [nI_1, nI_clamp (by omega)], rfl, fun a ha => by show am_up s.2.2 122 q.1 v a = J a; rw [am_up_o _ _ _ _ ha]; exact s2 a ha, _, hev2, rfl, by show q.1 + 1 ≤ 64; omega, fun _ => by show 1 ≤ q.1 + 1; omega, ⟨z, s7'⟩, fun k hk => ?_⟩
          show am_up s.2.2 122 q.1 v 122 k = upd q.2 q.1 _ k
          rw [am_up_s]
          by_cases e : k = q.1
          · rw [e, pk_us, pk_us, hv9]
          · rw [upd_o e, upd_o e]; exact s8 k (by have : k < q.1 + 1 := hk; omega)
        by_cases e0 : 0 ≤ c
        · have es : z_sg c = c := by unfold z_sg; rw [if_pos e0]
          have el : ¬ c < 0 := fun h => by rw [z_leI] at e0; rw [z_lI] at h; omega
          have n20 : ¬ c ≤ -20 := fun h => by
            rw [z_leI, show (-20 : Int32).toInt = -20 by decide] at h
            rw [z_leI, show (0 : Int32).toInt = 0 by decide] at e0
            omega
          rw [es, if_neg n20, if_neg el, if_pos (g_in_nI e64 (by decide))]
          exact fin c (by rw [if_neg el])
        · have hc10 : c ≤ -10 := e1.resolve_left e0
          have es : z_sg c = c + 9 := by unfold z_sg; rw [if_neg e0, if_pos hc10]
          have t1 : (-15 : Int32).toInt = -15 := by decide
          have t2 : (-10 : Int32).toInt = -10 := by decide
          have b1 : -15 ≤ c.toInt := by rw [z_leI, t1] at h15c; exact h15c
          have b2 : c.toInt ≤ -10 := by rw [z_leI, t2] at hc10; exact hc10
          have hlist : c = -15 ∨ c = -14 ∨ c = -13 ∨ c = -12 ∨ c = -11 ∨ c = -10 := by
            have e : ∀ d : Int32, c.toInt = d.toInt → c = d := fun d h => Int32.toInt_inj.mp h
            have h2 : c.toInt = -15 ∨ c.toInt = -14 ∨ c.toInt = -13 ∨ c.toInt = -12 ∨ c.toInt = -11 ∨ c.toInt = -10 := by omega
            rcases h2 with h | h | h | h | h | h
            · exact Or.inl (e (-15) h)
            · exact Or.inr (Or.inl (e (-14) h))
            · exact Or.inr (Or.inr (Or.inl (e (-13) h)))
            · exact Or.inr (Or.inr (Or.inr (Or.inl (e (-12) h))))
            · exact Or.inr (Or.inr (Or.inr (Or.inr (Or.inl (e (-11) h)))))
            · exact Or.inr (Or.inr (Or.inr (Or.inr (Or.inr (e (-10) h)))))
          have hval : ¬ z_sg c ≤ -20 ∧ z_sg c < 0 ∧ c < 0 ∧ ∃ j, j < 6 ∧ ((-1 : Int32) - z_sg c) = nI j ∧ f_vo vs (-10 - c) = vs j := by
            rw [es]
            rcases hlist with rfl | rfl | rfl | rfl | rfl | rfl
            · exact ⟨by decide, by decide, by decide, 5, by decide, by decide, rfl⟩
            · exact ⟨by decide, by decide, by decide, 4, by decide, by decide, rfl⟩
            · exact ⟨by decide, by decide, by decide, 3, by decide, by decide, rfl⟩
            · exact ⟨by decide, by decide, by decide, 2, by decide, by decide, rfl⟩
            · exact ⟨by decide, by decide, by decide, 1, by decide, by decide, rfl⟩
            · exact ⟨by decide, by decide, by decide, 0, by decide, by decide, rfl⟩
          obtain ⟨v1, v2, v3, j, v4, v5, v6⟩ := hval
          rw [if_neg v1, if_pos v2, v5, if_pos (g_in_nI v4 (by decide)), if_pos (g_in_nI e64 (by decide)), nI_clamp (show j < 2 ^ 31 by omega), s2 121 (by decide), hv j v4]
          exact fin (vs j) (by rw [if_pos v3, v6])
      · by_cases e3 : c = -3
        · -- not
          have h1q : 1 ≤ q.1 := by
            unfold z_ht at s7
            rw [if_neg e1, if_pos e3] at s7
            by_cases e : 1 ≤ q.1
            · exact e
            · rw [if_neg e] at s7; cases s7
          have s7' : z_ht (T.2.2.2.2.drop (i + 1)) q.1 = some z := by
            unfold z_ht at s7
            rw [if_neg e1, if_pos e3, if_pos h1q] at s7; exact s7
          have hsub : nI q.1 - 1 = nI (q.1 - 1) := nI_subI (a := 1) h1q
          have hev2 : f_ev vs ss S0 (i + 1) = (q.1, upd q.2 (q.1 - 1) (if ¬ q.2 (q.1 - 1) = 0 then 0 else 1)) := by
            rw [hev]
            unfold f_ev1
            rw [if_neg (show ¬ (0 ≤ c ∨ ¬ -10 < c) from fun h => e1 (h.imp id (fun h2 => by rw [z_lI] at h2; rw [z_leI]; omega))), if_neg (fun h => h e3), if_neg (show ¬ nI q.1 < 1 from nI_nlt (b := 1) h1q (by omega))]
          rw [e3, if_pos (show z_sg (-3) ≤ -20 by decide), if_pos (show z_sg (-3) = -28 by decide), hsub, if_pos (g_in_nI (by omega) (by decide)), nI_clamp (by omega), if_pos (g_in_nI (by omega) (by decide)), if_pos (g_in_nI (by omega) (by decide)), s8 (q.1 - 1) (by omega)]
          have key : ∀ v : Int32, v = (if ¬ q.2 (q.1 - 1) = 0 then 0 else 1) → ∃ s', b_X11_valueNow_L4 (fun (I7 : g_I) => some (I7 122 0, I7)) f (nI q.1) (nI (i + 1)) (am_up s.2.2 122 (q.1 - 1) v) = (fun f (s : Int32 × Int32 × g_I) => b_X11_valueNow_L4 (fun (I7 : g_I) => some (I7 122 0, I7)) f s.1 s.2.1 s.2.2) f s' ∧ (s'.2.1 = nI (i + 1) ∧ (∀ a, a ≠ 122 → s'.2.2 a = J a) ∧ ∃ q, f_ev vs ss S0 (i + 1) = q ∧ s'.1 = nI q.1 ∧ q.1 ≤ 64 ∧ (0 < i + 1 → 1 ≤ q.1) ∧ (∃ z, z_ht (T.2.2.2.2.drop (i + 1)) q.1 = some z) ∧ ∀ k, k < q.1 → s'.2.2 122 k = q.2 k) := by
            intro v hv9
            refine ⟨(nI q.1, nI (i + 1), am_up s.2.2 122 (q.1 - 1) v), rfl, rfl, fun a ha => by show am_up s.2.2 122 (q.1 - 1) v a = J a; rw [am_up_o _ _ _ _ ha]; exact s2 a ha, _, hev2, rfl, s5, fun _ => h1q, ⟨z, s7'⟩, fun k hk => ?_⟩
            show am_up s.2.2 122 (q.1 - 1) v 122 k = upd q.2 (q.1 - 1) _ k
            rw [am_up_s]
            by_cases e : k = q.1 - 1
            · rw [e, pk_us, pk_us, hv9]
            · rw [upd_o e, upd_o e]; exact s8 k hk
          by_cases e0 : q.2 (q.1 - 1) = 0
          · rw [if_pos e0]; exact key 1 (by rw [if_neg (fun h => h e0)])
          · rw [if_neg e0]; exact key 0 (by rw [if_pos e0])
        · -- two are joined
          have h2q : 2 ≤ q.1 := by
            unfold z_ht at s7
            rw [if_neg e1, if_neg e3] at s7
            by_cases e : 2 ≤ q.1
            · exact e
            · rw [if_neg e] at s7; cases s7
          have s7' : z_ht (T.2.2.2.2.drop (i + 1)) (q.1 - 1) = some z := by
            unfold z_ht at s7
            rw [if_neg e1, if_neg e3, if_pos h2q] at s7; exact s7
          have hcl : c = -1 ∨ c = -2 ∨ c = -4 ∨ c = -5 ∨ c = -6 ∨ c = -7 ∨ c = -8 ∨ c = -9 := by
            rcases z_nine e1 with h | h | h | h | h | h | h | h | h
            · exact Or.inl h
            · exact Or.inr (Or.inl h)
            · exact absurd h e3
            · exact Or.inr (Or.inr (Or.inl h))
            · exact Or.inr (Or.inr (Or.inr (Or.inl h)))
            · exact Or.inr (Or.inr (Or.inr (Or.inr (Or.inl h))))
            · exact Or.inr (Or.inr (Or.inr (Or.inr (Or.inr (Or.inl h)))))
            · exact Or.inr (Or.inr (Or.inr (Or.inr (Or.inr (Or.inr (Or.inl h))))))
            · exact Or.inr (Or.inr (Or.inr (Or.inr (Or.inr (Or.inr (Or.inr h))))))
          obtain ⟨r1, r2, r3⟩ := z_rk hcl (q.2 (q.1 - 2)) (q.2 (q.1 - 1))
          have hm1 : nI q.1 + (-1) = nI (q.1 - 1) := by
            have := pk_m1 (q.1 - 1)
            rw [show q.1 - 1 + 1 = q.1 by omega] at this
            exact this
          have hm2 : nI (q.1 - 1) - 1 = nI (q.1 - 2) := (nI_subI (a := 1) (by omega)).trans (congrArg nI (by omega))
          have hev2 : f_ev vs ss S0 (i + 1) = (q.1 - 1, upd q.2 (q.1 - 2) (f_jn c (q.2 (q.1 - 2)) (q.2 (q.1 - 1)))) := by
            rw [hev]
            unfold f_ev1
            rw [if_neg (show ¬ (0 ≤ c ∨ ¬ -10 < c) from fun h => e1 (h.imp id (fun h2 => by rw [z_lI] at h2; rw [z_leI]; omega))), if_pos e3, if_neg (show ¬ nI q.1 < 2 from nI_nlt (b := 2) h2q (by omega))]
          rw [if_pos r2, if_neg r3, hm1, hm2, if_pos (g_in_nI (by omega) (by decide)), if_pos (g_in_nI (by omega) (by decide)), if_pos (g_in_nI (by omega) (by decide)), nI_clamp (by omega), nI_clamp (by omega), s8 (q.1 - 2) (by omega), s8 (q.1 - 1) (by omega), r1]
          refine ⟨(nI (q.1 - 1), nI (i + 1), am_up s.2.2 122 (q.1 - 2) (f_jn c (q.2 (q.1 - 2)) (q.2 (q.1 - 1)))), rfl, rfl, fun a ha => by show am_up s.2.2 122 (q.1 - 2) _ a = J a; rw [am_up_o _ _ _ _ ha]; exact s2 a ha, _, hev2, rfl, by show q.1 - 1 ≤ 64; omega, fun _ => by show 1 ≤ q.1 - 1; omega, ⟨z, s7'⟩, fun k hk => ?_⟩
          show am_up s.2.2 122 (q.1 - 2) _ 122 k = upd q.2 (q.1 - 2) _ k
          rw [am_up_s]
          by_cases e : k = q.1 - 2
          · rw [e, pk_us, pk_us]
          · rw [upd_o e, upd_o e]; exact s8 k (by have : k < q.1 - 1 := hk; omega))
    T.2.2.2.2.length fu 0 (0, 0, J) (by omega) (by unfold fu; omega) ⟨rfl, fun _ _ => rfl, (0, S0), rfl, rfl, by show 0 ≤ 64; omega, fun h => absurd h (Nat.lt_irrefl 0), ⟨hf, by rw [List.drop_zero]; exact hht⟩, fun k hk => absurd hk (Nat.not_lt_zero k)⟩
  obtain ⟨s, e, -, s2, q, s3, -, -, s6, -, s8⟩ := h
  refine ⟨s.2.2, ?_, s2⟩
  rw [show b_X11_valueNow_L4 (fun (I7 : g_I) => some (I7 122 0, I7)) fu 0 0 J = some (s.2.2 122 0, s.2.2) from e, s8 0 (by have := s6 hne; omega), s3]
