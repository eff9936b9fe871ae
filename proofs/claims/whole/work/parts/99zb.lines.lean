/-! PURE: LINES: MEETINGS, FORGETTING, NOON, THE RULE, BOTH WORLDS -/
theorem z_eqx {α : Type} {a b : Option α} (h : a = b) {P : α → Prop} (hb : ∃ J, b = some J ∧ P J) : ∃ J, a = some J ∧ P J := by rw [h]; exact hb
section ZLM
variable {tp : Nat → Int32} {n : Nat}
theorem x_pn_e {pn : Nat} {tk : Int32} {s : Int32 × Nat} : x_pn tp n pn tk s = x_adv tp n (if (z_pc1 tp n pn s).1 = 0 ∧ f_has tk (x_nu tp n s.2) = true then x_fail 4 s else z_pc1 tp n pn s) := by
  by_cases h0 : s.1 = 0
  · unfold x_pn z_pc1
    by_cases c1 : ¬ x_tk tp n s.2 = 2
    · rw [if_pos c1, if_pos c1, if_neg (fun r => x_fail_n (by decide) s r.1)]
    · rw [if_neg c1, if_neg c1]
      by_cases c2 : x_nu tp n s.2 = -1
      · rw [if_pos c2, if_pos c2, if_neg (fun r => x_fail_n (by decide) s r.1)]
      · rw [if_neg c2, if_neg c2]
        by_cases c3 : ¬ x_nu tp n s.2 < nI pn
        · rw [if_pos c3, if_pos c3, if_neg (fun r => x_fail_n (by decide) s r.1)]
        · rw [if_neg c3, if_neg c3]
          by_cases c4 : f_has tk (x_nu tp n s.2) = true
          · rw [if_pos c4, if_pos ⟨h0, c4⟩]
          · rw [if_neg c4, if_neg (fun r => c4 r.2)]
  · rw [x_pn_f h0, z_pc1_f h0, x_fail_f h0, ite_self, x_adv_f h0]
theorem z_nlt {x pn : Nat} (hx : x < 10000) (hpn : pn ≤ 8) (h : nI x < nI pn) : x < pn := (nI_ltI (by omega) (by omega)).mp h
theorem z_has0 {k : Nat} (hk : k < 32) : f_has 0 (nI k) = false := by rw [z_has hk, b_0]
/-- a person is read, and the next token taken -/
theorem z_per1 {J : g_I} {s : Int32 × Nat} {pn : Nat} (h : z_ps tp n J s) (hpn : J 104 6 = nI pn) (hp8 : pn ≤ 8) (K : Int32 → g_I → Option g_I) : ∃ v J', (g_bind2 (b_X11_personNow J) fun a25 I26 => if (I26 101 24) = 0 then g_bind (b_X11_stepOn I26) fun I29 => K a25 I29 else K a25 I26) = K v J' ∧ z_f1 J J' ∧ z_ps tp n J' (x_pn tp n pn 0 s) ∧ ((x_pn tp n pn 0 s).1 = 0 → ∃ x, x < pn ∧ v = nI x ∧ x_pv tp n pn 0 s = nI x) := by
  obtain ⟨v, J1, e1, f1, p1, q1⟩ := z_pwR h hpn
  rw [e1]
  simp only [g_bind2]
  by_cases c : (z_pc1 tp n pn s).1 = 0
  · obtain ⟨a1, a2, a3, a4, x, a5, a6, a7⟩ := q1 c
    have hx := z_nlt a5 hp8 a7
    have he : x_pn tp n pn 0 s = x_adv tp n (z_pc1 tp n pn s) := by
      rw [x_pn_e, if_neg (fun r => by have := r.2; rw [a6, z_has0 (by omega)] at this; exact Bool.noConfusion this)]
    obtain ⟨J2, e2, f2, p2⟩ := z_av p1 c
    have hb : J1 101 24 = 0 := by rw [p1.2.1]; exact c
    rw [if_pos hb, e2, z_gb, he]
    refine ⟨v, J2, rfl, z_f1_t f1 f2, p2, fun r => ⟨x, hx, by rw [a3, a6], ?_⟩⟩
    unfold x_pv
    rw [he, if_pos r, a6]
  · have he : x_pn tp n pn 0 s = z_pc1 tp n pn s := by rw [x_pn_e, if_neg (fun r => c r.1), x_adv_f c]
    have hb : ¬ J1 101 24 = 0 := by rw [p1.2.1]; exact c
    rw [if_neg hb, he]
    exact ⟨v, J1, rfl, f1, p1, fun r => absurd r c⟩
/-- a second one, who is another one -/
theorem z_per2 {J : g_I} {s : Int32 × Nat} {pn : Nat} (h : z_ps tp n J s) (hpn : J 104 6 = nI pn) (hp8 : pn ≤ 8) {z1 v1 : Int32} (hz : s.1 = 0 → ∃ x, x < pn ∧ z1 = nI x ∧ v1 = nI x) (K : Int32 → Int32 → g_I → Option g_I) : ∃ v J', (g_bind2 (b_X11_personNow J) fun a7 I8 => if (I8 101 24) = 0 then if z1 = a7 then g_bind (b_X11_wrong I8 4) fun I17 => if (I17 101 24) = 0 then g_bind (b_X11_stepOn I17) fun I20 => K z1 a7 I20 else K z1 a7 I17 else if (I8 101 24) = 0 then g_bind (b_X11_stepOn I8) fun I14 => K z1 a7 I14 else K z1 a7 I8 else if (I8 101 24) = 0 then g_bind (b_X11_stepOn I8) fun I11 => K z1 a7 I11 else K z1 a7 I8) = K z1 v J' ∧ z_f1 J J' ∧ z_ps tp n J' (x_pn tp n pn (x_mtk s v1) s) ∧ ((x_pn tp n pn (x_mtk s v1) s).1 = 0 → ∃ x y, x < pn ∧ y < pn ∧ x ≠ y ∧ z1 = nI x ∧ v1 = nI x ∧ v = nI y ∧ x_pv tp n pn (x_mtk s v1) s = nI y) := by
  obtain ⟨v, J1, e1, f1, p1, q1⟩ := z_pwR h hpn
  rw [e1]
  simp only [g_bind2]
  by_cases c : (z_pc1 tp n pn s).1 = 0
  · obtain ⟨a1, a2, a3, a4, y, a5, a6, a7⟩ := q1 c
    have hy := z_nlt a5 hp8 a7
    have hs0 : s.1 = 0 := by rw [a1] at c; exact c
    obtain ⟨x, hx, ez, ev⟩ := hz hs0
    have hmk : x_mtk s v1 = (1 : Int32) <<< (nI x &&& 31) := by unfold x_mtk; rw [if_pos hs0, ev]
    have hb : J1 101 24 = 0 := by rw [p1.2.1]; exact c
    have hh : f_has (x_mtk s v1) (x_nu tp n s.2) = decide (y = x) := by rw [hmk, a6, z_has (by omega), z_one (by omega) (by omega)]
    rw [if_pos hb, ez, a3, a6]
    by_cases e : y = x
    · obtain ⟨J3, e3, f3, p3⟩ := z_wr (c := 4) p1 (by decide)
      have hb3 : ¬ J3 101 24 = 0 := by rw [p3.2.1]; exact x_fail_n (by decide) _
      have he : x_pn tp n pn (x_mtk s v1) s = x_fail 4 s := by
        rw [x_pn_e, if_pos ⟨c, by rw [hh]; exact decide_eq_true e⟩, x_adv_f (x_fail_n (by decide) _)]
      rw [a1] at p3
      rw [if_pos (show nI x = nI y by rw [e]), e3, z_gb, if_neg hb3, he]
      exact ⟨nI y, J3, rfl, z_f1_t f1 f3, p3, fun r => absurd r (x_fail_n (by decide) _)⟩
    · have he : x_pn tp n pn (x_mtk s v1) s = x_adv tp n (z_pc1 tp n pn s) := by
        rw [x_pn_e, if_neg (fun r => by have := r.2; rw [hh] at this; exact e (of_decide_eq_true this))]
      obtain ⟨J2, e2, f2, p2⟩ := z_av p1 c
      rw [if_neg (show ¬ nI x = nI y from fun r => e ((nI_eq (by omega) (by omega)).mp r).symm), if_pos hb, e2, z_gb, he]
      refine ⟨nI y, J2, rfl, z_f1_t f1 f2, p2, fun r => ⟨x, y, hx, hy, fun q => e q.symm, rfl, ev, rfl, ?_⟩⟩
      unfold x_pv
      rw [he, if_pos r, a6]
  · have he : x_pn tp n pn (x_mtk s v1) s = z_pc1 tp n pn s := by rw [x_pn_e, if_neg (fun r => c r.1), x_adv_f c]
    have hb : ¬ J1 101 24 = 0 := by rw [p1.2.1]; exact c
    rw [if_neg hb, if_neg hb, he]
    exact ⟨v, J1, rfl, f1, p1, fun r => absurd r c⟩
theorem z_mt_a {ms : List x_P} {m : x_P} {x y : Nat} : z_mt (ms ++ [m]) x y = if (m.1 = nI x ∧ m.2.1 = nI y) ∨ (m.1 = nI y ∧ m.2.1 = nI x) then g_max (z_mt ms x y) (-m.2.2) else z_mt ms x y := by
  unfold z_mt
  rw [List.foldl_append]
  rfl
theorem z_mt_s (x y : Nat) : ∀ ms : List x_P, z_mt ms x y = z_mt ms y x := by
  intro ms
  unfold z_mt
  congr 1
  funext acc m
  by_cases c : (m.1 = nI x ∧ m.2.1 = nI y) ∨ (m.1 = nI y ∧ m.2.1 = nI x)
  · rw [if_pos c, if_pos c.symm]
  · rw [if_neg c, if_neg (fun r => c r.symm)]
theorem z_meetW {J : g_I} {T : x_T} (hR : z_Rh J T) (hW : z_Wk T) (hm : T.2.2.1.length < 16) {a b d : Nat} (ha : a < T.1.length) (hb : b < T.1.length) (hab : a ≠ b) (hd : d ≤ 999) {J' : g_I} (hJ : J' = am_up (am_up (am_up J 114 (64 + (8 * a + b)) (g_max (J 114 (64 + (8 * a + b))) (-nI d))) 114 (64 + (8 * b + a)) (g_max (J 114 (64 + (8 * a + b))) (-nI d))) 104 8 (nI (T.2.2.1.length + 1))) : z_Rh J' (T.1, T.2.1, T.2.2.1 ++ [(nI a, nI b, nI d)], T.2.2.2) ∧ z_Wk (T.1, T.2.1, T.2.2.1 ++ [(nI a, nI b, nI d)], T.2.2.2) := by
  have h8 := hW.1.1.1
  obtain ⟨⟨t1, t2, t3, t4, t5⟩, rl, rp, rlo, rm⟩ := hR
  have hlen : (T.2.2.1 ++ [(nI a, nI b, nI d)]).length = T.2.2.1.length + 1 := by rw [List.length_append]; rfl
  have kk : ∀ c, c ≠ 104 → c ≠ 114 → J' c = J c := fun c p q => by rw [hJ, am_up_o _ _ _ _ p, am_up_o _ _ _ _ q, am_up_o _ _ _ _ q]
  have k4 : ∀ k, k ≠ 8 → J' 104 k = J 104 k := fun k p => by rw [hJ, up_ne p, am_up_o _ _ _ _ (by decide), am_up_o _ _ _ _ (by decide)]
  refine ⟨⟨⟨by rw [k4 6 (by decide)]; exact t1, by rw [k4 7 (by decide)]; exact t2, ?_, by rw [k4 9 (by decide)]; exact t4, by rw [k4 10 (by decide)]; exact t5⟩, ⟨by rw [k4 11 (by decide)]; exact rl.1, fun k hk => by rw [kk 115 (by decide) (by decide)]; exact rl.2 k hk⟩, fun p hp => ?_, fun l hl => ?_, fun x y hx hy => ?_⟩, hW.1, by show (T.2.2.1 ++ [(nI a, nI b, nI d)]).length ≤ 16; omega, fun j hj => ?_⟩
  · rw [hJ, up_eq]
    show _ = nI (T.2.2.1 ++ [(nI a, nI b, nI d)]).length
    rw [hlen]
  · rw [kk 105 (by decide) (by decide), kk 106 (by decide) (by decide), kk 107 (by decide) (by decide)]
    exact rp p hp
  · rw [kk 108 (by decide) (by decide), kk 109 (by decide) (by decide), kk 110 (by decide) (by decide), kk 111 (by decide) (by decide), kk 112 (by decide) (by decide), kk 113 (by decide) (by decide)]
    exact rlo l hl
  · have hab0 : J 114 (64 + (8 * a + b)) = z_mt T.2.2.1 a b := by rw [← Nat.add_assoc]; exact rm a b (by omega) (by omega)
    show J' 114 (64 + 8 * x + y) = z_mt (T.2.2.1 ++ [(nI a, nI b, nI d)]) x y
    rw [z_mt_a, hJ, am_up_o _ _ _ _ (show 114 ≠ 104 by decide), hab0]
    show am_up (am_up J 114 (64 + (8 * a + b)) (g_max (z_mt T.2.2.1 a b) (-nI d))) 114 (64 + (8 * b + a)) (g_max (z_mt T.2.2.1 a b) (-nI d)) 114 (64 + 8 * x + y) = if (nI a = nI x ∧ nI b = nI y) ∨ (nI a = nI y ∧ nI b = nI x) then g_max (z_mt T.2.2.1 x y) (-nI d) else z_mt T.2.2.1 x y
    by_cases e1 : x = b ∧ y = a
    · obtain ⟨rfl, rfl⟩ := e1
      rw [show 64 + 8 * x + y = 64 + (8 * x + y) by omega, up_eq, if_pos (Or.inr ⟨rfl, rfl⟩), z_mt_s y x]
    · rw [up_ne (by omega)]
      by_cases e2 : x = a ∧ y = b
      · obtain ⟨rfl, rfl⟩ := e2
        rw [show 64 + 8 * x + y = 64 + (8 * x + y) by omega, up_eq, if_pos (Or.inl ⟨rfl, rfl⟩)]
      · rw [up_ne (by omega), rm x y hx hy, if_neg]
        rintro (⟨r1, r2⟩ | ⟨r1, r2⟩)
        · exact e2 ⟨((nI_eq (by omega) (by omega)).mp r1).symm, ((nI_eq (by omega) (by omega)).mp r2).symm⟩
        · exact e1 ⟨((nI_eq (by omega) (by omega)).mp r2).symm, ((nI_eq (by omega) (by omega)).mp r1).symm⟩
  · have hj' : j < T.2.2.1.length + 1 := by rw [← hlen]; exact hj
    show ∃ a' b' d', a' < T.1.length ∧ b' < T.1.length ∧ a' ≠ b' ∧ d' ≤ 999 ∧ (T.2.2.1 ++ [(nI a, nI b, nI d)]).getD j (0, 0, 0) = (nI a', nI b', nI d')
    by_cases e : j = T.2.2.1.length
    · subst e
      rw [z_gae]
      exact ⟨a, b, d, ha, hb, hab, hd, rfl⟩
    · rw [z_gal (by omega)]
      exact hW.2.2 j (by omega)
theorem z_meetR {J : g_I} {q : x_K} (h : z_ps tp n J q.1) (h0 : q.1.1 = 0) (hR : z_Rh J q.2.1) (hW : z_Wk q.2.1) : ∃ J', b_X11_readMet J = some J' ∧ z_f3 J J' ∧ z_ps tp n J' (x_meet tp n q).1 ∧ ((x_meet tp n q).1.1 = 0 → z_Rh J' (x_meet tp n q).2.1 ∧ z_Wk (x_meet tp n q).2.1) := by
  have h8 := hW.1.1.1
  have h16 := hW.2.1
  generalize hs1 : x_me1 tp n q.1 q.2.1.2.2.1 = s1
  generalize hs2 : x_pn tp n q.2.1.1.length 0 s1 = s2
  generalize hv1 : x_pv tp n q.2.1.1.length 0 s1 = v1
  generalize hs3 : x_pn tp n q.2.1.1.length (x_mtk s2 v1) s2 = s3
  have hx : x_meet tp n q = (x_rn tp n 0 999 s3, (if (x_rn tp n 0 999 s3).1 = 0 then (q.2.1.1, q.2.1.2.1, q.2.1.2.2.1 ++ [(v1, x_pv tp n q.2.1.1.length (x_mtk s2 v1) s2, x_rv tp n 0 999 s3)], q.2.1.2.2.2) else q.2.1), q.2.2) := by
    unfold x_meet
    rw [hs1]
    dsimp only
    rw [hs2, hv1, hs3]
  unfold b_X11_readMet
  rw [z_gl, z_gl, z_gl, hR.1.2.2.1]
  by_cases c16 : q.2.1.2.2.1.length = 16
  · obtain ⟨J1, e1, f1, p1⟩ := z_wr (c := 2) h (by decide)
    have hb : ¬ J1 101 24 = 0 := by rw [p1.2.1]; exact x_fail_n (by decide) _
    have hf := x_fail_n (c := 2) (by decide) q.1
    have e : s1 = x_fail 2 q.1 := by rw [← hs1]; unfold x_me1; rw [if_pos (by omega), x_adv_f hf]
    have e2 : s2 = x_fail 2 q.1 := by rw [← hs2, e, x_pn_f hf]
    have e3 : s3 = x_fail 2 q.1 := by rw [← hs3, e2, x_pn_f hf]
    have e4 : (x_meet tp n q).1 = x_fail 2 q.1 := by rw [hx, e3, x_rn_f hf]
    rw [if_pos (show nI q.2.1.2.2.1.length = 16 by rw [c16]; rfl), e1, z_gb]
    dsimp only
    rw [if_neg hb, e4]
    exact ⟨J1, rfl, z_f1_3 f1, p1, fun r => absurd r hf⟩
  · have hb : J 101 24 = 0 := by rw [h.2.1]; exact h0
    obtain ⟨J1, e1, f1, p1⟩ := z_av h h0
    have e : x_adv tp n q.1 = s1 := by rw [← hs1]; unfold x_me1; rw [if_neg (by omega)]
    rw [e] at p1
    rw [if_neg (show ¬ nI q.2.1.2.2.1.length = 16 from fun r => c16 ((nI_eq (b := 16) (by omega) (by omega)).mp r))]
    dsimp only
    rw [if_pos hb, e1, z_gb]
    obtain ⟨v, J2, e2, f2, p2, q2⟩ := z_per1 p1 (by rw [f1.1 104 (by decide)]; exact hR.1.1) h8 (fun (z1 : Int32) (I45j : g_I) => g_bind2 (b_X11_personNow I45j) fun a7 I8 => if (I8 101 24) = 0 then if z1 = a7 then g_bind (b_X11_wrong I8 4) fun I17 => if (I17 101 24) = 0 then g_bind (b_X11_stepOn I17) fun I20 => (fun (z1 : Int32) (z2 : Int32) (I78j : g_I) => g_bind2 (b_X11_readNumber I78j 0 999) fun a1 I2 => if (I2 101 24) = 0 then if g_in ((64 : Int32) + (b_X11_couple z1 z2)) 128 = true then if g_in ((64 : Int32) + (b_X11_couple z1 z2)) 128 = true then g_let (am_up I2 114 ((64 : Int32) + (b_X11_couple z1 z2)).toNatClampNeg (g_max (I2 114 ((64 : Int32) + (b_X11_couple z1 z2)).toNatClampNeg) (-a1))) fun I4 => if g_in ((64 : Int32) + (b_X11_couple z1 z2)) 128 = true then if g_in ((64 : Int32) + (b_X11_couple z2 z1)) 128 = true then g_let (am_up I4 114 ((64 : Int32) + (b_X11_couple z2 z1)).toNatClampNeg (I4 114 ((64 : Int32) + (b_X11_couple z1 z2)).toNatClampNeg)) fun I5 => g_let (am_up I5 104 8 ((I5 104 8) + 1)) fun I6 => some I6 else none else none else none else none else some I2) z1 a7 I20 else (fun (z1 : Int32) (z2 : Int32) (I78j : g_I) => g_bind2 (b_X11_readNumber I78j 0 999) fun a1 I2 => if (I2 101 24) = 0 then if g_in ((64 : Int32) + (b_X11_couple z1 z2)) 128 = true then if g_in ((64 : Int32) + (b_X11_couple z1 z2)) 128 = true then g_let (am_up I2 114 ((64 : Int32) + (b_X11_couple z1 z2)).toNatClampNeg (g_max (I2 114 ((64 : Int32) + (b_X11_couple z1 z2)).toNatClampNeg) (-a1))) fun I4 => if g_in ((64 : Int32) + (b_X11_couple z1 z2)) 128 = true then if g_in ((64 : Int32) + (b_X11_couple z2 z1)) 128 = true then g_let (am_up I4 114 ((64 : Int32) + (b_X11_couple z2 z1)).toNatClampNeg (I4 114 ((64 : Int32) + (b_X11_couple z1 z2)).toNatClampNeg)) fun I5 => g_let (am_up I5 104 8 ((I5 104 8) + 1)) fun I6 => some I6 else none else none else none else none else some I2) z1 a7 I17 else if (I8 101 24) = 0 then g_bind (b_X11_stepOn I8) fun I14 => (fun (z1 : Int32) (z2 : Int32) (I78j : g_I) => g_bind2 (b_X11_readNumber I78j 0 999) fun a1 I2 => if (I2 101 24) = 0 then if g_in ((64 : Int32) + (b_X11_couple z1 z2)) 128 = true then if g_in ((64 : Int32) + (b_X11_couple z1 z2)) 128 = true then g_let (am_up I2 114 ((64 : Int32) + (b_X11_couple z1 z2)).toNatClampNeg (g_max (I2 114 ((64 : Int32) + (b_X11_couple z1 z2)).toNatClampNeg) (-a1))) fun I4 => if g_in ((64 : Int32) + (b_X11_couple z1 z2)) 128 = true then if g_in ((64 : Int32) + (b_X11_couple z2 z1)) 128 = true then g_let (am_up I4 114 ((64 : Int32) + (b_X11_couple z2 z1)).toNatClampNeg (I4 114 ((64 : Int32) + (b_X11_couple z1 z2)).toNatClampNeg)) fun I5 => g_let (am_up I5 104 8 ((I5 104 8) + 1)) fun I6 => some I6 else none else none else none else none else some I2) z1 a7 I14 else (fun (z1 : Int32) (z2 : Int32) (I78j : g_I) => g_bind2 (b_X11_readNumber I78j 0 999) fun a1 I2 => if (I2 101 24) = 0 then if g_in ((64 : Int32) + (b_X11_couple z1 z2)) 128 = true then if g_in ((64 : Int32) + (b_X11_couple z1 z2)) 128 = true then g_let (am_up I2 114 ((64 : Int32) + (b_X11_couple z1 z2)).toNatClampNeg (g_max (I2 114 ((64 : Int32) + (b_X11_couple z1 z2)).toNatClampNeg) (-a1))) fun I4 => if g_in ((64 : Int32) + (b_X11_couple z1 z2)) 128 = true then if g_in ((64 : Int32) + (b_X11_couple z2 z1)) 128 = true then g_let (am_up I4 114 ((64 : Int32) + (b_X11_couple z2 z1)).toNatClampNeg (I4 114 ((64 : Int32) + (b_X11_couple z1 z2)).toNatClampNeg)) fun I5 => g_let (am_up I5 104 8 ((I5 104 8) + 1)) fun I6 => some I6 else none else none else none else none else some I2) z1 a7 I8 else if (I8 101 24) = 0 then g_bind (b_X11_stepOn I8) fun I11 => (fun (z1 : Int32) (z2 : Int32) (I78j : g_I) => g_bind2 (b_X11_readNumber I78j 0 999) fun a1 I2 => if (I2 101 24) = 0 then if g_in ((64 : Int32) + (b_X11_couple z1 z2)) 128 = true then if g_in ((64 : Int32) + (b_X11_couple z1 z2)) 128 = true then g_let (am_up I2 114 ((64 : Int32) + (b_X11_couple z1 z2)).toNatClampNeg (g_max (I2 114 ((64 : Int32) + (b_X11_couple z1 z2)).toNatClampNeg) (-a1))) fun I4 => if g_in ((64 : Int32) + (b_X11_couple z1 z2)) 128 = true then if g_in ((64 : Int32) + (b_X11_couple z2 z1)) 128 = true then g_let (am_up I4 114 ((64 : Int32) + (b_X11_couple z2 z1)).toNatClampNeg (I4 114 ((64 : Int32) + (b_X11_couple z1 z2)).toNatClampNeg)) fun I5 => g_let (am_up I5 104 8 ((I5 104 8) + 1)) fun I6 => some I6 else none else none else none else none else some I2) z1 a7 I11 else (fun (z1 : Int32) (z2 : Int32) (I78j : g_I) => g_bind2 (b_X11_readNumber I78j 0 999) fun a1 I2 => if (I2 101 24) = 0 then if g_in ((64 : Int32) + (b_X11_couple z1 z2)) 128 = true then if g_in ((64 : Int32) + (b_X11_couple z1 z2)) 128 = true then g_let (am_up I2 114 ((64 : Int32) + (b_X11_couple z1 z2)).toNatClampNeg (g_max (I2 114 ((64 : Int32) + (b_X11_couple z1 z2)).toNatClampNeg) (-a1))) fun I4 => if g_in ((64 : Int32) + (b_X11_couple z1 z2)) 128 = true then if g_in ((64 : Int32) + (b_X11_couple z2 z1)) 128 = true then g_let (am_up I4 114 ((64 : Int32) + (b_X11_couple z2 z1)).toNatClampNeg (I4 114 ((64 : Int32) + (b_X11_couple z1 z2)).toNatClampNeg)) fun I5 => g_let (am_up I5 104 8 ((I5 104 8) + 1)) fun I6 => some I6 else none else none else none else none else some I2) z1 a7 I8)
    refine z_eqx e2 ?_
    rw [hs2] at p2 q2
    obtain ⟨u, J3, e3, f3, p3, q3⟩ := z_per2 (v1 := v1) (z1 := v) p2 (by rw [f2.1 104 (by decide), f1.1 104 (by decide)]; exact hR.1.1) h8 (fun r => by
      obtain ⟨x, b1, b2, b3⟩ := q2 r
      exact ⟨x, b1, b2, by rw [← hv1]; exact b3⟩) (fun (z1 : Int32) (z2 : Int32) (I78j : g_I) => g_bind2 (b_X11_readNumber I78j 0 999) fun a1 I2 => if (I2 101 24) = 0 then if g_in ((64 : Int32) + (b_X11_couple z1 z2)) 128 = true then if g_in ((64 : Int32) + (b_X11_couple z1 z2)) 128 = true then g_let (am_up I2 114 ((64 : Int32) + (b_X11_couple z1 z2)).toNatClampNeg (g_max (I2 114 ((64 : Int32) + (b_X11_couple z1 z2)).toNatClampNeg) (-a1))) fun I4 => if g_in ((64 : Int32) + (b_X11_couple z1 z2)) 128 = true then if g_in ((64 : Int32) + (b_X11_couple z2 z1)) 128 = true then g_let (am_up I4 114 ((64 : Int32) + (b_X11_couple z2 z1)).toNatClampNeg (I4 114 ((64 : Int32) + (b_X11_couple z1 z2)).toNatClampNeg)) fun I5 => g_let (am_up I5 104 8 ((I5 104 8) + 1)) fun I6 => some I6 else none else none else none else none else some I2)
    rw [hs3] at p3 q3
    refine z_eqx e3 ?_
    obtain ⟨w, J4, e4, f4, p4, q4⟩ := z_rnR (lo := 0) (hi := 999) p3
    have ff : z_f1 J J4 := z_f1_t f1 (z_f1_t f2 (z_f1_t f3 f4))
    rw [e4]
    simp only [g_bind2]
    by_cases c : (x_rn tp n 0 999 s3).1 = 0
    · obtain ⟨w1, -, d, w2, w3, w4, w5⟩ := q4 c
      obtain ⟨x, y, x1, y1, xy, x2, x3, y2, y3⟩ := q3 (x_rn_0 c)
      have hd : d ≤ 999 := (nI_leI (b := 999) (by omega) (by decide)).mp w5
      have ewd : w = nI d := by rw [w1, w3]
      have hb4 : J4 101 24 = 0 := by rw [p4.2.1]; exact c
      have hc1 : (64 : Int32) + b_X11_couple (nI x) (nI y) = nI (64 + (8 * x + y)) := by rw [z_cpl, show (64 : Int32) = nI 64 from rfl, nI_add]
      have hc2 : (64 : Int32) + b_X11_couple (nI y) (nI x) = nI (64 + (8 * y + x)) := by rw [z_cpl, show (64 : Int32) = nI 64 from rfl, nI_add]
      have hR4 := z_Rh_1 hR ff
      rw [if_pos hb4, x2, y2, hc1, hc2, if_pos (g_in_nI (by omega) (by decide)), if_pos (g_in_nI (by omega) (by decide)), z_gl, if_pos (g_in_nI (by omega) (by decide)), if_pos (g_in_nI (by omega) (by decide)), z_gl, z_gl, nI_clamp (by omega), nI_clamp (by omega), up_eq, am_up_o _ _ _ _ (show 104 ≠ 114 by decide), am_up_o _ _ _ _ (show 104 ≠ 114 by decide), hR4.1.2.2.1, nI_1, ewd]
      obtain ⟨z1, z2⟩ := z_meetW hR4 hW (by omega) x1 y1 xy hd rfl
      have erv : x_rv tp n 0 999 s3 = nI d := by unfold x_rv; rw [if_pos c, w3]
      have hx2 : (x_meet tp n q).2.1 = (q.2.1.1, q.2.1.2.1, q.2.1.2.2.1 ++ [(nI x, nI y, nI d)], q.2.1.2.2.2) := by
        rw [hx]
        show (if (x_rn tp n 0 999 s3).1 = 0 then _ else _) = _
        rw [if_pos c, y3, erv, x3]
      refine ⟨_, rfl, z_f3_t (z_f1_3 ff) (z_f3_t (z_f3_u (by decide) (by show 64 ≤ _; omega)) (z_f3_t (z_f3_u (by decide) (by show 64 ≤ _; omega)) (z_f3_u (by decide) (by show 6 ≤ 8; omega)))), ?_, fun r => ?_⟩
      · rw [hx]
        exact z_ps_u (z_ps_u (z_ps_u p4 (by decide)) (by decide)) (by decide)
      · rw [hx2]
        exact ⟨z1, z2⟩
    · have hb4 : ¬ J4 101 24 = 0 := by rw [p4.2.1]; exact c
      rw [if_neg hb4, hx]
      exact ⟨J4, rfl, z_f1_3 ff, p4, fun r => absurd r c⟩
end ZLM
