/-! PURE: LINES: BREAD, BOTH WORLDS -/
section ZLC
variable {tp : Nat → Int32} {n : Nat}
theorem x_fail_2 {c : Int32} {s : Int32 × Nat} : (x_fail c s).2 = s.2 := by unfold x_fail; split <;> rfl
theorem x_adv_m {s : Int32 × Nat} (h : s.2 ≤ n) : s.2 ≤ (x_adv tp n s).2 ∧ (x_adv tp n s).2 ≤ n := by
  unfold x_adv
  split
  · exact ⟨(x_av_b tp h).1, (x_av_b tp h).2.1⟩
  · exact ⟨Nat.le_refl _, h⟩
theorem x_rn_m {lo hi : Int32} {s : Int32 × Nat} (h : s.2 ≤ n) : s.2 ≤ (x_rn tp n lo hi s).2 ∧ (x_rn tp n lo hi s).2 ≤ n := by
  have hx : x_rn tp n lo hi s = x_adv tp n (z_nc tp n lo hi s) := rfl
  rw [hx]
  have h2 : (z_nc tp n lo hi s).2 = s.2 := z_nc_2
  have := x_adv_m (tp := tp) (n := n) (s := z_nc tp n lo hi s) (by rw [h2]; exact h)
  rw [h2] at this
  exact this
theorem x_rs_m {c : Int32} {s : Int32 × Nat} (h : s.2 ≤ n) : s.2 ≤ (x_rs tp n c s).2 ∧ (x_rs tp n c s).2 ≤ n ∧ ((x_rs tp n c s).1 = 0 → s.2 < (x_rs tp n c s).2) := by
  unfold x_rs
  by_cases c1 : x_sg tp n s.2 c = true
  · rw [if_pos c1]
    refine ⟨(x_adv_m h).1, (x_adv_m h).2, fun r => ?_⟩
    have h0 := x_adv_0 r
    rw [x_adv_p h0]
    exact (x_av_b tp h).2.2 (z_sg_lt c1)
  · have hf := x_fail_n (c := 1) (by decide) s
    rw [if_neg c1, x_adv_f hf, x_fail_2]
    exact ⟨Nat.le_refl _, h, fun r => absurd r hf⟩
theorem x_pn_m {pn : Nat} {tk : Int32} {s : Int32 × Nat} (h : s.2 ≤ n) : s.2 ≤ (x_pn tp n pn tk s).2 ∧ (x_pn tp n pn tk s).2 ≤ n := by
  unfold x_pn
  have key : ∀ s' : Int32 × Nat, s'.2 = s.2 → s.2 ≤ (x_adv tp n s').2 ∧ (x_adv tp n s').2 ≤ n := fun s' e => by
    have := x_adv_m (tp := tp) (n := n) (s := s') (by rw [e]; exact h)
    rw [e] at this
    exact this
  refine key _ ?_
  split
  · exact x_fail_2
  · split
    · exact x_fail_2
    · split
      · exact x_fail_2
      · split
        · exact x_fail_2
        · rfl
theorem x_eat_m {pn : Nat} : ∀ (f i : Nat) (q : (Int32 × Nat) × List Int32), q.1.2 ≤ n → q.1.2 ≤ (x_eat tp n pn f i q).1.2 ∧ (x_eat tp n pn f i q).1.2 ≤ n := by
  intro f
  induction f with
  | zero => intro i q h; exact ⟨Nat.le_refl _, h⟩
  | succ f ih =>
    intro i q h
    by_cases c : q.1.1 = 0 ∧ (i = 0 ∨ x_tk tp n q.1.2 = 2)
    · have hx : x_eat tp n pn (f + 1) i q = x_eat tp n pn f (i + 1) (x_est tp n pn i q) := if_pos c
      have he : q.1.2 ≤ (x_est tp n pn i q).1.2 ∧ (x_est tp n pn i q).1.2 ≤ n := by
        show q.1.2 ≤ (x_pn tp n pn (x_bits q.2) (if i = 6 then x_fail 2 q.1 else q.1)).2 ∧ (x_pn tp n pn (x_bits q.2) (if i = 6 then x_fail 2 q.1 else q.1)).2 ≤ n
        have h2 : (if i = 6 then x_fail 2 q.1 else q.1).2 = q.1.2 := by split; exact x_fail_2; rfl
        have := x_pn_m (tp := tp) (n := n) (pn := pn) (tk := x_bits q.2) (s := if i = 6 then x_fail 2 q.1 else q.1) (by rw [h2]; exact h)
        rw [h2] at this
        exact this
      have := ih (i + 1) (x_est tp n pn i q) he.2
      rw [hx]
      omega
    · have hx : x_eat tp n pn (f + 1) i q = q := if_neg c
      rw [hx]
      exact ⟨Nat.le_refl _, h⟩
theorem z_Wk_b {T : x_T} (hW : z_Wk T) (hm : T.2.1.length < 6) {a b c d : Nat} {es : List Int32} (ha : a < 10) (hb : 1 ≤ b ∧ b ≤ 999) (hc : c ≤ 23) (hd : 1 ≤ d ∧ d ≤ 23) (he : z_We T es) : z_Wk (T.1, T.2.1 ++ [((nI a, nI b, nI c, nI d), es)], T.2.2) := by
  obtain ⟨⟨wp, ⟨l1, l2⟩, wm, wr⟩, wk⟩ := hW
  have hlen : (T.2.1 ++ [((nI a, nI b, nI c, nI d), es)]).length = T.2.1.length + 1 := by rw [List.length_append]; rfl
  refine ⟨⟨wp, ⟨by show (T.2.1 ++ [((nI a, nI b, nI c, nI d), es)]).length ≤ 6; omega, fun l hl => ?_⟩, wm, wr⟩, wk⟩
  have hl' : l < T.2.1.length + 1 := by rw [← hlen]; exact hl
  have hz : z_ll (T.1, T.2.1 ++ [((nI a, nI b, nI c, nI d), es)], T.2.2) l = (T.2.1 ++ [((nI a, nI b, nI c, nI d), es)]).getD l ((0, 0, 0, 0), []) := rfl
  show (∃ h, h < 10 ∧ (z_ll (T.1, T.2.1 ++ [((nI a, nI b, nI c, nI d), es)], T.2.2) l).1.1 = nI h) ∧ (∃ z, 1 ≤ z ∧ z ≤ 999 ∧ (z_ll (T.1, T.2.1 ++ [((nI a, nI b, nI c, nI d), es)], T.2.2) l).1.2.1 = nI z) ∧ (∃ b', b' ≤ 23 ∧ (z_ll (T.1, T.2.1 ++ [((nI a, nI b, nI c, nI d), es)], T.2.2) l).1.2.2.1 = nI b') ∧ (∃ f, 1 ≤ f ∧ f ≤ 23 ∧ (z_ll (T.1, T.2.1 ++ [((nI a, nI b, nI c, nI d), es)], T.2.2) l).1.2.2.2 = nI f) ∧ z_We T (z_ll (T.1, T.2.1 ++ [((nI a, nI b, nI c, nI d), es)], T.2.2) l).2
  rw [hz]
  by_cases e : l = T.2.1.length
  · subst e
    rw [z_gae]
    exact ⟨⟨a, ha, rfl⟩, ⟨b, hb.1, hb.2, rfl⟩, ⟨c, hc, rfl⟩, ⟨d, hd.1, hd.2, rfl⟩, he⟩
  · rw [z_gal (by omega)]
    exact l2 l (by omega)
set_option maxHeartbeats 1000000 in
theorem z_breadR {J : g_I} {q : x_K} (h : z_ps tp n J q.1) (h0 : q.1.1 = 0) (hR : z_Rh J q.2.1) (hW : z_Wk q.2.1) : ∃ J', b_X11_readLoaf J = some J' ∧ z_f3 J J' ∧ z_ps tp n J' (x_bread tp n q).1 ∧ ((x_bread tp n q).1.1 = 0 → q.1.2 ≤ (x_bread tp n q).1.2 ∧ z_Rh J' (x_bread tp n q).2.1 ∧ z_Wk (x_bread tp n q).2.1) := by
  have h8 := hW.1.1.1
  have h6 := hW.1.2.1.1
  have hn := h.2.2.1
  unfold b_X11_readLoaf
  rw [z_gl, z_gl, hR.1.2.1]
  by_cases c6 : q.2.1.2.1.length = 6
  · obtain ⟨J1, e1, f1, p1⟩ := z_wr (c := 2) h (by decide)
    have hf := x_fail_n (c := 2) (by decide) q.1
    have hb : ¬ J1 101 24 = 0 := by rw [p1.2.1]; exact hf
    have hx : x_bread tp n q = (x_fail 2 q.1, q.2) := if_pos (by omega)
    rw [if_pos (show nI q.2.1.2.1.length = 6 by rw [c6]; rfl), e1, z_gb]
    dsimp only
    rw [if_neg hb, hx]
    exact ⟨J1, rfl, z_f1_3 f1, p1, fun r => absurd r hf⟩
  · have hlf : q.2.1.2.1.length < 6 := by omega
    have hb : J 101 24 = 0 := by rw [h.2.1]; exact h0
    rw [if_neg (show ¬ nI q.2.1.2.1.length = 6 from fun r => c6 ((nI_eq (b := 6) (by omega) (by omega)).mp r))]
    dsimp only
    rw [if_pos hb]
    generalize hs1 : x_adv tp n q.1 = s1
    generalize hs2 : x_rn tp n 0 9 s1 = s2
    generalize hs3 : x_rn tp n 1 999 s2 = s3
    generalize hs4 : x_rn tp n 0 23 s3 = s4
    generalize hs5 : x_rn tp n 1 23 s4 = s5
    have hx : x_bread tp n q = ((x_eat tp n q.2.1.1.length 7 0 (s5, [])).1, (q.2.1.1, q.2.1.2.1 ++ [((x_rv tp n 0 9 s1, x_rv tp n 1 999 s2, x_rv tp n 0 23 s3, x_rv tp n 1 23 s4), (x_eat tp n q.2.1.1.length 7 0 (s5, [])).2)], q.2.1.2.2), q.2.2) := by
      unfold x_bread
      rw [if_neg (by omega)]
      dsimp only
      rw [hs1, hs2, hs3, hs4, hs5]
    rw [hx]
    generalize hlfe : q.2.1.2.1.length = lf at hlf
    have hg : g_in (nI (6 + lf)) 12 = true := g_in_nI (by omega) (by decide)
    have hcl : (nI (6 + lf)).toNatClampNeg = 6 + lf := nI_clamp (by omega)
    obtain ⟨J1, e1, f1, p1⟩ := z_av h h0
    rw [hs1] at p1
    obtain ⟨v1, J2, e2, f2, p2, q2⟩ := z_rnR (lo := 0) (hi := 9) p1
    rw [hs2] at p2 q2
    obtain ⟨v2, J3, e3, f3, p3, q3⟩ := z_rnR (lo := 1) (hi := 999) (z_ps_u (c := 108) (k := 6 + lf) (x := v1) p2 (by decide))
    rw [hs3] at p3 q3
    obtain ⟨v3, J4, e4, f4, p4, q4⟩ := z_rnR (lo := 0) (hi := 23) (z_ps_u (c := 109) (k := 6 + lf) (x := v2) p3 (by decide))
    rw [hs4] at p4 q4
    obtain ⟨v4, J5, e5, f5, p5, q5⟩ := z_rnR (lo := 1) (hi := 23) (z_ps_u (c := 110) (k := 6 + lf) (x := v3) p4 (by decide))
    rw [hs5] at p5 q5
    have p6 : z_ps tp n (am_up J5 111 (6 + lf) v4) s5 := z_ps_u p5 (by decide)
    have h7 : (6 : Int32) + J1 104 7 = nI (6 + lf) := by rw [f1.1 104 (by decide), hR.1.2.1, hlfe, show (6 : Int32) = nI 6 from rfl, nI_add]
    rw [e1, z_gb, z_gl, h7, e2]
    simp only [g_bind2]
    rw [if_pos hg, z_gl, hcl, e3]
    simp only []
    rw [if_pos hg, z_gl, e4]
    simp only []
    rw [if_pos hg, z_gl, e5]
    simp only []
    rw [if_pos hg, z_gl]
    generalize hJ6 : am_up J5 111 (6 + lf) v4 = J6 at p6
    have o1 : ∀ a, a ≠ 101 → J1 a = J a := f1.1
    have o2 : ∀ a, a ≠ 101 → J2 a = J a := fun a r => by rw [f2.1 a r, o1 a r]
    have o3 : ∀ a, a ≠ 101 → a ≠ 108 → J3 a = J a := fun a r r1 => by rw [f3.1 a r, am_up_o _ _ _ _ r1, o2 a r]
    have o4 : ∀ a, a ≠ 101 → a ≠ 108 → a ≠ 109 → J4 a = J a := fun a r r1 r2 => by rw [f4.1 a r, am_up_o _ _ _ _ r2, o3 a r r1]
    have o5 : ∀ a, a ≠ 101 → a ≠ 108 → a ≠ 109 → a ≠ 110 → J5 a = J a := fun a r r1 r2 r3 => by rw [f5.1 a r, am_up_o _ _ _ _ r3, o4 a r r1 r2]
    have o6 : ∀ a, a ≠ 101 → a ≠ 108 → a ≠ 109 → a ≠ 110 → a ≠ 111 → J6 a = J a := fun a r r1 r2 r3 r4 => by rw [← hJ6, am_up_o _ _ _ _ r4, o5 a r r1 r2 r3]
    have k108 : J6 108 = upd (J 108) (6 + lf) v1 := by rw [← hJ6, am_up_o _ _ _ _ (by decide), f5.1 108 (by decide), am_up_o _ _ _ _ (by decide), f4.1 108 (by decide), am_up_o _ _ _ _ (by decide), f3.1 108 (by decide), am_up_s, o2 108 (by decide)]
    have k109 : J6 109 = upd (J 109) (6 + lf) v2 := by rw [← hJ6, am_up_o _ _ _ _ (by decide), f5.1 109 (by decide), am_up_o _ _ _ _ (by decide), f4.1 109 (by decide), am_up_s, o3 109 (by decide) (by decide)]
    have k110 : J6 110 = upd (J 110) (6 + lf) v3 := by rw [← hJ6, am_up_o _ _ _ _ (by decide), f5.1 110 (by decide), am_up_s, o4 110 (by decide) (by decide) (by decide)]
    have k111 : J6 111 = upd (J 111) (6 + lf) v4 := by rw [← hJ6, am_up_s, o5 111 (by decide) (by decide) (by decide) (by decide)]
    have ff6 : z_f3 J J6 := by
      rw [← hJ6]
      exact z_f3_t (z_f1_3 f1) (z_f3_t (z_f1_3 f2) (z_f3_t (z_f3_u (by decide) (by show 6 ≤ _; omega)) (z_f3_t (z_f1_3 f3) (z_f3_t (z_f3_u (by decide) (by show 6 ≤ _; omega)) (z_f3_t (z_f1_3 f4) (z_f3_t (z_f3_u (by decide) (by show 6 ≤ _; omega)) (z_f3_t (z_f1_3 f5) (z_f3_u (by decide) (by show 6 ≤ _; omega)))))))))
    have h104 : J6 104 = J 104 := o6 104 (by decide) (by decide) (by decide) (by decide) (by decide)
    -- the end, once the eaters are read
    have fin : ∀ (m : Int32) (J7 : g_I), z_f4 J6 J7 lf → z_ps tp n J7 (x_eat tp n q.2.1.1.length 7 0 (s5, [])).1 → ((x_eat tp n q.2.1.1.length 7 0 (s5, [])).1.1 = 0 → s5.1 = 0 ∧ m = nI (x_eat tp n q.2.1.1.length 7 0 (s5, [])).2.length ∧ 1 ≤ (x_eat tp n q.2.1.1.length 7 0 (s5, [])).2.length ∧ z_eo J7 q.2.1.1.length lf (x_eat tp n q.2.1.1.length 7 0 (s5, [])).2) → ∃ J', (if g_in (nI (6 + lf)) 12 = true then g_let (am_up J7 112 (6 + lf) m) fun I17 => g_let (am_up I17 104 7 ((I17 104 7) + 1)) fun I18 => some I18 else none) = some J' ∧ z_f3 J J' ∧ z_ps tp n J' (x_eat tp n q.2.1.1.length 7 0 (s5, [])).1 ∧ ((x_eat tp n q.2.1.1.length 7 0 (s5, [])).1.1 = 0 → q.1.2 ≤ (x_eat tp n q.2.1.1.length 7 0 (s5, [])).1.2 ∧ z_Rh J' (q.2.1.1, q.2.1.2.1 ++ [((x_rv tp n 0 9 s1, x_rv tp n 1 999 s2, x_rv tp n 0 23 s3, x_rv tp n 1 23 s4), (x_eat tp n q.2.1.1.length 7 0 (s5, [])).2)], q.2.1.2.2) ∧ z_Wk (q.2.1.1, q.2.1.2.1 ++ [((x_rv tp n 0 9 s1, x_rv tp n 1 999 s2, x_rv tp n 0 23 s3, x_rv tp n 1 23 s4), (x_eat tp n q.2.1.1.length 7 0 (s5, [])).2)], q.2.1.2.2)) := fun m J7 g1 g2 g3 => by
      have j7 : am_up J7 112 (6 + lf) m 104 7 = nI lf := by rw [am_up_o _ _ _ _ (by decide), g1.1 104 (by decide) (by decide), h104, hR.1.2.1, hlfe]
      rw [if_pos hg, z_gl, z_gl, j7, nI_1]
      refine ⟨_, rfl, z_f3_t ff6 (z_f3_t (z_f4_3 g1) (z_f3_t (z_f3_u (by decide) (by show 6 ≤ _; omega)) (z_f3_u (by decide) (by show 6 ≤ 7; omega)))), z_ps_u (z_ps_u g2 (by decide)) (by decide), fun r => ?_⟩
      obtain ⟨r5, r6, r7, r8, r9, r10, r11⟩ := g3 r
      have r4 : s4.1 = 0 := by rw [← hs5] at r5; exact x_rn_0 r5
      have r3 : s3.1 = 0 := by rw [← hs4] at r4; exact x_rn_0 r4
      have r2 : s2.1 = 0 := by rw [← hs3] at r3; exact x_rn_0 r3
      obtain ⟨a1, -, y1, a2, a3, a4, a5⟩ := q2 r2
      obtain ⟨b1, -, y2, b2, b3, b4, b5⟩ := q3 r3
      obtain ⟨c1, -, y3, c2, c3, c4, c5⟩ := q4 r4
      obtain ⟨d1, -, y4, d2, d3, d4, d5⟩ := q5 r5
      have ev1 : x_rv tp n 0 9 s1 = nI y1 := by unfold x_rv; rw [hs2, if_pos r2, a3]
      have ev2 : x_rv tp n 1 999 s2 = nI y2 := by unfold x_rv; rw [hs3, if_pos r3, b3]
      have ev3 : x_rv tp n 0 23 s3 = nI y3 := by unfold x_rv; rw [hs4, if_pos r4, c3]
      have ev4 : x_rv tp n 1 23 s4 = nI y4 := by unfold x_rv; rw [hs5, if_pos r5, d3]
      generalize hE : (x_eat tp n q.2.1.1.length 7 0 (s5, [])).2 = es at r6 r7 r8 r9 r10 r11
      rw [ev1, ev2, ev3, ev4]
      have hlen : (q.2.1.2.1 ++ [((nI y1, nI y2, nI y3, nI y4), es)]).length = lf + 1 := by rw [List.length_append, hlfe]; rfl
      have m1 := x_adv_m (tp := tp) (n := n) (s := q.1) hn
      rw [hs1] at m1
      have m2 := x_rn_m (tp := tp) (n := n) (lo := 0) (hi := 9) m1.2
      rw [hs2] at m2
      have m3 := x_rn_m (tp := tp) (n := n) (lo := 1) (hi := 999) m2.2
      rw [hs3] at m3
      have m4 := x_rn_m (tp := tp) (n := n) (lo := 0) (hi := 23) m3.2
      rw [hs4] at m4
      have m5 := x_rn_m (tp := tp) (n := n) (lo := 1) (hi := 23) m4.2
      rw [hs5] at m5
      have m6 := x_eat_m (tp := tp) (n := n) (pn := q.2.1.1.length) 7 0 (s5, []) m5.2
      refine ⟨by have m6' : s5.2 ≤ (x_eat tp n q.2.1.1.length 7 0 (s5, [])).1.2 := m6.1; omega, ?_, z_Wk_b hW (by omega) (z_ten a5 a2) ⟨(nI_leI (a := 1) (by omega) (by omega)).mp b4, (nI_leI (b := 999) (by omega) (by decide)).mp b5⟩ ((nI_leI (b := 23) (by omega) (by decide)).mp c5) ⟨(nI_leI (a := 1) (by omega) (by omega)).mp d4, (nI_leI (b := 23) (by omega) (by decide)).mp d5⟩ ⟨r7, r8, r10, r11⟩⟩
      obtain ⟨⟨t1, t2, t3, t4, t5⟩, rl, rp, rlo, rm⟩ := hR
      generalize hJ8 : am_up (am_up J7 112 (6 + lf) m) 104 7 (nI (lf + 1)) = J8
      have u4 : ∀ k, k ≠ 7 → J8 104 k = J 104 k := fun k w => by rw [← hJ8, up_ne w, am_up_o _ _ _ _ (by decide), g1.1 104 (by decide) (by decide), h104]
      have uo : ∀ a, a ≠ 101 → a ≠ 104 → a ≠ 112 → a ≠ 113 → J8 a = J6 a := fun a w1 w2 w3 w4 => by rw [← hJ8, am_up_o _ _ _ _ w2, am_up_o _ _ _ _ w3, g1.1 a w1 w4]
      have u112 : J8 112 = upd (J 112) (6 + lf) m := by rw [← hJ8, am_up_o _ _ _ _ (by decide), am_up_s, g1.1 112 (by decide) (by decide), o6 112 (by decide) (by decide) (by decide) (by decide) (by decide)]
      have u113 : J8 113 = J7 113 := by rw [← hJ8, am_up_o _ _ _ _ (by decide), am_up_o _ _ _ _ (by decide)]
      refine ⟨⟨by rw [u4 6 (by decide)]; exact t1, ?_, by rw [u4 8 (by decide)]; exact t3, by rw [u4 9 (by decide)]; exact t4, by rw [u4 10 (by decide)]; exact t5⟩, ⟨by rw [u4 11 (by decide)]; exact rl.1, fun k hk => by rw [uo 115 (by decide) (by decide) (by decide) (by decide), o6 115 (by decide) (by decide) (by decide) (by decide) (by decide)]; exact rl.2 k hk⟩, fun p hp => ?_, fun l hl => ?_, fun a b ha hb => by rw [uo 114 (by decide) (by decide) (by decide) (by decide), o6 114 (by decide) (by decide) (by decide) (by decide) (by decide)]; exact rm a b ha hb⟩
      · rw [← hJ8, up_eq]
        show nI (lf + 1) = nI (q.2.1.2.1 ++ [((nI y1, nI y2, nI y3, nI y4), es)]).length
        rw [hlen]
      · rw [uo 105 (by decide) (by decide) (by decide) (by decide), o6 105 (by decide) (by decide) (by decide) (by decide) (by decide), uo 106 (by decide) (by decide) (by decide) (by decide), o6 106 (by decide) (by decide) (by decide) (by decide) (by decide), uo 107 (by decide) (by decide) (by decide) (by decide), o6 107 (by decide) (by decide) (by decide) (by decide) (by decide)]
        exact rp p hp
      · have hl' : l < lf + 1 := by rw [← hlen]; exact hl
        have hz : z_ll (q.2.1.1, q.2.1.2.1 ++ [((nI y1, nI y2, nI y3, nI y4), es)], q.2.1.2.2) l = (q.2.1.2.1 ++ [((nI y1, nI y2, nI y3, nI y4), es)]).getD l ((0, 0, 0, 0), []) := rfl
        show J8 108 (6 + l) = (z_ll (q.2.1.1, q.2.1.2.1 ++ [((nI y1, nI y2, nI y3, nI y4), es)], q.2.1.2.2) l).1.1 ∧ J8 109 (6 + l) = (z_ll (q.2.1.1, q.2.1.2.1 ++ [((nI y1, nI y2, nI y3, nI y4), es)], q.2.1.2.2) l).1.2.1 ∧ J8 110 (6 + l) = (z_ll (q.2.1.1, q.2.1.2.1 ++ [((nI y1, nI y2, nI y3, nI y4), es)], q.2.1.2.2) l).1.2.2.1 ∧ J8 111 (6 + l) = (z_ll (q.2.1.1, q.2.1.2.1 ++ [((nI y1, nI y2, nI y3, nI y4), es)], q.2.1.2.2) l).1.2.2.2 ∧ J8 112 (6 + l) = nI (z_ll (q.2.1.1, q.2.1.2.1 ++ [((nI y1, nI y2, nI y3, nI y4), es)], q.2.1.2.2) l).2.length ∧ ∀ i, i < (z_ll (q.2.1.1, q.2.1.2.1 ++ [((nI y1, nI y2, nI y3, nI y4), es)], q.2.1.2.2) l).2.length → J8 113 (36 + 6 * l + i) = (z_ll (q.2.1.1, q.2.1.2.1 ++ [((nI y1, nI y2, nI y3, nI y4), es)], q.2.1.2.2) l).2.getD i 0
        rw [hz, uo 108 (by decide) (by decide) (by decide) (by decide), uo 109 (by decide) (by decide) (by decide) (by decide), uo 110 (by decide) (by decide) (by decide) (by decide), uo 111 (by decide) (by decide) (by decide) (by decide), k108, k109, k110, k111, u112, u113]
        by_cases e : l = lf
        · rw [e, show (q.2.1.2.1 ++ [((nI y1, nI y2, nI y3, nI y4), es)]).getD lf ((0, 0, 0, 0), []) = ((nI y1, nI y2, nI y3, nI y4), es) by rw [← hlfe]; exact z_gae, pk_us, pk_us, pk_us, pk_us, pk_us, a1, a3, b1, b3, c1, c3, d1, d3, r6]
          exact ⟨rfl, rfl, rfl, rfl, rfl, r9⟩
        · rw [z_gal (by omega), upd_o (by omega), upd_o (by omega), upd_o (by omega), upd_o (by omega), upd_o (by omega)]
          obtain ⟨w1, w2, w3, w4, w5, w6⟩ := rlo l (by omega)
          have hes := (hW.1.2.1.2 l (by omega)).2.2.2.2.2.1
          refine ⟨w1, w2, w3, w4, w5, fun i hi => ?_⟩
          have hi' : i < (z_es q.2.1 l).length := hi
          rw [g1.2.2 _ (by omega), o6 113 (by decide) (by decide) (by decide) (by decide) (by decide)]
          exact w6 i hi
    have L0 : ∀ J9 : g_I, ¬ J9 101 24 = 0 → b_X11_readLoaf_L117 (nI (6 + lf)) (fun (a15 : Int32) (I16 : g_I) => if g_in (nI (6 + lf)) 12 = true then g_let (am_up I16 112 (6 + lf) a15) fun I17 => g_let (am_up I17 104 7 ((I17 104 7) + 1)) fun I18 => some I18 else none) fu 0 0 J9 = (if g_in (nI (6 + lf)) 12 = true then g_let (am_up J9 112 (6 + lf) 0) fun I17 => g_let (am_up I17 104 7 ((I17 104 7) + 1)) fun I18 => some I18 else none) := fun J9 hb9 => by
      show b_X11_readLoaf_L117 (nI (6 + lf)) (fun (a15 : Int32) (I16 : g_I) => if g_in (nI (6 + lf)) 12 = true then g_let (am_up I16 112 (6 + lf) a15) fun I17 => g_let (am_up I17 104 7 ((I17 104 7) + 1)) fun I18 => some I18 else none) (4999 + 1) 0 0 J9 = _
      rw [z_L117F hb9]
    by_cases h5 : s5.1 = 0
    · have hb6 : J6 101 24 = 0 := by rw [p6.2.1]; exact h5
      obtain ⟨k1, k2, -⟩ := p6.2.2.2.1 h5
      rw [if_pos hb6, k2]
      by_cases c2 : x_tk tp n s5.2 = 2
      · rw [if_pos (show nI (x_tk tp n s5.2) = 2 from (z_tkE (by decide)).mpr c2)]
        obtain ⟨m, J7, e7, f7, p7, q7⟩ := z_eatR (tp := tp) (n := n) (lf := lf) (pn := q.2.1.1.length) hlf h8 (K := fun (a15 : Int32) (I16 : g_I) => if g_in (nI (6 + lf)) 12 = true then g_let (am_up I16 112 (6 + lf) a15) fun I17 => g_let (am_up I17 104 7 ((I17 104 7) + 1)) fun I18 => some I18 else none) 7 0 fu J6 (s5, []) (by omega) (by unfold fu; omega) p6 (by rw [h104]; exact hR.1.1) (fun _ => ⟨rfl, by omega, ⟨Nat.zero_le _, fun i hi => absurd hi (Nat.not_lt_zero i), fun i hi => absurd hi (Nat.not_lt_zero i), fun i j _ hj => absurd hj (Nat.not_lt_zero j)⟩, fun _ => c2⟩)
        have hn0 : nI ((s5, ([] : List Int32)) : (Int32 × Nat) × List Int32).2.length = 0 := rfl
        have hx0 : x_bits ((s5, ([] : List Int32)) : (Int32 × Nat) × List Int32).2 = 0 := rfl
        rw [hn0, hx0] at e7
        refine z_eqx e7 ?_
        exact fin m J7 f7 p7 (fun r => ⟨h5, q7 r⟩)
      · obtain ⟨J7, e7, f7, p7⟩ := z_wr (c := 1) p6 (by decide)
        have hf := x_fail_n (c := 1) (by decide) s5
        have hb7 : ¬ J7 101 24 = 0 := by rw [p7.2.1]; exact hf
        rw [if_neg (show ¬ nI (x_tk tp n s5.2) = 2 from fun r => c2 ((z_tkE (by decide)).mp r)), e7, z_gb]
        have hea : (x_eat tp n q.2.1.1.length 7 0 (s5, [])).1 = x_fail 1 s5 := by
          have he : (x_est tp n q.2.1.1.length 0 (s5, [])).1 = x_fail 1 s5 := by
            show x_pn tp n q.2.1.1.length (x_bits []) (if 0 = 6 then x_fail 2 s5 else s5) = _
            rw [if_neg (by decide)]
            unfold x_pn
            rw [if_pos c2, x_adv_f hf]
          have h1 : x_eat tp n q.2.1.1.length 7 0 (s5, []) = x_eat tp n q.2.1.1.length 6 1 (x_est tp n q.2.1.1.length 0 (s5, [])) := if_pos ⟨h5, Or.inl rfl⟩
          have h2 : x_eat tp n q.2.1.1.length 6 1 (x_est tp n q.2.1.1.length 0 (s5, [])) = x_est tp n q.2.1.1.length 0 (s5, []) := if_neg (fun r => by have := r.1; rw [he] at this; exact hf this)
          rw [h1, h2, he]
        refine z_eqx (L0 J7 hb7) ?_
        exact fin 0 J7 (z_f1_4 f7) (by rw [hea]; exact p7) (fun r => by rw [hea] at r; exact absurd r hf)
    · have hb6 : ¬ J6 101 24 = 0 := by rw [p6.2.1]; exact h5
      rw [if_neg hb6]
      have hea : (x_eat tp n q.2.1.1.length 7 0 (s5, [])).1 = s5 := by
        have h1 : x_eat tp n q.2.1.1.length 7 0 (s5, []) = (s5, []) := if_neg (fun r => h5 r.1)
        rw [h1]
      refine z_eqx (L0 J6 hb6) ?_
      exact fin 0 J6 (z_f1_4 (z_f1_r J6)) (by rw [hea]; exact p6) (fun r => by rw [hea] at r; exact absurd r h5)
end ZLC
