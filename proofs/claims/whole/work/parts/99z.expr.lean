/-! PURE: NOTS, EXPRESSIONS, BOTH WORLDS -/
section ZEN
variable {tp : Nat → Int32} {n : Nat}
theorem z_nots {rec : g_I → Int32 → Option g_I} {x : Int32} {K : Int32 → g_I → Option g_I} : ∀ (r k f : Nat) (J : g_I) (s : Int32 × Nat), k + r = 6 → z_ps tp n J s → s.1 = 0 → r + 1 < f → ∃ J', z_f1 J J' ∧
    ((x_wd tp n (x_nots tp n r s).2.2 q_11.2.2.2.2 = true ∧ b_X11_readNot_L2 rec x K f (nI k) J = K (nI 7) J' ∧ z_ps tp n J' (x_fail 2 (x_nots tp n r s).2)) ∨ (¬ x_wd tp n (x_nots tp n r s).2.2 q_11.2.2.2.2 = true ∧ b_X11_readNot_L2 rec x K f (nI k) J = K (nI (k + (x_nots tp n r s).1)) J' ∧ z_ps tp n J' (x_nots tp n r s).2)) ∧ (x_nots tp n r s).2.1 = 0 ∧ s.2 + (x_nots tp n r s).1 ≤ (x_nots tp n r s).2.2 := by
  intro r
  induction r with
  | zero =>
    intro k f J s hk h h0 hf
    obtain ⟨f', rfl⟩ : ∃ f', f = f' + 1 + 1 := ⟨f - 2, by omega⟩
    have m1 : b_X11_is J q_46.2.2.2.2 = some (decide (s.1 = 0) && x_wd tp n s.2 q_11.2.2.2.2) := z_is h z_wNot
    rw [decide_eq_true h0, Bool.true_and] at m1
    have ek : k = 6 := by omega
    by_cases c : x_wd tp n s.2 q_11.2.2.2.2 = true
    · obtain ⟨J1, e1, f1, p1⟩ := z_wr (c := 2) h (by decide)
      have hb : ¬ J1 101 24 = 0 := by rw [p1.2.1]; exact x_fail_n (by decide) s
      refine ⟨J1, f1, Or.inl ⟨c, ?_, p1⟩, h0, Nat.le_refl _⟩
      conv => lhs; unfold b_X11_readNot_L2
      rw [m1, z_gb, if_pos c, if_pos (show nI k = 6 by rw [ek]; rfl), e1, z_gb, if_neg hb]
      unfold b_X11_readNot_L2
      rw [z_isF hb, z_gb, if_neg (by decide), ek]
      rfl
    · refine ⟨J, z_f1_r J, Or.inr ⟨c, ?_, h⟩, h0, Nat.le_refl _⟩
      unfold b_X11_readNot_L2
      rw [m1, z_gb, if_neg c]
      rfl
  | succ r ih =>
    intro k f J s hk h h0 hf
    obtain ⟨f', rfl⟩ : ∃ f', f = f' + 1 := ⟨f - 1, by omega⟩
    have m1 : b_X11_is J q_46.2.2.2.2 = some (decide (s.1 = 0) && x_wd tp n s.2 q_11.2.2.2.2) := z_is h z_wNot
    rw [decide_eq_true h0, Bool.true_and] at m1
    by_cases c : x_wd tp n s.2 q_11.2.2.2.2 = true
    · have hx : x_nots tp n (r + 1) s = ((x_nots tp n r (x_adv tp n s)).1 + 1, (x_nots tp n r (x_adv tp n s)).2) := if_pos c
      obtain ⟨J1, e1, f1, p1⟩ := z_av h h0
      have hb : J 101 24 = 0 := by rw [h.2.1]; exact h0
      have hav := (x_av_b tp h.2.2.1).2.2 (z_wd_lt c)
      obtain ⟨J2, f2, o2, z2, l2⟩ := ih (k + 1) f' J1 (x_adv tp n s) (by omega) p1 (by rw [x_adv_p h0]) (by omega)
      have hst : b_X11_readNot_L2 rec x K (f' + 1) (nI k) J = b_X11_readNot_L2 rec x K f' (nI (k + 1)) J1 := by
        conv => lhs; unfold b_X11_readNot_L2
        rw [m1, z_gb, if_pos c, if_neg (show ¬ nI k = 6 from fun q => absurd ((nI_eq (a := k) (b := 6) (by omega) (by omega)).mp q) (by omega)), if_pos hb, e1, z_gb, nI_1]
      rw [hx, hst]
      rw [x_adv_p h0] at l2 ⊢
      rw [x_adv_p h0] at o2 z2
      have l2' : x_av tp n s.2 + (x_nots tp n r (0, x_av tp n s.2)).1 ≤ (x_nots tp n r (0, x_av tp n s.2)).2.2 := l2
      refine ⟨J2, z_f1_t f1 f2, ?_, z2, by show s.2 + ((x_nots tp n r (0, x_av tp n s.2)).1 + 1) ≤ (x_nots tp n r (0, x_av tp n s.2)).2.2; omega⟩
      rcases o2 with o | ⟨o1, o3, o4⟩
      · exact Or.inl o
      · refine Or.inr ⟨o1, ?_, o4⟩
        rw [o3]
        show K (nI (k + 1 + (x_nots tp n r (0, x_av tp n s.2)).1)) J2 = K (nI (k + ((x_nots tp n r (0, x_av tp n s.2)).1 + 1))) J2
        rw [show k + 1 + (x_nots tp n r (0, x_av tp n s.2)).1 = k + ((x_nots tp n r (0, x_av tp n s.2)).1 + 1) by omega]
    · have hx : x_nots tp n (r + 1) s = (0, s) := if_neg c
      rw [hx]
      refine ⟨J, z_f1_r J, Or.inr ⟨c, ?_, h⟩, h0, Nat.le_refl _⟩
      unfold b_X11_readNot_L2
      rw [m1, z_gb, if_neg c]
      rfl
theorem x_adn_r : ∀ (c : Nat) (l : List Int32), l.length + c ≤ 600 → x_adn l c = l ++ List.replicate c (-3) := by
  intro c
  induction c with
  | zero => intro l _; exact (List.append_nil l).symm
  | succ c ih =>
    intro l hl
    show x_ad (x_adn l c) (-3) = _
    rw [ih l (by omega), x_ad_lt (by rw [List.length_append, List.length_replicate]; omega), List.append_assoc, ← List.replicate_succ']
theorem z_ht_r (h : Nat) : ∀ c : Nat, z_ht (List.replicate c (-3)) (h + 1) = some (h + 1) := by
  intro c
  induction c with
  | zero => rfl
  | succ c ih =>
    rw [List.replicate_succ]
    show (if (0 : Int32) ≤ -3 ∨ (-3 : Int32) ≤ -10 then _ else if (-3 : Int32) = -3 then (if 1 ≤ h + 1 then z_ht (List.replicate c (-3)) (h + 1) else none) else _) = _
    rw [if_neg (by decide), if_pos rfl, if_pos (by omega)]
    exact ih
theorem z_L96 {rec : g_I → Int32 → Option g_I} {c : Nat} (hc : c < 100) {s : Int32 × Nat} : ∀ (r f k : Nat) (J : g_I) (l : List Int32), k + r = c → r < f → z_ps tp n J s → (s.1 = 0 → z_rl J l ∧ l.length + r ≤ 600) → ∃ J', b_X11_readNot_L96 rec (nI c) (fun (I : g_I) => some I) f (nI k) J = some J' ∧ z_f2 J J' ∧ z_ps tp n J' s ∧ (s.1 = 0 → z_rl J' (l ++ List.replicate r (-3))) := by
  intro r
  induction r with
  | zero =>
    intro f k J l hk hf h hl
    obtain ⟨f', rfl⟩ : ∃ f', f = f' + 1 := ⟨f - 1, by omega⟩
    unfold b_X11_readNot_L96
    rw [if_pos (nI_le (by omega) (by omega))]
    refine ⟨J, rfl, z_f2_r J, h, fun q => ?_⟩
    show z_rl J (l ++ [])
    rw [List.append_nil]
    exact (hl q).1
  | succ r ih =>
    intro f k J l hk hf h hl
    obtain ⟨f', rfl⟩ : ∃ f', f = f' + 1 := ⟨f - 1, by omega⟩
    obtain ⟨J1, e1, f1, p1, l1⟩ := z_lay (l := l) h (fun q => ⟨(hl q).1, by have := (hl q).2; omega⟩) (-3)
    have e1' : b_X11_lay J (-28) = some J1 := e1
    obtain ⟨J2, e2, f2, p2, l2⟩ := ih f' (k + 1) J1 (l ++ [-3]) (by omega) (by omega) p1 (fun q => ⟨l1 q, by rw [List.length_append]; have := (hl q).2; simp; omega⟩)
    unfold b_X11_readNot_L96
    rw [if_neg (nI_ge (show k < c by omega) (by omega)), e1', z_gb, nI_1]
    refine ⟨J2, e2, z_f2_t f1 f2, p2, fun q => ?_⟩
    have := l2 q
    rw [List.append_assoc] at this
    rw [List.replicate_succ]
    exact this
theorem z_opT : z_op n (x_oT tp n) := z_opQ (g1 := fun a => x_sg tp n a 60) (g2 := fun a => x_sg tp n a 61) (fun a h => z_sg_lt h) (fun a h => z_sg_lt h) (by decide) (by decide)
/-- what stands behind the nots -/
theorem z_tailE {w : Nat} {sub : x_Q → x_Q} {rec : g_I → Int32 → Option g_I} {x : Int32} (hs : z_E tp n w (x_sum tp n sub) (fun J => b_X11_readSum rec J x)) {J : g_I} {q : x_Q} {c : Nat} (h : z_pq tp n J q) (h0 : q.1.1 = 0) (hc : q.2.length + c ≤ q.1.2) (hc6 : c ≤ 6) : ∃ J', (g_bind (b_X11_readSum rec J x) fun I29 => g_bind (b_X11_isMarked I29 60) fun t31 => if t31 = true then g_bind (b_X11_isMarked I29 60) fun t34 => if t34 = true then (g_bind (b_X11_stepOn I29) fun I2 => g_bind (b_X11_readSum rec I2 x) fun I5 => g_bind (b_X11_lay I5 (-24)) fun I8 => b_X11_readNot_L96 rec (nI c) (fun (I13 : g_I) => some I13) fu 0 I8) else (g_bind (b_X11_stepOn I29) fun I2 => g_bind (b_X11_readSum rec I2 x) fun I5 => g_bind (b_X11_lay I5 (-25)) fun I8 => b_X11_readNot_L96 rec (nI c) (fun (I13 : g_I) => some I13) fu 0 I8) else g_bind (b_X11_isMarked I29 61) fun t37 => if t37 = true then g_bind (b_X11_isMarked I29 60) fun t41 => if t41 = true then (g_bind (b_X11_stepOn I29) fun I2 => g_bind (b_X11_readSum rec I2 x) fun I5 => g_bind (b_X11_lay I5 (-24)) fun I8 => b_X11_readNot_L96 rec (nI c) (fun (I13 : g_I) => some I13) fu 0 I8) else (g_bind (b_X11_stepOn I29) fun I2 => g_bind (b_X11_readSum rec I2 x) fun I5 => g_bind (b_X11_lay I5 (-25)) fun I8 => b_X11_readNot_L96 rec (nI c) (fun (I13 : g_I) => some I13) fu 0 I8) else b_X11_readNot_L96 rec (nI c) (fun (I40 : g_I) => some I40) fu 0 I29) = some J' ∧ z_f2 J J' ∧ z_ps tp n J' (x_test tp n sub q).1 ∧
    ((x_test tp n sub q).1.1 = 0 → z_rl J' (x_adn (x_test tp n sub q).2 c) ∧ (x_test tp n sub q).2.length + c ≤ (x_test tp n sub q).1.2 ∧ (x_test tp n sub q).2.length + q.1.2 ≤ q.2.length + (x_test tp n sub q).1.2 ∧ ∃ m, (x_test tp n sub q).2 = q.2 ++ m ∧ (∀ d ∈ m, -15 ≤ d) ∧ ∀ k, k + (w + 1) ≤ 64 → z_ht m k = some (k + 1)) := by
  have hn6 := h.1.1.2.1
  obtain ⟨J1, e1, f1, p1, q1⟩ := hs.2 J q h
  have e1' : b_X11_readSum rec J x = some J1 := e1
  rw [e1', z_gb]
  have hxt : x_test tp n sub q = x_lp tp n (x_sum tp n sub) (x_oT tp n) 1 (x_sum tp n sub q) := rfl
  generalize hQ : x_sum tp n sub q = Q at p1 q1 hxt
  have m1 : b_X11_isMarked J1 60 = some (decide (Q.1.1 = 0) && x_sg tp n Q.1.2 60) := z_mkd (c := 60) p1.1 (by decide)
  have m2 : b_X11_isMarked J1 61 = some (decide (Q.1.1 = 0) && x_sg tp n Q.1.2 61) := z_mkd (c := 61) p1.1 (by decide)
  by_cases cc : Q.1.1 = 0 ∧ ¬ x_oT tp n Q.1.2 = 0
  · obtain ⟨cq, co⟩ := cc
    obtain ⟨t1, t2, m, t3, t4, t5⟩ := q1 cq
    obtain ⟨J2, J3, J4, e2, e3, e4, f4, p4, q4⟩ := z_op1 hs z_opT p1 cq co
    have hx2 : x_test tp n sub q = ((x_sum tp n sub (x_adv tp n Q.1, Q.2)).1, x_ad (x_sum tp n sub (x_adv tp n Q.1, Q.2)).2 (x_oT tp n Q.1.2)) := by
      rw [hxt]
      exact if_pos ⟨cq, co⟩
    rw [hx2]
    generalize hQ2 : ((x_sum tp n sub (x_adv tp n Q.1, Q.2)).1, x_ad (x_sum tp n sub (x_adv tp n Q.1, Q.2)).2 (x_oT tp n Q.1.2)) = Q2 at p4
    have hQ21 : (x_sum tp n sub (x_adv tp n Q.1, Q.2)).1 = Q2.1 := by rw [← hQ2]
    have hQ22 : x_ad (x_sum tp n sub (x_adv tp n Q.1, Q.2)).2 (x_oT tp n Q.1.2) = Q2.2 := by rw [← hQ2]
    rw [hQ21, hQ22] at q4
    have hfit : Q2.1.1 = 0 → Q2.2.length + c ≤ Q2.1.2 ∧ Q2.2.length + q.1.2 ≤ q.2.length + Q2.1.2 := fun r => by
      obtain ⟨a1, a2, -⟩ := q4 r
      omega
    obtain ⟨J5, e5, f5, p5, l5⟩ := z_L96 (tp := tp) (n := n) (rec := rec) (c := c) (s := Q2.1) (by omega) c fu 0 J4 Q2.2 (by omega) (by unfold fu; omega) p4.1 (fun r => ⟨(p4.2 r).1, by have := (hfit r).1; have := p4.1.2.2.1; omega⟩)
    have e5' : b_X11_readNot_L96 rec (nI c) (fun (I13 : g_I) => some I13) fu 0 J4 = some J5 := e5
    have hbody : ∀ w0 : Int32, z_sg (x_oT tp n Q.1.2) = w0 → (g_bind (b_X11_stepOn J1) fun I2 => g_bind (b_X11_readSum rec I2 x) fun I5 => g_bind (b_X11_lay I5 w0) fun I8 => b_X11_readNot_L96 rec (nI c) (fun (I13 : g_I) => some I13) fu 0 I8) = some J5 := fun w0 hw0 => by
      rw [e2, z_gb, show b_X11_readSum rec J2 x = some J3 from e3, z_gb, ← hw0, e4, z_gb]
      exact e5'
    refine ⟨J5, ?_, z_f2_t f1 (z_f2_t f4 f5), p5, fun r => ?_⟩
    · rw [decide_eq_true cq, Bool.true_and] at m1 m2
      rw [m1, z_gb]
      unfold x_oT at co hbody
      by_cases c1 : x_sg tp n Q.1.2 60 = true
      · rw [if_pos c1, z_gb, if_pos c1]
        exact hbody (-24) (by rw [if_pos c1]; decide)
      · rw [if_neg c1, m2, z_gb]
        rw [if_neg c1] at co
        by_cases c2 : x_sg tp n Q.1.2 61 = true
        · rw [if_pos c2, z_gb, if_neg c1]
          exact hbody (-25) (by rw [if_neg c1, if_pos c2]; decide)
        · rw [if_neg c2] at co
          exact absurd rfl co
    · obtain ⟨a1, a2⟩ := hfit r
      obtain ⟨b1, b2, m4, b3, b4, b5⟩ := q4 r
      have := p4.1.2.2.1
      refine ⟨?_, a1, a2, m ++ m4, ?_, ?_, fun k hk => ?_⟩
      · rw [x_adn_r c _ (by omega)]
        exact l5 r
      · rw [b3, t3, List.append_assoc]
      · intro d hd
        rcases List.mem_append.mp hd with r | r
        · exact t4 d r
        · exact b4 d r
      · rw [z_ht_a, t5 k (by omega)]
        exact b5 k hk
  · have hx2 : x_test tp n sub q = Q := by rw [hxt]; exact x_lp_f cc
    obtain ⟨n1, n2⟩ := z_no2 (P := Q.1.1 = 0) (g1 := x_sg tp n Q.1.2 60) (g2 := x_sg tp n Q.1.2 61) (o1 := -4) (o2 := -5) (by decide) (by decide) cc
    have hfit : Q.1.1 = 0 → Q.2.length + c ≤ Q.1.2 := fun r => by
      obtain ⟨-, t2, -⟩ := q1 r
      omega
    obtain ⟨J5, e5, f5, p5, l5⟩ := z_L96 (tp := tp) (n := n) (rec := rec) (c := c) (s := Q.1) (by omega) c fu 0 J1 Q.2 (by omega) (by unfold fu; omega) p1.1 (fun r => ⟨(p1.2 r).1, by have := hfit r; have := p1.1.2.2.1; omega⟩)
    rw [hx2]
    refine ⟨J5, ?_, z_f2_t f1 f5, p5, fun r => ?_⟩
    · rw [m1, n1, z_gb, if_neg (by decide), m2, n2, z_gb, if_neg (by decide)]
      exact e5
    · obtain ⟨t1, t2, m, t3, t4, t5⟩ := q1 r
      have := p1.1.2.2.1
      have := hfit r
      refine ⟨?_, hfit r, t2, m, t3, t4, fun k hk => t5 k (by omega)⟩
      rw [x_adn_r c _ (by omega)]
      exact l5 r
theorem x_nots_f {s : Int32 × Nat} (h : ¬ s.1 = 0) : ∀ r : Nat, (x_nots tp n r s).2 = s := by
  intro r
  induction r with
  | zero => rfl
  | succ r ih =>
    show (if x_wd tp n s.2 q_11.2.2.2.2 = true then ((x_nots tp n r (x_adv tp n s)).1 + 1, (x_nots tp n r (x_adv tp n s)).2) else (0, s)).2 = s
    rw [x_adv_f h]
    split
    · exact ih
    · rfl
theorem z_negE {w : Nat} {sub : x_Q → x_Q} {rec : g_I → Int32 → Option g_I} {x : Int32} (hs : z_E tp n w (x_sum tp n sub) (fun J => b_X11_readSum rec J x)) : z_E tp n (w + 1) (x_neg tp n sub) (fun J => b_X11_readNot rec J x) := by
  have hF : ∀ q : x_Q, ¬ q.1.1 = 0 → (x_neg tp n sub q).1 = q.1 := fun q hq => by
    unfold x_neg
    rw [x_nots_f hq]
    split
    · exact x_fail_f hq
    · show (x_lp tp n (x_sum tp n sub) (x_oT tp n) 1 (x_sum tp n sub (q.1, q.2))).1 = q.1
      have h1 := hs.1 (q.1, q.2) hq
      rw [x_lp_f (fun c => hq (by rw [← h1]; exact c.1)), h1]
  refine ⟨hF, fun J q h => ?_⟩
  by_cases h0 : q.1.1 = 0
  · obtain ⟨hrl, hlen⟩ := h.2 h0
    dsimp only
    unfold b_X11_readNot
    rw [z_gl]
    obtain ⟨J1, f1, o1, z1, l1⟩ := z_nots (tp := tp) (n := n) (rec := rec) (x := x) (K := fun (a26 : Int32) (I27 : g_I) => g_bind (b_X11_readSum rec I27 x) fun I29 => g_bind (b_X11_isMarked I29 60) fun t31 => if t31 = true then g_bind (b_X11_isMarked I29 60) fun t34 => if t34 = true then (g_bind (b_X11_stepOn I29) fun I2 => g_bind (b_X11_readSum rec I2 x) fun I5 => g_bind (b_X11_lay I5 (-24)) fun I8 => b_X11_readNot_L96 rec a26 (fun (I13 : g_I) => some I13) fu 0 I8) else (g_bind (b_X11_stepOn I29) fun I2 => g_bind (b_X11_readSum rec I2 x) fun I5 => g_bind (b_X11_lay I5 (-25)) fun I8 => b_X11_readNot_L96 rec a26 (fun (I13 : g_I) => some I13) fu 0 I8) else g_bind (b_X11_isMarked I29 61) fun t37 => if t37 = true then g_bind (b_X11_isMarked I29 60) fun t41 => if t41 = true then (g_bind (b_X11_stepOn I29) fun I2 => g_bind (b_X11_readSum rec I2 x) fun I5 => g_bind (b_X11_lay I5 (-24)) fun I8 => b_X11_readNot_L96 rec a26 (fun (I13 : g_I) => some I13) fu 0 I8) else (g_bind (b_X11_stepOn I29) fun I2 => g_bind (b_X11_readSum rec I2 x) fun I5 => g_bind (b_X11_lay I5 (-25)) fun I8 => b_X11_readNot_L96 rec a26 (fun (I13 : g_I) => some I13) fu 0 I8) else b_X11_readNot_L96 rec a26 (fun (I40 : g_I) => some I40) fu 0 I29) 6 0 fu J q.1 (by omega) h.1 h0 (by unfold fu; omega)
    have hle := x_nots_le tp n 6 q.1
    generalize hN : x_nots tp n 6 q.1 = N at o1 z1 l1 hle
    have hneg : x_neg tp n sub q = if x_wd tp n N.2.2 q_11.2.2.2.2 = true then (x_fail 2 N.2, q.2) else ((x_test tp n sub (N.2, q.2)).1, x_adn (x_test tp n sub (N.2, q.2)).2 N.1) := by unfold x_neg; rw [hN]
    rcases o1 with ⟨c, e, p⟩ | ⟨c, e, p⟩
    · have hb : ¬ J1 101 24 = 0 := by rw [p.2.1]; exact x_fail_n (by decide) _
      rw [hneg, if_pos c]
      refine ⟨J1, Eq.trans e ?_, z_f1_2 f1, ⟨p, fun r => absurd r (x_fail_n (by decide) _)⟩, fun r => absurd r (x_fail_n (by decide) _)⟩
      exact z_tailF (c := 7) (J79 := fun (z2 : Int32) (w0 : Int32) (I79j : g_I) => g_bind (b_X11_stepOn I79j) fun I2 => g_bind (b_X11_readSum rec I2 x) fun I5 => g_bind (b_X11_lay I5 w0) fun I8 => b_X11_readNot_L96 rec z2 (fun (I13 : g_I) => some I13) fu 0 I8) hb (by decide)
    · rw [hneg, if_neg c]
      have hpq : z_pq tp n J1 (N.2, q.2) := ⟨p, fun _ => ⟨z_rl_o hrl f1, by show q.2.length ≤ N.2.2; omega⟩⟩
      obtain ⟨J2, e2, f2, p2, q2⟩ := z_tailE (c := N.1) hs hpq z1 (by show q.2.length + N.1 ≤ N.2.2; omega) hle
      rw [Nat.zero_add] at e
      refine ⟨J2, Eq.trans e e2, z_f2_t (z_f1_2 f1) f2, ⟨p2, fun r => ?_⟩, fun r => ?_⟩
      · obtain ⟨a1, a2, -⟩ := q2 r
        have := p2.2.2.1
        have hn6 := h.1.1.2.1
        refine ⟨a1, ?_⟩
        show (x_adn (x_test tp n sub (N.2, q.2)).2 N.1).length ≤ (x_test tp n sub (N.2, q.2)).1.2
        rw [x_adn_r N.1 _ (by omega), List.length_append, List.length_replicate]
        exact a2
      · obtain ⟨a1, a2, a3, m, a4, a5, a6⟩ := q2 r
        have := p2.2.2.1
        have hn6 := h.1.1.2.1
        have a3' : (x_test tp n sub (N.2, q.2)).2.length + N.2.2 ≤ q.2.length + (x_test tp n sub (N.2, q.2)).1.2 := a3
        show q.1.1 = 0 ∧ (x_adn (x_test tp n sub (N.2, q.2)).2 N.1).length + q.1.2 ≤ q.2.length + (x_test tp n sub (N.2, q.2)).1.2 ∧ ∃ m, x_adn (x_test tp n sub (N.2, q.2)).2 N.1 = q.2 ++ m ∧ (∀ d ∈ m, -15 ≤ d) ∧ ∀ k, k + (w + 1) ≤ 64 → z_ht m k = some (k + 1)
        rw [x_adn_r N.1 _ (by omega)]
        refine ⟨h0, by rw [List.length_append, List.length_replicate]; omega, m ++ List.replicate N.1 (-3), ?_, ?_, fun k hk => ?_⟩
        · have a4' : (x_test tp n sub (N.2, q.2)).2 = q.2 ++ m := a4
          rw [a4', List.append_assoc]
        · intro d hd
          rcases List.mem_append.mp hd with r | r
          · exact a5 d r
          · rw [(List.mem_replicate.mp r).2]; decide
        · rw [z_ht_a, a6 k hk]
          exact z_ht_r k N.1
  · have hb : ¬ J 101 24 = 0 := by rw [h.1.2.1]; exact h0
    have hf := hF q h0
    exact ⟨J, z_notF hb, z_f2_r J, ⟨by rw [hf]; exact h.1, fun r => by rw [hf] at r; exact absurd r h0⟩, fun r => by rw [hf] at r; exact absurd r h0⟩
theorem z_exB {rec : g_I → Int32 → Option g_I} {J : g_I} {x : Int32} {s : Int32 × Nat} (h : z_ps tp n J s) (h0 : s.1 = 0) : b_X11_readExpression rec J x = if x_tk tp n s.2 = 2 ∨ x_tk tp n s.2 = 1 ∨ x_sg tp n s.2 40 = true then (if x = 6 then g_bind (b_X11_wrong J 2) fun I18 => (g_bind (b_X11_readAnd rec I18 x) fun I2 => b_X11_readExpression_L67 rec x (fun (I16 : g_I) => some I16) fu I2) else (g_bind (b_X11_readAnd rec J x) fun I2 => b_X11_readExpression_L67 rec x (fun (I16 : g_I) => some I16) fu I2)) else g_bind (b_X11_wrong J 1) fun I21 => (g_bind (b_X11_readAnd rec I21 x) fun I2 => b_X11_readExpression_L67 rec x (fun (I16 : g_I) => some I16) fu I2) := by
  obtain ⟨k1, k2, -⟩ := h.2.2.2.1 h0
  have m1 : b_X11_isMarked J 40 = some (decide (s.1 = 0) && x_sg tp n s.2 40) := z_mkd (c := 40) h (by decide)
  rw [decide_eq_true h0, Bool.true_and] at m1
  unfold b_X11_readExpression
  rw [z_gl, z_gl, h.2.1, if_pos h0, k2]
  by_cases c2 : x_tk tp n s.2 = 2
  · rw [if_pos (show nI (x_tk tp n s.2) = 2 from (z_tkE (by decide)).mpr c2), if_pos (Or.inl c2)]
    rfl
  · rw [if_neg (show ¬ nI (x_tk tp n s.2) = 2 from fun r => c2 ((z_tkE (by decide)).mp r))]
    by_cases c1 : x_tk tp n s.2 = 1
    · rw [if_pos (show nI (x_tk tp n s.2) = 1 from (z_tkE (by decide)).mpr c1), if_pos (Or.inr (Or.inl c1))]
      rfl
    · rw [if_neg (show ¬ nI (x_tk tp n s.2) = 1 from fun r => c1 ((z_tkE (by decide)).mp r)), m1, z_gb]
      by_cases c3 : x_sg tp n s.2 40 = true
      · rw [if_pos c3, if_pos (Or.inr (Or.inr c3))]
        rfl
      · rw [if_neg c3, if_neg (show ¬ (x_tk tp n s.2 = 2 ∨ x_tk tp n s.2 = 1 ∨ x_sg tp n s.2 40 = true) from fun q => q.elim c2 (fun q => q.elim c1 c3))]
        rfl
theorem z_exF {rec : g_I → Int32 → Option g_I} {J : g_I} {x : Int32} (hb : ¬ J 101 24 = 0) : b_X11_readExpression rec J x = some J := by
  unfold b_X11_readExpression
  rw [z_gl, z_gl, if_neg hb]
theorem x_lp_1 {it : x_Q → x_Q} {op : Nat → Int32} {f : Nat} {q : x_Q} {s : Int32 × Nat} (h : q.1 = s) (hs : ¬ s.1 = 0) : (x_lp tp n it op f q).1 = s := by
  rw [x_lp_f (fun c => hs (by rw [← h]; exact c.1)), h]
theorem z_exN {sub : x_Q → x_Q} {q : x_Q} (hm : ¬ (x_tk tp n q.1.2 = 2 ∨ x_tk tp n q.1.2 = 1 ∨ x_sg tp n q.1.2 40 = true)) : (x_lp tp n (x_both tp n sub) (x_oO tp n) 600 (x_both tp n sub q)).1 = x_fail 1 q.1 := by
  have hf : ¬ (x_fail 1 q.1).1 = 0 := x_fail_n (by decide) _
  have hwd : ∀ bs, ¬ x_wd tp n q.1.2 bs = true := fun bs r => by
    unfold x_wd at r
    rw [Bool.and_eq_true, decide_eq_true_eq] at r
    exact hm (Or.inr (Or.inl r.1))
  have hn : x_nots tp n 6 q.1 = (0, q.1) := if_neg (hwd _)
  have hp : (x_part tp n sub q).1 = x_fail 1 q.1 := by
    unfold x_part
    rw [if_neg (fun r => hm (Or.inr (Or.inr r))), if_neg (fun r => hm (Or.inr (Or.inl r)))]
    show x_rn tp n 0 9999 q.1 = _
    unfold x_rn
    rw [if_pos (fun r => hm (Or.inl r)), x_adv_f hf]
  have h1 : (x_prod tp n sub q).1 = x_fail 1 q.1 := x_lp_1 hp hf
  have h2 : (x_sum tp n sub q).1 = x_fail 1 q.1 := x_lp_1 h1 hf
  have h3 : (x_test tp n sub q).1 = x_fail 1 q.1 := x_lp_1 h2 hf
  have h4 : (x_neg tp n sub q).1 = x_fail 1 q.1 := by
    unfold x_neg
    rw [hn, if_neg (hwd _)]
    exact h3
  have h5 : (x_both tp n sub q).1 = x_fail 1 q.1 := x_lp_1 h4 hf
  exact x_lp_1 h5 hf
theorem z_exE : ∀ (r dd : Nat), dd + r = 6 → z_E tp n (5 * r + 1) (x_ex tp n r) (fun J => c_X11_readExpression (2 + r) J (nI dd)) := by
  intro r
  induction r with
  | zero =>
    intro dd hdd
    refine ⟨fun q hq => x_fail_f hq, fun J q h => ?_⟩
    show ∃ J', b_X11_readExpression (c_X11_readExpression 1) J (nI dd) = some J' ∧ _
    by_cases h0 : q.1.1 = 0
    · rw [z_exB h.1 h0]
      by_cases c : x_tk tp n q.1.2 = 2 ∨ x_tk tp n q.1.2 = 1 ∨ x_sg tp n q.1.2 40 = true
      · have hx : x_ex tp n 0 q = (x_fail 2 q.1, q.2) := by
          show (x_fail (if x_tk tp n q.1.2 = 2 ∨ x_tk tp n q.1.2 = 1 ∨ x_sg tp n q.1.2 40 = true then 2 else 1) q.1, q.2) = _
          rw [if_pos c]
        obtain ⟨J1, e1, f1, p1⟩ := z_wr (c := 2) h.1 (by decide)
        have hb : ¬ J1 101 24 = 0 := by rw [p1.2.1]; exact x_fail_n (by decide) _
        rw [hx, if_pos c, if_pos (show nI dd = 6 by rw [show dd = 6 by omega]; rfl), e1, z_gb]
        exact ⟨J1, z_orF hb, z_f1_2 f1, ⟨p1, fun r => absurd r (x_fail_n (by decide) _)⟩, fun r => absurd r (x_fail_n (by decide) _)⟩
      · have hx : x_ex tp n 0 q = (x_fail 1 q.1, q.2) := by
          show (x_fail (if x_tk tp n q.1.2 = 2 ∨ x_tk tp n q.1.2 = 1 ∨ x_sg tp n q.1.2 40 = true then 2 else 1) q.1, q.2) = _
          rw [if_neg c]
        obtain ⟨J1, e1, f1, p1⟩ := z_wr (c := 1) h.1 (by decide)
        have hb : ¬ J1 101 24 = 0 := by rw [p1.2.1]; exact x_fail_n (by decide) _
        rw [hx, if_neg c, e1, z_gb]
        exact ⟨J1, z_orF hb, z_f1_2 f1, ⟨p1, fun r => absurd r (x_fail_n (by decide) _)⟩, fun r => absurd r (x_fail_n (by decide) _)⟩
    · have hb : ¬ J 101 24 = 0 := by rw [h.1.2.1]; exact h0
      have hf : (x_ex tp n 0 q).1 = q.1 := x_fail_f h0
      exact ⟨J, z_exF hb, z_f2_r J, ⟨by rw [hf]; exact h.1, fun r => by rw [hf] at r; exact absurd r h0⟩, fun r => by rw [hf] at r; exact absurd r h0⟩
  | succ r ih =>
    intro dd hdd
    have hsub : z_E tp n (5 * r + 1) (x_ex tp n r) (fun J => c_X11_readExpression (2 + r) J (nI dd + 1)) := by rw [nI_1]; exact ih (dd + 1) (by omega)
    have hE := z_orE (z_andE (z_negE (z_sumE (z_prodE (z_partE (x := nI dd) (by omega) hsub)))))
    refine ⟨hE.1, fun J q h => ?_⟩
    show ∃ J', b_X11_readExpression (c_X11_readExpression (2 + r)) J (nI dd) = some J' ∧ _
    by_cases h0 : q.1.1 = 0
    · rw [z_exB h.1 h0]
      by_cases c : x_tk tp n q.1.2 = 2 ∨ x_tk tp n q.1.2 = 1 ∨ x_sg tp n q.1.2 40 = true
      · rw [if_pos c, if_neg (show ¬ nI dd = 6 from fun q => absurd ((nI_eq (a := dd) (b := 6) (by omega) (by omega)).mp q) (by omega))]
        exact hE.2 J q h
      · have hx : (x_ex tp n (r + 1) q).1 = x_fail 1 q.1 := z_exN c
        obtain ⟨J1, e1, f1, p1⟩ := z_wr (c := 1) h.1 (by decide)
        have hb : ¬ J1 101 24 = 0 := by rw [p1.2.1]; exact x_fail_n (by decide) _
        have hf : ¬ (x_fail 1 q.1).1 = 0 := x_fail_n (by decide) _
        rw [if_neg c, e1, z_gb]
        exact ⟨J1, z_orF hb, z_f1_2 f1, ⟨by rw [hx]; exact p1, fun r => by rw [hx] at r; exact absurd r hf⟩, fun r => by rw [hx] at r; exact absurd r hf⟩
    · have hb : ¬ J 101 24 = 0 := by rw [h.1.2.1]; exact h0
      have hf : (x_ex tp n (r + 1) q).1 = q.1 := hE.1 q h0
      exact ⟨J, z_exF hb, z_f2_r J, ⟨by rw [hf]; exact h.1, fun r => by rw [hf] at r; exact absurd r h0⟩, fun r => by rw [hf] at r; exact absurd r h0⟩
end ZEN
