/-! PURE: LINES: FORGETTING, NOON, THE RULE, BREAD, BOTH WORLDS -/
section ZLB
variable {tp : Nat → Int32} {n : Nat}
theorem z_forR {J : g_I} {s : Int32 × Nat} {T : x_T} (h : z_ps tp n J s) (hR : s.1 = 0 → z_Rh J T ∧ z_Wk T) : ∃ J', (g_bind2 (b_X11_readNumber J 1 999) fun a11 I12 => g_let (am_up I12 104 9 a11) fun I14 => some I14) = some J' ∧ z_f3 J J' ∧ z_ps tp n J' (x_rn tp n 1 999 s) ∧ ((x_rn tp n 1 999 s).1 = 0 → z_Rh J' (T.1, T.2.1, T.2.2.1, (x_rv tp n 1 999 s, T.2.2.2.1.2), T.2.2.2.2) ∧ z_Wk (T.1, T.2.1, T.2.2.1, (x_rv tp n 1 999 s, T.2.2.2.1.2), T.2.2.2.2)) := by
  obtain ⟨v, J1, e1, f1, p1, q1⟩ := z_rnR (lo := 1) (hi := 999) h
  rw [e1]
  simp only [g_bind2]
  rw [z_gl]
  refine ⟨_, rfl, z_f3_t (z_f1_3 f1) (z_f3_u (by decide) (by show 6 ≤ 9; omega)), z_ps_u p1 (by decide), fun r => ?_⟩
  obtain ⟨v1, -, x, v2, v3, v4, v5⟩ := q1 r
  have erv : x_rv tp n 1 999 s = nI x := by unfold x_rv; rw [if_pos r, v3]
  obtain ⟨r1, r2⟩ := hR (x_rn_0 r)
  obtain ⟨⟨t1, t2, t3, t4, t5⟩, rl, rp, rlo, rm⟩ := z_Rh_1 r1 f1
  have k4 : ∀ k, k ≠ 9 → am_up J1 104 9 v 104 k = J1 104 k := fun k p => up_ne p
  have kk : ∀ a, a ≠ 104 → am_up J1 104 9 v a = J1 a := fun a p => am_up_o _ _ _ _ p
  obtain ⟨⟨wp, wl, ⟨-, wm⟩, wr⟩, wk⟩ := r2
  have h1 : 1 ≤ x := (nI_leI (a := 1) (by omega) (by omega)).mp v4
  have h2 : x ≤ 999 := (nI_leI (b := 999) (by omega) (by decide)).mp v5
  rw [erv]
  refine ⟨⟨⟨by rw [k4 6 (by decide)]; exact t1, by rw [k4 7 (by decide)]; exact t2, by rw [k4 8 (by decide)]; exact t3, by rw [up_eq, v1, v3], by rw [k4 10 (by decide)]; exact t5⟩, ⟨by rw [k4 11 (by decide)]; exact rl.1, fun k hk => by rw [kk 115 (by decide)]; exact rl.2 k hk⟩, fun p hp => ?_, fun l hl => ?_, fun a b ha hb => by rw [kk 114 (by decide)]; exact rm a b ha hb⟩, ⟨wp, wl, ⟨⟨x, h1, h2, rfl⟩, wm⟩, wr⟩, wk⟩
  · rw [kk 105 (by decide), kk 106 (by decide), kk 107 (by decide)]
    exact rp p hp
  · rw [kk 108 (by decide), kk 109 (by decide), kk 110 (by decide), kk 111 (by decide), kk 112 (by decide), kk 113 (by decide)]
    exact rlo l hl
theorem z_nooR {J : g_I} {s : Int32 × Nat} {T : x_T} (h : z_ps tp n J s) (hR : s.1 = 0 → z_Rh J T ∧ z_Wk T) : ∃ J', (g_bind2 (b_X11_readNumber J 1 23) fun a7 I8 => g_let (am_up I8 104 10 a7) fun I10 => some I10) = some J' ∧ z_f3 J J' ∧ z_ps tp n J' (x_rn tp n 1 23 s) ∧ ((x_rn tp n 1 23 s).1 = 0 → z_Rh J' (T.1, T.2.1, T.2.2.1, (T.2.2.2.1.1, x_rv tp n 1 23 s), T.2.2.2.2) ∧ z_Wk (T.1, T.2.1, T.2.2.1, (T.2.2.2.1.1, x_rv tp n 1 23 s), T.2.2.2.2)) := by
  obtain ⟨v, J1, e1, f1, p1, q1⟩ := z_rnR (lo := 1) (hi := 23) h
  rw [e1]
  simp only [g_bind2]
  rw [z_gl]
  refine ⟨_, rfl, z_f3_t (z_f1_3 f1) (z_f3_u (by decide) (by show 6 ≤ 10; omega)), z_ps_u p1 (by decide), fun r => ?_⟩
  obtain ⟨v1, -, x, v2, v3, v4, v5⟩ := q1 r
  have erv : x_rv tp n 1 23 s = nI x := by unfold x_rv; rw [if_pos r, v3]
  obtain ⟨r1, r2⟩ := hR (x_rn_0 r)
  obtain ⟨⟨t1, t2, t3, t4, t5⟩, rl, rp, rlo, rm⟩ := z_Rh_1 r1 f1
  have k4 : ∀ k, k ≠ 10 → am_up J1 104 10 v 104 k = J1 104 k := fun k p => up_ne p
  have kk : ∀ a, a ≠ 104 → am_up J1 104 10 v a = J1 a := fun a p => am_up_o _ _ _ _ p
  obtain ⟨⟨wp, wl, ⟨wm, -⟩, wr⟩, wk⟩ := r2
  have h1 : 1 ≤ x := (nI_leI (a := 1) (by omega) (by omega)).mp v4
  have h2 : x ≤ 23 := (nI_leI (b := 23) (by omega) (by decide)).mp v5
  rw [erv]
  refine ⟨⟨⟨by rw [k4 6 (by decide)]; exact t1, by rw [k4 7 (by decide)]; exact t2, by rw [k4 8 (by decide)]; exact t3, by rw [k4 9 (by decide)]; exact t4, by rw [up_eq, v1, v3]⟩, ⟨by rw [k4 11 (by decide)]; exact rl.1, fun k hk => by rw [kk 115 (by decide)]; exact rl.2 k hk⟩, fun p hp => ?_, fun l hl => ?_, fun a b ha hb => by rw [kk 114 (by decide)]; exact rm a b ha hb⟩, ⟨wp, wl, ⟨wm, ⟨x, h1, h2, rfl⟩⟩, wr⟩, wk⟩
  · rw [kk 105 (by decide), kk 106 (by decide), kk 107 (by decide)]
    exact rp p hp
  · rw [kk 108 (by decide), kk 109 (by decide), kk 110 (by decide), kk 111 (by decide), kk 112 (by decide), kk 113 (by decide)]
    exact rlo l hl
theorem z_rulR {J : g_I} {s : Int32 × Nat} {T : x_T} (h : z_ps tp n J s) (hR : s.1 = 0 → z_Rh J T ∧ z_Wk T ∧ T.2.2.2.2 = []) : ∃ J', c_X11_readExpression 8 J 0 = some J' ∧ z_f3 J J' ∧ z_ps tp n J' (x_ex tp n 6 (s, T.2.2.2.2)).1 ∧ ((x_ex tp n 6 (s, T.2.2.2.2)).1.1 = 0 → s.2 ≤ (x_ex tp n 6 (s, T.2.2.2.2)).1.2 ∧ z_Rh J' (T.1, T.2.1, T.2.2.1, T.2.2.2.1, (x_ex tp n 6 (s, T.2.2.2.2)).2) ∧ z_Wk (T.1, T.2.1, T.2.2.1, T.2.2.2.1, (x_ex tp n 6 (s, T.2.2.2.2)).2)) := by
  have hpq : z_pq tp n J (s, T.2.2.2.2) := ⟨h, fun r => ⟨(hR r).1.2.1, by show T.2.2.2.2.length ≤ s.2; rw [(hR r).2.2]; exact Nat.zero_le _⟩⟩
  obtain ⟨J1, e1, f1, p1, q1⟩ := (z_exE (tp := tp) (n := n) 6 0 (by omega)).2 J _ hpq
  refine ⟨J1, e1, z_f2_3 f1, p1.1, fun r => ?_⟩
  obtain ⟨s0, sl, m, e2, m1, m2⟩ := q1 r
  obtain ⟨r1, r2, r3⟩ := hR s0
  obtain ⟨⟨t1, t2, t3, t4, t5⟩, rl, rp, rlo, rm⟩ := r1
  have hb := (p1.2 r).2
  have hn := p1.1.2.2.1
  have hn6 := h.1.2.1
  have e2' : (x_ex tp n 6 (s, T.2.2.2.2)).2 = m := by
    have : (x_ex tp n 6 (s, T.2.2.2.2)).2 = T.2.2.2.2 ++ m := e2
    rw [this, r3]; rfl
  have hmono : s.2 ≤ (x_ex tp n 6 (s, T.2.2.2.2)).1.2 := by
    have sl' : (x_ex tp n 6 (s, T.2.2.2.2)).2.length + s.2 ≤ T.2.2.2.2.length + (x_ex tp n 6 (s, T.2.2.2.2)).1.2 := sl
    have : T.2.2.2.2.length = 0 := by rw [r3]; rfl
    omega
  refine ⟨hmono, ⟨⟨by rw [f1.2.2.1 6 (by decide)]; exact t1, by rw [f1.2.2.1 7 (by decide)]; exact t2, by rw [f1.2.2.1 8 (by decide)]; exact t3, by rw [f1.2.2.1 9 (by decide)]; exact t4, by rw [f1.2.2.1 10 (by decide)]; exact t5⟩, (p1.2 r).1, fun p hp => ?_, fun l hl => ?_, fun a b ha hb => by rw [f1.1 114 (by decide) (by decide) (by decide)]; exact rm a b ha hb⟩, ⟨r2.1.1, r2.1.2.1, r2.1.2.2.1, by show (x_ex tp n 6 (s, T.2.2.2.2)).2.length ≤ 600; omega, ?_, 1, ?_⟩, r2.2⟩
  · rw [f1.1 105 (by decide) (by decide) (by decide), f1.1 106 (by decide) (by decide) (by decide), f1.1 107 (by decide) (by decide) (by decide)]
    exact rp p hp
  · rw [f1.1 108 (by decide) (by decide) (by decide), f1.1 109 (by decide) (by decide) (by decide), f1.1 110 (by decide) (by decide) (by decide), f1.1 111 (by decide) (by decide) (by decide), f1.1 112 (by decide) (by decide) (by decide), f1.1 113 (by decide) (by decide) (by decide)]
    exact rlo l hl
  · show ∀ c ∈ (x_ex tp n 6 (s, T.2.2.2.2)).2, -15 ≤ c
    rw [e2']
    exact m1
  · show z_ht (x_ex tp n 6 (s, T.2.2.2.2)).2 0 = some 1
    rw [e2']
    exact m2 0 (by decide)
/-- eaters read so far: the row of the reference, as it should be -/
def z_eo (J : g_I) (pn lf : Nat) (es : List Int32) : Prop := es.length ≤ 6 ∧ (∀ i, i < es.length → J 113 (36 + 6 * lf + i) = es.getD i 0) ∧ (∀ i, i < es.length → ∃ p, p < pn ∧ es.getD i 0 = nI p) ∧ ∀ i j, i < j → j < es.length → ¬ es.getD i 0 = es.getD j 0
def z_f4 (J J' : g_I) (lf : Nat) : Prop := (∀ a, a ≠ 101 → a ≠ 113 → J' a = J a) ∧ (∀ k, (k < 18 ∨ k = 19 ∨ 25 < k) → J' 101 k = J 101 k) ∧ ∀ k, k < 36 + 6 * lf → J' 113 k = J 113 k
theorem z_f4_t {J K M : g_I} {lf : Nat} (h1 : z_f4 J K lf) (h2 : z_f4 K M lf) : z_f4 J M lf := ⟨fun a p q => (h2.1 a p q).trans (h1.1 a p q), fun k h => (h2.2.1 k h).trans (h1.2.1 k h), fun k h => (h2.2.2 k h).trans (h1.2.2 k h)⟩
theorem z_f1_4 {J K : g_I} {lf : Nat} (h : z_f1 J K) : z_f4 J K lf := ⟨fun a p _ => h.1 a p, h.2, fun k _ => by rw [h.1 113 (by decide)]⟩
theorem z_f4_3 {J K : g_I} {lf : Nat} (h : z_f4 J K lf) : z_f3 J K := ⟨fun a p => h.1 a (by omega) (by omega), h.2.1, fun a p q k hk => by
  by_cases e : a = 113
  · subst e
    exact h.2.2 k (by unfold z_hf at hk; simp at hk; omega)
  · rw [h.1 a (by omega) e]⟩
theorem z_L117F {y1 : Int32} {K : Int32 → g_I → Option g_I} {J : g_I} {a b : Int32} {f : Nat} (hb : ¬ J 101 24 = 0) : b_X11_readLoaf_L117 y1 K (f + 1) a b J = K a J := by
  unfold b_X11_readLoaf_L117
  rw [z_gl, z_gl, if_neg hb]
theorem z_ehas {es : List Int32} {pn : Nat} (hpn : pn ≤ 8) (he : ∀ i, i < es.length → ∃ p, p < pn ∧ es.getD i 0 = nI p) {y : Nat} (hy : y < 32) : f_has (x_bits es) (nI y) = true ↔ ∃ i, i < es.length ∧ es.getD i 0 = nI y := by
  have hE : ∀ e ∈ es, ∃ j, j < 32 ∧ e = nI j := fun e hm => by
    obtain ⟨i, hi, rfl⟩ := List.getElem_of_mem hm
    obtain ⟨p, hp, ep⟩ := he i hi
    rw [z_gd hi] at ep
    exact ⟨p, by omega, ep⟩
  rw [z_has hy, z_xb hE hy]
  constructor
  · intro hm
    obtain ⟨i, hi, e⟩ := List.getElem_of_mem hm
    exact ⟨i, hi, by rw [z_gd hi]; exact e⟩
  · rintro ⟨i, hi, e⟩
    rw [z_gd hi] at e
    rw [← e]
    exact List.getElem_mem hi
theorem z_eatR {lf pn : Nat} (hlf : lf < 6) (hp8 : pn ≤ 8) {K : Int32 → g_I → Option g_I} : ∀ (f i f2 : Nat) (J : g_I) (q : (Int32 × Nat) × List Int32), i + f = 7 → f < f2 → z_ps tp n J q.1 → J 104 6 = nI pn → (q.1.1 = 0 → q.2.length = i ∧ i ≤ 6 ∧ z_eo J pn lf q.2 ∧ (i = 0 → x_tk tp n q.1.2 = 2)) →
    ∃ m J', b_X11_readLoaf_L117 (nI (6 + lf)) K f2 (nI q.2.length) (x_bits q.2) J = K m J' ∧ z_f4 J J' lf ∧ z_ps tp n J' (x_eat tp n pn f i q).1 ∧ ((x_eat tp n pn f i q).1.1 = 0 → m = nI (x_eat tp n pn f i q).2.length ∧ 1 ≤ (x_eat tp n pn f i q).2.length ∧ z_eo J' pn lf (x_eat tp n pn f i q).2) := by
  intro f
  induction f with
  | zero =>
    intro i f2 J q hi hf h hpn hq
    obtain ⟨f', rfl⟩ : ∃ f', f2 = f' + 1 := ⟨f2 - 1, by omega⟩
    have h0 : ¬ q.1.1 = 0 := fun r => by have := (hq r).2.1; omega
    have hb : ¬ J 101 24 = 0 := by rw [h.2.1]; exact h0
    rw [z_L117F hb]
    exact ⟨_, J, rfl, z_f1_4 (z_f1_r J), h, fun r => absurd r h0⟩
  | succ f ih =>
    intro i f2 J q hi hf h hpn hq
    obtain ⟨f', rfl⟩ : ∃ f', f2 = f' + 1 := ⟨f2 - 1, by omega⟩
    by_cases h0 : q.1.1 = 0
    · obtain ⟨ql, qi, qe, qt⟩ := hq h0
      obtain ⟨e6, e1, e2, e3⟩ := qe
      obtain ⟨k1, k2, -⟩ := h.2.2.2.1 h0
      have hb : J 101 24 = 0 := by rw [h.2.1]; exact h0
      by_cases c2 : x_tk tp n q.1.2 = 2
      · have hx : x_eat tp n pn (f + 1) i q = x_eat tp n pn f (i + 1) (x_est tp n pn i q) := if_pos ⟨h0, Or.inr c2⟩
        conv => enter [1, m, 1, J', 1, 1]; unfold b_X11_readLoaf_L117
        rw [z_gl, z_gl, if_pos hb, k2, if_pos (show nI (x_tk tp n q.1.2) = 2 from (z_tkE (by decide)).mpr c2), ql, hx]
        by_cases c6 : i = 6
        · obtain ⟨J1, a1, f1, p1⟩ := z_wr (c := 2) h (by decide)
          have hff := x_fail_n (c := 2) (by decide) q.1
          obtain ⟨v, J2, a2, f3, p2, q2⟩ := z_pwR (pn := pn) p1 (by rw [f1.1 104 (by decide)]; exact hpn)
          rw [z_pc1_f hff] at p2
          have hb2 : ¬ J2 101 24 = 0 := by rw [p2.2.1]; exact hff
          have hest : (x_est tp n pn i q).1 = x_fail 2 q.1 := by
            show x_pn tp n pn (x_bits q.2) (if i = 6 then x_fail 2 q.1 else q.1) = _
            rw [if_pos c6, x_pn_f hff]
          obtain ⟨f'', rfl⟩ : ∃ f'', f' = f'' + 1 := ⟨f' - 1, by omega⟩
          rw [if_pos (show nI i = 6 by rw [c6]; rfl), a1, z_gb]
          dsimp only
          rw [a2]
          simp only [g_bind2]
          rw [if_neg hb2, if_neg hb2, z_L117F hb2]
          have hx2 : (x_eat tp n pn f (i + 1) (x_est tp n pn i q)).1 = x_fail 2 q.1 := by
            rw [show f = 0 by omega]
            exact hest
          exact ⟨_, J2, rfl, z_f1_4 (z_f1_t f1 f3), by rw [hx2]; exact p2, fun r => by rw [hx2] at r; exact absurd r hff⟩
        · rw [if_neg (show ¬ nI i = 6 from fun r => c6 ((nI_eq (b := 6) (by omega) (by omega)).mp r))]
          obtain ⟨v, J2, a2, f2', p2, q2⟩ := z_pwR (pn := pn) h hpn
          have hest1 : (x_est tp n pn i q).1 = x_pn tp n pn (x_bits q.2) q.1 := by
            show x_pn tp n pn (x_bits q.2) (if i = 6 then x_fail 2 q.1 else q.1) = _
            rw [if_neg c6]
          dsimp only
          rw [a2]
          simp only [g_bind2]
          have bad : ∀ (J3 : g_I) (s3 : Int32 × Nat), z_f1 J J3 → z_ps tp n J3 s3 → ¬ s3.1 = 0 → (x_est tp n pn i q).1 = s3 → ∃ m J', b_X11_readLoaf_L117 (nI (6 + lf)) K f' (nI i) (x_bits q.2) J3 = K m J' ∧ z_f4 J J' lf ∧ z_ps tp n J' (x_eat tp n pn f (i + 1) (x_est tp n pn i q)).1 ∧ ((x_eat tp n pn f (i + 1) (x_est tp n pn i q)).1.1 = 0 → m = nI (x_eat tp n pn f (i + 1) (x_est tp n pn i q)).2.length ∧ 1 ≤ (x_eat tp n pn f (i + 1) (x_est tp n pn i q)).2.length ∧ z_eo J' pn lf (x_eat tp n pn f (i + 1) (x_est tp n pn i q)).2) := fun J3 s3 g1 g2 g3 g4 => by
            obtain ⟨f'', rfl⟩ : ∃ f'', f' = f'' + 1 := ⟨f' - 1, by omega⟩
            have hb3 : ¬ J3 101 24 = 0 := by rw [g2.2.1]; exact g3
            have hx2 : (x_eat tp n pn f (i + 1) (x_est tp n pn i q)).1 = s3 := by
              cases f with
              | zero => exact g4
              | succ f =>
                have : x_eat tp n pn (f + 1) (i + 1) (x_est tp n pn i q) = x_est tp n pn i q := if_neg (fun r => by have := r.1; rw [g4] at this; exact g3 this)
                rw [this]; exact g4
            rw [z_L117F hb3]
            exact ⟨_, J3, rfl, z_f1_4 g1, by rw [hx2]; exact g2, fun r => by rw [hx2] at r; exact absurd r g3⟩
          by_cases c : (z_pc1 tp n pn q.1).1 = 0
          · obtain ⟨b1, b2, b3, b4, y, b5, b6, b7⟩ := q2 c
            have hy := z_nlt b5 hp8 b7
            have hb2 : J2 101 24 = 0 := by rw [p2.2.1]; exact c
            have hof : b_X11_isOf (x_bits q.2) (nI y) = f_has (x_bits q.2) (nI y) := by rw [z_isOf (by omega), z_has (by omega)]
            rw [if_pos hb2, b3, b6, hof]
            by_cases ch : f_has (x_bits q.2) (nI y) = true
            · obtain ⟨J3, a3, f3, p3⟩ := z_wr (c := 4) p2 (by decide)
              have hff := x_fail_n (c := 4) (by decide) q.1
              rw [b1] at p3
              have hb3 : ¬ J3 101 24 = 0 := by rw [p3.2.1]; exact hff
              rw [if_pos ch, a3, z_gb]
              rw [if_neg hb3]
              exact bad J3 _ (z_f1_t f2' f3) p3 hff (by rw [hest1, x_pn_e, if_pos ⟨c, by rw [b6]; exact ch⟩, x_adv_f hff])
            · have hpn2 : x_pn tp n pn (x_bits q.2) q.1 = x_adv tp n q.1 := by rw [x_pn_e, if_neg (fun r => ch (by rw [← b6]; exact r.2)), b1]
              have hpv : x_pv tp n pn (x_bits q.2) q.1 = nI y := by
                unfold x_pv
                rw [hpn2, x_adv_p h0, if_pos rfl, b6]
              have hest : x_est tp n pn i q = (x_adv tp n q.1, q.2 ++ [nI y]) := by
                show (x_pn tp n pn (x_bits q.2) (if i = 6 then x_fail 2 q.1 else q.1), if (x_pn tp n pn (x_bits q.2) (if i = 6 then x_fail 2 q.1 else q.1)).1 = 0 then q.2 ++ [x_pv tp n pn (x_bits q.2) (if i = 6 then x_fail 2 q.1 else q.1)] else q.2) = _
                rw [if_neg c6, hpn2, hpv, x_adv_p h0, if_pos rfl]
              have h113 : (6 : Int32) * nI (6 + lf) + nI i = nI (36 + 6 * lf + i) := by
                rw [show (6 : Int32) = nI 6 from rfl, pk_mul, nI_add]
                congr 1
                omega
              rw [b2] at p2
              rw [if_neg ch, b2]
              rw [if_pos hb, z_gl, h113, if_pos (g_in_nI (by omega) (by decide)), nI_clamp (by omega), z_gl]
              have p3 : z_ps tp n (am_up J 113 (36 + 6 * lf + i) (nI y)) q.1 := z_ps_u h (by decide)
              obtain ⟨J4, a4, f4, p4⟩ := z_av p3 h0
              have g4 : z_f4 J J4 lf := z_f4_t (⟨fun a _ r => am_up_o _ _ _ _ r, fun k _ => by rw [am_up_o _ _ _ _ (by decide)], fun k r => up_ne (by omega)⟩ : z_f4 J (am_up J 113 (36 + 6 * lf + i) (nI y)) lf) (z_f1_4 f4)
              have hlen : (q.2 ++ [nI y]).length = i + 1 := by rw [List.length_append, ql]; rfl
              have h4 : ∀ k, J4 113 k = if k = 36 + 6 * lf + i then nI y else J 113 k := fun k => by
                rw [f4.1 113 (by decide)]
                by_cases r : k = 36 + 6 * lf + i
                · rw [r, up_eq, if_pos rfl]
                · rw [up_ne r, if_neg r]
              rw [a4, z_gb, nI_1]
              have heo : z_eo J4 pn lf (q.2 ++ [nI y]) := by
                refine ⟨by omega, fun k hk => ?_, fun k hk => ?_, fun a b hab hbl => ?_⟩
                · rw [hlen] at hk
                  rw [h4]
                  by_cases r : k = i
                  · rw [if_pos (by omega), r, ← ql, z_gae]
                  · rw [if_neg (by omega), z_gal (by omega)]
                    exact e1 k (by omega)
                · rw [hlen] at hk
                  by_cases r : k = i
                  · rw [r, ← ql, z_gae]
                    exact ⟨y, hy, rfl⟩
                  · rw [z_gal (by omega)]
                    exact e2 k (by omega)
                · rw [hlen] at hbl
                  rw [z_gal (show a < q.2.length by omega)]
                  by_cases r : b = i
                  · rw [r, ← ql, z_gae]
                    exact fun t => ch ((z_ehas hp8 e2 (by omega)).mpr ⟨a, by omega, t⟩)
                  · rw [z_gal (by omega)]
                    exact e3 a b hab (by omega)
              have hbits : x_bits (q.2 ++ [nI y]) = x_bits q.2 ||| ((1 : Int32) <<< (nI y &&& 31)) := x_bits_ap q.2 (nI y)
              obtain ⟨m, J', a5, f5, p5, q5⟩ := ih (i + 1) f' J4 (x_adv tp n q.1, q.2 ++ [nI y]) (by omega) (by omega) p4 (by rw [g4.1 104 (by decide) (by decide)]; exact hpn) (fun _ => ⟨hlen, by omega, heo, fun r => absurd r (by omega)⟩)
              rw [hest]
              have a5' : b_X11_readLoaf_L117 (nI (6 + lf)) K f' (nI (i + 1)) (x_bits q.2 ||| ((1 : Int32) <<< (nI y &&& 31))) J4 = K m J' := by
                have := a5
                dsimp only at this
                rw [hlen, hbits] at this
                exact this
              exact ⟨m, J', a5', z_f4_t g4 f5, p5, q5⟩
          · have hb2 : ¬ J2 101 24 = 0 := by rw [p2.2.1]; exact c
            rw [if_neg hb2]
            rw [if_neg hb2]
            exact bad J2 _ f2' p2 c (by rw [hest1, x_pn_e, if_neg (fun r => c r.1), x_adv_f c])
      · have hi0 : ¬ i = 0 := fun r => c2 (qt r)
        have hx : x_eat tp n pn (f + 1) i q = q := if_neg (fun r => r.2.elim hi0 c2)
        conv => enter [1, m, 1, J', 1, 1]; unfold b_X11_readLoaf_L117
        rw [z_gl, z_gl, if_pos hb, k2, if_neg (show ¬ nI (x_tk tp n q.1.2) = 2 from fun r => c2 ((z_tkE (by decide)).mp r)), hx]
        exact ⟨_, J, rfl, z_f1_4 (z_f1_r J), h, fun _ => ⟨rfl, by omega, e6, e1, e2, e3⟩⟩
    · have hb : ¬ J 101 24 = 0 := by rw [h.2.1]; exact h0
      have hx : x_eat tp n pn (f + 1) i q = q := if_neg (fun r => h0 r.1)
      rw [z_L117F hb, hx]
      exact ⟨_, J, rfl, z_f1_4 (z_f1_r J), h, fun r => absurd r h0⟩
end ZLB
