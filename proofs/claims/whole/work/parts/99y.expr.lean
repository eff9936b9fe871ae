/-! PURE: THE RULE'S PIECES, BOTH WORLDS -/
section ZEP
variable {tp : Nat → Int32} {n : Nat}
theorem z_sg_lt {a : Nat} {c : Int32} (h : x_sg tp n a c = true) : a < n := by
  unfold x_sg at h
  rw [Bool.and_eq_true, decide_eq_true_eq] at h
  exact x_tk_lt (by rw [h.1]; decide)
theorem z_wd_lt {a : Nat} {bs : List Int32} (h : x_wd tp n a bs = true) : a < n := by
  unfold x_wd at h
  rw [Bool.and_eq_true, decide_eq_true_eq] at h
  exact x_tk_lt (by rw [h.1]; decide)
theorem z_opQ {g1 g2 : Nat → Bool} {o1 o2 : Int32} (h1 : ∀ a, g1 a = true → a < n) (h2 : ∀ a, g2 a = true → a < n) (ho1 : -15 ≤ o1 ∧ ¬ (0 ≤ o1 ∨ o1 ≤ -10) ∧ ¬ o1 = -3) (ho2 : -15 ≤ o2 ∧ ¬ (0 ≤ o2 ∨ o2 ≤ -10) ∧ ¬ o2 = -3) : z_op n (fun a => if g1 a = true then o1 else if g2 a = true then o2 else 0) := by
  intro a h
  dsimp only at h ⊢
  by_cases c1 : g1 a = true
  · rw [if_pos c1]; exact ⟨h1 a c1, ho1⟩
  · rw [if_neg c1] at h ⊢
    by_cases c2 : g2 a = true
    · rw [if_pos c2]; exact ⟨h2 a c2, ho2⟩
    · rw [if_neg c2] at h
      exact absurd rfl h
theorem z_opR {g1 : Nat → Bool} {o1 : Int32} (h1 : ∀ a, g1 a = true → a < n) (ho1 : -15 ≤ o1 ∧ ¬ (0 ≤ o1 ∨ o1 ≤ -10) ∧ ¬ o1 = -3) : z_op n (fun a => if g1 a = true then o1 else 0) := by
  intro a h
  dsimp only at h ⊢
  by_cases c1 : g1 a = true
  · rw [if_pos c1]; exact ⟨h1 a c1, ho1⟩
  · rw [if_neg c1] at h
    exact absurd rfl h
theorem z_no2 {P : Prop} [Decidable P] {g1 g2 : Bool} {o1 o2 : Int32} (h1 : ¬ o1 = 0) (h2 : ¬ o2 = 0) (h : ¬ (P ∧ ¬ (if g1 = true then o1 else if g2 = true then o2 else 0) = 0)) : (decide P && g1) = false ∧ (decide P && g2) = false := by
  by_cases c : P
  · cases g1 with
    | true => exact absurd ⟨c, by rw [if_pos rfl]; exact h1⟩ h
    | false =>
      cases g2 with
      | true => exact absurd ⟨c, by rw [if_neg (by decide), if_pos rfl]; exact h2⟩ h
      | false => exact ⟨Bool.and_false _, Bool.and_false _⟩
  · rw [decide_eq_false c]; exact ⟨rfl, rfl⟩
theorem z_no1 {P : Prop} [Decidable P] {g1 : Bool} {o1 : Int32} (h1 : ¬ o1 = 0) (h : ¬ (P ∧ ¬ (if g1 = true then o1 else 0) = 0)) : (decide P && g1) = false := by
  by_cases c : P
  · cases g1 with
    | true => exact absurd ⟨c, by rw [if_pos rfl]; exact h1⟩ h
    | false => exact Bool.and_false _
  · rw [decide_eq_false c]; rfl
theorem z_prodE {w : Nat} {sub : x_Q → x_Q} {rec : g_I → Int32 → Option g_I} {x : Int32} (hp : z_E tp n w (x_part tp n sub) (fun J => b_X11_readPart rec J x)) : z_E tp n (w + 1) (x_prod tp n sub) (fun J => b_X11_readProduct rec J x) := by
  refine z_lpT (L := fun f J => b_X11_readProduct_L5 rec x (fun (I31 : g_I) => some I31) f J) (op := x_oP tp n) hp (z_opQ (g1 := fun a => x_sg tp n a 42) (g2 := fun a => x_sg tp n a 47) (fun a h => z_sg_lt h) (fun a h => z_sg_lt h) (by decide) (by decide)) (fun f J s h hc => ?_) (fun f J s h h0 hc => ?_)
  · have m1 : b_X11_isMarked J 42 = some (decide (s.1 = 0) && x_sg tp n s.2 42) := z_mkd (c := 42) h (by decide)
    have m2 : b_X11_isMarked J 47 = some (decide (s.1 = 0) && x_sg tp n s.2 47) := z_mkd (c := 47) h (by decide)
    obtain ⟨n1, n2⟩ := z_no2 (by decide) (by decide) hc
    unfold b_X11_readProduct_L5
    rw [z_gl, m1, n1, z_gb, if_neg (by decide), m2, n2, z_gb, if_neg (by decide)]
  · have m1 : b_X11_isMarked J 42 = some (decide (s.1 = 0) && x_sg tp n s.2 42) := z_mkd (c := 42) h (by decide)
    have m2 : b_X11_isMarked J 47 = some (decide (s.1 = 0) && x_sg tp n s.2 47) := z_mkd (c := 47) h (by decide)
    rw [decide_eq_true h0, Bool.true_and] at m1 m2
    conv => lhs; unfold b_X11_readProduct_L5
    rw [z_gl, m1, z_gb]
    unfold x_oP at hc ⊢
    by_cases c1 : x_sg tp n s.2 42 = true
    · rw [if_pos c1, if_pos c1]
      dsimp only
      rw [m1, z_gb, if_pos c1, show z_sg (-8) = -22 by decide]
    · rw [if_neg c1, m2, z_gb]
      rw [if_neg c1] at hc
      by_cases c2 : x_sg tp n s.2 47 = true
      · rw [if_pos c2]
        dsimp only
        rw [m1, z_gb, if_neg c1, if_neg c1, if_pos c2, show z_sg (-9) = -23 by decide]
      · rw [if_neg c2] at hc
        exact absurd rfl hc
theorem z_sumE {w : Nat} {sub : x_Q → x_Q} {rec : g_I → Int32 → Option g_I} {x : Int32} (hp : z_E tp n w (x_prod tp n sub) (fun J => b_X11_readProduct rec J x)) : z_E tp n (w + 1) (x_sum tp n sub) (fun J => b_X11_readSum rec J x) := by
  refine z_lpT (L := fun f J => b_X11_readSum_L5 rec x (fun (I31 : g_I) => some I31) f J) (op := x_oS tp n) hp (z_opQ (g1 := fun a => x_sg tp n a 43) (g2 := fun a => x_sg tp n a 45) (fun a h => z_sg_lt h) (fun a h => z_sg_lt h) (by decide) (by decide)) (fun f J s h hc => ?_) (fun f J s h h0 hc => ?_)
  · have m1 : b_X11_isMarked J 43 = some (decide (s.1 = 0) && x_sg tp n s.2 43) := z_mkd (c := 43) h (by decide)
    have m2 : b_X11_isMarked J 45 = some (decide (s.1 = 0) && x_sg tp n s.2 45) := z_mkd (c := 45) h (by decide)
    obtain ⟨n1, n2⟩ := z_no2 (by decide) (by decide) hc
    unfold b_X11_readSum_L5
    rw [z_gl, m1, n1, z_gb, if_neg (by decide), m2, n2, z_gb, if_neg (by decide)]
  · have m1 : b_X11_isMarked J 43 = some (decide (s.1 = 0) && x_sg tp n s.2 43) := z_mkd (c := 43) h (by decide)
    have m2 : b_X11_isMarked J 45 = some (decide (s.1 = 0) && x_sg tp n s.2 45) := z_mkd (c := 45) h (by decide)
    rw [decide_eq_true h0, Bool.true_and] at m1 m2
    conv => lhs; unfold b_X11_readSum_L5
    rw [z_gl, m1, z_gb]
    unfold x_oS at hc ⊢
    by_cases c1 : x_sg tp n s.2 43 = true
    · rw [if_pos c1, if_pos c1]
      dsimp only
      rw [m1, z_gb, if_pos c1, show z_sg (-6) = -20 by decide]
    · rw [if_neg c1, m2, z_gb]
      rw [if_neg c1] at hc
      by_cases c2 : x_sg tp n s.2 45 = true
      · rw [if_pos c2]
        dsimp only
        rw [m1, z_gb, if_neg c1, if_neg c1, if_pos c2, show z_sg (-7) = -21 by decide]
      · rw [if_neg c2] at hc
        exact absurd rfl hc
theorem z_wAnd : z_ws q_47.2.2.2.2 := by unfold z_ws; decide +kernel
theorem z_wOr : z_ws q_48.2.2.2.2 := by unfold z_ws; decide +kernel
theorem z_wNot : z_ws q_46.2.2.2.2 := by unfold z_ws; decide +kernel
theorem z_andE {w : Nat} {sub : x_Q → x_Q} {rec : g_I → Int32 → Option g_I} {x : Int32} (hp : z_E tp n w (x_neg tp n sub) (fun J => b_X11_readNot rec J x)) : z_E tp n (w + 1) (x_both tp n sub) (fun J => b_X11_readAnd rec J x) := by
  refine z_lpT (L := fun f J => b_X11_readAnd_L5 rec x (fun (I16 : g_I) => some I16) f J) (op := x_oA tp n) hp (z_opR (g1 := fun a => x_wd tp n a q_18.2.2.2.2) (fun a h => z_wd_lt h) (by decide)) (fun f J s h hc => ?_) (fun f J s h h0 hc => ?_)
  · have m1 : b_X11_is J q_47.2.2.2.2 = some (decide (s.1 = 0) && x_wd tp n s.2 q_18.2.2.2.2) := z_is h z_wAnd
    have n1 := z_no1 (by decide) hc
    unfold b_X11_readAnd_L5
    rw [m1, n1, z_gb, if_neg (by decide)]
  · have m1 : b_X11_is J q_47.2.2.2.2 = some (decide (s.1 = 0) && x_wd tp n s.2 q_18.2.2.2.2) := z_is h z_wAnd
    rw [decide_eq_true h0, Bool.true_and] at m1
    conv => lhs; unfold b_X11_readAnd_L5
    rw [m1, z_gb]
    unfold x_oA at hc ⊢
    by_cases c1 : x_wd tp n s.2 q_18.2.2.2.2 = true
    · rw [if_pos c1, if_pos c1]; rfl
    · rw [if_neg c1] at hc
      exact absurd rfl hc
theorem z_orE {w : Nat} {sub : x_Q → x_Q} {rec : g_I → Int32 → Option g_I} {x : Int32} (hp : z_E tp n w (x_both tp n sub) (fun J => b_X11_readAnd rec J x)) : z_E tp n (w + 1) (fun q => x_lp tp n (x_both tp n sub) (x_oO tp n) 600 (x_both tp n sub q)) (fun J => g_bind (b_X11_readAnd rec J x) fun J2 => b_X11_readExpression_L67 rec x (fun (I16 : g_I) => some I16) fu J2) := by
  refine z_lpT (L := fun f J => b_X11_readExpression_L67 rec x (fun (I16 : g_I) => some I16) f J) (op := x_oO tp n) hp (z_opR (g1 := fun a => x_wd tp n a q_19.2.2.2.2) (fun a h => z_wd_lt h) (by decide)) (fun f J s h hc => ?_) (fun f J s h h0 hc => ?_)
  · have m1 : b_X11_is J q_48.2.2.2.2 = some (decide (s.1 = 0) && x_wd tp n s.2 q_19.2.2.2.2) := z_is h z_wOr
    have n1 := z_no1 (by decide) hc
    unfold b_X11_readExpression_L67
    rw [m1, n1, z_gb, if_neg (by decide)]
  · have m1 : b_X11_is J q_48.2.2.2.2 = some (decide (s.1 = 0) && x_wd tp n s.2 q_19.2.2.2.2) := z_is h z_wOr
    rw [decide_eq_true h0, Bool.true_and] at m1
    conv => lhs; unfold b_X11_readExpression_L67
    rw [m1, z_gb]
    unfold x_oO at hc ⊢
    by_cases c1 : x_wd tp n s.2 q_19.2.2.2.2 = true
    · rw [if_pos c1, if_pos c1]; rfl
    · rw [if_neg c1] at hc
      exact absurd rfl hc
theorem z_nc_s {lo hi : Int32} {s : Int32 × Nat} (h : (z_nc tp n lo hi s).1 = 0) : z_nc tp n lo hi s = s := by
  unfold z_nc at h ⊢
  by_cases c1 : ¬ x_tk tp n s.2 = 2
  · rw [if_pos c1] at h; exact absurd h (x_fail_n (by decide) s)
  · rw [if_neg c1] at h ⊢
    by_cases c2 : x_nu tp n s.2 = -1 ∨ x_nu tp n s.2 < lo ∨ ¬ x_nu tp n s.2 ≤ hi
    · rw [if_pos c2] at h; exact absurd h (x_fail_n (by decide) s)
    · rw [if_neg c2]
theorem x_rn_p {lo hi : Int32} {s : Int32 × Nat} (h : (x_rn tp n lo hi s).1 = 0) : x_rn tp n lo hi s = (0, x_av tp n s.2) := by
  have hx : x_rn tp n lo hi s = x_adv tp n (z_nc tp n lo hi s) := rfl
  have h0 := x_rn_0 h
  rw [hx] at h ⊢
  have h1 := x_adv_0 h
  rw [z_nc_s h1, x_adv_p h0]
theorem z_ht_p {c : Int32} (hc : 0 ≤ c ∨ c ≤ -10) {h : Nat} (hh : h < 64) : z_ht [c] h = some (h + 1) := by
  show (if 0 ≤ c ∨ c ≤ -10 then (if h < 64 then z_ht [] (h + 1) else none) else _) = _
  rw [if_pos hc, if_pos hh]
  rfl
theorem z_vkv {a : Nat} : x_vk tp n a = -1 ∨ ∃ v, v < 6 ∧ x_vk tp n a = nI v := by
  unfold x_vk
  split
  · exact Or.inr ⟨0, by decide, rfl⟩
  · split
    · exact Or.inr ⟨1, by decide, rfl⟩
    · split
      · exact Or.inr ⟨2, by decide, rfl⟩
      · split
        · exact Or.inr ⟨3, by decide, rfl⟩
        · split
          · exact Or.inr ⟨4, by decide, rfl⟩
          · split
            · exact Or.inr ⟨5, by decide, rfl⟩
            · exact Or.inl rfl
theorem z_vks : ∀ v, v < 6 → z_sg (-10 - nI v) = -1 - nI v ∧ -15 ≤ -10 - nI v ∧ -10 - nI v ≤ -10 ∧ ¬ nI v = -1 := by decide +kernel
theorem z_wVal : ∀ w ∈ g_values, z_ws w := by unfold z_ws; decide +kernel
theorem z_wxV {a : Nat} : z_wx (fun bs => true && x_wd tp n a bs) g_values 0 = x_vk tp n a := by
  simp only [z_wx, Bool.true_and]
  rfl
theorem z_partE {w : Nat} {sub : x_Q → x_Q} {rec : g_I → Int32 → Option g_I} {x : Int32} (hw : 1 ≤ w) (hsub : z_E tp n w sub (fun J => rec J (x + 1))) : z_E tp n w (x_part tp n sub) (fun J => b_X11_readPart rec J x) := by
  have hF : ∀ q : x_Q, ¬ q.1.1 = 0 → (x_part tp n sub q).1 = q.1 := fun q hq => by
    unfold x_part
    split
    · show x_rs tp n 41 (sub (x_adv tp n q.1, q.2)).1 = q.1
      rw [x_adv_f hq, hsub.1 (q.1, q.2) hq, x_rs_f hq]
    · split
      · unfold x_val
        split
        · exact x_fail_f hq
        · exact x_adv_f hq
      · exact x_rn_f hq
  refine ⟨hF, fun J q h => ?_⟩
  have hn6 := h.1.1.2.1
  have han := h.1.2.2.1
  by_cases h0 : q.1.1 = 0
  · obtain ⟨k1, k2, k3, k4, k5⟩ := h.1.2.2.2.1 h0
    obtain ⟨hrl, hlen⟩ := h.2 h0
    dsimp only
    unfold b_X11_readPart
    rw [h.1.2.1, if_pos h0, k2]
    by_cases c2 : x_tk tp n q.1.2 = 2
    · have ha : q.1.2 < n := x_tk_lt (by rw [c2]; decide)
      have hav := (x_av_b tp han).2.2 ha
      have hx : x_part tp n sub q = (x_rn tp n 0 9999 q.1, x_ad q.2 (x_rv tp n 0 9999 q.1)) := by
        unfold x_part
        rw [if_neg (fun r => by unfold x_sg at r; rw [Bool.and_eq_true, decide_eq_true_eq, c2] at r; exact absurd r.1 (by decide)), if_neg (by rw [c2]; decide)]
      obtain ⟨v, J1, e1, f1, p1, q1⟩ := z_rnR (lo := 0) (hi := 9999) h.1
      rw [hx, if_pos (show nI (x_tk tp n q.1.2) = 2 from (z_tkE (by decide)).mpr c2), e1]
      simp only [g_bind2]
      by_cases c : (x_rn tp n 0 9999 q.1).1 = 0
      · obtain ⟨r1, r2, y, r3, r4, r5, r6⟩ := q1 c
        have hrv : x_rv tp n 0 9999 q.1 = nI y := by unfold x_rv; rw [if_pos c, r4]
        have hsg : z_sg (nI y) = nI y := if_pos (nI_pos' (by omega))
        obtain ⟨J2, e2, f2, p2, l2⟩ := z_lay (l := q.2) p1 (fun _ => ⟨z_rl_o hrl f1, by omega⟩) (nI y)
        rw [hsg] at e2
        rw [r1, r4, e2, hrv, x_ad_lt (by omega)]
        refine ⟨J2, rfl, z_f2_t (z_f1_2 f1) f2, ⟨p2, fun _ => ⟨l2 c, ?_⟩⟩, fun _ => ⟨h0, ?_, [nI y], rfl, fun d hd => ?_, fun k hk => z_ht_p (Or.inl (nI_pos' (by omega))) (by omega)⟩⟩
        · show (q.2 ++ [nI y]).length ≤ (x_rn tp n 0 9999 q.1).2
          rw [x_rn_p c, List.length_append]
          show q.2.length + 1 ≤ x_av tp n q.1.2
          omega
        · show (q.2 ++ [nI y]).length + q.1.2 ≤ q.2.length + (x_rn tp n 0 9999 q.1).2
          rw [x_rn_p c, List.length_append]
          show q.2.length + 1 + q.1.2 ≤ q.2.length + x_av tp n q.1.2
          omega
        · rw [List.mem_singleton.mp hd]
          rw [z_leI, nI_toInt (by omega), show (-15 : Int32).toInt = -15 by decide]
          omega
      · have hb : ¬ J1 101 24 = 0 := by rw [p1.2.1]; exact c
        rw [z_layF hb]
        exact ⟨J1, rfl, z_f1_2 f1, ⟨p1, fun r => absurd r c⟩, fun r => absurd r c⟩
    · rw [if_neg (show ¬ nI (x_tk tp n q.1.2) = 2 from fun r => c2 ((z_tkE (by decide)).mp r))]
      by_cases c1 : x_tk tp n q.1.2 = 1
      · have ha : q.1.2 < n := x_tk_lt (by rw [c1]; decide)
        have hav := (x_av_b tp han).2.2 ha
        have hx : x_part tp n sub q = x_val tp n q := by
          unfold x_part
          rw [if_neg (fun r => by unfold x_sg at r; rw [Bool.and_eq_true, decide_eq_true_eq, c1] at r; exact absurd r.1 (by decide)), if_pos c1]
        have hwh := z_which h.1 z_wVal (by decide)
        rw [decide_eq_true h0, z_wxV] at hwh
        rw [hx, if_pos (show nI (x_tk tp n q.1.2) = 1 from (z_tkE (by decide)).mpr c1), hwh]
        simp only [g_bind]
        unfold x_val
        rcases z_vkv (tp := tp) (n := n) (a := q.1.2) with c | ⟨v, hv, c⟩
        · obtain ⟨J3, e3, f3, p3⟩ := z_wr (c := 3) h.1 (by decide)
          have hb : ¬ J3 101 24 = 0 := by rw [p3.2.1]; exact x_fail_n (by decide) _
          rw [if_pos c, if_pos c, e3]
          simp only []
          rw [z_layF hb]
          simp only []
          rw [if_neg hb]
          exact ⟨J3, rfl, z_f1_2 f3, ⟨p3, fun r => absurd r (x_fail_n (by decide) _)⟩, fun r => absurd r (x_fail_n (by decide) _)⟩
        · obtain ⟨v1, v2, v3, v4⟩ := z_vks v hv
          rw [c, if_neg v4, if_neg v4, x_ad_lt (by omega)]
          obtain ⟨J2, e2, f2, p2, l2⟩ := z_lay (l := q.2) h.1 (fun _ => ⟨hrl, by omega⟩) (-10 - nI v)
          rw [v1] at e2
          obtain ⟨J4, e4, f4, p4⟩ := z_av p2 h0
          have hb : J2 101 24 = 0 := by rw [p2.2.1]; exact h0
          rw [e2]
          simp only []
          rw [if_pos hb, e4]
          refine ⟨J4, rfl, z_f2_t f2 (z_f1_2 f4), ⟨p4, fun _ => ⟨z_rl_o (l2 h0) f4, ?_⟩⟩, fun _ => ⟨h0, ?_, [-10 - nI v], rfl, fun d hd => by rw [List.mem_singleton.mp hd]; exact v2, fun k hk => z_ht_p (Or.inr v3) (by omega)⟩⟩
          · show (q.2 ++ [-10 - nI v]).length ≤ (x_adv tp n q.1).2
            rw [x_adv_p h0, List.length_append]
            show q.2.length + 1 ≤ x_av tp n q.1.2
            omega
          · show (q.2 ++ [-10 - nI v]).length + q.1.2 ≤ q.2.length + (x_adv tp n q.1).2
            rw [x_adv_p h0, List.length_append]
            show q.2.length + 1 + q.1.2 ≤ q.2.length + x_av tp n q.1.2
            omega
      · rw [if_neg (show ¬ nI (x_tk tp n q.1.2) = 1 from fun r => c1 ((z_tkE (by decide)).mp r))]
        obtain ⟨J1, e1, f1, p1⟩ := z_mkR (c := 40) h.1 (by decide)
        have e1' : b_X11_mark J 40 = some J1 := e1
        have hav := (x_av_b tp han).1
        have hq1 : z_pq tp n J1 (x_rs tp n 40 q.1, q.2) := ⟨p1, fun r => ⟨z_rl_o hrl f1, by
          have r' : (x_rs tp n 40 q.1).1 = 0 := r
          show q.2.length ≤ (x_rs tp n 40 q.1).2
          have hi : (if x_sg tp n q.1.2 40 = true then q.1 else x_fail 1 q.1).1 = 0 := x_adv_0 r'
          have hsg : x_sg tp n q.1.2 40 = true := Classical.byContradiction fun t => by
            rw [if_neg t] at hi
            exact x_fail_n (by decide) _ hi
          unfold x_rs
          rw [if_pos hsg, x_adv_p h0]
          show q.2.length ≤ x_av tp n q.1.2
          omega⟩⟩
        obtain ⟨J2, e2, f2, p2, q2⟩ := hsub.2 J1 _ hq1
        obtain ⟨J3, e3, f3, p3⟩ := z_mkR (c := 41) p2.1 (by decide)
        have e3' : b_X11_mark J2 41 = some J3 := e3
        rw [e1']
        simp only [g_bind]
        rw [show rec J1 (x + 1) = some J2 from e2]
        simp only []
        rw [e3']
        by_cases c4 : x_sg tp n q.1.2 40 = true
        · have ha := z_sg_lt c4
          have hav2 := (x_av_b tp han).2.2 ha
          have hrs : x_rs tp n 40 q.1 = x_adv tp n q.1 := by unfold x_rs; rw [if_pos c4]
          have hx : x_part tp n sub q = (x_rs tp n 41 (sub (x_adv tp n q.1, q.2)).1, (sub (x_adv tp n q.1, q.2)).2) := by unfold x_part; rw [if_pos c4]
          rw [hrs] at p2 q2 p3
          rw [hx]
          have hs3 : (x_rs tp n 41 (sub (x_adv tp n q.1, q.2)).1).1 = 0 → (sub (x_adv tp n q.1, q.2)).1.1 = 0 ∧ (sub (x_adv tp n q.1, q.2)).1.2 ≤ (x_rs tp n 41 (sub (x_adv tp n q.1, q.2)).1).2 := fun r => by
            have r0 := x_rs_0 r
            refine ⟨r0, ?_⟩
            have hi : (if x_sg tp n (sub (x_adv tp n q.1, q.2)).1.2 41 = true then (sub (x_adv tp n q.1, q.2)).1 else x_fail 1 (sub (x_adv tp n q.1, q.2)).1).1 = 0 := x_adv_0 r
            have hsg : x_sg tp n (sub (x_adv tp n q.1, q.2)).1.2 41 = true := Classical.byContradiction fun t => by
              rw [if_neg t] at hi
              exact x_fail_n (by decide) _ hi
            unfold x_rs
            rw [if_pos hsg, x_adv_p r0]
            exact (x_av_b tp p2.1.2.2.1).1
          refine ⟨J3, rfl, z_f2_t (z_f1_2 f1) (z_f2_t f2 (z_f1_2 f3)), ⟨p3, fun r => ?_⟩, fun r => ?_⟩
          · obtain ⟨r0, r1⟩ := hs3 r
            have t1 := (p2.2 r0).2
            exact ⟨z_rl_o (p2.2 r0).1 f3, by show (sub (x_adv tp n q.1, q.2)).2.length ≤ (x_rs tp n 41 (sub (x_adv tp n q.1, q.2)).1).2; omega⟩
          · obtain ⟨r0, r1⟩ := hs3 r
            obtain ⟨t1, t2, m, t3, t4, t5⟩ := q2 r0
            rw [x_adv_p h0] at t2
            have t2' : (sub (x_adv tp n q.1, q.2)).2.length + x_av tp n q.1.2 ≤ q.2.length + (sub (x_adv tp n q.1, q.2)).1.2 := by rw [x_adv_p h0]; exact t2
            exact ⟨h0, by show (sub (x_adv tp n q.1, q.2)).2.length + q.1.2 ≤ q.2.length + (x_rs tp n 41 (sub (x_adv tp n q.1, q.2)).1).2; omega, m, t3, t4, t5⟩
        · have hrs : x_rs tp n 40 q.1 = x_fail 1 q.1 := by
            unfold x_rs
            rw [if_neg c4, x_adv_f (x_fail_n (by decide) _)]
          have hf1 : ¬ (x_fail 1 q.1).1 = 0 := x_fail_n (by decide) _
          have hx1 : (x_part tp n sub q).1 = x_fail 1 q.1 := by
            unfold x_part
            rw [if_neg c4, if_neg c1]
            show x_rn tp n 0 9999 q.1 = _
            unfold x_rn
            rw [if_pos c2, x_adv_f hf1]
          rw [hrs, hsub.1 (x_fail 1 q.1, q.2) hf1, x_rs_f hf1] at p3
          refine ⟨J3, rfl, z_f2_t (z_f1_2 f1) (z_f2_t f2 (z_f1_2 f3)), ⟨by rw [hx1]; exact p3, fun r => ?_⟩, fun r => ?_⟩
          · rw [hx1] at r; exact absurd r hf1
          · rw [hx1] at r; exact absurd r hf1
  · have hb : ¬ J 101 24 = 0 := by rw [h.1.2.1]; exact h0
    have hf := hF q h0
    exact ⟨J, z_partF hb, z_f2_r J, ⟨by rw [hf]; exact h.1, fun r => by rw [hf] at r; exact absurd r h0⟩, fun r => by rw [hf] at r; exact absurd r h0⟩
end ZEP
