/-! PURE: A LINE, AND ALL LINES, BOTH WORLDS -/
theorem z_gb2s {α β γ δ : Type} {x : Option (α × β)} {f : α → β → γ} {J' : γ} (h : (g_bind2 x fun a I => g_let (f a I) fun I14 => some I14) = some J') (K : γ → Option δ) : (g_bind2 x fun a I => g_let (f a I) fun I14 => K I14) = K J' := by
  cases x with
  | none => cases h
  | some y =>
    have e : f y.1 y.2 = J' := Option.some.inj h
    show K (f y.1 y.2) = K J'
    rw [e]
def z_flg (dn : Int32) (fl : x_F) : Prop := ∃ a b c, a < 2 ∧ b < 2 ∧ c < 2 ∧ fl = (nI a, nI b, nI c) ∧ dn = nI (a + 2 * b + 4 * c)
theorem z_fl1 : ∀ a, a < 2 → ∀ b, b < 2 → ∀ c, c < 2 → ((1 : Int32) &&& nI (a + 2 * b + 4 * c) = 0 ↔ a = 0) ∧ ((2 : Int32) &&& nI (a + 2 * b + 4 * c) = 0 ↔ b = 0) ∧ ((4 : Int32) &&& nI (a + 2 * b + 4 * c) = 0 ↔ c = 0) ∧ nI (a + 2 * b + 4 * c) ||| 1 = nI (1 + 2 * b + 4 * c) ∧ nI (a + 2 * b + 4 * c) ||| 2 = nI (a + 2 * 1 + 4 * c) ∧ nI (a + 2 * b + 4 * c) ||| 4 = nI (a + 2 * b + 4 * 1) ∧ nI (a + 2 * b + 4 * c) ||| 0 = nI (a + 2 * b + 4 * c) ∧ (0 : Int32) &&& nI (a + 2 * b + 4 * c) = 0 := by
  intro a ha b hb c hc
  rcases (show a = 0 ∨ a = 1 by omega) with rfl | rfl <;> rcases (show b = 0 ∨ b = 1 by omega) with rfl | rfl <;> rcases (show c = 0 ∨ c = 1 by omega) with rfl | rfl <;> exact ⟨by decide, by decide, by decide, by decide, by decide, by decide, by decide, by decide⟩
section ZLL
variable {tp : Nat → Int32} {n : Nat}
theorem z_wd_u {a : Nat} {b1 b2 : List Int32} (h1 : x_wd tp n a b1 = true) (h2 : x_wd tp n a b2 = true) : b1 = b2 := by
  unfold x_wd at h1 h2
  rw [Bool.and_eq_true, Bool.and_eq_true, decide_eq_true_eq, decide_eq_true_eq] at h1 h2
  have hl : b1.length = b2.length := h1.2.1.symm.trans h2.2.1
  have g1 := lall_iff.mp h1.2.2
  have g2 := lall_iff.mp h2.2.2
  refine List.ext_getElem hl fun i hi1 hi2 => ?_
  have e1 := of_decide_eq_true (g1 i hi1)
  have e2 := of_decide_eq_true (g2 i hi2)
  rw [z_gd hi1] at e1
  rw [z_gd hi2] at e2
  rw [← e1, ← e2]
theorem z_wFor : z_ws q_43.2.2.2.2 := by unfold z_ws; decide +kernel
theorem z_wNoo : z_ws q_44.2.2.2.2 := by unfold z_ws; decide +kernel
theorem z_wCut : z_ws q_45.2.2.2.2 := by unfold z_ws; decide +kernel
theorem z_wLoa : z_ws q_49.2.2.2.2 := by unfold z_ws; decide +kernel
theorem z_wMet : z_ws q_50.2.2.2.2 := by unfold z_ws; decide +kernel
theorem z_wKin : ∀ w ∈ g_kinds, z_ws w := by unfold z_ws; decide +kernel
theorem z_lk0 {a : Nat} (h : x_wd tp n a q_2.2.2.2.2 = true) : x_lk tp n a = 0 := by unfold x_lk; rw [if_pos h]
theorem z_lk1 {a : Nat} (h : x_wd tp n a q_3.2.2.2.2 = true) : x_lk tp n a = 1 := by unfold x_lk; rw [if_neg (fun r => absurd (z_wd_u r h) (by decide)), if_pos h]
theorem z_lk2 {a : Nat} (h : x_wd tp n a q_4.2.2.2.2 = true) : x_lk tp n a = 2 := by unfold x_lk; rw [if_neg (fun r => absurd (z_wd_u r h) (by decide)), if_neg (fun r => absurd (z_wd_u r h) (by decide)), if_pos h]
theorem z_lk3 {a : Nat} (h : x_wd tp n a q_5.2.2.2.2 = true) : x_lk tp n a = 3 := by unfold x_lk; rw [if_neg (fun r => absurd (z_wd_u r h) (by decide)), if_neg (fun r => absurd (z_wd_u r h) (by decide)), if_neg (fun r => absurd (z_wd_u r h) (by decide)), if_pos h]
theorem z_lk4 {a : Nat} (h : x_wd tp n a q_6.2.2.2.2 = true) : x_lk tp n a = 4 := by unfold x_lk; rw [if_neg (fun r => absurd (z_wd_u r h) (by decide)), if_neg (fun r => absurd (z_wd_u r h) (by decide)), if_neg (fun r => absurd (z_wd_u r h) (by decide)), if_neg (fun r => absurd (z_wd_u r h) (by decide)), if_pos h]
theorem z_lk5 {a : Nat} (h : x_wd tp n a q_7.2.2.2.2 = true) : x_lk tp n a = 5 := by unfold x_lk; rw [if_neg (fun r => absurd (z_wd_u r h) (by decide)), if_neg (fun r => absurd (z_wd_u r h) (by decide)), if_neg (fun r => absurd (z_wd_u r h) (by decide)), if_neg (fun r => absurd (z_wd_u r h) (by decide)), if_neg (fun r => absurd (z_wd_u r h) (by decide)), if_pos h]
theorem z_lk6 {a : Nat} (h : x_wd tp n a q_8.2.2.2.2 = true) : x_lk tp n a = 6 := by unfold x_lk; rw [if_neg (fun r => absurd (z_wd_u r h) (by decide)), if_neg (fun r => absurd (z_wd_u r h) (by decide)), if_neg (fun r => absurd (z_wd_u r h) (by decide)), if_neg (fun r => absurd (z_wd_u r h) (by decide)), if_neg (fun r => absurd (z_wd_u r h) (by decide)), if_neg (fun r => absurd (z_wd_u r h) (by decide)), if_pos h]
theorem z_lk7 {a : Nat} (h : x_wd tp n a q_9.2.2.2.2 = true) : x_lk tp n a = 7 := by unfold x_lk; rw [if_neg (fun r => absurd (z_wd_u r h) (by decide)), if_neg (fun r => absurd (z_wd_u r h) (by decide)), if_neg (fun r => absurd (z_wd_u r h) (by decide)), if_neg (fun r => absurd (z_wd_u r h) (by decide)), if_neg (fun r => absurd (z_wd_u r h) (by decide)), if_neg (fun r => absurd (z_wd_u r h) (by decide)), if_neg (fun r => absurd (z_wd_u r h) (by decide)), if_pos h]
theorem z_lk8 {a : Nat} (h : x_wd tp n a q_10.2.2.2.2 = true) : x_lk tp n a = 8 := by unfold x_lk; rw [if_neg (fun r => absurd (z_wd_u r h) (by decide)), if_neg (fun r => absurd (z_wd_u r h) (by decide)), if_neg (fun r => absurd (z_wd_u r h) (by decide)), if_neg (fun r => absurd (z_wd_u r h) (by decide)), if_neg (fun r => absurd (z_wd_u r h) (by decide)), if_neg (fun r => absurd (z_wd_u r h) (by decide)), if_neg (fun r => absurd (z_wd_u r h) (by decide)), if_neg (fun r => absurd (z_wd_u r h) (by decide)), if_pos h]
theorem z_lkN {a : Nat} (h : ¬ x_wd tp n a q_2.2.2.2.2 = true ∧ ¬ x_wd tp n a q_3.2.2.2.2 = true ∧ ¬ x_wd tp n a q_4.2.2.2.2 = true ∧ ¬ x_wd tp n a q_5.2.2.2.2 = true ∧ ¬ x_wd tp n a q_6.2.2.2.2 = true ∧ ¬ x_wd tp n a q_7.2.2.2.2 = true ∧ ¬ x_wd tp n a q_8.2.2.2.2 = true ∧ ¬ x_wd tp n a q_9.2.2.2.2 = true ∧ ¬ x_wd tp n a q_10.2.2.2.2 = true) : x_lk tp n a = -1 := by
  obtain ⟨h0, h1, h2, h3, h4, h5, h6, h7, h8⟩ := h
  unfold x_lk
  rw [if_neg h0, if_neg h1, if_neg h2, if_neg h3, if_neg h4, if_neg h5, if_neg h6, if_neg h7, if_neg h8]
theorem x_human_m {kd : Int32} {q : x_K} (h : q.1.2 ≤ n) : q.1.2 ≤ (x_human tp n kd q).1.2 := by
  have h2 : (x_hu1 kd q.1 q.2.1.1).2 = q.1.2 := by
    unfold x_hu1
    split
    · exact x_fail_2
    · split
      · exact x_fail_2
      · rfl
  have m1 := x_adv_m (tp := tp) (n := n) (s := x_hu1 kd q.1 q.2.1.1) (by rw [h2]; exact h)
  have m2 := x_rn_m (tp := tp) (n := n) (lo := 0) (hi := 9) m1.2
  have m3 := x_rn_m (tp := tp) (n := n) (lo := 0) (hi := 9) m2.2
  show q.1.2 ≤ (x_rn tp n 0 9 (x_rn tp n 0 9 (x_adv tp n (x_hu1 kd q.1 q.2.1.1)))).2
  omega
theorem x_meet_m {q : x_K} (h : q.1.2 ≤ n) : q.1.2 ≤ (x_meet tp n q).1.2 := by
  have h2 : (if 16 ≤ q.2.1.2.2.1.length then x_fail 2 q.1 else q.1).2 = q.1.2 := by
    split
    · exact x_fail_2
    · rfl
  have m1 := x_adv_m (tp := tp) (n := n) (s := if 16 ≤ q.2.1.2.2.1.length then x_fail 2 q.1 else q.1) (by rw [h2]; exact h)
  have m2 := x_pn_m (tp := tp) (n := n) (pn := q.2.1.1.length) (tk := 0) m1.2
  have m3 := x_pn_m (tp := tp) (n := n) (pn := q.2.1.1.length) (tk := x_mtk (x_pn tp n q.2.1.1.length 0 (x_adv tp n (if 16 ≤ q.2.1.2.2.1.length then x_fail 2 q.1 else q.1))) (x_pv tp n q.2.1.1.length 0 (x_adv tp n (if 16 ≤ q.2.1.2.2.1.length then x_fail 2 q.1 else q.1)))) m2.2
  have m4 := x_rn_m (tp := tp) (n := n) (lo := 0) (hi := 999) m3.2
  show q.1.2 ≤ (x_rn tp n 0 999 (x_pn tp n q.2.1.1.length (x_mtk (x_pn tp n q.2.1.1.length 0 (x_adv tp n (if 16 ≤ q.2.1.2.2.1.length then x_fail 2 q.1 else q.1))) (x_pv tp n q.2.1.1.length 0 (x_adv tp n (if 16 ≤ q.2.1.2.2.1.length then x_fail 2 q.1 else q.1)))) (x_pn tp n q.2.1.1.length 0 (x_adv tp n (if 16 ≤ q.2.1.2.2.1.length then x_fail 2 q.1 else q.1))))).2
  omega
theorem x_ar_m {c lo hi : Int32} {P : Prop} [Decidable P] {s : Int32 × Nat} (h : s.2 ≤ n) : s.2 ≤ (x_rn tp n lo hi (x_adv tp n (if P then s else x_fail c s))).2 := by
  have h2 : (if P then s else x_fail c s).2 = s.2 := by
    split
    · rfl
    · exact x_fail_2
  have m1 := x_adv_m (tp := tp) (n := n) (s := if P then s else x_fail c s) (by rw [h2]; exact h)
  have m2 := x_rn_m (tp := tp) (n := n) (lo := lo) (hi := hi) m1.2
  omega
/-- what holds behind a line -/
def z_pln (tp : Nat → Int32) (n : Nat) (J : g_I) (q : x_K) (dn : Int32) : Prop := z_ps tp n J q.1 ∧ (q.1.1 = 0 → z_Rh J q.2.1 ∧ z_Wk q.2.1 ∧ z_flg dn q.2.2 ∧ (q.2.2.2.2 = 0 → q.2.1.2.2.2.2 = []))
set_option maxHeartbeats 1000000 in
theorem z_lineR {J : g_I} {q : x_K} {dn : Int32} (hp : z_pln tp n J q dn) (h0 : q.1.1 = 0) : ∃ dn' J', b_X11_readLine J dn = some (dn', J') ∧ z_f3 J J' ∧ z_pln tp n J' (x_line tp n q) dn' ∧ ((x_line tp n q).1.1 = 0 → q.1.2 < (x_line tp n q).1.2) := by
  obtain ⟨h, hq⟩ := hp
  obtain ⟨hR, hW, hf, hr⟩ := hq h0
  have hn := h.2.2.1
  have hb : J 101 24 = 0 := by rw [h.2.1]; exact h0
  obtain ⟨a, b, c, ha, hb2, hc, efl, edn⟩ := hf
  obtain ⟨b1, b2, b3, b4, b5, b6, b7, b8⟩ := z_fl1 a ha b hb2 c hc
  rw [← edn] at b1 b2 b3 b4 b5 b6 b7 b8
  have key : ∀ (z2 : Int32) (I : g_I) (q' : x_K), z_f3 J I → z_pln tp n I q' (dn ||| z2) → (q'.1.1 = 0 → q.1.2 ≤ q'.1.2) → x_lb tp n q = q' → ∃ dn' J', (g_bind (b_X11_mark I 59) fun I2 => some (dn ||| z2, I2)) = some (dn', J') ∧ z_f3 J J' ∧ z_pln tp n J' (x_line tp n q) dn' ∧ ((x_line tp n q).1.1 = 0 → q.1.2 < (x_line tp n q).1.2) := fun z2 I q' f1 p1 m1 e1 => by
    obtain ⟨J', e2, f2, p2⟩ := z_mkR (c := 59) p1.1 (by decide)
    have e2' : b_X11_mark I 59 = some J' := e2
    have hx : x_line tp n q = (x_rs tp n 59 q'.1, q'.2) := by unfold x_line; rw [e1]
    have m2 := x_rs_m (tp := tp) (n := n) (c := 59) p1.1.2.2.1
    rw [e2', z_gb, hx]
    refine ⟨_, J', rfl, z_f3_t f1 (z_f1_3 f2), ⟨p2, fun r => ?_⟩, fun r => ?_⟩
    · obtain ⟨r1, r2, r3, r4⟩ := p1.2 (x_rs_0 r)
      exact ⟨z_Rh_1 r1 f2, r2, r3, r4⟩
    · have h1 := m1 (x_rs_0 r)
      have h2 := m2.2.2 r
      show q.1.2 < (x_rs tp n 59 q'.1).2
      omega
  have wFor : b_X11_is J q_43.2.2.2.2 = some (x_wd tp n q.1.2 q_8.2.2.2.2) := by
    have := z_is h z_wFor
    rw [decide_eq_true h0, Bool.true_and] at this
    exact this
  have wNoo : b_X11_is J q_44.2.2.2.2 = some (x_wd tp n q.1.2 q_9.2.2.2.2) := by
    have := z_is h z_wNoo
    rw [decide_eq_true h0, Bool.true_and] at this
    exact this
  have wCut : b_X11_is J q_45.2.2.2.2 = some (x_wd tp n q.1.2 q_10.2.2.2.2) := by
    have := z_is h z_wCut
    rw [decide_eq_true h0, Bool.true_and] at this
    exact this
  have wLoa : b_X11_is J q_49.2.2.2.2 = some (x_wd tp n q.1.2 q_6.2.2.2.2) := by
    have := z_is h z_wLoa
    rw [decide_eq_true h0, Bool.true_and] at this
    exact this
  have wMet : b_X11_is J q_50.2.2.2.2 = some (x_wd tp n q.1.2 q_7.2.2.2.2) := by
    have := z_is h z_wMet
    rw [decide_eq_true h0, Bool.true_and] at this
    exact this
  have wKin : b_X11_which J g_kinds = some (if x_wd tp n q.1.2 q_2.2.2.2.2 = true then 0 else if x_wd tp n q.1.2 q_3.2.2.2.2 = true then 1 else if x_wd tp n q.1.2 q_4.2.2.2.2 = true then 2 else if x_wd tp n q.1.2 q_5.2.2.2.2 = true then 3 else -1) := by
    have := z_which h z_wKin (by decide)
    rw [decide_eq_true h0] at this
    simp only [z_wx, Bool.true_and] at this
    exact this
  generalize hkin : (if x_wd tp n q.1.2 q_2.2.2.2.2 = true then (0 : Int32) else if x_wd tp n q.1.2 q_3.2.2.2.2 = true then 1 else if x_wd tp n q.1.2 q_4.2.2.2.2 = true then 2 else if x_wd tp n q.1.2 q_5.2.2.2.2 = true then 3 else -1) = kin at wKin
  unfold b_X11_readLine
  rw [z_gl, z_gl, z_gl, z_gl, wFor, z_gb]
  by_cases c1 : x_wd tp n q.1.2 q_8.2.2.2.2 = true
  · have xlb : x_lb tp n q = x_forg tp n q := by unfold x_lb; rw [z_lk6 c1, if_neg (by decide), if_neg (by decide), if_neg (by decide), if_pos rfl]
    rw [if_pos c1]
    dsimp only
    rw [wKin, z_gb]
    have hx : x_forg tp n q = (x_rn tp n 1 999 (x_adv tp n (if q.2.2.1 = 0 then q.1 else x_fail 5 q.1)), (q.2.1.1, q.2.1.2.1, q.2.1.2.2.1, (x_rv tp n 1 999 (x_adv tp n (if q.2.2.1 = 0 then q.1 else x_fail 5 q.1)), q.2.1.2.2.2.1.2), q.2.1.2.2.2.2), (1, q.2.2.2)) := rfl
    have e0 : q.2.2.1 = nI a := by rw [efl]
    have hmm := x_ar_m (tp := tp) (n := n) (c := 5) (lo := 1) (hi := 999) (P := q.2.2.1 = 0) hn
    have fl' : z_flg (dn ||| 1) (1, q.2.2.2) := ⟨1, b, c, by decide, hb2, hc, by rw [efl]; rfl, b4⟩
    by_cases ca : a = 0
    · have hs : (if q.2.2.1 = 0 then q.1 else x_fail 5 q.1) = q.1 := if_pos (by rw [e0, ca]; rfl)
      obtain ⟨J1, e1, f1, p1⟩ := z_av h h0
      obtain ⟨J2, e2, f2, p2, q2⟩ := z_forR (T := q.2.1) p1 (fun _ => ⟨z_Rh_1 hR f1, hW⟩)
      rw [hs] at hx hmm
      rw [if_pos (b1.mpr ca)]
      (try dsimp only)
      rw [if_neg (show ¬ (1 : Int32) ≤ 0 by decide), if_pos hb, e1, z_gb]
      (try dsimp only)
      rw [if_pos rfl, z_gb2s e2 (fun I14 => g_bind (b_X11_mark I14 59) fun I2 => some (dn ||| 1, I2))]
      exact key 1 J2 _ (z_f3_t (z_f1_3 f1) f2) ⟨by rw [xlb, hx]; exact p2, fun r => by rw [xlb, hx] at r ⊢; exact ⟨(q2 r).1, (q2 r).2, fl', hr⟩⟩ (fun _ => by rw [xlb, hx]; exact hmm) rfl
    · have hs : (if q.2.2.1 = 0 then q.1 else x_fail 5 q.1) = x_fail 5 q.1 := if_neg (by rw [e0]; exact fun r => ca ((nI_eq (b := 0) (by omega) (by omega)).mp r))
      obtain ⟨J1, e1, f1, p1⟩ := z_wr (c := 5) h (by decide)
      have hff := x_fail_n (c := 5) (by decide) q.1
      have hb1 : ¬ J1 101 24 = 0 := by rw [p1.2.1]; exact hff
      obtain ⟨J2, e2, f2, p2, q2⟩ := z_forR (T := q.2.1) p1 (fun r => absurd r hff)
      rw [hs, x_adv_f hff] at hx
      rw [if_neg (fun r => ca (b1.mp r)), e1, z_gb]
      (try dsimp only)
      rw [if_neg (show ¬ (1 : Int32) ≤ 0 by decide), if_neg hb1]
      (try dsimp only)
      rw [if_pos rfl, z_gb2s e2 (fun I14 => g_bind (b_X11_mark I14 59) fun I2 => some (dn ||| 1, I2))]
      have hrf : ¬ (x_rn tp n 1 999 (x_fail 5 q.1)).1 = 0 := by rw [x_rn_f hff]; exact hff
      exact key 1 J2 _ (z_f3_t (z_f1_3 f1) f2) ⟨by rw [xlb, hx]; exact p2, fun r => by rw [xlb, hx] at r; exact absurd r hrf⟩ (fun r => by rw [xlb, hx] at r; exact absurd r hrf) rfl
  · rw [if_neg c1, wNoo, z_gb]
    by_cases c2 : x_wd tp n q.1.2 q_9.2.2.2.2 = true
    · have xlb : x_lb tp n q = x_noon tp n q := by unfold x_lb; rw [z_lk7 c2, if_neg (by decide), if_neg (by decide), if_neg (by decide), if_neg (by decide), if_pos rfl]
      rw [if_pos c2]
      dsimp only
      rw [wKin, z_gb]
      have hx : x_noon tp n q = (x_rn tp n 1 23 (x_adv tp n (if q.2.2.2.1 = 0 then q.1 else x_fail 5 q.1)), (q.2.1.1, q.2.1.2.1, q.2.1.2.2.1, (q.2.1.2.2.2.1.1, x_rv tp n 1 23 (x_adv tp n (if q.2.2.2.1 = 0 then q.1 else x_fail 5 q.1))), q.2.1.2.2.2.2), (q.2.2.1, 1, q.2.2.2.2)) := rfl
      have e0 : q.2.2.2.1 = nI b := by rw [efl]
      have hmm := x_ar_m (tp := tp) (n := n) (c := 5) (lo := 1) (hi := 23) (P := q.2.2.2.1 = 0) hn
      have fl' : z_flg (dn ||| 2) (q.2.2.1, 1, q.2.2.2.2) := ⟨a, 1, c, ha, by decide, hc, by rw [efl]; rfl, b5⟩
      by_cases cb : b = 0
      · have hs : (if q.2.2.2.1 = 0 then q.1 else x_fail 5 q.1) = q.1 := if_pos (by rw [e0, cb]; rfl)
        obtain ⟨J1, e1, f1, p1⟩ := z_av h h0
        obtain ⟨J2, e2, f2, p2, q2⟩ := z_nooR (T := q.2.1) p1 (fun _ => ⟨z_Rh_1 hR f1, hW⟩)
        rw [hs] at hx hmm
        rw [if_pos (b2.mpr cb)]
        (try dsimp only)
        rw [if_neg (show ¬ (2 : Int32) ≤ 0 by decide), if_pos hb, e1, z_gb]
        (try dsimp only)
        rw [if_neg (show ¬ (2 : Int32) = 1 by decide), if_pos rfl, z_gb2s e2 (fun I14 => g_bind (b_X11_mark I14 59) fun I2 => some (dn ||| 2, I2))]
        exact key 2 J2 _ (z_f3_t (z_f1_3 f1) f2) ⟨by rw [xlb, hx]; exact p2, fun r => by rw [xlb, hx] at r ⊢; exact ⟨(q2 r).1, (q2 r).2, fl', hr⟩⟩ (fun _ => by rw [xlb, hx]; exact hmm) rfl
      · have hs : (if q.2.2.2.1 = 0 then q.1 else x_fail 5 q.1) = x_fail 5 q.1 := if_neg (by rw [e0]; exact fun r => cb ((nI_eq (b := 0) (by omega) (by omega)).mp r))
        obtain ⟨J1, e1, f1, p1⟩ := z_wr (c := 5) h (by decide)
        have hff := x_fail_n (c := 5) (by decide) q.1
        have hb1 : ¬ J1 101 24 = 0 := by rw [p1.2.1]; exact hff
        obtain ⟨J2, e2, f2, p2, q2⟩ := z_nooR (T := q.2.1) p1 (fun r => absurd r hff)
        rw [hs, x_adv_f hff] at hx
        rw [if_neg (fun r => cb (b2.mp r)), e1, z_gb]
        (try dsimp only)
        rw [if_neg (show ¬ (2 : Int32) ≤ 0 by decide), if_neg hb1]
        (try dsimp only)
        rw [if_neg (show ¬ (2 : Int32) = 1 by decide), if_pos rfl, z_gb2s e2 (fun I14 => g_bind (b_X11_mark I14 59) fun I2 => some (dn ||| 2, I2))]
        have hrf : ¬ (x_rn tp n 1 23 (x_fail 5 q.1)).1 = 0 := by rw [x_rn_f hff]; exact hff
        exact key 2 J2 _ (z_f3_t (z_f1_3 f1) f2) ⟨by rw [xlb, hx]; exact p2, fun r => by rw [xlb, hx] at r; exact absurd r hrf⟩ (fun r => by rw [xlb, hx] at r; exact absurd r hrf) rfl
    · rw [if_neg c2, wCut, z_gb]
      by_cases c3 : x_wd tp n q.1.2 q_10.2.2.2.2 = true
      · have xlb : x_lb tp n q = x_rule tp n q := by unfold x_lb; rw [z_lk8 c3, if_neg (by decide), if_neg (by decide), if_neg (by decide), if_neg (by decide), if_neg (by decide), if_pos rfl]
        rw [if_pos c3]
        dsimp only
        rw [wKin, z_gb]
        have e0 : q.2.2.2.2 = nI c := by rw [efl]
        by_cases cc : c = 0
        · have h00 : q.2.2.2.2 = 0 := by rw [e0, cc]; rfl
          have hx : x_rule tp n q = ((x_ex tp n 6 (x_adv tp n q.1, q.2.1.2.2.2.2)).1, (q.2.1.1, q.2.1.2.1, q.2.1.2.2.1, q.2.1.2.2.2.1, (x_ex tp n 6 (x_adv tp n q.1, q.2.1.2.2.2.2)).2), (q.2.2.1, q.2.2.2.1, 1)) := if_pos h00
          have fl' : z_flg (dn ||| 4) (q.2.2.1, q.2.2.2.1, 1) := ⟨a, b, 1, ha, hb2, by decide, by rw [efl]; rfl, b6⟩
          obtain ⟨J1, e1, f1, p1⟩ := z_av h h0
          have m1 := x_adv_m (tp := tp) (n := n) (s := q.1) hn
          obtain ⟨J2, e2, f2, p2, q2⟩ := z_rulR (T := q.2.1) p1 (fun _ => ⟨z_Rh_1 hR f1, hW, hr h00⟩)
          rw [if_pos (b3.mpr cc)]
          (try dsimp only)
          rw [if_neg (show ¬ (4 : Int32) ≤ 0 by decide), if_pos hb, e1, z_gb]
          (try dsimp only)
          rw [if_neg (show ¬ (4 : Int32) = 1 by decide), if_neg (show ¬ (4 : Int32) = 2 by decide), e2, z_gb]
          exact key 4 J2 _ (z_f3_t (z_f1_3 f1) f2) ⟨by rw [xlb, hx]; exact p2, fun r => by rw [xlb, hx] at r ⊢; exact ⟨(q2 r).2.1, (q2 r).2.2, fl', fun t => absurd t (show ¬ (1 : Int32) = 0 by decide)⟩⟩ (fun r => by rw [xlb, hx] at r ⊢; have := (q2 r).1; exact Nat.le_trans m1.1 this) rfl
        · have h00 : ¬ q.2.2.2.2 = 0 := by rw [e0]; exact fun r => cc ((nI_eq (b := 0) (by omega) (by omega)).mp r)
          have hx : x_rule tp n q = (x_fail 5 q.1, q.2) := if_neg h00
          obtain ⟨J1, e1, f1, p1⟩ := z_wr (c := 5) h (by decide)
          have hff := x_fail_n (c := 5) (by decide) q.1
          have hb1 : ¬ J1 101 24 = 0 := by rw [p1.2.1]; exact hff
          have e2 : c_X11_readExpression 8 J1 0 = some J1 := z_exF hb1
          rw [if_neg (fun r => cc (b3.mp r)), e1, z_gb]
          (try dsimp only)
          rw [if_neg (show ¬ (4 : Int32) ≤ 0 by decide), if_neg hb1]
          (try dsimp only)
          rw [if_neg (show ¬ (4 : Int32) = 1 by decide), if_neg (show ¬ (4 : Int32) = 2 by decide), e2, z_gb]
          exact key 4 J1 _ (z_f1_3 f1) ⟨by rw [xlb, hx]; exact p1, fun r => by rw [xlb, hx] at r; exact absurd r hff⟩ (fun r => by rw [xlb, hx] at r; exact absurd r hff) rfl
      · rw [if_neg c3]
        dsimp only
        rw [wKin, z_gb, if_pos b8]
        (try dsimp only)
        rw [if_pos (show (0 : Int32) ≤ 0 by decide)]
        have fl0 : z_flg (dn ||| 0) q.2.2 := ⟨a, b, c, ha, hb2, hc, efl, b7.trans edn⟩
        have hum : ∀ kd, kd < 4 → kin = nI kd → x_lb tp n q = x_human tp n (nI kd) q → ∃ dn' J', (g_bind (b_X11_readPerson J (nI kd)) fun I31 => g_bind (b_X11_mark I31 59) fun I2 => some (dn ||| 0, I2)) = some (dn', J') ∧ z_f3 J J' ∧ z_pln tp n J' (x_line tp n q) dn' ∧ ((x_line tp n q).1.1 = 0 → q.1.2 < (x_line tp n q).1.2) := fun kd hkd ek xlb => by
          obtain ⟨J2, e2, f2, p2, q2⟩ := z_humanR h h0 hR hW hkd
          rw [e2, z_gb]
          refine key 0 J2 _ f2 ⟨by rw [xlb]; exact p2, fun r => ?_⟩ (fun _ => by rw [xlb]; exact x_human_m hn) rfl
          rw [xlb] at r ⊢
          obtain ⟨r1, r2⟩ := q2 r
          refine ⟨r1, r2, fl0, fun t => ?_⟩
          have : (x_human tp n (nI kd) q).2.1.2 = q.2.1.2 := by
            show (if (x_rn tp n 0 9 (x_rn tp n 0 9 (x_adv tp n (x_hu1 (nI kd) q.1 q.2.1.1)))).1 = 0 then (q.2.1.1 ++ [(nI kd, x_rv tp n 0 9 (x_adv tp n (x_hu1 (nI kd) q.1 q.2.1.1)), x_rv tp n 0 9 (x_rn tp n 0 9 (x_adv tp n (x_hu1 (nI kd) q.1 q.2.1.1))))], q.2.1.2) else q.2.1).2 = q.2.1.2
            split <;> rfl
          rw [this]
          exact hr t
        by_cases d0 : x_wd tp n q.1.2 q_2.2.2.2.2 = true
        · have ek : kin = nI 0 := by rw [← hkin, if_pos d0]; rfl
          have xlb : x_lb tp n q = x_human tp n (nI 0) q := by unfold x_lb; rw [z_lk0 d0, if_neg (by decide), if_neg (by decide), if_neg (by decide), if_neg (by decide), if_neg (by decide), if_neg (by decide)]; rfl
          rw [ek, if_neg (show ¬ nI 0 = -1 by decide)]
          exact hum 0 (by decide) ek xlb
        · skip
          by_cases d1 : x_wd tp n q.1.2 q_3.2.2.2.2 = true
          · have ek : kin = nI 1 := by rw [← hkin, if_neg d0, if_pos d1]; rfl
            have xlb : x_lb tp n q = x_human tp n (nI 1) q := by unfold x_lb; rw [z_lk1 d1, if_neg (by decide), if_neg (by decide), if_neg (by decide), if_neg (by decide), if_neg (by decide), if_neg (by decide)]; rfl
            rw [ek, if_neg (show ¬ nI 1 = -1 by decide)]
            exact hum 1 (by decide) ek xlb
          · skip
            by_cases d2 : x_wd tp n q.1.2 q_4.2.2.2.2 = true
            · have ek : kin = nI 2 := by rw [← hkin, if_neg d0, if_neg d1, if_pos d2]; rfl
              have xlb : x_lb tp n q = x_human tp n (nI 2) q := by unfold x_lb; rw [z_lk2 d2, if_neg (by decide), if_neg (by decide), if_neg (by decide), if_neg (by decide), if_neg (by decide), if_neg (by decide)]; rfl
              rw [ek, if_neg (show ¬ nI 2 = -1 by decide)]
              exact hum 2 (by decide) ek xlb
            · skip
              by_cases d3 : x_wd tp n q.1.2 q_5.2.2.2.2 = true
              · have ek : kin = nI 3 := by rw [← hkin, if_neg d0, if_neg d1, if_neg d2, if_pos d3]; rfl
                have xlb : x_lb tp n q = x_human tp n (nI 3) q := by unfold x_lb; rw [z_lk3 d3, if_neg (by decide), if_neg (by decide), if_neg (by decide), if_neg (by decide), if_neg (by decide), if_neg (by decide)]; rfl
                rw [ek, if_neg (show ¬ nI 3 = -1 by decide)]
                exact hum 3 (by decide) ek xlb
              · skip
                have ek : kin = -1 := by rw [← hkin, if_neg d0, if_neg d1, if_neg d2, if_neg d3]
                rw [ek, if_pos rfl, wLoa, z_gb]
                by_cases d4 : x_wd tp n q.1.2 q_6.2.2.2.2 = true
                · have xlb : x_lb tp n q = x_bread tp n q := by unfold x_lb; rw [z_lk4 d4, if_neg (by decide), if_pos rfl]
                  obtain ⟨J2, e2, f2, p2, q2⟩ := z_breadR h h0 hR hW
                  rw [if_pos d4, e2, z_gb]
                  refine key 0 J2 _ f2 ⟨by rw [xlb]; exact p2, fun r => ?_⟩ (fun r => by rw [xlb] at r ⊢; exact (q2 r).1) rfl
                  rw [xlb] at r ⊢
                  obtain ⟨-, r1, r2⟩ := q2 r
                  have h3 : (x_bread tp n q).2.1.2.2 = q.2.1.2.2 ∧ (x_bread tp n q).2.2 = q.2.2 := by
                    unfold x_bread
                    split <;> exact ⟨rfl, rfl⟩
                  refine ⟨r1, r2, by rw [h3.2]; exact fl0, fun t => ?_⟩
                  rw [h3.2] at t
                  rw [h3.1]
                  exact hr t
                · rw [if_neg d4, wMet, z_gb]
                  by_cases d5 : x_wd tp n q.1.2 q_7.2.2.2.2 = true
                  · have xlb : x_lb tp n q = x_meet tp n q := by unfold x_lb; rw [z_lk5 d5, if_neg (by decide), if_neg (by decide), if_pos rfl]
                    obtain ⟨J2, e2, f2, p2, q2⟩ := z_meetR h h0 hR hW
                    rw [if_pos d5, e2, z_gb]
                    refine key 0 J2 _ f2 ⟨by rw [xlb]; exact p2, fun r => ?_⟩ (fun r => by rw [xlb]; exact x_meet_m hn) rfl
                    rw [xlb] at r ⊢
                    obtain ⟨r1, r2⟩ := q2 r
                    have h3 : (x_meet tp n q).2.1.2.2.2 = q.2.1.2.2.2 ∧ (x_meet tp n q).2.2 = q.2.2 := by
                      unfold x_meet
                      dsimp only
                      refine ⟨?_, rfl⟩
                      split <;> rfl
                    refine ⟨r1, r2, by rw [h3.2]; exact fl0, fun t => ?_⟩
                    rw [h3.2] at t
                    rw [h3.1]
                    exact hr t
                  · have xlb : x_lb tp n q = (x_fail 1 q.1, q.2) := by unfold x_lb; rw [z_lkN ⟨d0, d1, d2, d3, d4, d5, c1, c2, c3⟩, if_pos rfl]
                    obtain ⟨J1, e1, f1, p1⟩ := z_wr (c := 1) h (by decide)
                    have hff := x_fail_n (c := 1) (by decide) q.1
                    rw [if_neg d5, e1, z_gb]
                    exact key 0 J1 _ (z_f1_3 f1) ⟨by rw [xlb]; exact p1, fun r => by rw [xlb] at r; exact absurd r hff⟩ (fun r => by rw [xlb] at r; exact absurd r hff) rfl
theorem z_rdR {K : g_I → Option (Int32 × g_I)} : ∀ (f f2 : Nat) (J : g_I) (q : x_K) (dn : Int32), z_pln tp n J q dn → (q.1.1 = 0 → n ≤ q.1.2 + f) → f < f2 → ∃ J', b_X11_town_L125 K f2 dn J = K J' ∧ z_f3 J J' ∧ z_ps tp n J' (x_rdl tp n f q).1 ∧ ((x_rdl tp n f q).1.1 = 0 → z_Rh J' (x_rdl tp n f q).2.1 ∧ z_Wk (x_rdl tp n f q).2.1) := by
  intro f
  induction f with
  | zero =>
    intro f2 J q dn hp hf hf2
    obtain ⟨f', rfl⟩ : ∃ f', f2 = f' + 1 := ⟨f2 - 1, by omega⟩
    have hst : b_X11_town_L125 K (f' + 1) dn J = K J := by
      unfold b_X11_town_L125
      by_cases h0 : q.1.1 = 0
      · have htk : x_tk tp n q.1.2 = 0 := by unfold x_tk; rw [if_pos (by have := hf h0; omega)]
        rw [hp.1.2.1, if_pos h0, (hp.1.2.2.2.1 h0).2.1, htk, if_pos (show nI 0 = 0 from rfl)]
      · rw [hp.1.2.1, if_neg h0]
    rw [hst]
    exact ⟨J, rfl, z_f3_r J, hp.1, fun r => ⟨(hp.2 r).1, (hp.2 r).2.1⟩⟩
  | succ f ih =>
    intro f2 J q dn hp hf hf2
    obtain ⟨f', rfl⟩ : ∃ f', f2 = f' + 1 := ⟨f2 - 1, by omega⟩
    by_cases c : q.1.1 = 0 ∧ ¬ x_tk tp n q.1.2 = 0
    · have hx : x_rdl tp n (f + 1) q = x_rdl tp n f (x_line tp n q) := if_pos c
      obtain ⟨dn', J1, e1, f1, p1, m1⟩ := z_lineR hp c.1
      obtain ⟨J2, e2, f2', p2, q2⟩ := ih f' J1 (x_line tp n q) dn' p1 (fun r => by have := hf c.1; have := m1 r; omega) (by omega)
      have hst : b_X11_town_L125 K (f' + 1) dn J = b_X11_town_L125 K f' dn' J1 := by
        conv => lhs; unfold b_X11_town_L125
        rw [hp.1.2.1, if_pos c.1, (hp.1.2.2.2.1 c.1).2.1, if_neg (show ¬ nI (x_tk tp n q.1.2) = 0 from fun r => c.2 ((z_tkE (k := 0) (by decide)).mp r)), e1]
        rfl
      rw [hst, hx]
      exact ⟨J2, e2, z_f3_t f1 f2', p2, q2⟩
    · have hx : x_rdl tp n (f + 1) q = q := if_neg c
      have hst : b_X11_town_L125 K (f' + 1) dn J = K J := by
        unfold b_X11_town_L125
        by_cases h0 : q.1.1 = 0
        · have htk : x_tk tp n q.1.2 = 0 := Classical.byContradiction fun r => c ⟨h0, r⟩
          rw [hp.1.2.1, if_pos h0, (hp.1.2.2.2.1 h0).2.1, htk, if_pos (show nI 0 = 0 from rfl)]
        · rw [hp.1.2.1, if_neg h0]
      rw [hst, hx]
      exact ⟨J, rfl, z_f3_r J, hp.1, fun r => ⟨(hp.2 r).1, (hp.2 r).2.1⟩⟩
end ZLL
