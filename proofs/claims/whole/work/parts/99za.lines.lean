/-! PURE: LINES: WHO IS TOLD, BOTH WORLDS -/
def z_mt (ms : List x_P) (a b : Nat) : Int32 := ms.foldl (fun acc m => if (m.1 = nI a ∧ m.2.1 = nI b) ∨ (m.1 = nI b ∧ m.2.1 = nI a) then g_max acc (-m.2.2) else acc) (-100000)
/-- the upper halves of the reference's rows: what is told so far -/
def z_Rh (J : g_I) (T : x_T) : Prop := (J 104 6 = nI T.1.length ∧ J 104 7 = nI T.2.1.length ∧ J 104 8 = nI T.2.2.1.length ∧ J 104 9 = T.2.2.2.1.1 ∧ J 104 10 = T.2.2.2.1.2) ∧ z_rl J T.2.2.2.2 ∧
  (∀ p, p < T.1.length → J 105 (8 + p) = (z_pp T p).1 ∧ J 106 (8 + p) = (z_pp T p).2.1 ∧ J 107 (8 + p) = (z_pp T p).2.2) ∧
  (∀ l, l < T.2.1.length → J 108 (6 + l) = (z_ll T l).1.1 ∧ J 109 (6 + l) = (z_ll T l).1.2.1 ∧ J 110 (6 + l) = (z_ll T l).1.2.2.1 ∧ J 111 (6 + l) = (z_ll T l).1.2.2.2 ∧ J 112 (6 + l) = nI (z_es T l).length ∧ ∀ i, i < (z_es T l).length → J 113 (36 + 6 * l + i) = (z_es T l).getD i 0) ∧
  ∀ a b, a < 8 → b < 8 → J 114 (64 + 8 * a + b) = z_mt T.2.2.1 a b
def z_Wk (T : x_T) : Prop := z_W T ∧ T.2.2.1.length ≤ 16 ∧ ∀ j, j < T.2.2.1.length → ∃ a b d, a < T.1.length ∧ b < T.1.length ∧ a ≠ b ∧ d ≤ 999 ∧ T.2.2.1.getD j (0, 0, 0) = (nI a, nI b, nI d)
def z_hf (a : Nat) : Nat := if a = 104 then 6 else if a ≤ 107 then 8 else if a ≤ 112 then 6 else if a = 113 then 36 else if a = 114 then 64 else 600
def z_f3 (J J' : g_I) : Prop := (∀ a, (a < 101 ∨ (101 < a ∧ a < 104) ∨ 115 < a) → J' a = J a) ∧ (∀ k, (k < 18 ∨ k = 19 ∨ 25 < k) → J' 101 k = J 101 k) ∧ ∀ a, 104 ≤ a → a ≤ 115 → ∀ k, k < z_hf a → J' a k = J a k
theorem z_f3_r (J : g_I) : z_f3 J J := ⟨fun _ _ => rfl, fun _ _ => rfl, fun _ _ _ _ _ => rfl⟩
theorem z_f3_t {J K M : g_I} (h1 : z_f3 J K) (h2 : z_f3 K M) : z_f3 J M := ⟨fun a h => (h2.1 a h).trans (h1.1 a h), fun k h => (h2.2.1 k h).trans (h1.2.1 k h), fun a p q k h => (h2.2.2 a p q k h).trans (h1.2.2 a p q k h)⟩
theorem z_f1_3 {J K : g_I} (h : z_f1 J K) : z_f3 J K := ⟨fun a p => h.1 a (by omega), h.2, fun a p q k _ => by rw [h.1 a (by omega)]⟩
theorem z_f2_3 {J K : g_I} (h : z_f2 J K) : z_f3 J K := ⟨fun a p => h.1 a (by omega) (by omega) (by omega), h.2.1, fun a p q k hk => by
  by_cases e1 : a = 104
  · subst e1
    exact h.2.2.1 k (by unfold z_hf at hk; rw [if_pos rfl] at hk; omega)
  · by_cases e2 : a = 115
    · subst e2
      exact h.2.2.2 k hk
    · rw [h.1 a (by omega) e1 e2]⟩
theorem z_f3_u {J : g_I} {c k : Nat} {x : Int32} (hc : 104 ≤ c ∧ c ≤ 115) (hk : z_hf c ≤ k) : z_f3 J (am_up J c k x) := ⟨fun a h => am_up_o _ _ _ _ (by omega), fun j _ => by rw [am_up_o _ _ _ _ (show 101 ≠ c by omega)], fun a _ _ j hj => by
  by_cases e : a = c
  · subst e
    exact up_ne (by omega)
  · rw [am_up_o _ _ _ _ e]⟩
theorem z_ps_o {tp : Nat → Int32} {n : Nat} {J J' : g_I} {s : Int32 × Nat} (h : z_ps tp n J s) (h1 : J' 101 = J 101) (h2 : J' 117 = J 117) : z_ps tp n J' s := by
  unfold z_ps z_tpr z_tok at h ⊢
  rw [h1, h2]
  exact h
theorem z_ps_u {tp : Nat → Int32} {n : Nat} {J : g_I} {s : Int32 × Nat} {c k : Nat} {x : Int32} (h : z_ps tp n J s) (hc : 104 ≤ c ∧ c ≤ 115) : z_ps tp n (am_up J c k x) s := z_ps_o h (am_up_o _ _ _ _ (by omega)) (am_up_o _ _ _ _ (by omega))
theorem z_gal {α : Type} {l : List α} {x d : α} {p : Nat} (h : p < l.length) : (l ++ [x]).getD p d = l.getD p d := by simp [List.getD, List.getElem?_append_left h]
theorem z_gae {α : Type} {l : List α} {x d : α} : (l ++ [x]).getD l.length d = x := by simp [List.getD]
theorem z_Rh_o {J J' : g_I} {T : x_T} (h : z_Rh J T) (ho : ∀ a, 104 ≤ a → a ≤ 115 → J' a = J a) : z_Rh J' T := by
  unfold z_Rh z_rl at h ⊢
  rw [ho 104 (by omega) (by omega), ho 105 (by omega) (by omega), ho 106 (by omega) (by omega), ho 107 (by omega) (by omega), ho 108 (by omega) (by omega), ho 109 (by omega) (by omega), ho 110 (by omega) (by omega), ho 111 (by omega) (by omega), ho 112 (by omega) (by omega), ho 113 (by omega) (by omega), ho 114 (by omega) (by omega), ho 115 (by omega) (by omega)]
  exact h
theorem z_Rh_1 {J J' : g_I} {T : x_T} (h : z_Rh J T) (hf : z_f1 J J') : z_Rh J' T := z_Rh_o h fun a p q => hf.1 a (by omega)
section ZLN
variable {tp : Nat → Int32} {n : Nat}
theorem z_Wk_h {T : x_T} (hW : z_Wk T) (hm : T.1.length < 8) {kd a b : Nat} (hkd : kd < 4) (htw : kd = 3 → x_tt T.1 = true) (ha : a < 10) (hb : b < 10) : z_Wk (T.1 ++ [(nI kd, nI a, nI b)], T.2) := by
  obtain ⟨⟨⟨w1, w2⟩, ⟨l1, l2⟩, wm, wr⟩, m1, m2⟩ := hW
  have hlen : (T.1 ++ [(nI kd, nI a, nI b)]).length = T.1.length + 1 := by rw [List.length_append]; rfl
  refine ⟨⟨⟨by show (T.1 ++ [(nI kd, nI a, nI b)]).length ≤ 8; omega, fun p hp => ?_⟩, ⟨l1, fun l hl => ?_⟩, wm, wr⟩, m1, fun j hj => ?_⟩
  · have hp' : p < T.1.length + 1 := by rw [← hlen]; exact hp
    show (∃ k, k < 4 ∧ ((T.1 ++ [(nI kd, nI a, nI b)]).getD p (0, 0, 0)).1 = nI k) ∧ (∃ h, h < 10 ∧ ((T.1 ++ [(nI kd, nI a, nI b)]).getD p (0, 0, 0)).2.1 = nI h) ∧ (∃ h, h < 10 ∧ ((T.1 ++ [(nI kd, nI a, nI b)]).getD p (0, 0, 0)).2.2 = nI h) ∧ (((T.1 ++ [(nI kd, nI a, nI b)]).getD p (0, 0, 0)).1 = 3 → 0 < p ∧ ¬ ((T.1 ++ [(nI kd, nI a, nI b)]).getD (p - 1) (0, 0, 0)).1 = 3)
    by_cases e : p = T.1.length
    · subst e
      rw [z_gae]
      refine ⟨⟨kd, hkd, rfl⟩, ⟨a, ha, rfl⟩, ⟨b, hb, rfl⟩, fun q => ?_⟩
      have hk3 : kd = 3 := (nI_eq (a := kd) (b := 3) (by omega) (by omega)).mp q
      have ht := htw hk3
      unfold x_tt at ht
      rw [Bool.and_eq_true, decide_eq_true_eq, decide_eq_true_eq] at ht
      rw [z_gal (by omega)]
      exact ht
    · rw [z_gal (by omega)]
      obtain ⟨x1, x2, x3, x4⟩ := w2 p (by omega)
      refine ⟨x1, x2, x3, fun q => ?_⟩
      rw [z_gal (by omega)]
      exact x4 q
  · obtain ⟨y1, y2, y3, y4, y5⟩ := l2 l hl
    refine ⟨y1, y2, y3, y4, y5.1, y5.2.1, fun i hi => ?_, y5.2.2.2⟩
    obtain ⟨p, hp, ep⟩ := y5.2.2.1 i hi
    exact ⟨p, by show p < (T.1 ++ [(nI kd, nI a, nI b)]).length; omega, ep⟩
  · obtain ⟨x, y, d, h1, h2, h3, h4, h5⟩ := m2 j hj
    exact ⟨x, y, d, by show x < (T.1 ++ [(nI kd, nI a, nI b)]).length; omega, by show y < (T.1 ++ [(nI kd, nI a, nI b)]).length; omega, h3, h4, h5⟩
theorem z_ten {x : Nat} (h : nI x ≤ 9) (hx : x < 10000) : x < 10 := by
  have := (nI_leI (a := x) (b := 9) (by omega) (by decide)).mp h
  omega
theorem z_hum2 {J : g_I} {s : Int32 × Nat} {T : x_T} (h : z_ps tp n J s) (h0 : s.1 = 0) (hR : z_Rh J T) (hW : z_Wk T) (hm : T.1.length < 8) {kd : Nat} (hkd : kd < 4) (htw : kd = 3 → x_tt T.1 = true) : ∃ J', (if (J 101 24) = 0 then g_bind (b_X11_stepOn J) fun I2 => if g_in (nI (8 + T.1.length)) 16 = true then g_let (am_up I2 105 (nI (8 + T.1.length)).toNatClampNeg (nI kd)) fun I4 => g_bind2 (b_X11_readNumber I4 0 9) fun a5 I6 => if g_in (nI (8 + T.1.length)) 16 = true then g_let (am_up I6 106 (nI (8 + T.1.length)).toNatClampNeg a5) fun I8 => g_bind2 (b_X11_readNumber I8 0 9) fun a9 I10 => if g_in (nI (8 + T.1.length)) 16 = true then g_let (am_up I10 107 (nI (8 + T.1.length)).toNatClampNeg a9) fun I12 => g_let (am_up I12 104 6 ((I12 104 6) + 1)) fun I13 => some I13 else none else none else none else some J) = some J' ∧ z_f3 J J' ∧ z_ps tp n J' (x_rn tp n 0 9 (x_rn tp n 0 9 (x_adv tp n s))) ∧
    ((x_rn tp n 0 9 (x_rn tp n 0 9 (x_adv tp n s))).1 = 0 → z_Rh J' (T.1 ++ [(nI kd, x_rv tp n 0 9 (x_adv tp n s), x_rv tp n 0 9 (x_rn tp n 0 9 (x_adv tp n s)))], T.2) ∧ z_Wk (T.1 ++ [(nI kd, x_rv tp n 0 9 (x_adv tp n s), x_rv tp n 0 9 (x_rn tp n 0 9 (x_adv tp n s)))], T.2)) := by
  have hb : J 101 24 = 0 := by rw [h.2.1]; exact h0
  have hg : g_in (nI (8 + T.1.length)) 16 = true := g_in_nI (by omega) (by decide)
  have hcl : (nI (8 + T.1.length)).toNatClampNeg = 8 + T.1.length := nI_clamp (by omega)
  obtain ⟨J1, e1, f1, p1⟩ := z_av h h0
  obtain ⟨v, J3, e3, f3, p3, q3⟩ := z_rnR (lo := 0) (hi := 9) (z_ps_u (c := 105) (k := 8 + T.1.length) (x := nI kd) p1 (by decide))
  obtain ⟨u, J5, e5, f5, p5, q5⟩ := z_rnR (lo := 0) (hi := 9) (z_ps_u (c := 106) (k := 8 + T.1.length) (x := v) p3 (by decide))
  have o5 : ∀ a, 104 ≤ a → a ≤ 115 → J5 a = am_up J3 106 (8 + T.1.length) v a := fun a p q => f5.1 a (by omega)
  have o3 : ∀ a, 104 ≤ a → a ≤ 115 → J3 a = am_up J1 105 (8 + T.1.length) (nI kd) a := fun a p q => f3.1 a (by omega)
  have o1 : ∀ a, 104 ≤ a → a ≤ 115 → J1 a = J a := fun a p q => f1.1 a (by omega)
  have k107 : J5 107 = J 107 := by rw [o5 107 (by decide) (by decide), am_up_o _ _ _ _ (by decide), o3 107 (by decide) (by decide), am_up_o _ _ _ _ (by decide), o1 107 (by decide) (by decide)]
  have k106 : J5 106 = upd (J 106) (8 + T.1.length) v := by rw [o5 106 (by decide) (by decide), am_up_s, o3 106 (by decide) (by decide), am_up_o _ _ _ _ (by decide), o1 106 (by decide) (by decide)]
  have k105 : J5 105 = upd (J 105) (8 + T.1.length) (nI kd) := by rw [o5 105 (by decide) (by decide), am_up_o _ _ _ _ (by decide), o3 105 (by decide) (by decide), am_up_s, o1 105 (by decide) (by decide)]
  have ko : ∀ a, 104 ≤ a → a ≤ 115 → a ≠ 105 → a ≠ 106 → J5 a = J a := fun a p q r1 r2 => by rw [o5 a p q, am_up_o _ _ _ _ r2, o3 a p q, am_up_o _ _ _ _ r1, o1 a p q]
  have h6 : am_up J5 107 (8 + T.1.length) u 104 6 = nI T.1.length := by rw [am_up_o _ _ _ _ (by decide), ko 104 (by decide) (by decide) (by decide) (by decide)]; exact hR.1.1
  rw [if_pos hb, e1, z_gb, if_pos hg, z_gl, hcl, e3]
  simp only [g_bind2]
  rw [if_pos hg, z_gl, e5]
  simp only []
  rw [if_pos hg, z_gl, z_gl, h6, nI_1]
  refine ⟨_, rfl, z_f3_t (z_f1_3 f1) (z_f3_t (z_f3_u (by decide) (by show 8 ≤ _; omega)) (z_f3_t (z_f1_3 f3) (z_f3_t (z_f3_u (by decide) (by show 8 ≤ _; omega)) (z_f3_t (z_f1_3 f5) (z_f3_t (z_f3_u (by decide) (by show 8 ≤ _; omega)) (z_f3_u (by decide) (by show 6 ≤ 6; omega))))))), z_ps_u (z_ps_u p5 (by decide)) (by decide), fun r => ?_⟩
  have r2 := x_rn_0 r
  obtain ⟨v1, -, x, v2, v3, v4, v5⟩ := q3 r2
  obtain ⟨u1, -, y, u2, u3, u4, u5⟩ := q5 r
  have ev : x_rv tp n 0 9 (x_adv tp n s) = nI x := by unfold x_rv; rw [if_pos r2, v3]
  have eu : x_rv tp n 0 9 (x_rn tp n 0 9 (x_adv tp n s)) = nI y := by unfold x_rv; rw [if_pos r, u3]
  rw [ev, eu]
  refine ⟨?_, z_Wk_h hW hm hkd htw (z_ten v5 v2) (z_ten u5 u2)⟩
  obtain ⟨⟨t1, t2, t3, t4, t5⟩, rl, rp, rlo, rm⟩ := hR
  have hlen : (T.1 ++ [(nI kd, nI x, nI y)]).length = T.1.length + 1 := by rw [List.length_append]; rfl
  have kk : ∀ a, 108 ≤ a → a ≤ 115 → am_up (am_up J5 107 (8 + T.1.length) u) 104 6 (nI (T.1.length + 1)) a = J a := fun a p q => by rw [am_up_o _ _ _ _ (by omega), am_up_o _ _ _ _ (by omega), ko a (by omega) q (by omega) (by omega)]
  have k4 : ∀ k, k ≠ 6 → am_up (am_up J5 107 (8 + T.1.length) u) 104 6 (nI (T.1.length + 1)) 104 k = J 104 k := fun k p => by rw [up_ne p, am_up_o _ _ _ _ (by decide), ko 104 (by decide) (by decide) (by decide) (by decide)]
  refine ⟨⟨?_, by rw [k4 7 (by decide)]; exact t2, by rw [k4 8 (by decide)]; exact t3, by rw [k4 9 (by decide)]; exact t4, by rw [k4 10 (by decide)]; exact t5⟩, ⟨by rw [k4 11 (by decide)]; exact rl.1, fun k hk => by rw [kk 115 (by decide) (by decide)]; exact rl.2 k hk⟩, fun p hp => ?_, fun l hl => ?_, fun a b ha hb => by rw [kk 114 (by decide) (by decide)]; exact rm a b ha hb⟩
  · rw [up_eq]
    show nI (T.1.length + 1) = nI (T.1 ++ [(nI kd, nI x, nI y)]).length
    rw [hlen]
  · rw [am_up_o _ _ _ _ (by decide), am_up_o _ _ _ _ (by decide), am_up_o _ _ _ _ (by decide), am_up_o _ _ _ _ (by decide), am_up_o _ _ _ _ (by decide), am_up_s, k105, k106, k107]
    show upd (J 105) (8 + T.1.length) (nI kd) (8 + p) = ((T.1 ++ [(nI kd, nI x, nI y)]).getD p (0, 0, 0)).1 ∧ upd (J 106) (8 + T.1.length) v (8 + p) = ((T.1 ++ [(nI kd, nI x, nI y)]).getD p (0, 0, 0)).2.1 ∧ upd (J 107) (8 + T.1.length) u (8 + p) = ((T.1 ++ [(nI kd, nI x, nI y)]).getD p (0, 0, 0)).2.2
    have hp' : p < T.1.length + 1 := by rw [← hlen]; exact hp
    by_cases e : p = T.1.length
    · subst e
      rw [z_gae, pk_us, pk_us, pk_us, v1, v3, u1, u3]
      exact ⟨rfl, rfl, rfl⟩
    · rw [z_gal (by omega), upd_o (by omega), upd_o (by omega), upd_o (by omega)]
      exact rp p (by omega)
  · rw [kk 108 (by decide) (by decide), kk 109 (by decide) (by decide), kk 110 (by decide) (by decide), kk 111 (by decide) (by decide), kk 112 (by decide) (by decide), kk 113 (by decide) (by decide)]
    exact rlo l hl
theorem z_humanR {J : g_I} {q : x_K} (h : z_ps tp n J q.1) (h0 : q.1.1 = 0) (hR : z_Rh J q.2.1) (hW : z_Wk q.2.1) {kd : Nat} (hkd : kd < 4) : ∃ J', b_X11_readPerson J (nI kd) = some J' ∧ z_f3 J J' ∧ z_ps tp n J' (x_human tp n (nI kd) q).1 ∧ ((x_human tp n (nI kd) q).1.1 = 0 → z_Rh J' (x_human tp n (nI kd) q).2.1 ∧ z_Wk (x_human tp n (nI kd) q).2.1) := by
  have hm8 := hW.1.1.1
  have hF : ∀ c : Int32, ¬ c = 0 → x_hu1 (nI kd) q.1 q.2.1.1 = x_fail c q.1 → (x_human tp n (nI kd) q).1 = x_fail c q.1 := fun c hc e => by
    have hf := x_fail_n hc q.1
    show x_rn tp n 0 9 (x_rn tp n 0 9 (x_adv tp n (x_hu1 (nI kd) q.1 q.2.1.1))) = _
    rw [e, x_adv_f hf, x_rn_f hf, x_rn_f hf]
  have hfail : ∀ c : Int32, ¬ c = 0 → x_hu1 (nI kd) q.1 q.2.1.1 = x_fail c q.1 → ∀ J1, b_X11_wrong J c = some J1 → z_f1 J J1 → z_ps tp n J1 (x_fail c q.1) → (∃ J', (if (J1 101 24) = 0 then g_bind (b_X11_stepOn J1) fun I2 => if g_in (nI (8 + q.2.1.1.length)) 16 = true then g_let (am_up I2 105 (nI (8 + q.2.1.1.length)).toNatClampNeg (nI kd)) fun I4 => g_bind2 (b_X11_readNumber I4 0 9) fun a5 I6 => if g_in (nI (8 + q.2.1.1.length)) 16 = true then g_let (am_up I6 106 (nI (8 + q.2.1.1.length)).toNatClampNeg a5) fun I8 => g_bind2 (b_X11_readNumber I8 0 9) fun a9 I10 => if g_in (nI (8 + q.2.1.1.length)) 16 = true then g_let (am_up I10 107 (nI (8 + q.2.1.1.length)).toNatClampNeg a9) fun I12 => g_let (am_up I12 104 6 ((I12 104 6) + 1)) fun I13 => some I13 else none else none else none else some J1) = some J' ∧ z_f3 J J' ∧ z_ps tp n J' (x_human tp n (nI kd) q).1 ∧ ((x_human tp n (nI kd) q).1.1 = 0 → z_Rh J' (x_human tp n (nI kd) q).2.1 ∧ z_Wk (x_human tp n (nI kd) q).2.1)) := fun c hc e J1 e1 f1 p1 => by
    have hb : ¬ J1 101 24 = 0 := by rw [p1.2.1]; exact x_fail_n hc _
    rw [if_neg hb, hF c hc e]
    exact ⟨J1, rfl, z_f1_3 f1, p1, fun r => absurd r (x_fail_n hc _)⟩
  have hok : x_hu1 (nI kd) q.1 q.2.1.1 = q.1 → q.2.1.1.length < 8 → (kd = 3 → x_tt q.2.1.1 = true) → (∃ J', (if (J 101 24) = 0 then g_bind (b_X11_stepOn J) fun I2 => if g_in (nI (8 + q.2.1.1.length)) 16 = true then g_let (am_up I2 105 (nI (8 + q.2.1.1.length)).toNatClampNeg (nI kd)) fun I4 => g_bind2 (b_X11_readNumber I4 0 9) fun a5 I6 => if g_in (nI (8 + q.2.1.1.length)) 16 = true then g_let (am_up I6 106 (nI (8 + q.2.1.1.length)).toNatClampNeg a5) fun I8 => g_bind2 (b_X11_readNumber I8 0 9) fun a9 I10 => if g_in (nI (8 + q.2.1.1.length)) 16 = true then g_let (am_up I10 107 (nI (8 + q.2.1.1.length)).toNatClampNeg a9) fun I12 => g_let (am_up I12 104 6 ((I12 104 6) + 1)) fun I13 => some I13 else none else none else none else some J) = some J' ∧ z_f3 J J' ∧ z_ps tp n J' (x_human tp n (nI kd) q).1 ∧ ((x_human tp n (nI kd) q).1.1 = 0 → z_Rh J' (x_human tp n (nI kd) q).2.1 ∧ z_Wk (x_human tp n (nI kd) q).2.1)) := fun e hm ht => by
    obtain ⟨J', e1, f1, p1, q1⟩ := z_hum2 h h0 hR hW hm hkd ht
    have hx : x_human tp n (nI kd) q = (x_rn tp n 0 9 (x_rn tp n 0 9 (x_adv tp n q.1)), (if (x_rn tp n 0 9 (x_rn tp n 0 9 (x_adv tp n q.1))).1 = 0 then (q.2.1.1 ++ [(nI kd, x_rv tp n 0 9 (x_adv tp n q.1), x_rv tp n 0 9 (x_rn tp n 0 9 (x_adv tp n q.1)))], q.2.1.2) else q.2.1), q.2.2) := by
      show (x_rn tp n 0 9 (x_rn tp n 0 9 (x_adv tp n (x_hu1 (nI kd) q.1 q.2.1.1))), (if (x_rn tp n 0 9 (x_rn tp n 0 9 (x_adv tp n (x_hu1 (nI kd) q.1 q.2.1.1)))).1 = 0 then (q.2.1.1 ++ [(nI kd, x_rv tp n 0 9 (x_adv tp n (x_hu1 (nI kd) q.1 q.2.1.1)), x_rv tp n 0 9 (x_rn tp n 0 9 (x_adv tp n (x_hu1 (nI kd) q.1 q.2.1.1))))], q.2.1.2) else q.2.1), q.2.2) = _
      rw [e]
    rw [hx]
    refine ⟨J', e1, f1, p1, fun r => ?_⟩
    have r' : (x_rn tp n 0 9 (x_rn tp n 0 9 (x_adv tp n q.1))).1 = 0 := r
    show z_Rh J' (if (x_rn tp n 0 9 (x_rn tp n 0 9 (x_adv tp n q.1))).1 = 0 then (q.2.1.1 ++ [(nI kd, x_rv tp n 0 9 (x_adv tp n q.1), x_rv tp n 0 9 (x_rn tp n 0 9 (x_adv tp n q.1)))], q.2.1.2) else q.2.1) ∧ z_Wk (if (x_rn tp n 0 9 (x_rn tp n 0 9 (x_adv tp n q.1))).1 = 0 then (q.2.1.1 ++ [(nI kd, x_rv tp n 0 9 (x_adv tp n q.1), x_rv tp n 0 9 (x_rn tp n 0 9 (x_adv tp n q.1)))], q.2.1.2) else q.2.1)
    rw [if_pos r']
    exact q1 r'
  unfold b_X11_readPerson
  rw [z_gl, z_gl, hR.1.1, show (8 : Int32) = nI 8 from rfl, nI_add]
  by_cases c8 : q.2.1.1.length = 8
  · have e : x_hu1 (nI kd) q.1 q.2.1.1 = x_fail 2 q.1 := by unfold x_hu1; rw [if_pos (by omega)]
    obtain ⟨J1, e1, f1, p1⟩ := z_wr (c := 2) h (by decide)
    rw [if_pos (show nI q.2.1.1.length = nI 8 by rw [c8]), e1, z_gb]
    exact hfail 2 (by decide) e J1 e1 f1 p1
  · have hm : q.2.1.1.length < 8 := by omega
    rw [if_neg (show ¬ nI q.2.1.1.length = nI 8 from fun r => c8 ((nI_eq (by omega) (by omega)).mp r))]
    by_cases c3 : kd = 3
    · rw [if_pos (show nI kd = 3 by rw [c3]; rfl)]
      by_cases c0 : q.2.1.1.length = 0
      · have htt : ¬ x_tt q.2.1.1 = true := by unfold x_tt; rw [c0, Bool.and_eq_true]; exact fun r => absurd (of_decide_eq_true r.1) (by omega)
        have e : x_hu1 (nI kd) q.1 q.2.1.1 = x_fail 6 q.1 := by unfold x_hu1; rw [if_neg (by omega), if_pos ⟨by rw [c3]; rfl, htt⟩]
        obtain ⟨J1, e1, f1, p1⟩ := z_wr (c := 6) h (by decide)
        rw [if_pos (show nI q.2.1.1.length = 0 by rw [c0]; rfl), e1, z_gb]
        exact hfail 6 (by decide) e J1 e1 f1 p1
      · have hk := (hR.2.2.1 (q.2.1.1.length - 1) (by omega)).1
        rw [if_neg (show ¬ nI q.2.1.1.length = 0 from fun r => c0 ((nI_eq (b := 0) (by omega) (by omega)).mp r)), show nI (8 + q.2.1.1.length) - 1 = nI (8 + (q.2.1.1.length - 1)) by rw [show (1 : Int32) = nI 1 from rfl, nI_subI (by omega)]; congr 1; omega, if_pos (g_in_nI (by omega) (by decide)), nI_clamp (by omega), hk]
        by_cases ck : (z_pp q.2.1 (q.2.1.1.length - 1)).1 = 3
        · have htt : ¬ x_tt q.2.1.1 = true := by
            unfold x_tt
            rw [Bool.and_eq_true, decide_eq_true_eq, decide_eq_true_eq]
            exact fun r => r.2 ck
          have e : x_hu1 (nI kd) q.1 q.2.1.1 = x_fail 6 q.1 := by unfold x_hu1; rw [if_neg (by omega), if_pos ⟨by rw [c3]; rfl, htt⟩]
          obtain ⟨J1, e1, f1, p1⟩ := z_wr (c := 6) h (by decide)
          rw [if_pos ck, e1, z_gb]
          exact hfail 6 (by decide) e J1 e1 f1 p1
        · have htt : x_tt q.2.1.1 = true := by
            unfold x_tt
            rw [Bool.and_eq_true, decide_eq_true_eq, decide_eq_true_eq]
            exact ⟨by omega, ck⟩
          rw [if_neg ck]
          exact hok (by unfold x_hu1; rw [if_neg (by omega), if_neg (fun r => r.2 htt)]) hm (fun _ => htt)
    · rw [if_neg (show ¬ nI kd = 3 from fun r => c3 ((nI_eq (b := 3) (by omega) (by omega)).mp r))]
      exact hok (by unfold x_hu1; rw [if_neg (by omega), if_neg (fun r => c3 ((nI_eq (b := 3) (by omega) (by omega)).mp r.1))]) hm (fun r => absurd r c3)
end ZLN
