/-! READER: LINES -/
abbrev x_P := Int32 × Int32 × Int32
abbrev x_L := (Int32 × Int32 × Int32 × Int32) × List Int32
/-- a town as it is told: people (kind, house, hunger), loaves (house, size, baked, fresh; eaters), who met whom how long ago, forgetting and noon, the rule's steps -/
abbrev x_T := List x_P × List x_L × List x_P × (Int32 × Int32) × List Int32
def x_bits (es : List Int32) : Int32 := es.foldl (fun b e => b ||| ((1 : Int32) <<< (e &&& 31))) 0
def x_tw (ps : List x_P) (j : Nat) : Int32 := if (ps.getD j (0, 0, 0)).1 = 3 ∧ 0 < j then nI (j - 1) else if (ps.getD (j + 1) (0, 0, 0)).1 = 3 ∧ j + 1 < ps.length then nI (j + 1) else -1
def k_lf (J : Nat → Nat → Int32) (t j : Nat) (l : x_L) : Prop := J (t + 9) j = l.1.1 ∧ J (t + 10) j = l.1.2.1 ∧ J (t + 11) j = l.1.2.2.1 ∧ J (t + 12) j = l.1.2.2.2 ∧ J (t + 13) j = nI l.2.length ∧ l.2.length ≤ 6 ∧ J (t + 14) j = x_bits l.2 ∧ ∀ i, i < l.2.length → J (t + 15) (6 * j + i) = l.2.getD i 0
def k_tp (J : Nat → Nat → Int32) (t : Nat) (ps : List x_P) : Prop := J t 0 = nI ps.length ∧ ps.length ≤ 8 ∧ ∀ j, j < ps.length → J (t + 1) j = (ps.getD j (0, 0, 0)).1 ∧ J (t + 2) j = (ps.getD j (0, 0, 0)).2.1 ∧ J (t + 3) j = (ps.getD j (0, 0, 0)).2.2 ∧ J (t + 4) j = x_tw ps j
def k_tl (J : Nat → Nat → Int32) (t : Nat) (ls : List x_L) : Prop := J (t + 8) 0 = nI ls.length ∧ ls.length ≤ 6 ∧ ∀ j, j < ls.length → k_lf J t j (ls.getD j ((0, 0, 0, 0), []))
def k_tm (J : Nat → Nat → Int32) (t : Nat) (ms : List x_P) : Prop := J t 1 = nI ms.length ∧ ms.length ≤ 16 ∧ ∀ j, j < ms.length → J (t + 5) j = (ms.getD j (0, 0, 0)).1 ∧ J (t + 6) j = (ms.getD j (0, 0, 0)).2.1 ∧ J (t + 7) j = (ms.getD j (0, 0, 0)).2.2
def k_tw (J : Nat → Nat → Int32) (t : Nat) (T : x_T) : Prop := k_tp J t T.1 ∧ k_tl J t T.2.1 ∧ k_tm J t T.2.2.1 ∧ J t 2 = T.2.2.2.1.1 ∧ J t 3 = T.2.2.2.1.2 ∧ k_st J (t + 16) T.2.2.2.2
theorem k_tw_o {I J : Nat → Nat → Int32} {t : Nat} {T : x_T} (h : k_tw I t T) (ho : ∀ a, t ≤ a → a < t + 18 → J a = I a) : k_tw J t T := by
  unfold k_tw k_tp k_tl k_lf k_tm k_st at h ⊢
  rw [ho t (by omega) (by omega), ho (t + 1) (by omega) (by omega), ho (t + 2) (by omega) (by omega), ho (t + 3) (by omega) (by omega), ho (t + 4) (by omega) (by omega), ho (t + 5) (by omega) (by omega), ho (t + 6) (by omega) (by omega), ho (t + 7) (by omega) (by omega), ho (t + 8) (by omega) (by omega), ho (t + 9) (by omega) (by omega), ho (t + 10) (by omega) (by omega), ho (t + 11) (by omega) (by omega), ho (t + 12) (by omega) (by omega), ho (t + 13) (by omega) (by omega), ho (t + 14) (by omega) (by omega), ho (t + 15) (by omega) (by omega), ho (t + 16) (by omega) (by omega), ho (t + 16 + 1) (by omega) (by omega)]
  exact h
abbrev x_F := Int32 × Int32 × Int32
def k_fl (J : Nat → Nat → Int32) (e : Nat) (fl : x_F) : Prop := J e 8 = fl.1 ∧ J e 9 = fl.2.1 ∧ J e 10 = fl.2.2
def k_ft (I J : Nat → Nat → Int32) (e t : Nat) : Prop := (∀ a, a ≠ e → (a < t ∨ t + 19 ≤ a) → J a = I a) ∧ ∀ k, k < 3 → J e k = I e k
theorem k_ft_0 (I : Nat → Nat → Int32) (e t : Nat) : k_ft I I e t := ⟨fun _ _ _ => rfl, fun _ _ => rfl⟩
theorem k_ft_t {I J K : Nat → Nat → Int32} {e t : Nat} (h1 : k_ft I J e t) (h2 : k_ft J K e t) : k_ft I K e t := ⟨fun a x y => (h2.1 a x y).trans (h1.1 a x y), fun k h => (h2.2 k h).trans (h1.2 k h)⟩
theorem k_ft_r {I J : Nat → Nat → Int32} {e t n : Nat} {tp : Nat → Int32} {s : Int32 × Nat} (h : k_rp I J e tp n s) : k_ft I J e t := ⟨fun a x _ => h.1 a x, fun k hk => h.2.1 k (Or.inl hk)⟩
theorem k_ft_w {I J : Nat → Nat → Int32} {e t : Nat} (het : e + 2 ≤ t ∨ t + 19 ≤ e) (h : ∀ a, (a < t ∨ t + 19 ≤ a) → J a = I a) : k_ft I J e t := ⟨fun a _ y => h a y, fun k _ => by rw [h e (by omega)]⟩
theorem k_fl_r {I J : Nat → Nat → Int32} {e n : Nat} {tp : Nat → Int32} {s : Int32 × Nat} {fl : x_F} (h : k_fl I e fl) (hr : k_rp I J e tp n s) : k_fl J e fl := ⟨(hr.2.1 8 (by omega)).trans h.1, (hr.2.1 9 (by omega)).trans h.2.1, (hr.2.1 10 (by omega)).trans h.2.2⟩
theorem k_tw_r {I J : Nat → Nat → Int32} {e t n : Nat} {tp : Nat → Int32} {s : Int32 × Nat} {T : x_T} (het : e + 2 ≤ t ∨ t + 19 ≤ e) (h : k_tw I t T) (hr : k_rp I J e tp n s) : k_tw J t T := k_tw_o h (fun a _ _ => hr.1 a (by omega))
theorem k_s_w {I J : Nat → Nat → Int32} {e t n : Nat} {tp : Nat → Int32} {s : Int32 × Nat} (het : e + 2 ≤ t ∨ t + 19 ≤ e) (h : k_s I e tp n s) (ho : ∀ a, (a < t ∨ t + 19 ≤ a) → J a = I a) : k_s J e tp n s := k_s_o h (ho e (by omega)) (ho (e + 1) (by omega))
theorem k_fl_w {I J : Nat → Nat → Int32} {e t : Nat} {fl : x_F} (het : e + 2 ≤ t ∨ t + 19 ≤ e) (h : k_fl I e fl) (ho : ∀ a, (a < t ∨ t + 19 ≤ a) → J a = I a) : k_fl J e fl := by unfold k_fl; rw [ho e (by omega)]; exact h
abbrev x_K := (Int32 × Nat) × x_T × x_F
def k_rt (I J : Nat → Nat → Int32) (e t : Nat) (tp : Nat → Int32) (n : Nat) (q : x_K) : Prop := k_ft I J e t ∧ k_s J e tp n q.1 ∧ k_fl J e q.2.2 ∧ (q.1.1 = 0 → k_tw J t q.2.1)
theorem x_rn_0 {tp : Nat → Int32} {n : Nat} {lo hi : Int32} {s : Int32 × Nat} (h : (x_rn tp n lo hi s).1 = 0) : s.1 = 0 := by
  have h1 := x_adv_0 h
  split at h1
  · exact absurd h1 (x_fail_n (by decide) _)
  · split at h1
    · exact absurd h1 (x_fail_n (by decide) _)
    · exact h1
theorem x_pn_0 {tp : Nat → Int32} {n pn : Nat} {tk : Int32} {s : Int32 × Nat} (h : (x_pn tp n pn tk s).1 = 0) : s.1 = 0 := by
  have h1 := x_adv_0 h
  split at h1
  · exact absurd h1 (x_fail_n (by decide) _)
  · split at h1
    · exact absurd h1 (x_fail_n (by decide) _)
    · split at h1
      · exact absurd h1 (x_fail_n (by decide) _)
      · split at h1
        · exact absurd h1 (x_fail_n (by decide) _)
        · exact h1
def x_tt (ps : List x_P) : Bool := decide (0 < ps.length) && decide (¬ (ps.getD (ps.length - 1) (0, 0, 0)).1 = 3)
def x_hu1 (kd : Int32) (s : Int32 × Nat) (ps : List x_P) : Int32 × Nat := if 8 ≤ ps.length then x_fail 2 s else if kd = 3 ∧ ¬ x_tt ps = true then x_fail 6 s else s
theorem x_hu1_0 {kd : Int32} {s : Int32 × Nat} {ps : List x_P} (h : (x_hu1 kd s ps).1 = 0) : s.1 = 0 ∧ ps.length < 8 ∧ (kd = 3 → x_tt ps = true) := by
  unfold x_hu1 at h
  split at h
  · exact absurd h (x_fail_n (by decide) _)
  · split at h
    · exact absurd h (x_fail_n (by decide) _)
    · rename_i h1 h2
      exact ⟨h, by omega, fun h3 => Decidable.not_not.mp fun h4 => h2 ⟨h3, h4⟩⟩
def x_human (tp : Nat → Int32) (n : Nat) (kd : Int32) (q : x_K) : x_K :=
  let s1 := x_adv tp n (x_hu1 kd q.1 q.2.1.1)
  let s2 := x_rn tp n 0 9 s1
  let s3 := x_rn tp n 0 9 s2
  (s3, (if s3.1 = 0 then (q.2.1.1 ++ [(kd, x_rv tp n 0 9 s1, x_rv tp n 0 9 s2)], q.2.1.2) else q.2.1), q.2.2)
theorem getD_app {α : Type} (l : List α) (x d : α) (j : Nat) : (l ++ [x]).getD j d = if j < l.length then l.getD j d else if j = l.length then x else d := by
  rw [List.getD_eq_getElem?_getD, List.getD_eq_getElem?_getD]
  by_cases h : j < l.length
  · rw [if_pos h, List.getElem?_append_left h]
  · rw [if_neg h, List.getElem?_append_right (by omega)]
    by_cases h2 : j = l.length
    · rw [if_pos h2, h2, Nat.sub_self]; rfl
    · rw [if_neg h2]
      obtain ⟨k, hk⟩ : ∃ k, j - l.length = k + 1 := ⟨j - l.length - 1, by omega⟩
      rw [hk]; rfl
theorem getD_lt {α : Type} {l : List α} {x d : α} {j : Nat} (h : j < l.length) : (l ++ [x]).getD j d = l.getD j d := by rw [getD_app, if_pos h]
theorem getD_eq {α : Type} {l : List α} {x d : α} : (l ++ [x]).getD l.length d = x := by rw [getD_app, if_neg (Nat.lt_irrefl _), if_pos rfl]
theorem x_tw_ap {ps : List x_P} {p : x_P} (hk : p.1 = 3 → x_tt ps = true) {j : Nat} (hj : j < ps.length + 1) : x_tw (ps ++ [p]) j = if j = ps.length then (if p.1 = 3 then nI (ps.length - 1) else -1) else if p.1 = 3 ∧ j + 1 = ps.length then nI ps.length else x_tw ps j := by
  have hl : (ps ++ [p]).length = ps.length + 1 := by rw [List.length_append]; rfl
  have hk2 : p.1 = 3 → 0 < ps.length ∧ ¬ (ps.getD (ps.length - 1) (0, 0, 0)).1 = 3 := fun h => by
    have h2 := hk h
    unfold x_tt at h2
    rw [Bool.and_eq_true] at h2
    exact ⟨of_decide_eq_true h2.1, of_decide_eq_true h2.2⟩
  unfold x_tw
  rw [hl]
  by_cases e : j = ps.length
  · subst e
    rw [getD_eq]
    by_cases e3 : p.1 = 3
    · have h0 := (hk2 e3).1
      simp [e3, h0]
    · simp [e3]
  · have hj2 : j < ps.length := by omega
    rw [getD_lt hj2]
    by_cases e8 : j + 1 < ps.length
    · rw [getD_lt e8]
      have e9 : ¬ j + 1 = ps.length := by omega
      have e10 : j + 1 < ps.length + 1 := by omega
      simp [e, e9, e10, e8]
    · have e9 : j + 1 = ps.length := by omega
      have e11 : j = ps.length - 1 := by omega
      rw [e9, getD_eq]
      by_cases e3 : p.1 = 3
      · have h0 := hk2 e3
        rw [← e11] at h0
        rw [if_neg (fun h => h0.2 h.1), if_pos ⟨e3, Nat.lt_succ_self _⟩, if_neg e, if_pos ⟨e3, rfl⟩]
      · simp [e, e3]
theorem k_tp_ap {I : Nat → Nat → Int32} {t : Nat} {ps : List x_P} (h : k_tp I t ps) (h8 : ps.length < 8) (kd hs hg : Int32) (hk : kd = 3 → x_tt ps = true) : k_tp (f_ap I t ps.length kd hs hg) t (ps ++ [(kd, hs, hg)]) := by
  have hl : (ps ++ [(kd, hs, hg)]).length = ps.length + 1 := by rw [List.length_append]; rfl
  have h0 : kd = 3 → 0 < ps.length := fun h => by
    have h2 := hk h
    unfold x_tt at h2
    rw [Bool.and_eq_true] at h2
    exact of_decide_eq_true h2.1
  unfold k_tp
  rw [hl]
  refine ⟨by unfold f_ap; rw [am_uA_s]; rfl, h8, fun j hj => ?_⟩
  have e1 : f_ap I t ps.length kd hs hg (t + 1) = upd (I (t + 1)) ps.length kd := by unfold f_ap; simp (disch := omega) only [am_uA_o, am_uA_s]
  have e2 : f_ap I t ps.length kd hs hg (t + 2) = upd (I (t + 2)) ps.length hs := by unfold f_ap; simp (disch := omega) only [am_uA_o, am_uA_s]
  have e3 : f_ap I t ps.length kd hs hg (t + 3) = upd (I (t + 3)) ps.length hg := by unfold f_ap; simp (disch := omega) only [am_uA_o, am_uA_s]
  have e4 : f_ap I t ps.length kd hs hg (t + 4) = (if kd = 3 ∧ 0 < ps.length then upd (upd (upd (I (t + 4)) ps.length (-1)) ps.length (nI (ps.length - 1))) (ps.length - 1) (nI ps.length) else upd (I (t + 4)) ps.length (-1)) := by unfold f_ap; simp (disch := omega) only [am_uA_o, am_uA_s]
  rw [e1, e2, e3, e4, x_tw_ap hk hj]
  by_cases e : j = ps.length
  · rw [e, getD_eq, pk_us, pk_us, pk_us]
    refine ⟨rfl, rfl, rfl, ?_⟩
    by_cases e5 : kd = 3
    · have h9 := h0 e5
      rw [if_pos ⟨e5, h9⟩, upd_o (by omega), pk_us, if_pos rfl, if_pos e5]
    · rw [if_neg (fun h => e5 h.1), pk_us, if_pos rfl, if_neg e5]
  · have hj' : j < ps.length := by omega
    obtain ⟨a1, a2, a3, a4⟩ := h.2.2 j hj'
    rw [getD_lt hj', upd_o e, upd_o e, upd_o e]
    refine ⟨a1, a2, a3, ?_⟩
    rw [if_neg e]
    by_cases e5 : kd = 3
    · have h9 := h0 e5
      rw [if_pos ⟨e5, h9⟩]
      by_cases e6 : j = ps.length - 1
      · rw [e6, pk_us, if_pos ⟨e5, by omega⟩]
      · rw [upd_o e6, upd_o e, upd_o e, if_neg (fun h => e6 (by omega))]; exact a4
    · rw [if_neg (fun h => e5 h.1), upd_o e, if_neg (fun h => e5 h.1)]; exact a4
theorem f_ap_o {I : Nat → Nat → Int32} {t k : Nat} {kd hs hg : Int32} : ∀ a, (a < t ∨ t + 5 ≤ a) → f_ap I t k kd hs hg a = I a := fun a h => by unfold f_ap; simp (disch := omega) only [am_uA_o]
theorem k_tw_ap {I : Nat → Nat → Int32} {t : Nat} {T : x_T} (h : k_tw I t T) (h8 : T.1.length < 8) (kd hs hg : Int32) (hk : kd = 3 → x_tt T.1 = true) : k_tw (f_ap I t T.1.length kd hs hg) t (T.1 ++ [(kd, hs, hg)], T.2) := by
  refine ⟨k_tp_ap h.1 h8 kd hs hg hk, ?_⟩
  have h2 := h.2
  have et : ∀ k, k ≠ 0 → f_ap I t T.1.length kd hs hg t k = I t k := fun k hk => by unfold f_ap; rw [am_uA_s, upd_o hk]
  unfold k_tl k_lf k_tm k_st at h2 ⊢
  rw [et 1 (by decide), et 2 (by decide), et 3 (by decide), f_ap_o (t + 5) (by omega), f_ap_o (t + 6) (by omega), f_ap_o (t + 7) (by omega), f_ap_o (t + 8) (by omega), f_ap_o (t + 9) (by omega), f_ap_o (t + 10) (by omega), f_ap_o (t + 11) (by omega), f_ap_o (t + 12) (by omega), f_ap_o (t + 13) (by omega), f_ap_o (t + 14) (by omega), f_ap_o (t + 15) (by omega), f_ap_o (t + 16) (by omega), f_ap_o (t + 16 + 1) (by omega)]
  exact h2
theorem f_tt_x {I : Nat → Nat → Int32} {t : Nat} {ps : List x_P} (h : k_tp I t ps) : f_tt (I (t + 1)) ps.length = x_tt ps := by
  unfold f_tt x_tt
  rcases Nat.eq_zero_or_pos ps.length with e | e
  · simp [e]
  · rw [(h.2.2 (ps.length - 1) (by omega)).1]
def x_lk (tp : Nat → Int32) (n a : Nat) : Int32 := if x_wd tp n a q_2.2.2.2.2 = true then 0 else if x_wd tp n a q_3.2.2.2.2 = true then 1 else if x_wd tp n a q_4.2.2.2.2 = true then 2 else if x_wd tp n a q_5.2.2.2.2 = true then 3 else if x_wd tp n a q_6.2.2.2.2 = true then 4 else if x_wd tp n a q_7.2.2.2.2 = true then 5 else if x_wd tp n a q_8.2.2.2.2 = true then 6 else if x_wd tp n a q_9.2.2.2.2 = true then 7 else if x_wd tp n a q_10.2.2.2.2 = true then 8 else -1
theorem dX6_lineKind_0 : decode cX6_lineKind 0 = .ok (.aload_n 0, 1) := by decide +kernel
theorem dX6_lineKind_1 : decode cX6_lineKind 1 = .ok (.ldc 124, 2) := by decide +kernel
theorem dX6_lineKind_3 : decode cX6_lineKind 3 = .ok (.invokevirtual 126, 3) := by decide +kernel
theorem dX6_lineKind_6 : decode cX6_lineKind 6 = .ok (.ifCond .eq 5, 3) := by decide +kernel
theorem dX6_lineKind_9 : decode cX6_lineKind 9 = .ok (.iconst 0, 1) := by decide +kernel
theorem dX6_lineKind_10 : decode cX6_lineKind 10 = .ok (.ireturn, 1) := by decide +kernel
theorem dX6_lineKind_11 : decode cX6_lineKind 11 = .ok (.aload_n 0, 1) := by decide +kernel
theorem dX6_lineKind_12 : decode cX6_lineKind 12 = .ok (.ldc 130, 2) := by decide +kernel
theorem dX6_lineKind_14 : decode cX6_lineKind 14 = .ok (.invokevirtual 126, 3) := by decide +kernel
theorem dX6_lineKind_17 : decode cX6_lineKind 17 = .ok (.ifCond .eq 5, 3) := by decide +kernel
theorem dX6_lineKind_20 : decode cX6_lineKind 20 = .ok (.iconst 1, 1) := by decide +kernel
theorem dX6_lineKind_21 : decode cX6_lineKind 21 = .ok (.ireturn, 1) := by decide +kernel
theorem dX6_lineKind_22 : decode cX6_lineKind 22 = .ok (.aload_n 0, 1) := by decide +kernel
theorem dX6_lineKind_23 : decode cX6_lineKind 23 = .ok (.ldc 132, 2) := by decide +kernel
theorem dX6_lineKind_25 : decode cX6_lineKind 25 = .ok (.invokevirtual 126, 3) := by decide +kernel
theorem dX6_lineKind_28 : decode cX6_lineKind 28 = .ok (.ifCond .eq 5, 3) := by decide +kernel
theorem dX6_lineKind_31 : decode cX6_lineKind 31 = .ok (.iconst 2, 1) := by decide +kernel
theorem dX6_lineKind_32 : decode cX6_lineKind 32 = .ok (.ireturn, 1) := by decide +kernel
theorem dX6_lineKind_33 : decode cX6_lineKind 33 = .ok (.aload_n 0, 1) := by decide +kernel
theorem dX6_lineKind_34 : decode cX6_lineKind 34 = .ok (.ldc 134, 2) := by decide +kernel
theorem dX6_lineKind_36 : decode cX6_lineKind 36 = .ok (.invokevirtual 126, 3) := by decide +kernel
theorem dX6_lineKind_39 : decode cX6_lineKind 39 = .ok (.ifCond .eq 5, 3) := by decide +kernel
theorem dX6_lineKind_42 : decode cX6_lineKind 42 = .ok (.iconst 3, 1) := by decide +kernel
theorem dX6_lineKind_43 : decode cX6_lineKind 43 = .ok (.ireturn, 1) := by decide +kernel
theorem dX6_lineKind_44 : decode cX6_lineKind 44 = .ok (.aload_n 0, 1) := by decide +kernel
theorem dX6_lineKind_45 : decode cX6_lineKind 45 = .ok (.ldc 136, 2) := by decide +kernel
theorem dX6_lineKind_47 : decode cX6_lineKind 47 = .ok (.invokevirtual 126, 3) := by decide +kernel
theorem dX6_lineKind_50 : decode cX6_lineKind 50 = .ok (.ifCond .eq 5, 3) := by decide +kernel
theorem dX6_lineKind_53 : decode cX6_lineKind 53 = .ok (.iconst 4, 1) := by decide +kernel
theorem dX6_lineKind_54 : decode cX6_lineKind 54 = .ok (.ireturn, 1) := by decide +kernel
theorem dX6_lineKind_55 : decode cX6_lineKind 55 = .ok (.aload_n 0, 1) := by decide +kernel
theorem dX6_lineKind_56 : decode cX6_lineKind 56 = .ok (.ldc 138, 2) := by decide +kernel
theorem dX6_lineKind_58 : decode cX6_lineKind 58 = .ok (.invokevirtual 126, 3) := by decide +kernel
theorem dX6_lineKind_61 : decode cX6_lineKind 61 = .ok (.ifCond .eq 5, 3) := by decide +kernel
theorem dX6_lineKind_64 : decode cX6_lineKind 64 = .ok (.iconst 5, 1) := by decide +kernel
theorem dX6_lineKind_65 : decode cX6_lineKind 65 = .ok (.ireturn, 1) := by decide +kernel
theorem dX6_lineKind_66 : decode cX6_lineKind 66 = .ok (.aload_n 0, 1) := by decide +kernel
theorem dX6_lineKind_67 : decode cX6_lineKind 67 = .ok (.ldc 140, 2) := by decide +kernel
theorem dX6_lineKind_69 : decode cX6_lineKind 69 = .ok (.invokevirtual 126, 3) := by decide +kernel
theorem dX6_lineKind_72 : decode cX6_lineKind 72 = .ok (.ifCond .eq 6, 3) := by decide +kernel
theorem dX6_lineKind_75 : decode cX6_lineKind 75 = .ok (.bipush 6, 2) := by decide +kernel
theorem dX6_lineKind_77 : decode cX6_lineKind 77 = .ok (.ireturn, 1) := by decide +kernel
theorem dX6_lineKind_78 : decode cX6_lineKind 78 = .ok (.aload_n 0, 1) := by decide +kernel
theorem dX6_lineKind_79 : decode cX6_lineKind 79 = .ok (.ldc 142, 2) := by decide +kernel
theorem dX6_lineKind_81 : decode cX6_lineKind 81 = .ok (.invokevirtual 126, 3) := by decide +kernel
theorem dX6_lineKind_84 : decode cX6_lineKind 84 = .ok (.ifCond .eq 6, 3) := by decide +kernel
theorem dX6_lineKind_87 : decode cX6_lineKind 87 = .ok (.bipush 7, 2) := by decide +kernel
theorem dX6_lineKind_89 : decode cX6_lineKind 89 = .ok (.ireturn, 1) := by decide +kernel
theorem dX6_lineKind_90 : decode cX6_lineKind 90 = .ok (.aload_n 0, 1) := by decide +kernel
theorem dX6_lineKind_91 : decode cX6_lineKind 91 = .ok (.ldc 144, 2) := by decide +kernel
theorem dX6_lineKind_93 : decode cX6_lineKind 93 = .ok (.invokevirtual 126, 3) := by decide +kernel
theorem dX6_lineKind_96 : decode cX6_lineKind 96 = .ok (.ifCond .eq 8, 3) := by decide +kernel
theorem dX6_lineKind_99 : decode cX6_lineKind 99 = .ok (.bipush 8, 2) := by decide +kernel
theorem dX6_lineKind_101 : decode cX6_lineKind 101 = .ok (.goto 4, 3) := by decide +kernel
theorem dX6_lineKind_104 : decode cX6_lineKind 104 = .ok (.iconst (-1), 1) := by decide +kernel
theorem dX6_lineKind_105 : decode cX6_lineKind 105 = .ok (.ireturn, 1) := by decide +kernel
set_option maxRecDepth 100000 in
set_option maxHeartbeats 4000000 in
theorem k_X6_lineKind {G : am_G} (hK : k_OK G) {d : Nat} (hd : 5 ≤ d) {sh : List (Nat ⊕ (Nat × Nat))} {I : Nat → Nat → Int32} {R : Nat → Nat → Option Nat} {L : Nat → Nat → Int64} {g : Nat} {e n : Nat} {tp : Nat → Int32} {s : Int32 × Nat} (hr : k_rd sh R e tp n) (hs : k_s I e tp n s) : AM G mX6_lineKind d [.ref e] (sh, I, R, L, g) (fun v w => v = some (.int (x_lk tp n s.2)) ∧ w = (sh, I, R, L, g)) (fun _ _ => False) := by
  have hG := hK.1
  have he := hr.1
  refine AM.of (n := 0) (by decide +kernel) (Nat.le_of_ble_eq_true rfl) ?_
  show AW G mX6_lineKind d (fun v w => v = some (.int (x_lk tp n s.2)) ∧ w = (sh, I, R, L, g)) (fun _ _ => False) 0 [some (.ref e)] [] (sh, I, R, L, g) 0 0
  refine AW.aload_n dX6_lineKind_0 rfl ?_
  refine AW.ldcS (j := 2) hK q_2 k_s_2 rfl rfl dX6_lineKind_1 ?_
  refine AW.callV (b := e) (As := [.ref (1000000 + 2)]) hG.2.2 (vX6_126 hG) (he.1 0 _ rfl) (k_X6_isWord hK (d := 4) (Nat.le_refl _) (k_txi hK k_s_2) hr (by assumption)) (by omega) dX6_lineKind_3 rfl rfl (Nat.le_of_ble_eq_true rfl) (fun v w9 hq9 h09 => by obtain ⟨rfl, rfl⟩ := hq9; exact ⟨h09, rfl⟩) (by decide) (by decide) (fun _ _ hx => hx) (fun v3 w3 hq3 => ?_)
  obtain ⟨rfl, rfl⟩ := hq3
  refine AW.nam (fun x3 ex3 => ?_)
  refine AW.if_eq 11 dX6_lineKind_6 (by decide) (fun h6 => ?_) (fun h6 => ?_)
  · rw [ex3] at h6
    have q6 := kb_0.mp h6
    refine AW.aload_n dX6_lineKind_11 rfl ?_
    refine AW.ldcS (j := 3) hK q_3 k_s_3 rfl rfl dX6_lineKind_12 ?_
    refine AW.callV (b := e) (As := [.ref (1000000 + 3)]) hG.2.2 (vX6_126 hG) (he.1 0 _ rfl) (k_X6_isWord hK (d := 4) (Nat.le_refl _) (k_txi hK k_s_3) hr (by assumption)) (by omega) dX6_lineKind_14 rfl rfl (Nat.le_of_ble_eq_true rfl) (fun v w9 hq9 h09 => by obtain ⟨rfl, rfl⟩ := hq9; exact ⟨h09, rfl⟩) (by decide) (by decide) (fun _ _ hx => hx) (fun v14 w14 hq14 => ?_)
    obtain ⟨rfl, rfl⟩ := hq14
    refine AW.nam (fun x14 ex14 => ?_)
    refine AW.if_eq 22 dX6_lineKind_17 (by decide) (fun h17 => ?_) (fun h17 => ?_)
    · rw [ex14] at h17
      have q17 := kb_0.mp h17
      refine AW.aload_n dX6_lineKind_22 rfl ?_
      refine AW.ldcS (j := 4) hK q_4 k_s_4 rfl rfl dX6_lineKind_23 ?_
      refine AW.callV (b := e) (As := [.ref (1000000 + 4)]) hG.2.2 (vX6_126 hG) (he.1 0 _ rfl) (k_X6_isWord hK (d := 4) (Nat.le_refl _) (k_txi hK k_s_4) hr (by assumption)) (by omega) dX6_lineKind_25 rfl rfl (Nat.le_of_ble_eq_true rfl) (fun v w9 hq9 h09 => by obtain ⟨rfl, rfl⟩ := hq9; exact ⟨h09, rfl⟩) (by decide) (by decide) (fun _ _ hx => hx) (fun v25 w25 hq25 => ?_)
      obtain ⟨rfl, rfl⟩ := hq25
      refine AW.nam (fun x25 ex25 => ?_)
      refine AW.if_eq 33 dX6_lineKind_28 (by decide) (fun h28 => ?_) (fun h28 => ?_)
      · rw [ex25] at h28
        have q28 := kb_0.mp h28
        refine AW.aload_n dX6_lineKind_33 rfl ?_
        refine AW.ldcS (j := 5) hK q_5 k_s_5 rfl rfl dX6_lineKind_34 ?_
        refine AW.callV (b := e) (As := [.ref (1000000 + 5)]) hG.2.2 (vX6_126 hG) (he.1 0 _ rfl) (k_X6_isWord hK (d := 4) (Nat.le_refl _) (k_txi hK k_s_5) hr (by assumption)) (by omega) dX6_lineKind_36 rfl rfl (Nat.le_of_ble_eq_true rfl) (fun v w9 hq9 h09 => by obtain ⟨rfl, rfl⟩ := hq9; exact ⟨h09, rfl⟩) (by decide) (by decide) (fun _ _ hx => hx) (fun v36 w36 hq36 => ?_)
        obtain ⟨rfl, rfl⟩ := hq36
        refine AW.nam (fun x36 ex36 => ?_)
        refine AW.if_eq 44 dX6_lineKind_39 (by decide) (fun h39 => ?_) (fun h39 => ?_)
        · rw [ex36] at h39
          have q39 := kb_0.mp h39
          refine AW.aload_n dX6_lineKind_44 rfl ?_
          refine AW.ldcS (j := 6) hK q_6 k_s_6 rfl rfl dX6_lineKind_45 ?_
          refine AW.callV (b := e) (As := [.ref (1000000 + 6)]) hG.2.2 (vX6_126 hG) (he.1 0 _ rfl) (k_X6_isWord hK (d := 4) (Nat.le_refl _) (k_txi hK k_s_6) hr (by assumption)) (by omega) dX6_lineKind_47 rfl rfl (Nat.le_of_ble_eq_true rfl) (fun v w9 hq9 h09 => by obtain ⟨rfl, rfl⟩ := hq9; exact ⟨h09, rfl⟩) (by decide) (by decide) (fun _ _ hx => hx) (fun v47 w47 hq47 => ?_)
          obtain ⟨rfl, rfl⟩ := hq47
          refine AW.nam (fun x47 ex47 => ?_)
          refine AW.if_eq 55 dX6_lineKind_50 (by decide) (fun h50 => ?_) (fun h50 => ?_)
          · rw [ex47] at h50
            have q50 := kb_0.mp h50
            refine AW.aload_n dX6_lineKind_55 rfl ?_
            refine AW.ldcS (j := 7) hK q_7 k_s_7 rfl rfl dX6_lineKind_56 ?_
            refine AW.callV (b := e) (As := [.ref (1000000 + 7)]) hG.2.2 (vX6_126 hG) (he.1 0 _ rfl) (k_X6_isWord hK (d := 4) (Nat.le_refl _) (k_txi hK k_s_7) hr (by assumption)) (by omega) dX6_lineKind_58 rfl rfl (Nat.le_of_ble_eq_true rfl) (fun v w9 hq9 h09 => by obtain ⟨rfl, rfl⟩ := hq9; exact ⟨h09, rfl⟩) (by decide) (by decide) (fun _ _ hx => hx) (fun v58 w58 hq58 => ?_)
            obtain ⟨rfl, rfl⟩ := hq58
            refine AW.nam (fun x58 ex58 => ?_)
            refine AW.if_eq 66 dX6_lineKind_61 (by decide) (fun h61 => ?_) (fun h61 => ?_)
            · rw [ex58] at h61
              have q61 := kb_0.mp h61
              refine AW.aload_n dX6_lineKind_66 rfl ?_
              refine AW.ldcS (j := 8) hK q_8 k_s_8 rfl rfl dX6_lineKind_67 ?_
              refine AW.callV (b := e) (As := [.ref (1000000 + 8)]) hG.2.2 (vX6_126 hG) (he.1 0 _ rfl) (k_X6_isWord hK (d := 4) (Nat.le_refl _) (k_txi hK k_s_8) hr (by assumption)) (by omega) dX6_lineKind_69 rfl rfl (Nat.le_of_ble_eq_true rfl) (fun v w9 hq9 h09 => by obtain ⟨rfl, rfl⟩ := hq9; exact ⟨h09, rfl⟩) (by decide) (by decide) (fun _ _ hx => hx) (fun v69 w69 hq69 => ?_)
              obtain ⟨rfl, rfl⟩ := hq69
              refine AW.nam (fun x69 ex69 => ?_)
              refine AW.if_eq 78 dX6_lineKind_72 (by decide) (fun h72 => ?_) (fun h72 => ?_)
              · rw [ex69] at h72
                have q72 := kb_0.mp h72
                refine AW.aload_n dX6_lineKind_78 rfl ?_
                refine AW.ldcS (j := 9) hK q_9 k_s_9 rfl rfl dX6_lineKind_79 ?_
                refine AW.callV (b := e) (As := [.ref (1000000 + 9)]) hG.2.2 (vX6_126 hG) (he.1 0 _ rfl) (k_X6_isWord hK (d := 4) (Nat.le_refl _) (k_txi hK k_s_9) hr (by assumption)) (by omega) dX6_lineKind_81 rfl rfl (Nat.le_of_ble_eq_true rfl) (fun v w9 hq9 h09 => by obtain ⟨rfl, rfl⟩ := hq9; exact ⟨h09, rfl⟩) (by decide) (by decide) (fun _ _ hx => hx) (fun v81 w81 hq81 => ?_)
                obtain ⟨rfl, rfl⟩ := hq81
                refine AW.nam (fun x81 ex81 => ?_)
                refine AW.if_eq 90 dX6_lineKind_84 (by decide) (fun h84 => ?_) (fun h84 => ?_)
                · rw [ex81] at h84
                  have q84 := kb_0.mp h84
                  refine AW.aload_n dX6_lineKind_90 rfl ?_
                  refine AW.ldcS (j := 10) hK q_10 k_s_10 rfl rfl dX6_lineKind_91 ?_
                  refine AW.callV (b := e) (As := [.ref (1000000 + 10)]) hG.2.2 (vX6_126 hG) (he.1 0 _ rfl) (k_X6_isWord hK (d := 4) (Nat.le_refl _) (k_txi hK k_s_10) hr (by assumption)) (by omega) dX6_lineKind_93 rfl rfl (Nat.le_of_ble_eq_true rfl) (fun v w9 hq9 h09 => by obtain ⟨rfl, rfl⟩ := hq9; exact ⟨h09, rfl⟩) (by decide) (by decide) (fun _ _ hx => hx) (fun v93 w93 hq93 => ?_)
                  obtain ⟨rfl, rfl⟩ := hq93
                  refine AW.nam (fun x93 ex93 => ?_)
                  refine AW.if_eq 104 dX6_lineKind_96 (by decide) (fun h96 => ?_) (fun h96 => ?_)
                  · rw [ex93] at h96
                    have q96 := kb_0.mp h96
                    refine AW.iconst (-1) dX6_lineKind_104 (by decide) ?_
                    exact AW.iret dX6_lineKind_105 rfl (by decide) (by decide) (⟨by unfold x_lk; rw [if_neg (by rw [q6]; decide), if_neg (by rw [q17]; decide), if_neg (by rw [q28]; decide), if_neg (by rw [q39]; decide), if_neg (by rw [q50]; decide), if_neg (by rw [q61]; decide), if_neg (by rw [q72]; decide), if_neg (by rw [q84]; decide), if_neg (by rw [q96]; decide)], rfl⟩)
                  · rw [ex93] at h96
                    have q96 := kb_1.mp h96
                    refine AW.bipush 8 dX6_lineKind_99 (by decide) ?_
                    refine AW.goto 105 dX6_lineKind_101 (by decide) ?_
                    exact AW.iret dX6_lineKind_105 rfl (by decide) (by decide) (⟨by unfold x_lk; rw [if_neg (by rw [q6]; decide), if_neg (by rw [q17]; decide), if_neg (by rw [q28]; decide), if_neg (by rw [q39]; decide), if_neg (by rw [q50]; decide), if_neg (by rw [q61]; decide), if_neg (by rw [q72]; decide), if_neg (by rw [q84]; decide), if_pos q96], rfl⟩)
                · rw [ex81] at h84
                  have q84 := kb_1.mp h84
                  refine AW.bipush 7 dX6_lineKind_87 (by decide) ?_
                  exact AW.iret dX6_lineKind_89 rfl (by decide) (by decide) (⟨by unfold x_lk; rw [if_neg (by rw [q6]; decide), if_neg (by rw [q17]; decide), if_neg (by rw [q28]; decide), if_neg (by rw [q39]; decide), if_neg (by rw [q50]; decide), if_neg (by rw [q61]; decide), if_neg (by rw [q72]; decide), if_pos q84], rfl⟩)
              · rw [ex69] at h72
                have q72 := kb_1.mp h72
                refine AW.bipush 6 dX6_lineKind_75 (by decide) ?_
                exact AW.iret dX6_lineKind_77 rfl (by decide) (by decide) (⟨by unfold x_lk; rw [if_neg (by rw [q6]; decide), if_neg (by rw [q17]; decide), if_neg (by rw [q28]; decide), if_neg (by rw [q39]; decide), if_neg (by rw [q50]; decide), if_neg (by rw [q61]; decide), if_pos q72], rfl⟩)
            · rw [ex58] at h61
              have q61 := kb_1.mp h61
              refine AW.iconst 5 dX6_lineKind_64 (by decide) ?_
              exact AW.iret dX6_lineKind_65 rfl (by decide) (by decide) (⟨by unfold x_lk; rw [if_neg (by rw [q6]; decide), if_neg (by rw [q17]; decide), if_neg (by rw [q28]; decide), if_neg (by rw [q39]; decide), if_neg (by rw [q50]; decide), if_pos q61], rfl⟩)
          · rw [ex47] at h50
            have q50 := kb_1.mp h50
            refine AW.iconst 4 dX6_lineKind_53 (by decide) ?_
            exact AW.iret dX6_lineKind_54 rfl (by decide) (by decide) (⟨by unfold x_lk; rw [if_neg (by rw [q6]; decide), if_neg (by rw [q17]; decide), if_neg (by rw [q28]; decide), if_neg (by rw [q39]; decide), if_pos q50], rfl⟩)
        · rw [ex36] at h39
          have q39 := kb_1.mp h39
          refine AW.iconst 3 dX6_lineKind_42 (by decide) ?_
          exact AW.iret dX6_lineKind_43 rfl (by decide) (by decide) (⟨by unfold x_lk; rw [if_neg (by rw [q6]; decide), if_neg (by rw [q17]; decide), if_neg (by rw [q28]; decide), if_pos q39], rfl⟩)
      · rw [ex25] at h28
        have q28 := kb_1.mp h28
        refine AW.iconst 2 dX6_lineKind_31 (by decide) ?_
        exact AW.iret dX6_lineKind_32 rfl (by decide) (by decide) (⟨by unfold x_lk; rw [if_neg (by rw [q6]; decide), if_neg (by rw [q17]; decide), if_pos q28], rfl⟩)
    · rw [ex14] at h17
      have q17 := kb_1.mp h17
      refine AW.iconst 1 dX6_lineKind_20 (by decide) ?_
      exact AW.iret dX6_lineKind_21 rfl (by decide) (by decide) (⟨by unfold x_lk; rw [if_neg (by rw [q6]; decide), if_pos q17], rfl⟩)
  · rw [ex3] at h6
    have q6 := kb_1.mp h6
    refine AW.iconst 0 dX6_lineKind_9 (by decide) ?_
    exact AW.iret dX6_lineKind_10 rfl (by decide) (by decide) (⟨by unfold x_lk; rw [if_pos q6], rfl⟩)
theorem dX6_readHuman_0 : decode cX6_readHuman 0 = .ok (.aload_n 1, 1) := by decide +kernel
theorem dX6_readHuman_1 : decode cX6_readHuman 1 = .ok (.getfield 146, 3) := by decide +kernel
theorem dX6_readHuman_4 : decode cX6_readHuman 4 = .ok (.bipush 8, 2) := by decide +kernel
theorem dX6_readHuman_6 : decode cX6_readHuman 6 = .ok (.if_icmp .lt 11, 3) := by decide +kernel
theorem dX6_readHuman_9 : decode cX6_readHuman 9 = .ok (.aload_n 0, 1) := by decide +kernel
theorem dX6_readHuman_10 : decode cX6_readHuman 10 = .ok (.iconst 2, 1) := by decide +kernel
theorem dX6_readHuman_11 : decode cX6_readHuman 11 = .ok (.invokevirtual 97, 3) := by decide +kernel
theorem dX6_readHuman_14 : decode cX6_readHuman 14 = .ok (.goto 21, 3) := by decide +kernel
theorem dX6_readHuman_17 : decode cX6_readHuman 17 = .ok (.iload_n 2, 1) := by decide +kernel
theorem dX6_readHuman_18 : decode cX6_readHuman 18 = .ok (.iconst 3, 1) := by decide +kernel
theorem dX6_readHuman_19 : decode cX6_readHuman 19 = .ok (.if_icmp .ne 16, 3) := by decide +kernel
theorem dX6_readHuman_22 : decode cX6_readHuman 22 = .ok (.aload_n 1, 1) := by decide +kernel
theorem dX6_readHuman_23 : decode cX6_readHuman 23 = .ok (.invokevirtual 149, 3) := by decide +kernel
theorem dX6_readHuman_26 : decode cX6_readHuman 26 = .ok (.ifCond .ne 9, 3) := by decide +kernel
theorem dX6_readHuman_29 : decode cX6_readHuman 29 = .ok (.aload_n 0, 1) := by decide +kernel
theorem dX6_readHuman_30 : decode cX6_readHuman 30 = .ok (.bipush 6, 2) := by decide +kernel
theorem dX6_readHuman_32 : decode cX6_readHuman 32 = .ok (.invokevirtual 97, 3) := by decide +kernel
theorem dX6_readHuman_35 : decode cX6_readHuman 35 = .ok (.aload_n 0, 1) := by decide +kernel
theorem dX6_readHuman_36 : decode cX6_readHuman 36 = .ok (.invokevirtual 52, 3) := by decide +kernel
theorem dX6_readHuman_39 : decode cX6_readHuman 39 = .ok (.aload_n 0, 1) := by decide +kernel
theorem dX6_readHuman_40 : decode cX6_readHuman 40 = .ok (.iconst 0, 1) := by decide +kernel
theorem dX6_readHuman_41 : decode cX6_readHuman 41 = .ok (.bipush 9, 2) := by decide +kernel
theorem dX6_readHuman_43 : decode cX6_readHuman 43 = .ok (.invokevirtual 153, 3) := by decide +kernel
theorem dX6_readHuman_46 : decode cX6_readHuman 46 = .ok (.istore_n 3, 1) := by decide +kernel
theorem dX6_readHuman_47 : decode cX6_readHuman 47 = .ok (.aload_n 0, 1) := by decide +kernel
theorem dX6_readHuman_48 : decode cX6_readHuman 48 = .ok (.iconst 0, 1) := by decide +kernel
theorem dX6_readHuman_49 : decode cX6_readHuman 49 = .ok (.bipush 9, 2) := by decide +kernel
theorem dX6_readHuman_51 : decode cX6_readHuman 51 = .ok (.invokevirtual 153, 3) := by decide +kernel
theorem dX6_readHuman_54 : decode cX6_readHuman 54 = .ok (.istore 4, 2) := by decide +kernel
theorem dX6_readHuman_56 : decode cX6_readHuman 56 = .ok (.aload_n 0, 1) := by decide +kernel
theorem dX6_readHuman_57 : decode cX6_readHuman 57 = .ok (.getfield 39, 3) := by decide +kernel
theorem dX6_readHuman_60 : decode cX6_readHuman 60 = .ok (.ifCond .ne 11, 3) := by decide +kernel
theorem dX6_readHuman_63 : decode cX6_readHuman 63 = .ok (.aload_n 1, 1) := by decide +kernel
theorem dX6_readHuman_64 : decode cX6_readHuman 64 = .ok (.iload_n 2, 1) := by decide +kernel
theorem dX6_readHuman_65 : decode cX6_readHuman 65 = .ok (.iload_n 3, 1) := by decide +kernel
theorem dX6_readHuman_66 : decode cX6_readHuman 66 = .ok (.iload 4, 2) := by decide +kernel
theorem dX6_readHuman_68 : decode cX6_readHuman 68 = .ok (.invokevirtual 156, 3) := by decide +kernel
theorem dX6_readHuman_71 : decode cX6_readHuman 71 = .ok (.return_, 1) := by decide +kernel
set_option maxRecDepth 100000 in
set_option maxHeartbeats 4000000 in
theorem k_X6_readHuman {G : am_G} (hK : k_OK G) {d : Nat} (hd : 7 ≤ d) {sh : List (Nat ⊕ (Nat × Nat))} {I : Nat → Nat → Int32} {R : Nat → Nat → Option Nat} {L : Nat → Nat → Int64} {g : Nat} {e n t : Nat} {tp : Nat → Int32} {s : Int32 × Nat} {T : x_T} {fl : x_F} (hr : k_rd sh R e tp n) (ht : k_Town sh R t) (het : e + 2 ≤ t ∨ t + 19 ≤ e) (hs : k_s I e tp n s) (hl : k_fl I e fl) (hT : k_tw I t T) (kd : Int32) : AM G mX6_readHuman d [.ref e, .ref t, .int kd] (sh, I, R, L, g) (fun v w => v = none ∧ ∃ J, w = (sh, J, R, L, g) ∧ k_rt I J e t tp n (x_human tp n kd (s, T, fl))) (fun _ _ => False) := by
  have hG := hK.1
  have he := hr.1
  have hn6 := hr.2.1
  have hf := k_ft_0 I e t
  have hpn := hT.1.1
  have hp8 := hT.1.2.1
  refine AM.of (n := 2) (by decide +kernel) (Nat.le_of_ble_eq_true rfl) ?_
  show AW G mX6_readHuman d (fun v w => v = none ∧ ∃ J, w = (sh, J, R, L, g) ∧ k_rt I J e t tp n (x_human tp n kd (s, T, fl))) (fun _ _ => False) 0 [some (.ref e), some (.ref t), some (.int kd), none, none] [] (sh, I, R, L, g) 0 0
  have J35 : ∀ (J : Nat → Nat → Int32) (s9 : Int32 × Nat), (s9 = x_hu1 kd s T.1 ∧ k_ft I J e t ∧ k_s J e tp n s9 ∧ k_fl J e fl ∧ k_tw J t T) → AW G mX6_readHuman d (fun v w => v = none ∧ ∃ J, w = (sh, J, R, L, g) ∧ k_rt I J e t tp n (x_human tp n kd (s, T, fl))) (fun _ _ => False) 35 [some (.ref e), some (.ref t), some (.int kd), none, none] [] (sh, J, R, L, g) 0 0 := by
    intro J s9 hi35
    obtain ⟨hs0, hfJ, hsJ, hlJ, hTJ⟩ := hi35
    refine AW.aload_n dX6_readHuman_35 rfl ?_
    refine AW.callV (b := e) (As := []) hG.2.2 (vX6_52 hG) (he.1 0 _ rfl) (k_X6_advS hK (d := 5) (Nat.le_refl _) hr (by assumption)) (by omega) dX6_readHuman_36 rfl rfl (Nat.le_of_ble_eq_true rfl) (fun v w9 hq9 h09 => by obtain ⟨rfl, J9, rfl, -⟩ := hq9; exact ⟨h09, rfl⟩) (by decide) (by decide) (fun _ _ hx => hx) (fun v36 w36 hq36 => ?_)
    obtain ⟨rfl, I36, rfl, hr36⟩ := hq36
    have hs36 := k_rp_i hr36
    have hT36 := k_tw_r het (by assumption) hr36
    have hl36 := k_fl_r (by assumption) hr36
    have hf36 := k_ft_t (by assumption) (k_ft_r (t := t) hr36)
    show AW G mX6_readHuman d (fun v w => v = none ∧ ∃ J, w = (sh, J, R, L, g) ∧ k_rt I J e t tp n (x_human tp n kd (s, T, fl))) (fun _ _ => False) 39 [some (.ref e), some (.ref t), some (.int kd), none, none] [] (sh, I36, R, L, g) 0 0
    refine AW.aload_n dX6_readHuman_39 rfl ?_
    refine AW.iconst 0 dX6_readHuman_40 (by decide) ?_
    refine AW.bipush 9 dX6_readHuman_41 (by decide) ?_
    refine AW.callV (b := e) (As := [.int 0, .int 9]) hG.2.2 (vX6_153 hG) (he.1 0 _ rfl) (k_X6_readNumber hK (d := 6) (Nat.le_refl _) hr (by assumption) 0 9) (by omega) dX6_readHuman_43 rfl rfl (Nat.le_of_ble_eq_true rfl) (fun v w9 hq9 h09 => by obtain ⟨rfl, J9, rfl, -⟩ := hq9; exact ⟨h09, rfl⟩) (by decide) (by decide) (fun _ _ hx => hx) (fun v43 w43 hq43 => ?_)
    obtain ⟨rfl, I43, rfl, hr43⟩ := hq43
    have hs43 := k_rp_i hr43
    have hT43 := k_tw_r het (by assumption) hr43
    have hl43 := k_fl_r (by assumption) hr43
    have hf43 := k_ft_t (by assumption) (k_ft_r (t := t) hr43)
    refine AW.nam (fun x43 ex43 => ?_)
    refine AW.is_n [some (.ref e), some (.ref t), some (.int kd), some (.int x43), none] dX6_readHuman_46 (by decide) rfl rfl ?_
    refine AW.aload_n dX6_readHuman_47 rfl ?_
    refine AW.iconst 0 dX6_readHuman_48 (by decide) ?_
    refine AW.bipush 9 dX6_readHuman_49 (by decide) ?_
    refine AW.callV (b := e) (As := [.int 0, .int 9]) hG.2.2 (vX6_153 hG) (he.1 0 _ rfl) (k_X6_readNumber hK (d := 6) (Nat.le_refl _) hr (by assumption) 0 9) (by omega) dX6_readHuman_51 rfl rfl (Nat.le_of_ble_eq_true rfl) (fun v w9 hq9 h09 => by obtain ⟨rfl, J9, rfl, -⟩ := hq9; exact ⟨h09, rfl⟩) (by decide) (by decide) (fun _ _ hx => hx) (fun v51 w51 hq51 => ?_)
    obtain ⟨rfl, I51, rfl, hr51⟩ := hq51
    have hs51 := k_rp_i hr51
    have hT51 := k_tw_r het (by assumption) hr51
    have hl51 := k_fl_r (by assumption) hr51
    have hf51 := k_ft_t (by assumption) (k_ft_r (t := t) hr51)
    refine AW.nam (fun x51 ex51 => ?_)
    refine AW.is [some (.ref e), some (.ref t), some (.int kd), some (.int x43), some (.int x51)] dX6_readHuman_54 (by decide) rfl rfl ?_
    refine AW.aload_n dX6_readHuman_56 rfl ?_
    refine AW.getI (fX6_39 hG).r rfl (he.1 0 _ rfl) dX6_readHuman_57 ?_
    refine AW.if_ne 71 dX6_readHuman_60 (by decide) (fun h60 => ?_) (fun h60 => ?_)
    · have q60 : ¬ (x_rn tp n 0 9 (x_rn tp n 0 9 (x_adv tp n s9))).1 = 0 := fun h => h60 (hs51.1.trans h)
      exact AW.vret dX6_readHuman_71 rfl (by decide) (by decide) (⟨rfl, I51, rfl, hf51, by rw [hs0] at hs51; exact hs51, hl51, fun h => absurd (by rw [hs0]; exact h) q60⟩)
    · have q60 : (x_rn tp n 0 9 (x_rn tp n 0 9 (x_adv tp n s9))).1 = 0 := hs51.1.symm.trans h60
      obtain ⟨-, w8, wt⟩ := x_hu1_0 (kd := kd) (s := s) (ps := T.1) (by rw [← hs0]; exact x_adv_0 (x_rn_0 (x_rn_0 q60)))
      have hp51 := hT51.1.1
      refine AW.aload_n dX6_readHuman_63 rfl ?_
      refine AW.iload_n dX6_readHuman_64 rfl ?_
      refine AW.iload_n dX6_readHuman_65 rfl ?_
      refine AW.iload dX6_readHuman_66 rfl ?_
      refine AW.callV (b := t) (As := [.int kd, .int x43, .int x51]) hG.2.2 (vX6_156 hG) (ht.1 0 _ rfl) (k_X9_addPerson hK (d := 0) (Nat.le_refl _) ht (by assumption) (by omega) kd x43 x51) (by omega) dX6_readHuman_68 rfl rfl (Nat.le_of_ble_eq_true rfl) (fun v w9 hq9 h09 => by obtain ⟨rfl, rfl⟩ := hq9; exact ⟨h09, rfl⟩) (by decide) (by decide) (fun _ _ hx => hx) (fun v68 w68 hq68 => ?_)
      obtain ⟨rfl, rfl⟩ := hq68
      refine AW.namI (fun I68 eI68 => ?_)
      show AW G mX6_readHuman d (fun v w => v = none ∧ ∃ J, w = (sh, J, R, L, g) ∧ k_rt I J e t tp n (x_human tp n kd (s, T, fl))) (fun _ _ => False) 71 [some (.ref e), some (.ref t), some (.int kd), some (.int x43), some (.int x51)] [] (sh, I68, R, L, g) 0 0
      exact AW.vret dX6_readHuman_71 rfl (by decide) (by decide) (by
        have ho : ∀ a, (a < t ∨ t + 19 ≤ a) → I68 a = I51 a := fun a h => by rw [eI68, f_ap_o a (by omega)]
        refine ⟨rfl, I68, rfl, k_ft_t hf51 (k_ft_w het ho), by have := k_s_w het hs51 ho; rw [hs0] at this; exact this, k_fl_w het hl51 ho, fun h => ?_⟩
        rw [hs0] at q60
        show k_tw I68 t (if _ then _ else _)
        rw [if_pos q60, eI68, ex43, ex51, hs0]
        exact k_tw_ap hT51 w8 _ _ _ wt)
  refine AW.aload_n dX6_readHuman_0 rfl ?_
  refine AW.getI (fX6_146 hG).r rfl (ht.1 0 _ rfl) dX6_readHuman_1 ?_
  refine AW.bipush 8 dX6_readHuman_4 (by decide) ?_
  refine AW.icmp_lt 17 dX6_readHuman_6 (by decide) (fun h6 => ?_) (fun h6 => ?_)
  · have q6 : ¬ 8 ≤ T.1.length := by have := (nI_ltl hpn (m := 8) rfl (by omega) (by decide)).mp h6; omega
    refine AW.iload_n dX6_readHuman_17 rfl ?_
    refine AW.iconst 3 dX6_readHuman_18 (by decide) ?_
    refine AW.icmp_ne 35 dX6_readHuman_19 (by decide) (fun h19 => ?_) (fun h19 => ?_)
    · exact J35 I _ ⟨by unfold x_hu1; rw [if_neg q6, if_neg (fun h => h19 h.1)], hf, hs, hl, hT⟩
    · refine AW.aload_n dX6_readHuman_22 rfl ?_
      refine AW.callV (b := t) (As := []) hG.2.2 (vX6_149 hG) (ht.1 0 _ rfl) (k_X9_takesTwin hK (d := 0) (Nat.le_refl _) ht (by assumption) (by assumption)) (by omega) dX6_readHuman_23 rfl rfl (Nat.le_of_ble_eq_true rfl) (fun v w9 hq9 h09 => by obtain ⟨rfl, rfl⟩ := hq9; exact ⟨h09, rfl⟩) (by decide) (by decide) (fun _ _ hx => hx) (fun v23 w23 hq23 => ?_)
      obtain ⟨rfl, rfl⟩ := hq23
      refine AW.nam (fun x23 ex23 => ?_)
      refine AW.if_ne 35 dX6_readHuman_26 (by decide) (fun h26 => ?_) (fun h26 => ?_)
      · rw [ex23, f_tt_x hT.1] at h26
        have q26 := kb_1.mp h26
        exact J35 I _ ⟨by unfold x_hu1; rw [if_neg q6, if_neg (fun h => h.2 q26)], hf, hs, hl, hT⟩
      · rw [ex23, f_tt_x hT.1] at h26
        have q26 : ¬ x_tt T.1 = true := by rw [kb_0.mp h26]; decide
        refine AW.aload_n dX6_readHuman_29 rfl ?_
        refine AW.bipush 6 dX6_readHuman_30 (by decide) ?_
        refine AW.callV (b := e) (As := [.int 6]) hG.2.2 (vX6_97 hG) (he.1 0 _ rfl) (k_X6_fail hK (d := 0) (Nat.le_refl _) he (by assumption) 6) (by omega) dX6_readHuman_32 rfl rfl (Nat.le_of_ble_eq_true rfl) (fun v w9 hq9 h09 => by obtain ⟨rfl, J9, rfl, -⟩ := hq9; exact ⟨h09, rfl⟩) (by decide) (by decide) (fun _ _ hx => hx) (fun v32 w32 hq32 => ?_)
        obtain ⟨rfl, I32, rfl, hr32⟩ := hq32
        have hs32 := k_rp_i hr32
        have hT32 := k_tw_r het (by assumption) hr32
        have hl32 := k_fl_r (by assumption) hr32
        have hf32 := k_ft_t (by assumption) (k_ft_r (t := t) hr32)
        show AW G mX6_readHuman d (fun v w => v = none ∧ ∃ J, w = (sh, J, R, L, g) ∧ k_rt I J e t tp n (x_human tp n kd (s, T, fl))) (fun _ _ => False) 35 [some (.ref e), some (.ref t), some (.int kd), none, none] [] (sh, I32, R, L, g) 0 0
        exact J35 I32 _ ⟨by unfold x_hu1; rw [if_neg q6, if_pos ⟨h19, q26⟩], hf32, hs32, hl32, hT32⟩
  · have q6 : 8 ≤ T.1.length := by
      rcases Nat.lt_or_ge T.1.length 8 with h | h
      · exact absurd ((nI_ltl hpn (m := 8) rfl (by omega) (by decide)).mpr h) h6
      · exact h
    refine AW.aload_n dX6_readHuman_9 rfl ?_
    refine AW.iconst 2 dX6_readHuman_10 (by decide) ?_
    refine AW.callV (b := e) (As := [.int 2]) hG.2.2 (vX6_97 hG) (he.1 0 _ rfl) (k_X6_fail hK (d := 0) (Nat.le_refl _) he (by assumption) 2) (by omega) dX6_readHuman_11 rfl rfl (Nat.le_of_ble_eq_true rfl) (fun v w9 hq9 h09 => by obtain ⟨rfl, J9, rfl, -⟩ := hq9; exact ⟨h09, rfl⟩) (by decide) (by decide) (fun _ _ hx => hx) (fun v11 w11 hq11 => ?_)
    obtain ⟨rfl, I11, rfl, hr11⟩ := hq11
    have hs11 := k_rp_i hr11
    have hT11 := k_tw_r het (by assumption) hr11
    have hl11 := k_fl_r (by assumption) hr11
    have hf11 := k_ft_t (by assumption) (k_ft_r (t := t) hr11)
    show AW G mX6_readHuman d (fun v w => v = none ∧ ∃ J, w = (sh, J, R, L, g) ∧ k_rt I J e t tp n (x_human tp n kd (s, T, fl))) (fun _ _ => False) 14 [some (.ref e), some (.ref t), some (.int kd), none, none] [] (sh, I11, R, L, g) 0 0
    refine AW.goto 35 dX6_readHuman_14 (by decide) ?_
    exact J35 I11 _ ⟨by unfold x_hu1; rw [if_pos q6], hf11, hs11, hl11, hT11⟩
